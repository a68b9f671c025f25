abbrev nnU : Type := Nat × Nat × Nat × Nat × Nat × Nat × Nat × Nat × Nat × Nat × Nat × Nat × Nat × Nat × Nat × Nat × Nat × Nat × Nat × Nat × Nat × Nat
def uAd (u : nnU) (j : Nat) : Nat := match u with | (q1, q2_0, q2_1, q2_2, q2_3, q2_4, q2_5, q2_6, q2_7, q2_8, q3, q4, q5_0, q6, q7_0, q8, q9_0, q10, q11_0, q12, q13, q14) => match j with
    | 0 => q12
    | 1 => q1
    | 2 => q2_0
    | 3 => q2_1
    | 4 => q2_2
    | 5 => q2_3
    | 6 => q2_4
    | 7 => q2_5
    | 8 => q2_6
    | 9 => q2_7
    | 10 => q2_8
    | 11 => q3
    | 12 => q4
    | 13 => q6
    | 14 => q8
    | 15 => q10
    | 16 => q5_0
    | 17 => q7_0
    | 18 => q9_0
    | 19 => q11_0
    | 20 => q13
    | _ => q14
def uPos (j : Nat) : Nat := match j with
  | 0 => 21
  | 1 => 20
  | 2 => 0
  | 3 => 1
  | 4 => 2
  | 5 => 3
  | 6 => 4
  | 7 => 5
  | 8 => 6
  | 9 => 7
  | 10 => 8
  | 11 => 9
  | 12 => 10
  | 13 => 12
  | 14 => 14
  | 15 => 16
  | 16 => 11
  | 17 => 13
  | 18 => 15
  | 19 => 17
  | 20 => 19
  | _ => 18
def cI0 (b : Int32) (j k : Nat) : Int32 := match j with
  | 0 => (match k with | 3 => 1 | 4 => -1 | 5 => -1 | _ => 0)
  | 2 => (match k with | 1 => b | _ => 0)
  | 4 => (match k with | 6 => 2 | _ => 0)
  | 5 => (match k with | 6 => 2 | _ => 0)
  | 6 => 32768
  | 7 => 32768
  | 12 => (match k with | 2 => -1 | 5 => -1 | 7 => -1 | 10 => -1 | 11 => -1 | _ => 0)
  | 13 => (match k with | 2 => -1 | 5 => -1 | 7 => -1 | 10 => -1 | 11 => -1 | _ => 0)
  | 14 => (match k with | 2 => -1 | 5 => -1 | 7 => -1 | 10 => -1 | 11 => -1 | _ => 0)
  | 15 => (match k with | 2 => -1 | 5 => -1 | 7 => -1 | 10 => -1 | 11 => -1 | _ => 0)
  | 16 => (match k with | 1 => -1 | _ => 0)
  | 17 => (match k with | 1 => -1 | _ => 0)
  | 18 => (match k with | 1 => -1 | _ => 0)
  | 19 => (match k with | 1 => -1 | _ => 0)
  | _ => 0
def cJ0 (f : Nat → Int64) (j k : Nat) : Int64 := if j = 3 then f k else 0
/-- the class's state when it is made -/
def cS0 (b : Int32) (f : Nat → Int64) : xS := (fun n j k => if n < 8 then cI0 b j k else if n = 8 ∧ j = 16 ∧ k = 1 then -1 else 0, fun n j k => if n < 8 then cJ0 f j k else 0, fun _ _ => none)
theorem cS0_I {b : Int32} {f : Nat → Int64} {n : Nat} (h : n < 8) (j : Nat) : xI (cS0 b f) n j = cI0 b j := by funext k; simp [xI, cS0, h]
theorem cS0_J {b : Int32} {f : Nat → Int64} {n : Nat} (h : n < 8) (j : Nat) : xJ (cS0 b f) n j = cJ0 f j := by funext k; simp [xJ, cS0, h]
theorem cS0_E {b : Int32} {f : Nat → Int64} (n j : Nat) : xE (cS0 b f) n j = none := rfl
theorem vq_cell {cA : ClassId} {n : Nat} {f g : Nat → Option Nat} (h : ∀ j, j < n → f j = g j) : vp_cell cA (n, .inr (.inr (.inr (.inr f)))) = vp_cell cA (n, .inr (.inr (.inr (.inr g)))) := by
  rw [vp_cell_q, vp_cell_q]
  unfold arrV
  congr 1
  apply congrArg
  funext j
  show va_rf (f j.val) = va_rf (g j.val)
  rw [h j.val j.isLt]
theorem nn_at {cI cJ cL cN : ClassId} {b : Int32} {f : Nat → Int64} (u : nnU) (j : Nat) (hj : j < 22) : ∃ e : va_E, (nnPost cI cJ cL cN b f u)[uPos j]? = some (uAd u j, e) := by
  obtain ⟨q1, q2_0, q2_1, q2_2, q2_3, q2_4, q2_5, q2_6, q2_7, q2_8, q3, q4, q5_0, q6, q7_0, q8, q9_0, q10, q11_0, q12, q13, q14⟩ := u
  match j, hj with
  | 0, _ => exact ⟨_, rfl⟩
  | 1, _ => exact ⟨_, rfl⟩
  | 2, _ => exact ⟨_, rfl⟩
  | 3, _ => exact ⟨_, rfl⟩
  | 4, _ => exact ⟨_, rfl⟩
  | 5, _ => exact ⟨_, rfl⟩
  | 6, _ => exact ⟨_, rfl⟩
  | 7, _ => exact ⟨_, rfl⟩
  | 8, _ => exact ⟨_, rfl⟩
  | 9, _ => exact ⟨_, rfl⟩
  | 10, _ => exact ⟨_, rfl⟩
  | 11, _ => exact ⟨_, rfl⟩
  | 12, _ => exact ⟨_, rfl⟩
  | 13, _ => exact ⟨_, rfl⟩
  | 14, _ => exact ⟨_, rfl⟩
  | 15, _ => exact ⟨_, rfl⟩
  | 16, _ => exact ⟨_, rfl⟩
  | 17, _ => exact ⟨_, rfl⟩
  | 18, _ => exact ⟨_, rfl⟩
  | 19, _ => exact ⟨_, rfl⟩
  | 20, _ => exact ⟨_, rfl⟩
  | 21, _ => exact ⟨_, rfl⟩
  | j + 22, h => exact absurd h (by omega)
theorem uPos_inj : ∀ j, j < 22 → ∀ k, k < 22 → uPos j = uPos k → j = k := by decide +kernel
theorem nn_inj {cI cJ cL cN : ClassId} {b : Int32} {f : Nat → Int64} {A : Nat → Prop} {u : nnU} (hD : va_D A (nnPost cI cJ cL cN b f u)) {j k : Nat} (hj : j < 22) (hk : k < 22) (h : uAd u j = uAd u k) : j = k := by
  obtain ⟨e, h1⟩ := nn_at (cI := cI) (cJ := cJ) (cL := cL) (cN := cN) (b := b) (f := f) u j hj
  obtain ⟨e', h2⟩ := nn_at (cI := cI) (cJ := cJ) (cL := cL) (cN := cN) (b := b) (f := f) u k hk
  exact uPos_inj j hj k hk (hD.1 _ _ _ _ h1 h2 h)
theorem nn_A {cI cJ cL cN : ClassId} {b : Int32} {f : Nat → Int64} {A : Nat → Prop} {u : nnU} (hD : va_D A (nnPost cI cJ cL cN b f u)) {j : Nat} (hj : j < 22) : A (uAd u j) := by
  obtain ⟨e, h1⟩ := nn_at (cI := cI) (cJ := cJ) (cL := cL) (cN := cN) (b := b) (f := f) u j hj
  exact hD.2 _ _ h1
theorem cDn_congr {ad ad2 : Nat → Nat → Nat} {cI cJ cL : ClassId} {n : Nat} (h : ∀ j, ad n j = ad2 n j) (i : Nat → Int32) (q : Nat → Int64) (j : Nat) : cDn ad cI cJ cL i q none n j = cDn ad2 cI cJ cL i q none n j := by
  unfold cDn
  split <;> simp only [fsX6, fsX1, fsX5, fsX9, fsX8, fsX10, fsX4, fsX2, fsX7, fsX0, h, xRv]
theorem nn_node {D : va_G} {cI cJ cL cN : ClassId} {b : Int32} {f : Nat → Int64} {u : nnU} {H : Heap} (hP : va_P D vwCl (nnPost cI cJ cL cN b f u) H) (n j : Nat) (hj : j < 22) : va_at D vwCl (uAd u j, cDn (fun _ => uAd u) cI cJ cL (cI0 b j) (cJ0 f j) none n j) H := by
  obtain ⟨q1, q2_0, q2_1, q2_2, q2_3, q2_4, q2_5, q2_6, q2_7, q2_8, q3, q4, q5_0, q6, q7_0, q8, q9_0, q10, q11_0, q12, q13, q14⟩ := u
  match j, hj with
  | 0, _ => exact hP 21 _ rfl
  | 1, _ => exact hP 20 _ rfl
  | 2, _ => exact hP 0 _ rfl
  | 3, _ => exact hP 1 _ rfl
  | 4, _ => exact hP 2 _ rfl
  | 5, _ => exact hP 3 _ rfl
  | 6, _ => exact hP 4 _ rfl
  | 7, _ => exact hP 5 _ rfl
  | 8, _ => exact hP 6 _ rfl
  | 9, _ => exact hP 7 _ rfl
  | 10, _ => exact hP 8 _ rfl
  | 11, _ => 
    have h1 := hP 9 _ rfl
    have h2 : H[q3]? = some (vp_cell cL (4, .inr (.inr (.inr (.inr (va_up (va_up (va_up (va_up (fun _ => none) 0 (some q4)) 1 (some q6)) 2 (some q8)) 3 (some q10))))))) := h1
    exact h2.trans (congrArg some (vq_cell (fun k hk => by
      rcases (show k = 0 ∨ k = 1 ∨ k = 2 ∨ k = 3 by omega) with rfl | rfl | rfl | rfl <;> rfl)))
  | 12, _ => exact hP 10 _ rfl
  | 13, _ => exact hP 12 _ rfl
  | 14, _ => exact hP 14 _ rfl
  | 15, _ => exact hP 16 _ rfl
  | 16, _ => exact hP 11 _ rfl
  | 17, _ => exact hP 13 _ rfl
  | 18, _ => exact hP 15 _ rfl
  | 19, _ => exact hP 17 _ rfl
  | 20, _ => exact hP 19 _ rfl
  | 21, _ => exact hP 18 _ rfl
  | j + 22, h => exact absurd h (by omega)
