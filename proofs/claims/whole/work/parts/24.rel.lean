/-! which int of the class is which int of the reference: (cell, place, row, times, plus) -/
abbrev tE : Type := Nat × Nat × Nat × Nat × Nat
def tB : List tE := [(4, 0, 5, 1, 0), (4, 1, 6, 1, 0), (4, 2, 7, 1, 0), (4, 3, 8, 1, 0), (4, 4, 9, 1, 0), (4, 5, 10, 1, 0), (4, 6, 11, 1, 0), (4, 7, 12, 1, 0), (1, 8, 13, 1, 0), (1, 9, 14, 1, 0), (1, 10, 15, 1, 0), (1, 6, 16, 1, 0), (1, 7, 17, 1, 0), (2, 1, 18, 1, 0), (6, 0, 19, 2, 0), (7, 0, 19, 2, 1), (6, 1, 20, 2, 0), (7, 1, 20, 2, 1), (8, 3, 21, 2, 0), (8, 4, 21, 2, 1), (8, 2, 30, 1, 0), (5, 0, 23, 1, 0), (5, 1, 24, 1, 0), (5, 2, 25, 1, 0), (5, 3, 26, 1, 0), (5, 4, 27, 1, 0), (5, 5, 28, 1, 0), (5, 7, 29, 1, 0), (5, 6, 22, 1, 0)]
/-- how two ints of a pair agree, by the row -/
def rc : Nat → Nat
  | 5 => 1
  | 6 => 1
  | 7 => 1
  | 9 => 1
  | 10 => 2
  | 11 => 3
  | 16 => 4
  | 17 => 4
  | 18 => 7
  | 22 => 6
  | 23 => 1
  | 24 => 1
  | 25 => 1
  | 27 => 1
  | 28 => 2
  | 30 => 5
  | _ => 0
def rg (c : Nat) (v w : Int32) : Prop := match c with
  | 0 => v = w
  | 1 => v = w ∧ w &&& 65535 = w
  | 2 => v = w ∧ w &&& 65534 = w
  | 3 => v = w ∧ (w = 0 ∨ w = 1 ∨ w = 2)
  | 4 => v = w ∧ (w = 0 ∨ w = 1)
  | 5 => v = w ∧ ∃ k, k ≤ 64 ∧ w = nI k
  | 7 => (v = 0 ∨ v = 1) ∧ (w = 0 ∨ w = 1) ∧ (v = 0 → w = 0)
  | _ => (v = 1 ∧ w = 1) ∨ (v = 2 ∧ w = 0)
/-- how many nodes; which of them have had no process yet -/
abbrev xN : Type := Nat × (Nat → Prop)
def inN (n : Nat) (N : xN) : Prop := n < N.1 ∧ ¬ N.2 n
/-- no process runs, waits in a queue, on the shelf or for a time -/
def idle (R : xS) (n : Nat) : Prop := xI R 0 11 n = 2 ∧ xI R 0 19 (2 * n) = 32768 ∧ xI R 0 19 (2 * n + 1) = 32768 ∧ xI R 0 22 n = 0 ∧ xI R 0 30 n = 0
theorem idle_sI {R : xS} {m : Nat} (h : idle R m) {j k : Nat} (v : Int32) (h1 : ¬ (j = 11 ∧ k = m)) (h2 : ¬ (j = 19 ∧ k = 2 * m)) (h3 : ¬ (j = 19 ∧ k = 2 * m + 1)) (h4 : ¬ (j = 22 ∧ k = m)) (h5 : ¬ (j = 30 ∧ k = m)) : idle (sI R 0 j k v) m := by
  unfold idle
  rw [xI_sI, if_neg (by omega), xI_sI, if_neg (by omega), xI_sI, if_neg (by omega), xI_sI, if_neg (by omega), xI_sI, if_neg (by omega)]
  exact h
/-- where the class says that it went beyond its memory and the reference does not, the node has stopped -/
def bC (N : Nat) (S R : xS) : Prop := ∀ n, n < N → xI R 0 18 n = 0 → xI S n 2 1 = 0 ∨ xI R 0 13 n ≠ 0
theorem bC.c {N : Nat} {S R : xS} (h : bC N S R) {n j k : Nat} (v : Int32) (hk : ¬ (j = 2 ∧ k = 1)) : bC N (sI S n j k v) R := by
  intro m hm h0
  rw [xI_sI, if_neg (fun z => hk ⟨z.2.1.symm, z.2.2.symm⟩)]
  exact h m hm h0
theorem bC.r {N : Nat} {S R : xS} (h : bC N S R) {j k : Nat} (v : Int32) (h13 : j ≠ 13) (h18 : j ≠ 18) : bC N S (sI R 0 j k v) := by
  intro m hm h0
  rw [xI_sI, if_neg (fun z => h18 z.2.1.symm)] at h0
  rw [xI_sI, if_neg (fun z => h13 z.2.1.symm)]
  exact h m hm h0
theorem bC.out {N : Nat} {S R : xS} (h : bC N S R) {n : Nat} {w : Int32} (hw : w ≠ 0 ∨ xI R 0 13 n = 0) : bC N S (sI R 0 13 n w) := by
  intro m hm h0
  rw [xI_sI, if_neg (fun z => absurd z.2.1 (by decide))] at h0
  by_cases e : m = n
  · subst e
    rw [xI_sI, if_pos ⟨rfl, rfl, rfl⟩]
    rcases h m hm h0 with z | z
    · exact Or.inl z
    · exact Or.inr (hw.elim id (fun q => absurd q z))
  · rw [xI_sI, if_neg (fun z => e z.2.2)]
    exact h m hm h0
theorem bC.bey {N : Nat} {S R : xS} (h : bC N S R) {n : Nat} {v w : Int32} (hw : w = 0 → v = 0 ∨ xI R 0 13 n ≠ 0) : bC N (sI S n 2 1 v) (sI R 0 18 n w) := by
  intro m hm h0
  by_cases e : m = n
  · subst e
    rw [xI_sI, if_pos ⟨rfl, rfl, rfl⟩] at h0
    rw [xI_sI, if_pos ⟨rfl, rfl, rfl⟩, xI_sI, if_neg (fun z => absurd z.2.1 (by decide))]
    exact hw h0
  · rw [xI_sI, if_neg (fun z => e z.2.2)] at h0
    rw [xI_sI, if_neg (fun z => e z.1), xI_sI, if_neg (fun z => absurd z.2.1 (by decide))]
    exact h m hm h0
/-- E n k: register k (A, B, C, O) of node n is left out -/
def RS (N : xN) (E : Nat → Nat → Prop) (S R : xS) : Prop := (∀ n, n < N.1 → N.2 n → idle R n) ∧ (∀ n, n < N.1 → ∀ t ∈ tB, (t.1 = 4 ∧ t.2.1 ≤ 3 ∧ E n t.2.1) ∨ rg (rc t.2.2.1) (xI S n t.1 t.2.1) (xI R 0 t.2.2.1 (t.2.2.2.1 * n + t.2.2.2.2))) ∧ bC N.1 S R
theorem tB_ok : (tB.all fun t => decide (t.2.2.2.2 < t.2.2.2.1) && tB.all fun u => decide ((t.1 = u.1 ∧ t.2.1 = u.2.1 → t = u) ∧ (t.2.2.1 = u.2.2.1 → t.2.2.2.1 = u.2.2.2.1 ∧ (t.2.2.2.2 = u.2.2.2.2 → t = u)))) = true := by decide +kernel
theorem tB_lt {t : tE} (h : t ∈ tB) : t.2.2.2.2 < t.2.2.2.1 := by
  have h1 := List.all_eq_true.mp tB_ok t h
  simp only [Bool.and_eq_true, decide_eq_true_eq] at h1
  exact h1.1
theorem tB_eq {t u : tE} (h : t ∈ tB) (hu : u ∈ tB) : (t.1 = u.1 ∧ t.2.1 = u.2.1 → t = u) ∧ (t.2.2.1 = u.2.2.1 → t.2.2.2.1 = u.2.2.2.1 ∧ (t.2.2.2.2 = u.2.2.2.2 → t = u)) := by
  have h1 := List.all_eq_true.mp tB_ok t h
  simp only [Bool.and_eq_true] at h1
  have h2 := List.all_eq_true.mp h1.2 u hu
  simpa only [decide_eq_true_eq] using h2
theorem tB_i : (tB.all fun t => decide ((t.2.2.1 = 11 ∨ t.2.2.1 = 22 ∨ t.2.2.1 = 30 → t.2.2.2.1 = 1) ∧ (t.2.2.1 = 19 → t.2.2.2.1 = 2))) = true := by decide +kernel
/-- both change one and the same int; it may have been left out before -/
theorem RS.setC {N : xN} {E E' : Nat → Nat → Prop} {S R : xS} (h : RS N E S R) {n : Nat} (hn : inN n N) {t : tE} (ht : t ∈ tB) (hE : ∀ m k, k ≤ 3 → E m k → E' m k ∨ (m = n ∧ 4 = t.1 ∧ k = t.2.1)) {v w : Int32} (hv : rg (rc t.2.2.1) v w) (hC : bC N.1 (sI S n t.1 t.2.1 v) (sI R 0 t.2.2.1 (t.2.2.2.1 * n + t.2.2.2.2) w)) : RS N E' (sI S n t.1 t.2.1 v) (sI R 0 t.2.2.1 (t.2.2.2.1 * n + t.2.2.2.2) w) := by
  refine ⟨fun m hm hz => ?_, ?_, hC⟩
  · have hne : m ≠ n := fun z => hn.2 (z ▸ hz)
    have h1 := List.all_eq_true.mp tB_i t ht
    simp only [decide_eq_true_eq] at h1
    have h2 := tB_lt ht
    refine idle_sI (h.1 m hm hz) w ?_ ?_ ?_ ?_ ?_
    · rintro ⟨e1, e2⟩
      have h3 := h1.1 (Or.inl e1)
      rw [h3] at e2 h2
      omega
    · rintro ⟨e1, e2⟩
      have h3 := h1.2 e1
      rw [h3] at e2 h2
      omega
    · rintro ⟨e1, e2⟩
      have h3 := h1.2 e1
      rw [h3] at e2 h2
      omega
    · rintro ⟨e1, e2⟩
      have h3 := h1.1 (Or.inr (Or.inl e1))
      rw [h3] at e2 h2
      omega
    · rintro ⟨e1, e2⟩
      have h3 := h1.1 (Or.inr (Or.inr e1))
      rw [h3] at e2 h2
      omega
  intro n' hn' u hu
  have hold := h.2.1
  rw [xI_sI, xI_sI]
  by_cases e : n' = n ∧ u = t
  · obtain ⟨rfl, rfl⟩ := e
    rw [if_pos ⟨rfl, rfl, rfl⟩, if_pos ⟨rfl, rfl, rfl⟩]
    exact Or.inr hv
  · have q := tB_eq hu ht
    have l1 := tB_lt hu
    have l2 := tB_lt ht
    rw [if_neg (fun z => e ⟨z.1, q.1 z.2⟩), if_neg]
    · rcases hold n' hn' u hu with h | h
      · rcases hE _ _ h.2.1 h.2.2 with h2 | h2
        · exact Or.inl ⟨h.1, h.2.1, h2⟩
        · exact absurd ⟨h2.1, q.1 ⟨h.1.trans h2.2.1, h2.2.2⟩⟩ e
      · exact Or.inr h
    rintro ⟨-, z1, z2⟩
    obtain ⟨q1, q2⟩ := q.2 z1
    rw [q1] at z2 l1
    have hm := congrArg (fun x => x % t.2.2.2.1) z2
    simp only [Nat.mul_add_mod, Nat.mod_eq_of_lt l1, Nat.mod_eq_of_lt l2] at hm
    have ht2 := q2 hm
    subst ht2
    refine e ⟨?_, rfl⟩
    have : u.2.2.2.1 * n' = u.2.2.2.1 * n := by omega
    exact Nat.eq_of_mul_eq_mul_left (by omega) this
theorem RS.setE {N : xN} {E E' : Nat → Nat → Prop} {S R : xS} (h : RS N E S R) {n : Nat} (hn : inN n N) {t : tE} (ht : t ∈ tB) (hr : t.2.2.1 ≠ 13 ∧ t.2.2.1 ≠ 18) (hE : ∀ m k, k ≤ 3 → E m k → E' m k ∨ (m = n ∧ 4 = t.1 ∧ k = t.2.1)) {v w : Int32} (hv : rg (rc t.2.2.1) v w) : RS N E' (sI S n t.1 t.2.1 v) (sI R 0 t.2.2.1 (t.2.2.2.1 * n + t.2.2.2.2) w) := by
  refine h.setC hn ht hE hv ((h.2.2.c v (fun z => hr.2 ?_)).r w hr.1 hr.2)
  rw [(tB_eq ht (u := (2, 1, 18, 1, 0)) (by decide)).1 z]
theorem RS.set {N : xN} {E : Nat → Nat → Prop} {S R : xS} (h : RS N E S R) {n : Nat} (hn : inN n N) {t : tE} (ht : t ∈ tB) (hr : t.2.2.1 ≠ 13 ∧ t.2.2.1 ≠ 18) {v w : Int32} (hv : rg (rc t.2.2.1) v w) : RS N E (sI S n t.1 t.2.1 v) (sI R 0 t.2.2.1 (t.2.2.2.1 * n + t.2.2.2.2) w) := h.setE hn ht hr (fun _ _ _ z => Or.inl z) hv
theorem RS.s_out {N : xN} {E : Nat → Nat → Prop} {S R : xS} (h : RS N E S R) {n : Nat} (hn : inN n N) {w : Int32} (hw : w ≠ 0 ∨ xI R 0 13 n = 0) : RS N E (sI S n 1 8 w) (sI R 0 13 n w) := by
  have h1 := h.setC (E' := E) (n := n) hn (t := (1, 8, 13, 1, 0)) (v := w) (w := w) (by decide) (fun _ _ _ z => Or.inl z) rfl (by simp only [Nat.one_mul, Nat.add_zero]; exact (h.2.2.c w (by decide)).out hw)
  simp only [Nat.one_mul, Nat.add_zero] at h1
  exact h1
theorem RS.t_bey {N : xN} {E : Nat → Nat → Prop} {S R : xS} (h : RS N E S R) {n : Nat} (hn : inN n N) {v w : Int32} (hv : (v = 0 ∨ v = 1) ∧ (w = 0 ∨ w = 1) ∧ (v = 0 → w = 0)) (hw : w = 0 → v = 0 ∨ xI R 0 13 n ≠ 0) : RS N E (sI S n 2 1 v) (sI R 0 18 n w) := by
  have h1 := h.setC (E' := E) (n := n) hn (t := (2, 1, 18, 1, 0)) (v := v) (w := w) (by decide) (fun _ _ _ z => Or.inl z) hv (by simp only [Nat.one_mul, Nat.add_zero]; exact h.2.2.bey hw)
  simp only [Nat.one_mul, Nat.add_zero] at h1
  exact h1
/-- a place of the class that is no row's -/
theorem RS.cls {N : xN} {E : Nat → Nat → Prop} {S R : xS} (h : RS N E S R) {n j k : Nat} (hk : ∀ t ∈ tB, ¬ (t.1 = j ∧ t.2.1 = k)) (v : Int32) : RS N E (sI S n j k v) R := by
  refine ⟨h.1, ?_, h.2.2.c v (fun z => hk (2, 1, 18, 1, 0) (by decide) ⟨z.1.symm, z.2.symm⟩)⟩
  intro n' hn' u hu
  rw [xI_sI, if_neg (fun z => hk u hu z.2)]
  exact h.2.1 n' hn' u hu
/-- a row of the reference that is none's -/
theorem RS.ref {N : xN} {E : Nat → Nat → Prop} {S R : xS} (h : RS N E S R) {j k : Nat} (hk : ∀ t ∈ tB, t.2.2.1 ≠ j) (v : Int32) : RS N E S (sI R 0 j k v) := by
  have e1 : 11 ≠ j := hk (4, 6, 11, 1, 0) (by decide)
  have e2 : 19 ≠ j := hk (6, 0, 19, 2, 0) (by decide)
  have e3 : 22 ≠ j := hk (5, 6, 22, 1, 0) (by decide)
  have e4 : 30 ≠ j := hk (8, 2, 30, 1, 0) (by decide)
  refine ⟨fun m hm hz => idle_sI (h.1 m hm hz) v (by omega) (by omega) (by omega) (by omega) (by omega), ?_, h.2.2.r v (fun z => hk (1, 8, 13, 1, 0) (by decide) z.symm) (fun z => hk (2, 1, 18, 1, 0) (by decide) z.symm)⟩
  intro n' hn' u hu
  rw [xI_sI, if_neg (fun z => hk u hu z.2.1)]
  exact h.2.1 n' hn' u hu
/-- one side alone changes what is left out -/
theorem RS.cE {N : xN} {E : Nat → Nat → Prop} {S R : xS} (h : RS N E S R) {n k : Nat} (hk : k ≤ 3) (hE : E n k) (v : Int32) : RS N E (sI S n 4 k v) R := by
  refine ⟨h.1, ?_, h.2.2.c v (fun z => absurd z.1 (by decide))⟩
  intro n' hn' u hu
  rw [xI_sI]
  by_cases e : n' = n ∧ u.1 = 4 ∧ u.2.1 = k
  · rw [if_pos e]
    exact Or.inl ⟨e.2.1, by omega, by rw [e.1, e.2.2]; exact hE⟩
  · rw [if_neg e]
    exact h.2.1 n' hn' u hu
theorem tB_r5 : (tB.all fun t => decide (5 ≤ t.2.2.1 ∧ t.2.2.1 ≤ 8 → t.1 = 4 ∧ t.2.1 + 5 = t.2.2.1 ∧ t.2.2.2.1 = 1)) = true := by decide +kernel
theorem RS.rE {N : xN} {E : Nat → Nat → Prop} {S R : xS} (h : RS N E S R) {n k : Nat} (hk : k ≤ 3) (hE : E n k) (v : Int32) : RS N E S (sI R 0 (5 + k) n v) := by
  refine ⟨fun m hm hz => idle_sI (h.1 m hm hz) v (by omega) (by omega) (by omega) (by omega) (by omega), ?_, h.2.2.r v (by omega) (by omega)⟩
  intro n' hn' u hu
  rw [xI_sI]
  by_cases e : 0 = 0 ∧ u.2.2.1 = 5 + k ∧ u.2.2.2.1 * n' + u.2.2.2.2 = n
  · have h1 := List.all_eq_true.mp tB_r5 u hu
    simp only [decide_eq_true_eq] at h1
    obtain ⟨h2, h3, h4⟩ := h1 (by omega)
    have h5 := tB_lt hu
    have h6 : n' = n := by
      have h7 := e.2.2
      rw [h4] at h7
      omega
    exact Or.inl ⟨h2, by omega, by rw [h6, show u.2.1 = k by omega]; exact hE⟩
  · rw [if_neg e]
    exact h.2.1 n' hn' u hu
/-- less is left out -/
theorem RS.mono {N : xN} {E E' : Nat → Nat → Prop} {S R : xS} (h : RS N E S R) (hE : ∀ m k, k ≤ 3 → E m k → E' m k) : RS N E' S R := ⟨h.1, fun n hn t ht => (h.2.1 n hn t ht).elim (fun z => Or.inl ⟨z.1, z.2.1, hE _ _ z.2.1 z.2.2⟩) Or.inr, h.2.2⟩
theorem RS.get {N : xN} {E : Nat → Nat → Prop} {S R : xS} (h : RS N E S R) {n : Nat} (hn : n < N.1) {t : tE} (ht : t ∈ tB) (hE : ¬ (t.1 = 4 ∧ t.2.1 ≤ 3 ∧ E n t.2.1)) : rg (rc t.2.2.1) (xI S n t.1 t.2.1) (xI R 0 t.2.2.1 (t.2.2.2.1 * n + t.2.2.2.2)) := (h.2.1 n hn t ht).resolve_left hE
