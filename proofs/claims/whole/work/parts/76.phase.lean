/-! the reference's phases, node by node -/
def bB (n : Nat) (R : xS) : Option xS := if xI R 0 52 n = 0 then some R else r_boot R (nI n)
def bC0 (T n : Nat) (R : xS) : Option xS := if T % 4 = 0 then r_sets R (nI n) 0 (xI R 0 21 (2 * n) + 1) else some R
def bC1 (T n : Nat) (R : xS) : Option xS := if T % 64 = 0 then r_sets R (nI n) 1 (xI R 0 21 (2 * n + 1) + 1) else some R
def bCk (T n : Nat) (R : xS) : Option xS := (bC0 T n R).bind (fun R => bC1 T n R)
def bY (n : Nat) (R : xS) : Option xS := some (rBey R n)
def LOC (f : Nat → xS → Option xS) : Prop := ∀ n, n < 8 → ∀ A B R R', AG n A B R R' → P2 (f n R) (f n R') (AG n A B)
theorem loc_B : LOC bB := by
  intro n hn A B R R' h
  unfold bB
  rw [h.w (by omega)]
  exact P2.ite Iff.rfl (fun _ _ => P2.ret h) (fun z _ => ag_boot hn h z)
theorem loc_C (T : Nat) : LOC (bCk T) := by
  intro n hn A B R R' h
  unfold bCk
  have h0 : P2 (bC0 T n R) (bC0 T n R') (AG n A B) := by
    unfold bC0
    rw [h.g (j := 21) (by unfold Wn; omega)]
    exact P2.ite Iff.rfl (fun _ _ => ag_sets hn h (Or.inl rfl) _) (fun _ _ => P2.ret h)
  refine P2.bind h0 (fun a b q => ?_)
  unfold bC1
  rw [q.g (j := 21) (by unfold Wn; omega)]
  exact P2.ite Iff.rfl (fun _ _ => ag_sets hn q (Or.inr rfl) _) (fun _ _ => P2.ret q)
theorem loc_Y : LOC bY := fun n hn A B R R' h => P2.ret h.bey
def OKa (M : Nat) (R : xS) : Prop := ∀ n, n < M → OKn n R
theorem LOC.self {f : Nat → xS → Option xS} (hf : LOC f) {n : Nat} (hn : n < 8) {R o : xS} (hok : OKn n R) (h : f n R = some o) : (∀ a b c, ¬ (a = 0 ∧ Wn n b c) → xI o a b c = xI R a b c) ∧ o.2 = R.2 ∧ OKn n o := by
  obtain ⟨a, b, x1, x2, x3⟩ := hf n hn R R R R ⟨fun _ _ _ => rfl, fun _ _ _ _ => rfl, rfl, fun _ _ _ _ => rfl, rfl, hok⟩
  rw [h] at x1 x2
  cases x1
  exact ⟨x3.2.1, x3.2.2.1, x3.2.2.2.2.2⟩
theorem OKn.of {n : Nat} {R R' : xS} (h : OKn n R) (e : ∀ b c, Wn n b c → xI R' 0 b c = xI R 0 b c) : OKn n R' := by
  unfold OKn
  rw [e 52 n (by unfold Wn; omega), e 53 n (by unfold Wn; omega), e 30 n (by unfold Wn; omega)]
  exact h
theorem LOC.ok {f : Nat → xS → Option xS} (hf : LOC f) {M : Nat} (hM : M ≤ 8) {n : Nat} (hn : n < M) {R o : xS} (hok : OKa M R) (h : f n R = some o) : OKa M o := by
  obtain ⟨h1, h2, h3⟩ := hf.self (by omega) (hok n hn) h
  intro m hm
  by_cases e : m = n
  · subst e; exact h3
  · exact (hok m hm).of (fun b c hb => h1 0 b c (fun z => Wn_dj (Ne.symm e) z.2 hb))
theorem st_ext {R R' : xS} (h : ∀ a b c, xI R a b c = xI R' a b c) (h2 : R.2 = R'.2) : R = R' := Prod.ext (funext fun a => funext fun b => funext fun c => h a b c) h2
theorem comm2 {f g : Nat → xS → Option xS} (hf : LOC f) (hg : LOC g) {M : Nat} (hM : M ≤ 8) {n m : Nat} (hn : n < M) (hm : m < M) (hne : n ≠ m) {R R1 R2 : xS} (hok : OKa M R) (h1 : f n R = some R1) (h2 : g m R1 = some R2) : ∃ R1', g m R = some R1' ∧ f n R1' = some R2 := by
  have hn8 : n < 8 := by omega
  have hm8 : m < 8 := by omega
  obtain ⟨f1, f2, f3⟩ := hf.self hn8 (hok n hn) h1
  have a1 : AG m R1 R R1 R := ⟨fun b c hb => (f1 0 b c (fun z => Wn_dj hne z.2 hb)).symm, fun _ _ _ _ => rfl, rfl, fun _ _ _ _ => rfl, rfl, hf.ok hM hn hok h1 m hm⟩
  obtain ⟨o, R1', x1, x2, x3⟩ := hg m hm8 R1 R R1 R a1
  rw [h2] at x1
  cases x1
  have a2 : AG n R R1' R R1' := ⟨fun b c hb => x3.2.2.2.1 0 b c (fun z => Wn_dj hne hb z.2), fun _ _ _ _ => rfl, rfl, fun _ _ _ _ => rfl, rfl, hok n hn⟩
  obtain ⟨o2, R3, y1, y2, y3⟩ := hf n hn8 R R1' R R1' a2
  rw [h1] at y1
  cases y1
  refine ⟨R1', x2, ?_⟩
  rw [y2]
  congr 1
  refine st_ext (fun a b c => ?_) ?_
  · by_cases e1 : a = 0 ∧ Wn n b c
    · obtain ⟨rfl, hb⟩ := e1
      rw [y3.1 b c hb, x3.2.1 0 b c (fun z => Wn_dj hne hb z.2)]
    · rw [y3.2.2.2.1 a b c e1]
      by_cases e2 : a = 0 ∧ Wn m b c
      · obtain ⟨rfl, hb⟩ := e2
        exact x3.1 b c hb
      · rw [x3.2.2.2.1 a b c e2, x3.2.1 a b c e2, f1 a b c e1]
  · rw [y3.2.2.2.2.1, x3.2.2.2.2.1, x3.2.2.1, f2]
def runF (f : Nat → xS → Option xS) : Nat → Nat → xS → Option xS
  | _, 0, R => some R
  | i, j + 1, R => (f i R).bind (runF f (i + 1) j)
theorem run_ok {f : Nat → xS → Option xS} (hf : LOC f) {M : Nat} (hM : M ≤ 8) : ∀ (j i : Nat) (R o : xS), i + j ≤ M → OKa M R → runF f i j R = some o → OKa M o
  | 0, i, R, o, _, hok, h => by cases h; exact hok
  | j + 1, i, R, o, hi, hok, h => by
    unfold runF at h
    cases hq : f i R with
    | none => rw [hq] at h; cases h
    | some R1 =>
      rw [hq] at h
      exact run_ok hf hM j (i + 1) R1 o (by omega) (hf.ok hM (by omega) hok hq) h
theorem commR {f g : Nat → xS → Option xS} (hf : LOC f) (hg : LOC g) {M : Nat} (hM : M ≤ 8) {n : Nat} (hn : n < M) : ∀ (j i : Nat) (R R1 R2 : xS), i + j ≤ M → (n < i ∨ i + j ≤ n) → OKa M R → f n R = some R1 → runF g i j R1 = some R2 → ∃ R1', runF g i j R = some R1' ∧ f n R1' = some R2
  | 0, i, R, R1, R2, _, _, _, h1, h2 => by cases h2; exact ⟨R, rfl, h1⟩
  | j + 1, i, R, R1, R2, hi, hne, hok, h1, h2 => by
    unfold runF at h2 ⊢
    cases hq : g i R1 with
    | none => rw [hq] at h2; cases h2
    | some Ra =>
      rw [hq, Option.bind_some] at h2
      obtain ⟨Rb, x1, x2⟩ := comm2 hf hg hM hn (m := i) (by omega) (by omega) hok h1 hq
      obtain ⟨R1', y1, y2⟩ := commR hf hg hM hn j (i + 1) Rb Ra R2 (by omega) (by omega) (hg.ok hM (by omega) hok x1) x2 h2
      exact ⟨R1', by rw [x1]; exact y1, y2⟩
theorem phases {f g k : Nat → xS → Option xS} (hf : LOC f) (hg : LOC g) (hk : LOC k) {M : Nat} (hM : M ≤ 8) : ∀ (j i : Nat) (R R' : xS), i + j ≤ M → OKa M R → runF (fun n R => (f n R).bind (fun R => (g n R).bind (fun R => k n R))) i j R = some R' → ∃ R1 R2, runF f i j R = some R1 ∧ runF g i j R1 = some R2 ∧ runF k i j R2 = some R'
  | 0, i, R, R', _, _, h => by cases h; exact ⟨R, R, rfl, rfl, rfl⟩
  | j + 1, i, R, R', hi, hok, h => by
    unfold runF at h
    cases hq1 : f i R with
    | none => rw [hq1] at h; cases h
    | some Rb =>
      rw [hq1, Option.bind_some] at h
      cases hq2 : g i Rb with
      | none => rw [hq2] at h; cases h
      | some Rc =>
        rw [hq2, Option.bind_some] at h
        cases hq3 : k i Rc with
        | none => rw [hq3] at h; cases h
        | some Ra =>
          rw [hq3, Option.bind_some] at h
          have okb := hf.ok hM (by omega) hok hq1
          have okc := hg.ok hM (by omega) okb hq2
          have oka := hk.ok hM (by omega) okc hq3
          obtain ⟨R1, R2, z1, z2, z3⟩ := phases hf hg hk hM j (i + 1) Ra R' (by omega) oka h
          obtain ⟨P1, u1, u2⟩ := commR hk hf hM (n := i) (by omega) j (i + 1) Rc Ra R1 (by omega) (by omega) okc hq3 z1
          obtain ⟨P2', v1, v2⟩ := commR hg hf hM (n := i) (by omega) j (i + 1) Rb Rc P1 (by omega) (by omega) okb hq2 u1
          have okp2 := run_ok hf hM j (i + 1) Rb P2' (by omega) okb v1
          have okp1 := hg.ok hM (by omega) okp2 v2
          obtain ⟨P3, w1, w2⟩ := commR hk hg hM (n := i) (by omega) j (i + 1) P1 R1 R2 (by omega) (by omega) okp1 u2 z2
          refine ⟨P2', P3, ?_, ?_, ?_⟩
          · unfold runF; rw [hq1]; exact v1
          · unfold runF; rw [v2]; exact w1
          · unfold runF; rw [w2]; exact z3
