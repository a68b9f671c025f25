/-! the relation, for any rest X over the view; the processor's own ints and its memory -/
def REL (E : Nat → Nat → Prop) (X : xS → xS → Prop) (N : xN) (S R : xS) : Prop := N.1 ≤ 8 ∧ RS N E S R ∧ RM N.1 S R ∧ X (vS S) (vR R)
/-- nothing is left out -/
def E0 : Nat → Nat → Prop := fun _ _ => False
/-- O of node n is left out -/
def EO (n : Nat) : Nat → Nat → Prop := fun m k => m = n ∧ k = 3
/-- A, B, C of node n are left out -/
def EA (n : Nat) : Nat → Nat → Prop := fun m k => m = n ∧ k < 3
/-- the stack of node n is not left out -/
def okE (E : Nat → Nat → Prop) (n : Nat) : Prop := ¬ E n 0 ∧ ¬ E n 1 ∧ ¬ E n 2
theorem okE0 (n : Nat) : okE E0 n := ⟨fun h => h, fun h => h, fun h => h⟩
theorem okEO (n m : Nat) : okE (EO m) n := ⟨fun h => absurd h.2 (by decide), fun h => absurd h.2 (by decide), fun h => absurd h.2 (by decide)⟩
theorem REL.le8 {E : Nat → Nat → Prop} {X : xS → xS → Prop} {N : xN} {S R : xS} (h : REL E X N S R) {n : Nat} (hn : inN n N) : n < 8 := Nat.lt_of_lt_of_le hn.1 h.1
theorem REL.mono {E E' : Nat → Nat → Prop} {X : xS → xS → Prop} {N : xN} {S R : xS} (h : REL E X N S R) (hE : ∀ m k, k ≤ 3 → E m k → E' m k) : REL E' X N S R := ⟨h.1, h.2.1.mono hE, h.2.2⟩
theorem REL.any {E : Nat → Nat → Prop} {X : xS → xS → Prop} {N : xN} {S R : xS} (h : REL E0 X N S R) : REL E X N S R := h.mono (fun _ _ _ z => z.elim)
theorem REL.x {E : Nat → Nat → Prop} {X Y : xS → xS → Prop} {N : xN} {S R : xS} (h : REL E X N S R) (hx : X (vS S) (vR R) → Y (vS S) (vR R)) : REL E Y N S R := ⟨h.1, h.2.1, h.2.2.1, hx h.2.2.2⟩
theorem RS.s_bey {N : xN} {E : Nat → Nat → Prop} {S R : xS} (h : RS N E S R) {n : Nat} (hn : inN n N) : RS N E (sI S n 2 1 1) (sI R 0 18 n 1) := by
  exact h.t_bey hn ⟨Or.inr rfl, Or.inr rfl, fun z => absurd z (by decide)⟩ (fun z => absurd z (by decide))
theorem REL.pw {E : Nat → Nat → Prop} {X : xS → xS → Prop} {N : xN} {S R : xS} (h : REL E X N S R) {n : Nat} (hn : inN n N) {a a' v v' : Int32} (e : a = a') (e2 : v = v') : REL E X N (cPw S n a v) (rPw R n a' v') := by
  subst e; subst e2
  obtain ⟨h0, h1, h2, h3⟩ := h
  have hn1 := hn.1
  refine ⟨h0, ?_, ?_, by rw [vS_cPw (by omega), vR_rPw]; exact h3⟩
  · unfold cPw rPw
    by_cases e : inM (adw a)
    · rw [if_pos e, if_pos e]; exact ((h1.cSW n 3 _ v).rSB n _ v).rSB n _ _
    · rw [if_neg e, if_neg e]; exact h1.s_bey hn
  · unfold cPw rPw
    by_cases e : inM (adw a)
    · have h4 : adw a % 2 = 0 := by unfold adw; omega
      rw [if_pos e, if_pos e]; exact h2.pw n _ v (by omega) (by omega)
    · rw [if_neg e, if_neg e]; exact (h2.cI n 2 1 1).rI 18 n 1 (by decide)
theorem REL.pb {E : Nat → Nat → Prop} {X : xS → xS → Prop} {N : xN} {S R : xS} (h : REL E X N S R) {n : Nat} (hn : inN n N) {a a' v v' : Int32} (e : a = a') (e2 : v = v') : REL E X N (cPb S n a v) (rPb R n a' v') := by
  subst e; subst e2
  obtain ⟨h0, h1, h2, h3⟩ := h
  have hn1 := hn.1
  refine ⟨h0, ?_, ?_, by rw [vS_cPb (by omega), vR_rPb]; exact h3⟩
  · unfold cPb rPb
    by_cases e : inM (adr a)
    · rw [if_pos e, if_pos e]; exact (h1.cSB n 3 _ v).rSB n _ v
    · rw [if_neg e, if_neg e]; exact h1.s_bey hn
  · unfold cPb rPb
    by_cases e : inM (adr a)
    · have h4 : adw a % 2 = 0 := by unfold adw; omega
      rw [if_pos e, if_pos e]; exact h2.pb n _ v (by omega)
    · rw [if_neg e, if_neg e]; exact (h2.cI n 2 1 1).rI 18 n 1 (by decide)
theorem REL.tw {E : Nat → Nat → Prop} {X : xS → xS → Prop} {N : xN} {S R : xS} (h : REL E X N S R) {n : Nat} (hn : inN n N) {a a' : Int32} (e : a = a') : REL E X N (cTw S n a ) (rUw R n a' ) := by
  subst e
  obtain ⟨h0, h1, h2, h3⟩ := h
  have hn1 := hn.1
  refine ⟨h0, ?_, ?_, by rw [vS_cTw (by omega), vR_rUw]; exact h3⟩
  · unfold cTw rUw
    by_cases e : inM (adw a)
    · rw [if_pos e, if_pos e]; exact h1
    · rw [if_neg e, if_neg e]; exact h1.s_bey hn
  · unfold cTw rUw
    by_cases e : inM (adw a)
    · have h4 : adw a % 2 = 0 := by unfold adw; omega
      rw [if_pos e, if_pos e]; exact h2
    · rw [if_neg e, if_neg e]; exact (h2.cI n 2 1 1).rI 18 n 1 (by decide)
theorem REL.tb {E : Nat → Nat → Prop} {X : xS → xS → Prop} {N : xN} {S R : xS} (h : REL E X N S R) {n : Nat} (hn : inN n N) {a a' : Int32} (e : a = a') : REL E X N (cTb S n a ) (rUb R n a' ) := by
  subst e
  obtain ⟨h0, h1, h2, h3⟩ := h
  have hn1 := hn.1
  refine ⟨h0, ?_, ?_, by rw [vS_cTb (by omega), vR_rUb]; exact h3⟩
  · unfold cTb rUb
    by_cases e : inM (adr a)
    · rw [if_pos e, if_pos e]; exact h1
    · rw [if_neg e, if_neg e]; exact h1.s_bey hn
  · unfold cTb rUb
    by_cases e : inM (adr a)
    · have h4 : adw a % 2 = 0 := by unfold adw; omega
      rw [if_pos e, if_pos e]; exact h2
    · rw [if_neg e, if_neg e]; exact (h2.cI n 2 1 1).rI 18 n 1 (by decide)
theorem REL.gw {E : Nat → Nat → Prop} {X : xS → xS → Prop} {N : xN} {S R : xS} (h : REL E X N S R) {n : Nat} (hn : inN n N) {a a' : Int32} (e : a = a') : cGw S n a = rGw R n a' := by subst e; exact gw_eq h.2.2.1 hn.1 a
theorem REL.gb {E : Nat → Nat → Prop} {X : xS → xS → Prop} {N : xN} {S R : xS} (h : REL E X N S R) {n : Nat} (hn : inN n N) {a a' : Int32} (e : a = a') : cGb S n a = rGb R n a' := by subst e; exact gb_eq h.2.2.1 hn.1 a
theorem REL.g_A {E : Nat → Nat → Prop} {X : xS → xS → Prop} {N : xN} {S R : xS} (h : REL E X N S R) {n : Nat} (hn : inN n N) (he : ¬ E n 0) : xI S n 4 0 = xI R 0 5 (n) := by
  have := h.2.1.get hn.1 (t := (4, 0, 5, 1, 0)) (by decide) (fun z => he z.2.2)
  simp only [rc, rg, Nat.one_mul, Nat.add_zero] at this
  exact this.1
theorem REL.w_A {E : Nat → Nat → Prop} {X : xS → xS → Prop} {N : xN} {S R : xS} (h : REL E X N S R) {n : Nat} (hn : inN n N) (he : ¬ E n 0) : xI R 0 5 (n) &&& 65535 = xI R 0 5 (n) := by
  have := h.2.1.get hn.1 (t := (4, 0, 5, 1, 0)) (by decide) (fun z => he z.2.2)
  simp only [rc, rg, Nat.one_mul, Nat.add_zero] at this
  exact this.2
theorem REL.s_A {E : Nat → Nat → Prop} {X : xS → xS → Prop} {N : xN} {S R : xS} (h : REL E X N S R) {n : Nat} (hn : inN n N) {v w : Int32} (e : v = w) (hw : w &&& 65535 = w) : REL E X N (sI S n 4 0 v) (sI R 0 5 (n) w) := by
  obtain ⟨h0, h1, h2, h3⟩ := h
  have hn1 := hn.1
  have h4 := h1.set (n := n) hn (t := (4, 0, 5, 1, 0)) (v := v) (w := w) (by decide) (by decide) ⟨e, hw⟩
  simp only [Nat.one_mul, Nat.add_zero] at h4
  exact ⟨h0, h4, (h2.cI n 4 0 v).rI 5 _ w (by decide), by rw [vS_sI (by omega), vR_sI (by decide)]; exact h3⟩
theorem REL.f_A {E E' : Nat → Nat → Prop} {X : xS → xS → Prop} {N : xN} {S R : xS} (h : REL E X N S R) {n : Nat} (hn : inN n N) (hE : ∀ m k, k ≤ 3 → E m k → E' m k ∨ (m = n ∧ k = 0)) {v w : Int32} (e : v = w) (hw : w &&& 65535 = w) : REL E' X N (sI S n 4 0 v) (sI R 0 5 (n) w) := by
  obtain ⟨h0, h1, h2, h3⟩ := h
  have hn1 := hn.1
  have h4 := h1.setE (E' := E') (n := n) hn (t := (4, 0, 5, 1, 0)) (v := v) (w := w) (by decide) (by decide) (fun m k hk z => (hE m k hk z).imp id (fun q => ⟨q.1, rfl, q.2⟩)) ⟨e, hw⟩
  simp only [Nat.one_mul, Nat.add_zero] at h4
  exact ⟨h0, h4, (h2.cI n 4 0 v).rI 5 _ w (by decide), by rw [vS_sI (by omega), vR_sI (by decide)]; exact h3⟩
theorem REL.c_A {E : Nat → Nat → Prop} {X : xS → xS → Prop} {N : xN} {S R : xS} (h : REL E X N S R) {n : Nat} (hn : inN n N) (hE : E n 0) (v : Int32) : REL E X N (sI S n 4 0 v) R := ⟨h.1, h.2.1.cE (by decide) hE v, h.2.2.1.cI n 4 0 v, by rw [vS_sI (by have := h.1; have := hn.1; omega)]; exact h.2.2.2⟩
theorem REL.r_A {E : Nat → Nat → Prop} {X : xS → xS → Prop} {N : xN} {S R : xS} (h : REL E X N S R) {n : Nat} (hn : inN n N) (hE : E n 0) (v : Int32) : REL E X N S (sI R 0 5 n v) := ⟨h.1, h.2.1.rE (k := 0) (by decide) hE v, h.2.2.1.rI 5 n v (by decide), by rw [vR_sI (by decide)]; exact h.2.2.2⟩
theorem REL.g_B {E : Nat → Nat → Prop} {X : xS → xS → Prop} {N : xN} {S R : xS} (h : REL E X N S R) {n : Nat} (hn : inN n N) (he : ¬ E n 1) : xI S n 4 1 = xI R 0 6 (n) := by
  have := h.2.1.get hn.1 (t := (4, 1, 6, 1, 0)) (by decide) (fun z => he z.2.2)
  simp only [rc, rg, Nat.one_mul, Nat.add_zero] at this
  exact this.1
theorem REL.w_B {E : Nat → Nat → Prop} {X : xS → xS → Prop} {N : xN} {S R : xS} (h : REL E X N S R) {n : Nat} (hn : inN n N) (he : ¬ E n 1) : xI R 0 6 (n) &&& 65535 = xI R 0 6 (n) := by
  have := h.2.1.get hn.1 (t := (4, 1, 6, 1, 0)) (by decide) (fun z => he z.2.2)
  simp only [rc, rg, Nat.one_mul, Nat.add_zero] at this
  exact this.2
theorem REL.s_B {E : Nat → Nat → Prop} {X : xS → xS → Prop} {N : xN} {S R : xS} (h : REL E X N S R) {n : Nat} (hn : inN n N) {v w : Int32} (e : v = w) (hw : w &&& 65535 = w) : REL E X N (sI S n 4 1 v) (sI R 0 6 (n) w) := by
  obtain ⟨h0, h1, h2, h3⟩ := h
  have hn1 := hn.1
  have h4 := h1.set (n := n) hn (t := (4, 1, 6, 1, 0)) (v := v) (w := w) (by decide) (by decide) ⟨e, hw⟩
  simp only [Nat.one_mul, Nat.add_zero] at h4
  exact ⟨h0, h4, (h2.cI n 4 1 v).rI 6 _ w (by decide), by rw [vS_sI (by omega), vR_sI (by decide)]; exact h3⟩
theorem REL.f_B {E E' : Nat → Nat → Prop} {X : xS → xS → Prop} {N : xN} {S R : xS} (h : REL E X N S R) {n : Nat} (hn : inN n N) (hE : ∀ m k, k ≤ 3 → E m k → E' m k ∨ (m = n ∧ k = 1)) {v w : Int32} (e : v = w) (hw : w &&& 65535 = w) : REL E' X N (sI S n 4 1 v) (sI R 0 6 (n) w) := by
  obtain ⟨h0, h1, h2, h3⟩ := h
  have hn1 := hn.1
  have h4 := h1.setE (E' := E') (n := n) hn (t := (4, 1, 6, 1, 0)) (v := v) (w := w) (by decide) (by decide) (fun m k hk z => (hE m k hk z).imp id (fun q => ⟨q.1, rfl, q.2⟩)) ⟨e, hw⟩
  simp only [Nat.one_mul, Nat.add_zero] at h4
  exact ⟨h0, h4, (h2.cI n 4 1 v).rI 6 _ w (by decide), by rw [vS_sI (by omega), vR_sI (by decide)]; exact h3⟩
theorem REL.c_B {E : Nat → Nat → Prop} {X : xS → xS → Prop} {N : xN} {S R : xS} (h : REL E X N S R) {n : Nat} (hn : inN n N) (hE : E n 1) (v : Int32) : REL E X N (sI S n 4 1 v) R := ⟨h.1, h.2.1.cE (by decide) hE v, h.2.2.1.cI n 4 1 v, by rw [vS_sI (by have := h.1; have := hn.1; omega)]; exact h.2.2.2⟩
theorem REL.r_B {E : Nat → Nat → Prop} {X : xS → xS → Prop} {N : xN} {S R : xS} (h : REL E X N S R) {n : Nat} (hn : inN n N) (hE : E n 1) (v : Int32) : REL E X N S (sI R 0 6 n v) := ⟨h.1, h.2.1.rE (k := 1) (by decide) hE v, h.2.2.1.rI 6 n v (by decide), by rw [vR_sI (by decide)]; exact h.2.2.2⟩
theorem REL.g_C {E : Nat → Nat → Prop} {X : xS → xS → Prop} {N : xN} {S R : xS} (h : REL E X N S R) {n : Nat} (hn : inN n N) (he : ¬ E n 2) : xI S n 4 2 = xI R 0 7 (n) := by
  have := h.2.1.get hn.1 (t := (4, 2, 7, 1, 0)) (by decide) (fun z => he z.2.2)
  simp only [rc, rg, Nat.one_mul, Nat.add_zero] at this
  exact this.1
theorem REL.w_C {E : Nat → Nat → Prop} {X : xS → xS → Prop} {N : xN} {S R : xS} (h : REL E X N S R) {n : Nat} (hn : inN n N) (he : ¬ E n 2) : xI R 0 7 (n) &&& 65535 = xI R 0 7 (n) := by
  have := h.2.1.get hn.1 (t := (4, 2, 7, 1, 0)) (by decide) (fun z => he z.2.2)
  simp only [rc, rg, Nat.one_mul, Nat.add_zero] at this
  exact this.2
theorem REL.s_C {E : Nat → Nat → Prop} {X : xS → xS → Prop} {N : xN} {S R : xS} (h : REL E X N S R) {n : Nat} (hn : inN n N) {v w : Int32} (e : v = w) (hw : w &&& 65535 = w) : REL E X N (sI S n 4 2 v) (sI R 0 7 (n) w) := by
  obtain ⟨h0, h1, h2, h3⟩ := h
  have hn1 := hn.1
  have h4 := h1.set (n := n) hn (t := (4, 2, 7, 1, 0)) (v := v) (w := w) (by decide) (by decide) ⟨e, hw⟩
  simp only [Nat.one_mul, Nat.add_zero] at h4
  exact ⟨h0, h4, (h2.cI n 4 2 v).rI 7 _ w (by decide), by rw [vS_sI (by omega), vR_sI (by decide)]; exact h3⟩
theorem REL.f_C {E E' : Nat → Nat → Prop} {X : xS → xS → Prop} {N : xN} {S R : xS} (h : REL E X N S R) {n : Nat} (hn : inN n N) (hE : ∀ m k, k ≤ 3 → E m k → E' m k ∨ (m = n ∧ k = 2)) {v w : Int32} (e : v = w) (hw : w &&& 65535 = w) : REL E' X N (sI S n 4 2 v) (sI R 0 7 (n) w) := by
  obtain ⟨h0, h1, h2, h3⟩ := h
  have hn1 := hn.1
  have h4 := h1.setE (E' := E') (n := n) hn (t := (4, 2, 7, 1, 0)) (v := v) (w := w) (by decide) (by decide) (fun m k hk z => (hE m k hk z).imp id (fun q => ⟨q.1, rfl, q.2⟩)) ⟨e, hw⟩
  simp only [Nat.one_mul, Nat.add_zero] at h4
  exact ⟨h0, h4, (h2.cI n 4 2 v).rI 7 _ w (by decide), by rw [vS_sI (by omega), vR_sI (by decide)]; exact h3⟩
theorem REL.c_C {E : Nat → Nat → Prop} {X : xS → xS → Prop} {N : xN} {S R : xS} (h : REL E X N S R) {n : Nat} (hn : inN n N) (hE : E n 2) (v : Int32) : REL E X N (sI S n 4 2 v) R := ⟨h.1, h.2.1.cE (by decide) hE v, h.2.2.1.cI n 4 2 v, by rw [vS_sI (by have := h.1; have := hn.1; omega)]; exact h.2.2.2⟩
theorem REL.r_C {E : Nat → Nat → Prop} {X : xS → xS → Prop} {N : xN} {S R : xS} (h : REL E X N S R) {n : Nat} (hn : inN n N) (hE : E n 2) (v : Int32) : REL E X N S (sI R 0 7 n v) := ⟨h.1, h.2.1.rE (k := 2) (by decide) hE v, h.2.2.1.rI 7 n v (by decide), by rw [vR_sI (by decide)]; exact h.2.2.2⟩
theorem REL.g_O {E : Nat → Nat → Prop} {X : xS → xS → Prop} {N : xN} {S R : xS} (h : REL E X N S R) {n : Nat} (hn : inN n N) (he : ¬ E n 3) : xI S n 4 3 = xI R 0 8 (n) := by
  have := h.2.1.get hn.1 (t := (4, 3, 8, 1, 0)) (by decide) (fun z => he z.2.2)
  simp only [rc, rg, Nat.one_mul, Nat.add_zero] at this
  exact this
theorem REL.s_O {E : Nat → Nat → Prop} {X : xS → xS → Prop} {N : xN} {S R : xS} (h : REL E X N S R) {n : Nat} (hn : inN n N) {v w : Int32} (e : v = w) : REL E X N (sI S n 4 3 v) (sI R 0 8 (n) w) := by
  obtain ⟨h0, h1, h2, h3⟩ := h
  have hn1 := hn.1
  have h4 := h1.set (n := n) hn (t := (4, 3, 8, 1, 0)) (v := v) (w := w) (by decide) (by decide) e
  simp only [Nat.one_mul, Nat.add_zero] at h4
  exact ⟨h0, h4, (h2.cI n 4 3 v).rI 8 _ w (by decide), by rw [vS_sI (by omega), vR_sI (by decide)]; exact h3⟩
theorem REL.f_O {E E' : Nat → Nat → Prop} {X : xS → xS → Prop} {N : xN} {S R : xS} (h : REL E X N S R) {n : Nat} (hn : inN n N) (hE : ∀ m k, k ≤ 3 → E m k → E' m k ∨ (m = n ∧ k = 3)) {v w : Int32} (e : v = w) : REL E' X N (sI S n 4 3 v) (sI R 0 8 (n) w) := by
  obtain ⟨h0, h1, h2, h3⟩ := h
  have hn1 := hn.1
  have h4 := h1.setE (E' := E') (n := n) hn (t := (4, 3, 8, 1, 0)) (v := v) (w := w) (by decide) (by decide) (fun m k hk z => (hE m k hk z).imp id (fun q => ⟨q.1, rfl, q.2⟩)) e
  simp only [Nat.one_mul, Nat.add_zero] at h4
  exact ⟨h0, h4, (h2.cI n 4 3 v).rI 8 _ w (by decide), by rw [vS_sI (by omega), vR_sI (by decide)]; exact h3⟩
theorem REL.c_O {E : Nat → Nat → Prop} {X : xS → xS → Prop} {N : xN} {S R : xS} (h : REL E X N S R) {n : Nat} (hn : inN n N) (hE : E n 3) (v : Int32) : REL E X N (sI S n 4 3 v) R := ⟨h.1, h.2.1.cE (by decide) hE v, h.2.2.1.cI n 4 3 v, by rw [vS_sI (by have := h.1; have := hn.1; omega)]; exact h.2.2.2⟩
theorem REL.r_O {E : Nat → Nat → Prop} {X : xS → xS → Prop} {N : xN} {S R : xS} (h : REL E X N S R) {n : Nat} (hn : inN n N) (hE : E n 3) (v : Int32) : REL E X N S (sI R 0 8 n v) := ⟨h.1, h.2.1.rE (k := 3) (by decide) hE v, h.2.2.1.rI 8 n v (by decide), by rw [vR_sI (by decide)]; exact h.2.2.2⟩
theorem REL.g_I {E : Nat → Nat → Prop} {X : xS → xS → Prop} {N : xN} {S R : xS} (h : REL E X N S R) {n : Nat} (hn : inN n N) : xI S n 4 4 = xI R 0 9 (n) := by
  have := h.2.1.get hn.1 (t := (4, 4, 9, 1, 0)) (by decide) (fun z => absurd z.2.1 (by decide))
  simp only [rc, rg, Nat.one_mul, Nat.add_zero] at this
  exact this.1
theorem REL.w_I {E : Nat → Nat → Prop} {X : xS → xS → Prop} {N : xN} {S R : xS} (h : REL E X N S R) {n : Nat} (hn : inN n N) : xI R 0 9 (n) &&& 65535 = xI R 0 9 (n) := by
  have := h.2.1.get hn.1 (t := (4, 4, 9, 1, 0)) (by decide) (fun z => absurd z.2.1 (by decide))
  simp only [rc, rg, Nat.one_mul, Nat.add_zero] at this
  exact this.2
theorem REL.s_I {E : Nat → Nat → Prop} {X : xS → xS → Prop} {N : xN} {S R : xS} (h : REL E X N S R) {n : Nat} (hn : inN n N) {v w : Int32} (e : v = w) (hw : w &&& 65535 = w) : REL E X N (sI S n 4 4 v) (sI R 0 9 (n) w) := by
  obtain ⟨h0, h1, h2, h3⟩ := h
  have hn1 := hn.1
  have h4 := h1.set (n := n) hn (t := (4, 4, 9, 1, 0)) (v := v) (w := w) (by decide) (by decide) ⟨e, hw⟩
  simp only [Nat.one_mul, Nat.add_zero] at h4
  exact ⟨h0, h4, (h2.cI n 4 4 v).rI 9 _ w (by decide), by rw [vS_sI (by omega), vR_sI (by decide)]; exact h3⟩
theorem REL.g_W {E : Nat → Nat → Prop} {X : xS → xS → Prop} {N : xN} {S R : xS} (h : REL E X N S R) {n : Nat} (hn : inN n N) : xI S n 4 5 = xI R 0 10 (n) := by
  have := h.2.1.get hn.1 (t := (4, 5, 10, 1, 0)) (by decide) (fun z => absurd z.2.1 (by decide))
  simp only [rc, rg, Nat.one_mul, Nat.add_zero] at this
  exact this.1
theorem REL.w_W {E : Nat → Nat → Prop} {X : xS → xS → Prop} {N : xN} {S R : xS} (h : REL E X N S R) {n : Nat} (hn : inN n N) : xI R 0 10 (n) &&& 65534 = xI R 0 10 (n) := by
  have := h.2.1.get hn.1 (t := (4, 5, 10, 1, 0)) (by decide) (fun z => absurd z.2.1 (by decide))
  simp only [rc, rg, Nat.one_mul, Nat.add_zero] at this
  exact this.2
theorem REL.s_W {E : Nat → Nat → Prop} {X : xS → xS → Prop} {N : xN} {S R : xS} (h : REL E X N S R) {n : Nat} (hn : inN n N) {v w : Int32} (e : v = w) (hw : w &&& 65534 = w) : REL E X N (sI S n 4 5 v) (sI R 0 10 (n) w) := by
  obtain ⟨h0, h1, h2, h3⟩ := h
  have hn1 := hn.1
  have h4 := h1.set (n := n) hn (t := (4, 5, 10, 1, 0)) (v := v) (w := w) (by decide) (by decide) ⟨e, hw⟩
  simp only [Nat.one_mul, Nat.add_zero] at h4
  exact ⟨h0, h4, (h2.cI n 4 5 v).rI 10 _ w (by decide), by rw [vS_sI (by omega), vR_sI (by decide)]; exact h3⟩
theorem REL.g_P {E : Nat → Nat → Prop} {X : xS → xS → Prop} {N : xN} {S R : xS} (h : REL E X N S R) {n : Nat} (hn : inN n N) : xI S n 4 6 = xI R 0 11 (n) := by
  have := h.2.1.get hn.1 (t := (4, 6, 11, 1, 0)) (by decide) (fun z => absurd z.2.1 (by decide))
  simp only [rc, rg, Nat.one_mul, Nat.add_zero] at this
  exact this.1
theorem REL.w_P {E : Nat → Nat → Prop} {X : xS → xS → Prop} {N : xN} {S R : xS} (h : REL E X N S R) {n : Nat} (hn : inN n N) : xI R 0 11 (n) = 0 ∨ xI R 0 11 (n) = 1 ∨ xI R 0 11 (n) = 2 := by
  have := h.2.1.get hn.1 (t := (4, 6, 11, 1, 0)) (by decide) (fun z => absurd z.2.1 (by decide))
  simp only [rc, rg, Nat.one_mul, Nat.add_zero] at this
  exact this.2
theorem REL.s_P {E : Nat → Nat → Prop} {X : xS → xS → Prop} {N : xN} {S R : xS} (h : REL E X N S R) {n : Nat} (hn : inN n N) {v w : Int32} (e : v = w) (hw : w = 0 ∨ w = 1 ∨ w = 2) : REL E X N (sI S n 4 6 v) (sI R 0 11 (n) w) := by
  obtain ⟨h0, h1, h2, h3⟩ := h
  have hn1 := hn.1
  have h4 := h1.set (n := n) hn (t := (4, 6, 11, 1, 0)) (v := v) (w := w) (by decide) (by decide) ⟨e, hw⟩
  simp only [Nat.one_mul, Nat.add_zero] at h4
  exact ⟨h0, h4, (h2.cI n 4 6 v).rI 11 _ w (by decide), by rw [vS_sI (by omega), vR_sI (by decide)]; exact h3⟩
theorem REL.g_L {E : Nat → Nat → Prop} {X : xS → xS → Prop} {N : xN} {S R : xS} (h : REL E X N S R) {n : Nat} (hn : inN n N) : xI S n 4 7 = xI R 0 12 (n) := by
  have := h.2.1.get hn.1 (t := (4, 7, 12, 1, 0)) (by decide) (fun z => absurd z.2.1 (by decide))
  simp only [rc, rg, Nat.one_mul, Nat.add_zero] at this
  exact this
theorem REL.s_L {E : Nat → Nat → Prop} {X : xS → xS → Prop} {N : xN} {S R : xS} (h : REL E X N S R) {n : Nat} (hn : inN n N) {v w : Int32} (e : v = w) : REL E X N (sI S n 4 7 v) (sI R 0 12 (n) w) := by
  obtain ⟨h0, h1, h2, h3⟩ := h
  have hn1 := hn.1
  have h4 := h1.set (n := n) hn (t := (4, 7, 12, 1, 0)) (v := v) (w := w) (by decide) (by decide) e
  simp only [Nat.one_mul, Nat.add_zero] at h4
  exact ⟨h0, h4, (h2.cI n 4 7 v).rI 12 _ w (by decide), by rw [vS_sI (by omega), vR_sI (by decide)]; exact h3⟩
theorem REL.g_out {E : Nat → Nat → Prop} {X : xS → xS → Prop} {N : xN} {S R : xS} (h : REL E X N S R) {n : Nat} (hn : inN n N) : xI S n 1 8 = xI R 0 13 n := by
  have := h.2.1.get hn.1 (t := (1, 8, 13, 1, 0)) (by decide) (fun z => absurd z.1 (by decide))
  simp only [rc, rg, Nat.one_mul, Nat.add_zero] at this
  exact this
theorem REL.s_out {E : Nat → Nat → Prop} {X : xS → xS → Prop} {N : xN} {S R : xS} (h : REL E X N S R) {n : Nat} (hn : inN n N) {w : Int32} (hw : w ≠ 0 ∨ xI R 0 13 n = 0) : REL E X N (sI S n 1 8 w) (sI R 0 13 n w) := by
  obtain ⟨h0, h1, h2, h3⟩ := h
  have hn1 := hn.1
  exact ⟨h0, h1.s_out hn hw, (h2.cI n 1 8 w).rI 13 _ w (by decide), by rw [vS_sI (by omega), vR_sI (by decide)]; exact h3⟩
theorem REL.g_busy {E : Nat → Nat → Prop} {X : xS → xS → Prop} {N : xN} {S R : xS} (h : REL E X N S R) {n : Nat} (hn : inN n N) : xI S n 1 9 = xI R 0 14 (n) := by
  have := h.2.1.get hn.1 (t := (1, 9, 14, 1, 0)) (by decide) (fun z => absurd z.1 (by decide))
  simp only [rc, rg, Nat.one_mul, Nat.add_zero] at this
  exact this
theorem REL.s_busy {E : Nat → Nat → Prop} {X : xS → xS → Prop} {N : xN} {S R : xS} (h : REL E X N S R) {n : Nat} (hn : inN n N) {v w : Int32} (e : v = w) : REL E X N (sI S n 1 9 v) (sI R 0 14 (n) w) := by
  obtain ⟨h0, h1, h2, h3⟩ := h
  have hn1 := hn.1
  have h4 := h1.set (n := n) hn (t := (1, 9, 14, 1, 0)) (v := v) (w := w) (by decide) (by decide) e
  simp only [Nat.one_mul, Nat.add_zero] at h4
  exact ⟨h0, h4, (h2.cI n 1 9 v).rI 14 _ w (by decide), by rw [vS_sI (by omega), vR_sI (by decide)]; exact h3⟩
theorem REL.g_exe {E : Nat → Nat → Prop} {X : xS → xS → Prop} {N : xN} {S R : xS} (h : REL E X N S R) {n : Nat} (hn : inN n N) : xI S n 1 10 = xI R 0 15 (n) := by
  have := h.2.1.get hn.1 (t := (1, 10, 15, 1, 0)) (by decide) (fun z => absurd z.1 (by decide))
  simp only [rc, rg, Nat.one_mul, Nat.add_zero] at this
  exact this
theorem REL.s_exe {E : Nat → Nat → Prop} {X : xS → xS → Prop} {N : xN} {S R : xS} (h : REL E X N S R) {n : Nat} (hn : inN n N) {v w : Int32} (e : v = w) : REL E X N (sI S n 1 10 v) (sI R 0 15 (n) w) := by
  obtain ⟨h0, h1, h2, h3⟩ := h
  have hn1 := hn.1
  have h4 := h1.set (n := n) hn (t := (1, 10, 15, 1, 0)) (v := v) (w := w) (by decide) (by decide) e
  simp only [Nat.one_mul, Nat.add_zero] at h4
  exact ⟨h0, h4, (h2.cI n 1 10 v).rI 15 _ w (by decide), by rw [vS_sI (by omega), vR_sI (by decide)]; exact h3⟩
theorem REL.g_err {E : Nat → Nat → Prop} {X : xS → xS → Prop} {N : xN} {S R : xS} (h : REL E X N S R) {n : Nat} (hn : inN n N) : xI S n 1 6 = xI R 0 16 (n) := by
  have := h.2.1.get hn.1 (t := (1, 6, 16, 1, 0)) (by decide) (fun z => absurd z.1 (by decide))
  simp only [rc, rg, Nat.one_mul, Nat.add_zero] at this
  exact this.1
theorem REL.w_err {E : Nat → Nat → Prop} {X : xS → xS → Prop} {N : xN} {S R : xS} (h : REL E X N S R) {n : Nat} (hn : inN n N) : xI R 0 16 (n) = 0 ∨ xI R 0 16 (n) = 1 := by
  have := h.2.1.get hn.1 (t := (1, 6, 16, 1, 0)) (by decide) (fun z => absurd z.1 (by decide))
  simp only [rc, rg, Nat.one_mul, Nat.add_zero] at this
  exact this.2
theorem REL.s_err {E : Nat → Nat → Prop} {X : xS → xS → Prop} {N : xN} {S R : xS} (h : REL E X N S R) {n : Nat} (hn : inN n N) {v w : Int32} (e : v = w) (hw : w = 0 ∨ w = 1) : REL E X N (sI S n 1 6 v) (sI R 0 16 (n) w) := by
  obtain ⟨h0, h1, h2, h3⟩ := h
  have hn1 := hn.1
  have h4 := h1.set (n := n) hn (t := (1, 6, 16, 1, 0)) (v := v) (w := w) (by decide) (by decide) ⟨e, hw⟩
  simp only [Nat.one_mul, Nat.add_zero] at h4
  exact ⟨h0, h4, (h2.cI n 1 6 v).rI 16 _ w (by decide), by rw [vS_sI (by omega), vR_sI (by decide)]; exact h3⟩
theorem REL.g_halt {E : Nat → Nat → Prop} {X : xS → xS → Prop} {N : xN} {S R : xS} (h : REL E X N S R) {n : Nat} (hn : inN n N) : xI S n 1 7 = xI R 0 17 (n) := by
  have := h.2.1.get hn.1 (t := (1, 7, 17, 1, 0)) (by decide) (fun z => absurd z.1 (by decide))
  simp only [rc, rg, Nat.one_mul, Nat.add_zero] at this
  exact this.1
theorem REL.w_halt {E : Nat → Nat → Prop} {X : xS → xS → Prop} {N : xN} {S R : xS} (h : REL E X N S R) {n : Nat} (hn : inN n N) : xI R 0 17 (n) = 0 ∨ xI R 0 17 (n) = 1 := by
  have := h.2.1.get hn.1 (t := (1, 7, 17, 1, 0)) (by decide) (fun z => absurd z.1 (by decide))
  simp only [rc, rg, Nat.one_mul, Nat.add_zero] at this
  exact this.2
theorem REL.s_halt {E : Nat → Nat → Prop} {X : xS → xS → Prop} {N : xN} {S R : xS} (h : REL E X N S R) {n : Nat} (hn : inN n N) {v w : Int32} (e : v = w) (hw : w = 0 ∨ w = 1) : REL E X N (sI S n 1 7 v) (sI R 0 17 (n) w) := by
  obtain ⟨h0, h1, h2, h3⟩ := h
  have hn1 := hn.1
  have h4 := h1.set (n := n) hn (t := (1, 7, 17, 1, 0)) (v := v) (w := w) (by decide) (by decide) ⟨e, hw⟩
  simp only [Nat.one_mul, Nat.add_zero] at h4
  exact ⟨h0, h4, (h2.cI n 1 7 v).rI 17 _ w (by decide), by rw [vS_sI (by omega), vR_sI (by decide)]; exact h3⟩
theorem REL.k_bey {E : Nat → Nat → Prop} {X : xS → xS → Prop} {N : xN} {S R : xS} (h : REL E X N S R) {n : Nat} (hn : inN n N) : (xI S n 2 1 = 0 ∧ xI R 0 18 n = 0) ∨ (xI S n 2 1 = 1 ∧ xI R 0 18 n = 1) ∨ (xI S n 2 1 = 1 ∧ xI R 0 18 n = 0 ∧ xI R 0 13 n ≠ 0) := by
  have h1 := h.2.1.get hn.1 (t := (2, 1, 18, 1, 0)) (by decide) (fun z => absurd z.1 (by decide))
  simp only [rc, rg, Nat.one_mul, Nat.add_zero] at h1
  obtain ⟨h2, h3, h4⟩ := h1
  rcases h2 with a | a
  · exact Or.inl ⟨a, h4 a⟩
  · rcases h3 with b | b
    · refine Or.inr (Or.inr ⟨a, b, ?_⟩)
      rcases h.2.1.2.2 n hn.1 b with z | z
      · exact absurd (a.symm.trans z) (by decide)
      · exact z
    · exact Or.inr (Or.inl ⟨a, b⟩)
theorem REL.w_bey {E : Nat → Nat → Prop} {X : xS → xS → Prop} {N : xN} {S R : xS} (h : REL E X N S R) {n : Nat} (hn : inN n N) : xI R 0 18 n = 0 ∨ xI R 0 18 n = 1 := by
  rcases h.k_bey hn with z | z | z
  · exact Or.inl z.2
  · exact Or.inr z.2
  · exact Or.inl z.2.1
/-- the class has not gone beyond where the reference has not and the node goes on -/
theorem REL.z_bey {E : Nat → Nat → Prop} {X : xS → xS → Prop} {N : xN} {S R : xS} (h : REL E X N S R) {n : Nat} (hn : inN n N) (b : xI R 0 18 n = 0) (o : xI R 0 13 n = 0) : xI S n 2 1 = 0 := by
  rcases h.k_bey hn with z | z | z
  · exact z.1
  · exact absurd (b.symm.trans z.2) (by decide)
  · exact absurd o z.2.2
theorem REL.g_f0 {E : Nat → Nat → Prop} {X : xS → xS → Prop} {N : xN} {S R : xS} (h : REL E X N S R) {n : Nat} (hn : inN n N) : xI S n 6 0 = xI R 0 19 (2 * n) := by
  have := h.2.1.get hn.1 (t := (6, 0, 19, 2, 0)) (by decide) (fun z => absurd z.1 (by decide))
  simp only [rc, rg, Nat.one_mul, Nat.add_zero] at this
  exact this
theorem REL.s_f0 {E : Nat → Nat → Prop} {X : xS → xS → Prop} {N : xN} {S R : xS} (h : REL E X N S R) {n : Nat} (hn : inN n N) {v w : Int32} (e : v = w) : REL E X N (sI S n 6 0 v) (sI R 0 19 (2 * n) w) := by
  obtain ⟨h0, h1, h2, h3⟩ := h
  have hn1 := hn.1
  have h4 := h1.set (n := n) hn (t := (6, 0, 19, 2, 0)) (v := v) (w := w) (by decide) (by decide) e
  simp only [Nat.one_mul, Nat.add_zero] at h4
  exact ⟨h0, h4, (h2.cI n 6 0 v).rI 19 _ w (by decide), by rw [vS_sI (by omega), vR_sI (by decide)]; exact h3⟩
theorem REL.g_f1 {E : Nat → Nat → Prop} {X : xS → xS → Prop} {N : xN} {S R : xS} (h : REL E X N S R) {n : Nat} (hn : inN n N) : xI S n 7 0 = xI R 0 19 (2 * n + 1) := by
  have := h.2.1.get hn.1 (t := (7, 0, 19, 2, 1)) (by decide) (fun z => absurd z.1 (by decide))
  simp only [rc, rg, Nat.one_mul, Nat.add_zero] at this
  exact this
theorem REL.s_f1 {E : Nat → Nat → Prop} {X : xS → xS → Prop} {N : xN} {S R : xS} (h : REL E X N S R) {n : Nat} (hn : inN n N) {v w : Int32} (e : v = w) : REL E X N (sI S n 7 0 v) (sI R 0 19 (2 * n + 1) w) := by
  obtain ⟨h0, h1, h2, h3⟩ := h
  have hn1 := hn.1
  have h4 := h1.set (n := n) hn (t := (7, 0, 19, 2, 1)) (v := v) (w := w) (by decide) (by decide) e
  simp only [Nat.one_mul, Nat.add_zero] at h4
  exact ⟨h0, h4, (h2.cI n 7 0 v).rI 19 _ w (by decide), by rw [vS_sI (by omega), vR_sI (by decide)]; exact h3⟩
theorem REL.g_b0 {E : Nat → Nat → Prop} {X : xS → xS → Prop} {N : xN} {S R : xS} (h : REL E X N S R) {n : Nat} (hn : inN n N) : xI S n 6 1 = xI R 0 20 (2 * n) := by
  have := h.2.1.get hn.1 (t := (6, 1, 20, 2, 0)) (by decide) (fun z => absurd z.1 (by decide))
  simp only [rc, rg, Nat.one_mul, Nat.add_zero] at this
  exact this
theorem REL.s_b0 {E : Nat → Nat → Prop} {X : xS → xS → Prop} {N : xN} {S R : xS} (h : REL E X N S R) {n : Nat} (hn : inN n N) {v w : Int32} (e : v = w) : REL E X N (sI S n 6 1 v) (sI R 0 20 (2 * n) w) := by
  obtain ⟨h0, h1, h2, h3⟩ := h
  have hn1 := hn.1
  have h4 := h1.set (n := n) hn (t := (6, 1, 20, 2, 0)) (v := v) (w := w) (by decide) (by decide) e
  simp only [Nat.one_mul, Nat.add_zero] at h4
  exact ⟨h0, h4, (h2.cI n 6 1 v).rI 20 _ w (by decide), by rw [vS_sI (by omega), vR_sI (by decide)]; exact h3⟩
theorem REL.g_b1 {E : Nat → Nat → Prop} {X : xS → xS → Prop} {N : xN} {S R : xS} (h : REL E X N S R) {n : Nat} (hn : inN n N) : xI S n 7 1 = xI R 0 20 (2 * n + 1) := by
  have := h.2.1.get hn.1 (t := (7, 1, 20, 2, 1)) (by decide) (fun z => absurd z.1 (by decide))
  simp only [rc, rg, Nat.one_mul, Nat.add_zero] at this
  exact this
theorem REL.s_b1 {E : Nat → Nat → Prop} {X : xS → xS → Prop} {N : xN} {S R : xS} (h : REL E X N S R) {n : Nat} (hn : inN n N) {v w : Int32} (e : v = w) : REL E X N (sI S n 7 1 v) (sI R 0 20 (2 * n + 1) w) := by
  obtain ⟨h0, h1, h2, h3⟩ := h
  have hn1 := hn.1
  have h4 := h1.set (n := n) hn (t := (7, 1, 20, 2, 1)) (v := v) (w := w) (by decide) (by decide) e
  simp only [Nat.one_mul, Nat.add_zero] at h4
  exact ⟨h0, h4, (h2.cI n 7 1 v).rI 20 _ w (by decide), by rw [vS_sI (by omega), vR_sI (by decide)]; exact h3⟩
theorem REL.g_c0 {E : Nat → Nat → Prop} {X : xS → xS → Prop} {N : xN} {S R : xS} (h : REL E X N S R) {n : Nat} (hn : inN n N) : xI S n 8 3 = xI R 0 21 (2 * n) := by
  have := h.2.1.get hn.1 (t := (8, 3, 21, 2, 0)) (by decide) (fun z => absurd z.1 (by decide))
  simp only [rc, rg, Nat.one_mul, Nat.add_zero] at this
  exact this
theorem REL.s_c0 {E : Nat → Nat → Prop} {X : xS → xS → Prop} {N : xN} {S R : xS} (h : REL E X N S R) {n : Nat} (hn : inN n N) {v w : Int32} (e : v = w) : REL E X N (sI S n 8 3 v) (sI R 0 21 (2 * n) w) := by
  obtain ⟨h0, h1, h2, h3⟩ := h
  have hn1 := hn.1
  have h4 := h1.set (n := n) hn (t := (8, 3, 21, 2, 0)) (v := v) (w := w) (by decide) (by decide) e
  simp only [Nat.one_mul, Nat.add_zero] at h4
  exact ⟨h0, h4, (h2.cI n 8 3 v).rI 21 _ w (by decide), by rw [vS_sI (by omega), vR_sI (by decide)]; exact h3⟩
theorem REL.g_c1 {E : Nat → Nat → Prop} {X : xS → xS → Prop} {N : xN} {S R : xS} (h : REL E X N S R) {n : Nat} (hn : inN n N) : xI S n 8 4 = xI R 0 21 (2 * n + 1) := by
  have := h.2.1.get hn.1 (t := (8, 4, 21, 2, 1)) (by decide) (fun z => absurd z.1 (by decide))
  simp only [rc, rg, Nat.one_mul, Nat.add_zero] at this
  exact this
theorem REL.s_c1 {E : Nat → Nat → Prop} {X : xS → xS → Prop} {N : xN} {S R : xS} (h : REL E X N S R) {n : Nat} (hn : inN n N) {v w : Int32} (e : v = w) : REL E X N (sI S n 8 4 v) (sI R 0 21 (2 * n + 1) w) := by
  obtain ⟨h0, h1, h2, h3⟩ := h
  have hn1 := hn.1
  have h4 := h1.set (n := n) hn (t := (8, 4, 21, 2, 1)) (v := v) (w := w) (by decide) (by decide) e
  simp only [Nat.one_mul, Nat.add_zero] at h4
  exact ⟨h0, h4, (h2.cI n 8 4 v).rI 21 _ w (by decide), by rw [vS_sI (by omega), vR_sI (by decide)]; exact h3⟩
theorem REL.g_tim {E : Nat → Nat → Prop} {X : xS → xS → Prop} {N : xN} {S R : xS} (h : REL E X N S R) {n : Nat} (hn : inN n N) : xI S n 8 2 = xI R 0 30 (n) := by
  have := h.2.1.get hn.1 (t := (8, 2, 30, 1, 0)) (by decide) (fun z => absurd z.1 (by decide))
  simp only [rc, rg, Nat.one_mul, Nat.add_zero] at this
  exact this.1
theorem REL.w_tim {E : Nat → Nat → Prop} {X : xS → xS → Prop} {N : xN} {S R : xS} (h : REL E X N S R) {n : Nat} (hn : inN n N) : ∃ k, k ≤ 64 ∧ xI R 0 30 (n) = nI k := by
  have := h.2.1.get hn.1 (t := (8, 2, 30, 1, 0)) (by decide) (fun z => absurd z.1 (by decide))
  simp only [rc, rg, Nat.one_mul, Nat.add_zero] at this
  exact this.2
theorem REL.s_tim {E : Nat → Nat → Prop} {X : xS → xS → Prop} {N : xN} {S R : xS} (h : REL E X N S R) {n : Nat} (hn : inN n N) {v w : Int32} (e : v = w) (hw : ∃ k, k ≤ 64 ∧ w = nI k) : REL E X N (sI S n 8 2 v) (sI R 0 30 (n) w) := by
  obtain ⟨h0, h1, h2, h3⟩ := h
  have hn1 := hn.1
  have h4 := h1.set (n := n) hn (t := (8, 2, 30, 1, 0)) (v := v) (w := w) (by decide) (by decide) ⟨e, hw⟩
  simp only [Nat.one_mul, Nat.add_zero] at h4
  exact ⟨h0, h4, (h2.cI n 8 2 v).rI 30 _ w (by decide), by rw [vS_sI (by omega), vR_sI (by decide)]; exact h3⟩
theorem REL.g_oA {E : Nat → Nat → Prop} {X : xS → xS → Prop} {N : xN} {S R : xS} (h : REL E X N S R) {n : Nat} (hn : inN n N) : xI S n 5 0 = xI R 0 23 (n) := by
  have := h.2.1.get hn.1 (t := (5, 0, 23, 1, 0)) (by decide) (fun z => absurd z.1 (by decide))
  simp only [rc, rg, Nat.one_mul, Nat.add_zero] at this
  exact this.1
theorem REL.w_oA {E : Nat → Nat → Prop} {X : xS → xS → Prop} {N : xN} {S R : xS} (h : REL E X N S R) {n : Nat} (hn : inN n N) : xI R 0 23 (n) &&& 65535 = xI R 0 23 (n) := by
  have := h.2.1.get hn.1 (t := (5, 0, 23, 1, 0)) (by decide) (fun z => absurd z.1 (by decide))
  simp only [rc, rg, Nat.one_mul, Nat.add_zero] at this
  exact this.2
theorem REL.s_oA {E : Nat → Nat → Prop} {X : xS → xS → Prop} {N : xN} {S R : xS} (h : REL E X N S R) {n : Nat} (hn : inN n N) {v w : Int32} (e : v = w) (hw : w &&& 65535 = w) : REL E X N (sI S n 5 0 v) (sI R 0 23 (n) w) := by
  obtain ⟨h0, h1, h2, h3⟩ := h
  have hn1 := hn.1
  have h4 := h1.set (n := n) hn (t := (5, 0, 23, 1, 0)) (v := v) (w := w) (by decide) (by decide) ⟨e, hw⟩
  simp only [Nat.one_mul, Nat.add_zero] at h4
  exact ⟨h0, h4, (h2.cI n 5 0 v).rI 23 _ w (by decide), by rw [vS_sI (by omega), vR_sI (by decide)]; exact h3⟩
theorem REL.g_oB {E : Nat → Nat → Prop} {X : xS → xS → Prop} {N : xN} {S R : xS} (h : REL E X N S R) {n : Nat} (hn : inN n N) : xI S n 5 1 = xI R 0 24 (n) := by
  have := h.2.1.get hn.1 (t := (5, 1, 24, 1, 0)) (by decide) (fun z => absurd z.1 (by decide))
  simp only [rc, rg, Nat.one_mul, Nat.add_zero] at this
  exact this.1
theorem REL.w_oB {E : Nat → Nat → Prop} {X : xS → xS → Prop} {N : xN} {S R : xS} (h : REL E X N S R) {n : Nat} (hn : inN n N) : xI R 0 24 (n) &&& 65535 = xI R 0 24 (n) := by
  have := h.2.1.get hn.1 (t := (5, 1, 24, 1, 0)) (by decide) (fun z => absurd z.1 (by decide))
  simp only [rc, rg, Nat.one_mul, Nat.add_zero] at this
  exact this.2
theorem REL.s_oB {E : Nat → Nat → Prop} {X : xS → xS → Prop} {N : xN} {S R : xS} (h : REL E X N S R) {n : Nat} (hn : inN n N) {v w : Int32} (e : v = w) (hw : w &&& 65535 = w) : REL E X N (sI S n 5 1 v) (sI R 0 24 (n) w) := by
  obtain ⟨h0, h1, h2, h3⟩ := h
  have hn1 := hn.1
  have h4 := h1.set (n := n) hn (t := (5, 1, 24, 1, 0)) (v := v) (w := w) (by decide) (by decide) ⟨e, hw⟩
  simp only [Nat.one_mul, Nat.add_zero] at h4
  exact ⟨h0, h4, (h2.cI n 5 1 v).rI 24 _ w (by decide), by rw [vS_sI (by omega), vR_sI (by decide)]; exact h3⟩
theorem REL.g_oC {E : Nat → Nat → Prop} {X : xS → xS → Prop} {N : xN} {S R : xS} (h : REL E X N S R) {n : Nat} (hn : inN n N) : xI S n 5 2 = xI R 0 25 (n) := by
  have := h.2.1.get hn.1 (t := (5, 2, 25, 1, 0)) (by decide) (fun z => absurd z.1 (by decide))
  simp only [rc, rg, Nat.one_mul, Nat.add_zero] at this
  exact this.1
theorem REL.w_oC {E : Nat → Nat → Prop} {X : xS → xS → Prop} {N : xN} {S R : xS} (h : REL E X N S R) {n : Nat} (hn : inN n N) : xI R 0 25 (n) &&& 65535 = xI R 0 25 (n) := by
  have := h.2.1.get hn.1 (t := (5, 2, 25, 1, 0)) (by decide) (fun z => absurd z.1 (by decide))
  simp only [rc, rg, Nat.one_mul, Nat.add_zero] at this
  exact this.2
theorem REL.s_oC {E : Nat → Nat → Prop} {X : xS → xS → Prop} {N : xN} {S R : xS} (h : REL E X N S R) {n : Nat} (hn : inN n N) {v w : Int32} (e : v = w) (hw : w &&& 65535 = w) : REL E X N (sI S n 5 2 v) (sI R 0 25 (n) w) := by
  obtain ⟨h0, h1, h2, h3⟩ := h
  have hn1 := hn.1
  have h4 := h1.set (n := n) hn (t := (5, 2, 25, 1, 0)) (v := v) (w := w) (by decide) (by decide) ⟨e, hw⟩
  simp only [Nat.one_mul, Nat.add_zero] at h4
  exact ⟨h0, h4, (h2.cI n 5 2 v).rI 25 _ w (by decide), by rw [vS_sI (by omega), vR_sI (by decide)]; exact h3⟩
theorem REL.g_oO {E : Nat → Nat → Prop} {X : xS → xS → Prop} {N : xN} {S R : xS} (h : REL E X N S R) {n : Nat} (hn : inN n N) : xI S n 5 3 = xI R 0 26 (n) := by
  have := h.2.1.get hn.1 (t := (5, 3, 26, 1, 0)) (by decide) (fun z => absurd z.1 (by decide))
  simp only [rc, rg, Nat.one_mul, Nat.add_zero] at this
  exact this
theorem REL.s_oO {E : Nat → Nat → Prop} {X : xS → xS → Prop} {N : xN} {S R : xS} (h : REL E X N S R) {n : Nat} (hn : inN n N) {v w : Int32} (e : v = w) : REL E X N (sI S n 5 3 v) (sI R 0 26 (n) w) := by
  obtain ⟨h0, h1, h2, h3⟩ := h
  have hn1 := hn.1
  have h4 := h1.set (n := n) hn (t := (5, 3, 26, 1, 0)) (v := v) (w := w) (by decide) (by decide) e
  simp only [Nat.one_mul, Nat.add_zero] at h4
  exact ⟨h0, h4, (h2.cI n 5 3 v).rI 26 _ w (by decide), by rw [vS_sI (by omega), vR_sI (by decide)]; exact h3⟩
theorem REL.g_oI {E : Nat → Nat → Prop} {X : xS → xS → Prop} {N : xN} {S R : xS} (h : REL E X N S R) {n : Nat} (hn : inN n N) : xI S n 5 4 = xI R 0 27 (n) := by
  have := h.2.1.get hn.1 (t := (5, 4, 27, 1, 0)) (by decide) (fun z => absurd z.1 (by decide))
  simp only [rc, rg, Nat.one_mul, Nat.add_zero] at this
  exact this.1
theorem REL.w_oI {E : Nat → Nat → Prop} {X : xS → xS → Prop} {N : xN} {S R : xS} (h : REL E X N S R) {n : Nat} (hn : inN n N) : xI R 0 27 (n) &&& 65535 = xI R 0 27 (n) := by
  have := h.2.1.get hn.1 (t := (5, 4, 27, 1, 0)) (by decide) (fun z => absurd z.1 (by decide))
  simp only [rc, rg, Nat.one_mul, Nat.add_zero] at this
  exact this.2
theorem REL.s_oI {E : Nat → Nat → Prop} {X : xS → xS → Prop} {N : xN} {S R : xS} (h : REL E X N S R) {n : Nat} (hn : inN n N) {v w : Int32} (e : v = w) (hw : w &&& 65535 = w) : REL E X N (sI S n 5 4 v) (sI R 0 27 (n) w) := by
  obtain ⟨h0, h1, h2, h3⟩ := h
  have hn1 := hn.1
  have h4 := h1.set (n := n) hn (t := (5, 4, 27, 1, 0)) (v := v) (w := w) (by decide) (by decide) ⟨e, hw⟩
  simp only [Nat.one_mul, Nat.add_zero] at h4
  exact ⟨h0, h4, (h2.cI n 5 4 v).rI 27 _ w (by decide), by rw [vS_sI (by omega), vR_sI (by decide)]; exact h3⟩
theorem REL.g_oW {E : Nat → Nat → Prop} {X : xS → xS → Prop} {N : xN} {S R : xS} (h : REL E X N S R) {n : Nat} (hn : inN n N) : xI S n 5 5 = xI R 0 28 (n) := by
  have := h.2.1.get hn.1 (t := (5, 5, 28, 1, 0)) (by decide) (fun z => absurd z.1 (by decide))
  simp only [rc, rg, Nat.one_mul, Nat.add_zero] at this
  exact this.1
theorem REL.w_oW {E : Nat → Nat → Prop} {X : xS → xS → Prop} {N : xN} {S R : xS} (h : REL E X N S R) {n : Nat} (hn : inN n N) : xI R 0 28 (n) &&& 65534 = xI R 0 28 (n) := by
  have := h.2.1.get hn.1 (t := (5, 5, 28, 1, 0)) (by decide) (fun z => absurd z.1 (by decide))
  simp only [rc, rg, Nat.one_mul, Nat.add_zero] at this
  exact this.2
theorem REL.s_oW {E : Nat → Nat → Prop} {X : xS → xS → Prop} {N : xN} {S R : xS} (h : REL E X N S R) {n : Nat} (hn : inN n N) {v w : Int32} (e : v = w) (hw : w &&& 65534 = w) : REL E X N (sI S n 5 5 v) (sI R 0 28 (n) w) := by
  obtain ⟨h0, h1, h2, h3⟩ := h
  have hn1 := hn.1
  have h4 := h1.set (n := n) hn (t := (5, 5, 28, 1, 0)) (v := v) (w := w) (by decide) (by decide) ⟨e, hw⟩
  simp only [Nat.one_mul, Nat.add_zero] at h4
  exact ⟨h0, h4, (h2.cI n 5 5 v).rI 28 _ w (by decide), by rw [vS_sI (by omega), vR_sI (by decide)]; exact h3⟩
theorem REL.g_oL {E : Nat → Nat → Prop} {X : xS → xS → Prop} {N : xN} {S R : xS} (h : REL E X N S R) {n : Nat} (hn : inN n N) : xI S n 5 7 = xI R 0 29 (n) := by
  have := h.2.1.get hn.1 (t := (5, 7, 29, 1, 0)) (by decide) (fun z => absurd z.1 (by decide))
  simp only [rc, rg, Nat.one_mul, Nat.add_zero] at this
  exact this
theorem REL.s_oL {E : Nat → Nat → Prop} {X : xS → xS → Prop} {N : xN} {S R : xS} (h : REL E X N S R) {n : Nat} (hn : inN n N) {v w : Int32} (e : v = w) : REL E X N (sI S n 5 7 v) (sI R 0 29 (n) w) := by
  obtain ⟨h0, h1, h2, h3⟩ := h
  have hn1 := hn.1
  have h4 := h1.set (n := n) hn (t := (5, 7, 29, 1, 0)) (v := v) (w := w) (by decide) (by decide) e
  simp only [Nat.one_mul, Nat.add_zero] at h4
  exact ⟨h0, h4, (h2.cI n 5 7 v).rI 29 _ w (by decide), by rw [vS_sI (by omega), vR_sI (by decide)]; exact h3⟩
theorem REL.g_shelf {E : Nat → Nat → Prop} {X : xS → xS → Prop} {N : xN} {S R : xS} (h : REL E X N S R) {n : Nat} (hn : inN n N) : (xI S n 5 6 = 1 ∧ xI R 0 22 (n) = 1) ∨ (xI S n 5 6 = 2 ∧ xI R 0 22 (n) = 0) := by
  have := h.2.1.get hn.1 (t := (5, 6, 22, 1, 0)) (by decide) (fun z => absurd z.1 (by decide))
  simpa [rc, rg] using this
theorem REL.s_shelf {E : Nat → Nat → Prop} {X : xS → xS → Prop} {N : xN} {S R : xS} (h : REL E X N S R) {n : Nat} (hn : inN n N) {v w : Int32} (e : (v = 1 ∧ w = 1) ∨ (v = 2 ∧ w = 0)) : REL E X N (sI S n 5 6 v) (sI R 0 22 (n) w) := by
  obtain ⟨h0, h1, h2, h3⟩ := h
  have hn1 := hn.1
  have h4 := h1.set (n := n) hn (t := (5, 6, 22, 1, 0)) (v := v) (w := w) (by decide) (by decide) e
  refine ⟨h0, by simpa using h4, (h2.cI n 5 6 v).rI 22 _ w (by decide), by rw [vS_sI (by omega), vR_sI (by decide)]; exact h3⟩
/-- nothing is left out where what was left out agrees -/
theorem REL.full {E : Nat → Nat → Prop} {X : xS → xS → Prop} {N : xN} {S R : xS} (h : REL E X N S R) {n : Nat} (hE : ∀ m k, k ≤ 3 → E m k → m = n ∧ k < 3) (hA : xI S n 4 0 = xI R 0 5 n ∧ xI R 0 5 n &&& 65535 = xI R 0 5 n) (hB : xI S n 4 1 = xI R 0 6 n ∧ xI R 0 6 n &&& 65535 = xI R 0 6 n) (hC : xI S n 4 2 = xI R 0 7 n ∧ xI R 0 7 n &&& 65535 = xI R 0 7 n) : REL E0 X N S R := by
  refine ⟨h.1, ⟨h.2.1.1, fun m hm t ht => ?_, h.2.1.2.2⟩, h.2.2⟩
  rcases h.2.1.2.1 m hm t ht with z | z
  · obtain ⟨z1, z2, z3⟩ := z
    obtain ⟨e1, e2⟩ := hE _ _ z2 z3
    subst e1
    refine Or.inr ?_
    rcases (show t.2.1 = 0 ∨ t.2.1 = 1 ∨ t.2.1 = 2 by omega) with e | e | e
    · have := (tB_eq ht (u := (4, 0, 5, 1, 0)) (by decide)).1 ⟨z1, e⟩
      subst this; simpa [rc, rg] using hA
    · have := (tB_eq ht (u := (4, 1, 6, 1, 0)) (by decide)).1 ⟨z1, e⟩
      subst this; simpa [rc, rg] using hB
    · have := (tB_eq ht (u := (4, 2, 7, 1, 0)) (by decide)).1 ⟨z1, e⟩
      subst this; simpa [rc, rg] using hC
  · exact Or.inr z
