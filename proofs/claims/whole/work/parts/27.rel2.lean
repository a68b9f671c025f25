/-! the relation, for any rest X over the view; the processor's own ints and its memory -/
def REL (X : xS → xS → Prop) (N : Nat) (S R : xS) : Prop := N ≤ 8 ∧ RS N S R ∧ RM N S R ∧ X (vS S) (vR R)
theorem REL.pw {X : xS → xS → Prop} {N : Nat} {S R : xS} (h : REL X N S R) {n : Nat} (hn : n < N) {a a' v v' : Int32} (e : a = a') (e2 : v = v') : REL X N (cPw S n a v) (rPw R n a' v') := by
  subst e; subst e2
  obtain ⟨h0, h1, h2, h3⟩ := h
  refine ⟨h0, ?_, ?_, by rw [vS_cPw (by omega), vR_rPw]; exact h3⟩
  · unfold cPw rPw
    by_cases e : inM (adw a)
    · rw [if_pos e, if_pos e]; exact ((h1.cSW n 3 _ v).rSB n _ v).rSB n _ _
    · rw [if_neg e, if_neg e]; exact h1.s_bey 1
  · unfold cPw rPw
    by_cases e : inM (adw a)
    · have h4 : adw a % 2 = 0 := by unfold adw; omega
      rw [if_pos e, if_pos e]; exact h2.pw n _ v (by omega) (by omega)
    · rw [if_neg e, if_neg e]; exact (h2.cI n 2 1 1).rI 18 n 1 (by decide)
theorem REL.pb {X : xS → xS → Prop} {N : Nat} {S R : xS} (h : REL X N S R) {n : Nat} (hn : n < N) {a a' v v' : Int32} (e : a = a') (e2 : v = v') : REL X N (cPb S n a v) (rPb R n a' v') := by
  subst e; subst e2
  obtain ⟨h0, h1, h2, h3⟩ := h
  refine ⟨h0, ?_, ?_, by rw [vS_cPb (by omega), vR_rPb]; exact h3⟩
  · unfold cPb rPb
    by_cases e : inM (adr a)
    · rw [if_pos e, if_pos e]; exact (h1.cSB n 3 _ v).rSB n _ v
    · rw [if_neg e, if_neg e]; exact h1.s_bey 1
  · unfold cPb rPb
    by_cases e : inM (adr a)
    · rw [if_pos e, if_pos e]; exact h2.pb n _ v (by omega)
    · rw [if_neg e, if_neg e]; exact (h2.cI n 2 1 1).rI 18 n 1 (by decide)
theorem REL.tw {X : xS → xS → Prop} {N : Nat} {S R : xS} (h : REL X N S R) {n : Nat} (hn : n < N) {a a' : Int32} (e : a = a') : REL X N (cTw S n a) (rUw R n a') := by
  subst e
  obtain ⟨h0, h1, h2, h3⟩ := h
  refine ⟨h0, ?_, ?_, by rw [vS_cTw (by omega), vR_rUw]; exact h3⟩
  · unfold cTw rUw
    by_cases e : inM (adw a)
    · rw [if_pos e, if_pos e]; exact h1
    · rw [if_neg e, if_neg e]; exact h1.s_bey 1
  · unfold cTw rUw
    by_cases e : inM (adw a)
    · rw [if_pos e, if_pos e]; exact h2
    · rw [if_neg e, if_neg e]; exact (h2.cI n 2 1 1).rI 18 n 1 (by decide)
theorem REL.tb {X : xS → xS → Prop} {N : Nat} {S R : xS} (h : REL X N S R) {n : Nat} (hn : n < N) {a a' : Int32} (e : a = a') : REL X N (cTb S n a) (rUb R n a') := by
  subst e
  obtain ⟨h0, h1, h2, h3⟩ := h
  refine ⟨h0, ?_, ?_, by rw [vS_cTb (by omega), vR_rUb]; exact h3⟩
  · unfold cTb rUb
    by_cases e : inM (adr a)
    · rw [if_pos e, if_pos e]; exact h1
    · rw [if_neg e, if_neg e]; exact h1.s_bey 1
  · unfold cTb rUb
    by_cases e : inM (adr a)
    · rw [if_pos e, if_pos e]; exact h2
    · rw [if_neg e, if_neg e]; exact (h2.cI n 2 1 1).rI 18 n 1 (by decide)
theorem REL.gw {X : xS → xS → Prop} {N : Nat} {S R : xS} (h : REL X N S R) {n : Nat} (hn : n < N) {a a' : Int32} (e : a = a') : cGw S n a = rGw R n a' := by subst e; exact gw_eq h.2.2.1 hn a
theorem REL.gb {X : xS → xS → Prop} {N : Nat} {S R : xS} (h : REL X N S R) {n : Nat} (hn : n < N) {a a' : Int32} (e : a = a') : cGb S n a = rGb R n a' := by subst e; exact gb_eq h.2.2.1 hn a
theorem REL.g_A {X : xS → xS → Prop} {N : Nat} {S R : xS} (h : REL X N S R) {n : Nat} (hn : n < N) : xI S n 4 0 = xI R 0 5 (n) := h.2.1.g_A hn
theorem REL.s_A {X : xS → xS → Prop} {N : Nat} {S R : xS} (h : REL X N S R) {n : Nat} (hn : n < N) {v w : Int32} (e : v = w) : REL X N (sI S n 4 0 v) (sI R 0 5 (n) w) := by
  subst e
  obtain ⟨h0, h1, h2, h3⟩ := h
  exact ⟨h0, h1.s_A v, (h2.cI n 4 0 v).rI 5 _ v (by decide), by rw [vS_sI (by omega), vR_sI (by decide)]; exact h3⟩
theorem REL.g_B {X : xS → xS → Prop} {N : Nat} {S R : xS} (h : REL X N S R) {n : Nat} (hn : n < N) : xI S n 4 1 = xI R 0 6 (n) := h.2.1.g_B hn
theorem REL.s_B {X : xS → xS → Prop} {N : Nat} {S R : xS} (h : REL X N S R) {n : Nat} (hn : n < N) {v w : Int32} (e : v = w) : REL X N (sI S n 4 1 v) (sI R 0 6 (n) w) := by
  subst e
  obtain ⟨h0, h1, h2, h3⟩ := h
  exact ⟨h0, h1.s_B v, (h2.cI n 4 1 v).rI 6 _ v (by decide), by rw [vS_sI (by omega), vR_sI (by decide)]; exact h3⟩
theorem REL.g_C {X : xS → xS → Prop} {N : Nat} {S R : xS} (h : REL X N S R) {n : Nat} (hn : n < N) : xI S n 4 2 = xI R 0 7 (n) := h.2.1.g_C hn
theorem REL.s_C {X : xS → xS → Prop} {N : Nat} {S R : xS} (h : REL X N S R) {n : Nat} (hn : n < N) {v w : Int32} (e : v = w) : REL X N (sI S n 4 2 v) (sI R 0 7 (n) w) := by
  subst e
  obtain ⟨h0, h1, h2, h3⟩ := h
  exact ⟨h0, h1.s_C v, (h2.cI n 4 2 v).rI 7 _ v (by decide), by rw [vS_sI (by omega), vR_sI (by decide)]; exact h3⟩
theorem REL.g_O {X : xS → xS → Prop} {N : Nat} {S R : xS} (h : REL X N S R) {n : Nat} (hn : n < N) : xI S n 4 3 = xI R 0 8 (n) := h.2.1.g_O hn
theorem REL.s_O {X : xS → xS → Prop} {N : Nat} {S R : xS} (h : REL X N S R) {n : Nat} (hn : n < N) {v w : Int32} (e : v = w) : REL X N (sI S n 4 3 v) (sI R 0 8 (n) w) := by
  subst e
  obtain ⟨h0, h1, h2, h3⟩ := h
  exact ⟨h0, h1.s_O v, (h2.cI n 4 3 v).rI 8 _ v (by decide), by rw [vS_sI (by omega), vR_sI (by decide)]; exact h3⟩
theorem REL.g_I {X : xS → xS → Prop} {N : Nat} {S R : xS} (h : REL X N S R) {n : Nat} (hn : n < N) : xI S n 4 4 = xI R 0 9 (n) := h.2.1.g_I hn
theorem REL.s_I {X : xS → xS → Prop} {N : Nat} {S R : xS} (h : REL X N S R) {n : Nat} (hn : n < N) {v w : Int32} (e : v = w) : REL X N (sI S n 4 4 v) (sI R 0 9 (n) w) := by
  subst e
  obtain ⟨h0, h1, h2, h3⟩ := h
  exact ⟨h0, h1.s_I v, (h2.cI n 4 4 v).rI 9 _ v (by decide), by rw [vS_sI (by omega), vR_sI (by decide)]; exact h3⟩
theorem REL.g_W {X : xS → xS → Prop} {N : Nat} {S R : xS} (h : REL X N S R) {n : Nat} (hn : n < N) : xI S n 4 5 = xI R 0 10 (n) := h.2.1.g_W hn
theorem REL.s_W {X : xS → xS → Prop} {N : Nat} {S R : xS} (h : REL X N S R) {n : Nat} (hn : n < N) {v w : Int32} (e : v = w) : REL X N (sI S n 4 5 v) (sI R 0 10 (n) w) := by
  subst e
  obtain ⟨h0, h1, h2, h3⟩ := h
  exact ⟨h0, h1.s_W v, (h2.cI n 4 5 v).rI 10 _ v (by decide), by rw [vS_sI (by omega), vR_sI (by decide)]; exact h3⟩
theorem REL.g_P {X : xS → xS → Prop} {N : Nat} {S R : xS} (h : REL X N S R) {n : Nat} (hn : n < N) : xI S n 4 6 = xI R 0 11 (n) := h.2.1.g_P hn
theorem REL.s_P {X : xS → xS → Prop} {N : Nat} {S R : xS} (h : REL X N S R) {n : Nat} (hn : n < N) {v w : Int32} (e : v = w) : REL X N (sI S n 4 6 v) (sI R 0 11 (n) w) := by
  subst e
  obtain ⟨h0, h1, h2, h3⟩ := h
  exact ⟨h0, h1.s_P v, (h2.cI n 4 6 v).rI 11 _ v (by decide), by rw [vS_sI (by omega), vR_sI (by decide)]; exact h3⟩
theorem REL.g_L {X : xS → xS → Prop} {N : Nat} {S R : xS} (h : REL X N S R) {n : Nat} (hn : n < N) : xI S n 4 7 = xI R 0 12 (n) := h.2.1.g_L hn
theorem REL.s_L {X : xS → xS → Prop} {N : Nat} {S R : xS} (h : REL X N S R) {n : Nat} (hn : n < N) {v w : Int32} (e : v = w) : REL X N (sI S n 4 7 v) (sI R 0 12 (n) w) := by
  subst e
  obtain ⟨h0, h1, h2, h3⟩ := h
  exact ⟨h0, h1.s_L v, (h2.cI n 4 7 v).rI 12 _ v (by decide), by rw [vS_sI (by omega), vR_sI (by decide)]; exact h3⟩
theorem REL.g_out {X : xS → xS → Prop} {N : Nat} {S R : xS} (h : REL X N S R) {n : Nat} (hn : n < N) : xI S n 1 8 = xI R 0 13 (n) := h.2.1.g_out hn
theorem REL.s_out {X : xS → xS → Prop} {N : Nat} {S R : xS} (h : REL X N S R) {n : Nat} (hn : n < N) {v w : Int32} (e : v = w) : REL X N (sI S n 1 8 v) (sI R 0 13 (n) w) := by
  subst e
  obtain ⟨h0, h1, h2, h3⟩ := h
  exact ⟨h0, h1.s_out v, (h2.cI n 1 8 v).rI 13 _ v (by decide), by rw [vS_sI (by omega), vR_sI (by decide)]; exact h3⟩
theorem REL.g_busy {X : xS → xS → Prop} {N : Nat} {S R : xS} (h : REL X N S R) {n : Nat} (hn : n < N) : xI S n 1 9 = xI R 0 14 (n) := h.2.1.g_busy hn
theorem REL.s_busy {X : xS → xS → Prop} {N : Nat} {S R : xS} (h : REL X N S R) {n : Nat} (hn : n < N) {v w : Int32} (e : v = w) : REL X N (sI S n 1 9 v) (sI R 0 14 (n) w) := by
  subst e
  obtain ⟨h0, h1, h2, h3⟩ := h
  exact ⟨h0, h1.s_busy v, (h2.cI n 1 9 v).rI 14 _ v (by decide), by rw [vS_sI (by omega), vR_sI (by decide)]; exact h3⟩
theorem REL.g_exe {X : xS → xS → Prop} {N : Nat} {S R : xS} (h : REL X N S R) {n : Nat} (hn : n < N) : xI S n 1 10 = xI R 0 15 (n) := h.2.1.g_exe hn
theorem REL.s_exe {X : xS → xS → Prop} {N : Nat} {S R : xS} (h : REL X N S R) {n : Nat} (hn : n < N) {v w : Int32} (e : v = w) : REL X N (sI S n 1 10 v) (sI R 0 15 (n) w) := by
  subst e
  obtain ⟨h0, h1, h2, h3⟩ := h
  exact ⟨h0, h1.s_exe v, (h2.cI n 1 10 v).rI 15 _ v (by decide), by rw [vS_sI (by omega), vR_sI (by decide)]; exact h3⟩
theorem REL.g_err {X : xS → xS → Prop} {N : Nat} {S R : xS} (h : REL X N S R) {n : Nat} (hn : n < N) : xI S n 1 6 = xI R 0 16 (n) := h.2.1.g_err hn
theorem REL.s_err {X : xS → xS → Prop} {N : Nat} {S R : xS} (h : REL X N S R) {n : Nat} (hn : n < N) {v w : Int32} (e : v = w) : REL X N (sI S n 1 6 v) (sI R 0 16 (n) w) := by
  subst e
  obtain ⟨h0, h1, h2, h3⟩ := h
  exact ⟨h0, h1.s_err v, (h2.cI n 1 6 v).rI 16 _ v (by decide), by rw [vS_sI (by omega), vR_sI (by decide)]; exact h3⟩
theorem REL.g_halt {X : xS → xS → Prop} {N : Nat} {S R : xS} (h : REL X N S R) {n : Nat} (hn : n < N) : xI S n 1 7 = xI R 0 17 (n) := h.2.1.g_halt hn
theorem REL.s_halt {X : xS → xS → Prop} {N : Nat} {S R : xS} (h : REL X N S R) {n : Nat} (hn : n < N) {v w : Int32} (e : v = w) : REL X N (sI S n 1 7 v) (sI R 0 17 (n) w) := by
  subst e
  obtain ⟨h0, h1, h2, h3⟩ := h
  exact ⟨h0, h1.s_halt v, (h2.cI n 1 7 v).rI 17 _ v (by decide), by rw [vS_sI (by omega), vR_sI (by decide)]; exact h3⟩
theorem REL.g_bey {X : xS → xS → Prop} {N : Nat} {S R : xS} (h : REL X N S R) {n : Nat} (hn : n < N) : xI S n 2 1 = xI R 0 18 (n) := h.2.1.g_bey hn
theorem REL.s_bey {X : xS → xS → Prop} {N : Nat} {S R : xS} (h : REL X N S R) {n : Nat} (hn : n < N) {v w : Int32} (e : v = w) : REL X N (sI S n 2 1 v) (sI R 0 18 (n) w) := by
  subst e
  obtain ⟨h0, h1, h2, h3⟩ := h
  exact ⟨h0, h1.s_bey v, (h2.cI n 2 1 v).rI 18 _ v (by decide), by rw [vS_sI (by omega), vR_sI (by decide)]; exact h3⟩
theorem REL.g_f0 {X : xS → xS → Prop} {N : Nat} {S R : xS} (h : REL X N S R) {n : Nat} (hn : n < N) : xI S n 6 0 = xI R 0 19 (2 * n) := h.2.1.g_f0 hn
theorem REL.s_f0 {X : xS → xS → Prop} {N : Nat} {S R : xS} (h : REL X N S R) {n : Nat} (hn : n < N) {v w : Int32} (e : v = w) : REL X N (sI S n 6 0 v) (sI R 0 19 (2 * n) w) := by
  subst e
  obtain ⟨h0, h1, h2, h3⟩ := h
  exact ⟨h0, h1.s_f0 v, (h2.cI n 6 0 v).rI 19 _ v (by decide), by rw [vS_sI (by omega), vR_sI (by decide)]; exact h3⟩
theorem REL.g_f1 {X : xS → xS → Prop} {N : Nat} {S R : xS} (h : REL X N S R) {n : Nat} (hn : n < N) : xI S n 7 0 = xI R 0 19 (2 * n + 1) := h.2.1.g_f1 hn
theorem REL.s_f1 {X : xS → xS → Prop} {N : Nat} {S R : xS} (h : REL X N S R) {n : Nat} (hn : n < N) {v w : Int32} (e : v = w) : REL X N (sI S n 7 0 v) (sI R 0 19 (2 * n + 1) w) := by
  subst e
  obtain ⟨h0, h1, h2, h3⟩ := h
  exact ⟨h0, h1.s_f1 v, (h2.cI n 7 0 v).rI 19 _ v (by decide), by rw [vS_sI (by omega), vR_sI (by decide)]; exact h3⟩
theorem REL.g_b0 {X : xS → xS → Prop} {N : Nat} {S R : xS} (h : REL X N S R) {n : Nat} (hn : n < N) : xI S n 6 1 = xI R 0 20 (2 * n) := h.2.1.g_b0 hn
theorem REL.s_b0 {X : xS → xS → Prop} {N : Nat} {S R : xS} (h : REL X N S R) {n : Nat} (hn : n < N) {v w : Int32} (e : v = w) : REL X N (sI S n 6 1 v) (sI R 0 20 (2 * n) w) := by
  subst e
  obtain ⟨h0, h1, h2, h3⟩ := h
  exact ⟨h0, h1.s_b0 v, (h2.cI n 6 1 v).rI 20 _ v (by decide), by rw [vS_sI (by omega), vR_sI (by decide)]; exact h3⟩
theorem REL.g_b1 {X : xS → xS → Prop} {N : Nat} {S R : xS} (h : REL X N S R) {n : Nat} (hn : n < N) : xI S n 7 1 = xI R 0 20 (2 * n + 1) := h.2.1.g_b1 hn
theorem REL.s_b1 {X : xS → xS → Prop} {N : Nat} {S R : xS} (h : REL X N S R) {n : Nat} (hn : n < N) {v w : Int32} (e : v = w) : REL X N (sI S n 7 1 v) (sI R 0 20 (2 * n + 1) w) := by
  subst e
  obtain ⟨h0, h1, h2, h3⟩ := h
  exact ⟨h0, h1.s_b1 v, (h2.cI n 7 1 v).rI 20 _ v (by decide), by rw [vS_sI (by omega), vR_sI (by decide)]; exact h3⟩
theorem REL.g_c0 {X : xS → xS → Prop} {N : Nat} {S R : xS} (h : REL X N S R) {n : Nat} (hn : n < N) : xI S n 8 3 = xI R 0 21 (2 * n) := h.2.1.g_c0 hn
theorem REL.s_c0 {X : xS → xS → Prop} {N : Nat} {S R : xS} (h : REL X N S R) {n : Nat} (hn : n < N) {v w : Int32} (e : v = w) : REL X N (sI S n 8 3 v) (sI R 0 21 (2 * n) w) := by
  subst e
  obtain ⟨h0, h1, h2, h3⟩ := h
  exact ⟨h0, h1.s_c0 v, (h2.cI n 8 3 v).rI 21 _ v (by decide), by rw [vS_sI (by omega), vR_sI (by decide)]; exact h3⟩
theorem REL.g_c1 {X : xS → xS → Prop} {N : Nat} {S R : xS} (h : REL X N S R) {n : Nat} (hn : n < N) : xI S n 8 4 = xI R 0 21 (2 * n + 1) := h.2.1.g_c1 hn
theorem REL.s_c1 {X : xS → xS → Prop} {N : Nat} {S R : xS} (h : REL X N S R) {n : Nat} (hn : n < N) {v w : Int32} (e : v = w) : REL X N (sI S n 8 4 v) (sI R 0 21 (2 * n + 1) w) := by
  subst e
  obtain ⟨h0, h1, h2, h3⟩ := h
  exact ⟨h0, h1.s_c1 v, (h2.cI n 8 4 v).rI 21 _ v (by decide), by rw [vS_sI (by omega), vR_sI (by decide)]; exact h3⟩
theorem REL.g_tim {X : xS → xS → Prop} {N : Nat} {S R : xS} (h : REL X N S R) {n : Nat} (hn : n < N) : xI S n 8 2 = xI R 0 30 (n) := h.2.1.g_tim hn
theorem REL.s_tim {X : xS → xS → Prop} {N : Nat} {S R : xS} (h : REL X N S R) {n : Nat} (hn : n < N) {v w : Int32} (e : v = w) : REL X N (sI S n 8 2 v) (sI R 0 30 (n) w) := by
  subst e
  obtain ⟨h0, h1, h2, h3⟩ := h
  exact ⟨h0, h1.s_tim v, (h2.cI n 8 2 v).rI 30 _ v (by decide), by rw [vS_sI (by omega), vR_sI (by decide)]; exact h3⟩
theorem REL.g_oA {X : xS → xS → Prop} {N : Nat} {S R : xS} (h : REL X N S R) {n : Nat} (hn : n < N) : xI S n 5 0 = xI R 0 23 (n) := h.2.1.g_oA hn
theorem REL.s_oA {X : xS → xS → Prop} {N : Nat} {S R : xS} (h : REL X N S R) {n : Nat} (hn : n < N) {v w : Int32} (e : v = w) : REL X N (sI S n 5 0 v) (sI R 0 23 (n) w) := by
  subst e
  obtain ⟨h0, h1, h2, h3⟩ := h
  exact ⟨h0, h1.s_oA v, (h2.cI n 5 0 v).rI 23 _ v (by decide), by rw [vS_sI (by omega), vR_sI (by decide)]; exact h3⟩
theorem REL.g_oB {X : xS → xS → Prop} {N : Nat} {S R : xS} (h : REL X N S R) {n : Nat} (hn : n < N) : xI S n 5 1 = xI R 0 24 (n) := h.2.1.g_oB hn
theorem REL.s_oB {X : xS → xS → Prop} {N : Nat} {S R : xS} (h : REL X N S R) {n : Nat} (hn : n < N) {v w : Int32} (e : v = w) : REL X N (sI S n 5 1 v) (sI R 0 24 (n) w) := by
  subst e
  obtain ⟨h0, h1, h2, h3⟩ := h
  exact ⟨h0, h1.s_oB v, (h2.cI n 5 1 v).rI 24 _ v (by decide), by rw [vS_sI (by omega), vR_sI (by decide)]; exact h3⟩
theorem REL.g_oC {X : xS → xS → Prop} {N : Nat} {S R : xS} (h : REL X N S R) {n : Nat} (hn : n < N) : xI S n 5 2 = xI R 0 25 (n) := h.2.1.g_oC hn
theorem REL.s_oC {X : xS → xS → Prop} {N : Nat} {S R : xS} (h : REL X N S R) {n : Nat} (hn : n < N) {v w : Int32} (e : v = w) : REL X N (sI S n 5 2 v) (sI R 0 25 (n) w) := by
  subst e
  obtain ⟨h0, h1, h2, h3⟩ := h
  exact ⟨h0, h1.s_oC v, (h2.cI n 5 2 v).rI 25 _ v (by decide), by rw [vS_sI (by omega), vR_sI (by decide)]; exact h3⟩
theorem REL.g_oO {X : xS → xS → Prop} {N : Nat} {S R : xS} (h : REL X N S R) {n : Nat} (hn : n < N) : xI S n 5 3 = xI R 0 26 (n) := h.2.1.g_oO hn
theorem REL.s_oO {X : xS → xS → Prop} {N : Nat} {S R : xS} (h : REL X N S R) {n : Nat} (hn : n < N) {v w : Int32} (e : v = w) : REL X N (sI S n 5 3 v) (sI R 0 26 (n) w) := by
  subst e
  obtain ⟨h0, h1, h2, h3⟩ := h
  exact ⟨h0, h1.s_oO v, (h2.cI n 5 3 v).rI 26 _ v (by decide), by rw [vS_sI (by omega), vR_sI (by decide)]; exact h3⟩
theorem REL.g_oI {X : xS → xS → Prop} {N : Nat} {S R : xS} (h : REL X N S R) {n : Nat} (hn : n < N) : xI S n 5 4 = xI R 0 27 (n) := h.2.1.g_oI hn
theorem REL.s_oI {X : xS → xS → Prop} {N : Nat} {S R : xS} (h : REL X N S R) {n : Nat} (hn : n < N) {v w : Int32} (e : v = w) : REL X N (sI S n 5 4 v) (sI R 0 27 (n) w) := by
  subst e
  obtain ⟨h0, h1, h2, h3⟩ := h
  exact ⟨h0, h1.s_oI v, (h2.cI n 5 4 v).rI 27 _ v (by decide), by rw [vS_sI (by omega), vR_sI (by decide)]; exact h3⟩
theorem REL.g_oW {X : xS → xS → Prop} {N : Nat} {S R : xS} (h : REL X N S R) {n : Nat} (hn : n < N) : xI S n 5 5 = xI R 0 28 (n) := h.2.1.g_oW hn
theorem REL.s_oW {X : xS → xS → Prop} {N : Nat} {S R : xS} (h : REL X N S R) {n : Nat} (hn : n < N) {v w : Int32} (e : v = w) : REL X N (sI S n 5 5 v) (sI R 0 28 (n) w) := by
  subst e
  obtain ⟨h0, h1, h2, h3⟩ := h
  exact ⟨h0, h1.s_oW v, (h2.cI n 5 5 v).rI 28 _ v (by decide), by rw [vS_sI (by omega), vR_sI (by decide)]; exact h3⟩
theorem REL.g_oL {X : xS → xS → Prop} {N : Nat} {S R : xS} (h : REL X N S R) {n : Nat} (hn : n < N) : xI S n 5 7 = xI R 0 29 (n) := h.2.1.g_oL hn
theorem REL.s_oL {X : xS → xS → Prop} {N : Nat} {S R : xS} (h : REL X N S R) {n : Nat} (hn : n < N) {v w : Int32} (e : v = w) : REL X N (sI S n 5 7 v) (sI R 0 29 (n) w) := by
  subst e
  obtain ⟨h0, h1, h2, h3⟩ := h
  exact ⟨h0, h1.s_oL v, (h2.cI n 5 7 v).rI 29 _ v (by decide), by rw [vS_sI (by omega), vR_sI (by decide)]; exact h3⟩
theorem REL.g_boots {X : xS → xS → Prop} {N : Nat} {S R : xS} (h : REL X N S R) {n : Nat} (hn : n < N) : xI S n 0 3 = xI R 0 52 (n) := h.2.1.g_boots hn
theorem REL.g_blink {X : xS → xS → Prop} {N : Nat} {S R : xS} (h : REL X N S R) {n : Nat} (hn : n < N) : xI S n 0 4 = xI R 0 53 (n) := h.2.1.g_blink hn
theorem REL.g_bcom {X : xS → xS → Prop} {N : Nat} {S R : xS} (h : REL X N S R) {n : Nat} (hn : n < N) : xI S n 0 5 = xI R 0 54 (n) := h.2.1.g_bcom hn
theorem REL.g_pbits0 {X : xS → xS → Prop} {N : Nat} {S R : xS} (h : REL X N S R) {n : Nat} (hn : n < N) : xI S n 16 3 = xI R 0 36 (4 * n) := h.2.1.g_pbits0 hn
theorem REL.g_pput0 {X : xS → xS → Prop} {N : Nat} {S R : xS} (h : REL X N S R) {n : Nat} (hn : n < N) : xI S n 16 4 = xI R 0 37 (4 * n) := h.2.1.g_pput0 hn
theorem REL.g_bit0 {X : xS → xS → Prop} {N : Nat} {S R : xS} (h : REL X N S R) {n : Nat} (hn : n < N) : xI S n 16 5 = xI R 0 34 (4 * n) := h.2.1.g_bit0 hn
theorem REL.g_owed0 {X : xS → xS → Prop} {N : Nat} {S R : xS} (h : REL X N S R) {n : Nat} (hn : n < N) : xI S n 16 6 = xI R 0 40 (4 * n) := h.2.1.g_owed0 hn
theorem REL.g_fly0 {X : xS → xS → Prop} {N : Nat} {S R : xS} (h : REL X N S R) {n : Nat} (hn : n < N) : xI S n 16 7 = xI R 0 41 (4 * n) := h.2.1.g_fly0 hn
theorem REL.g_rmany0 {X : xS → xS → Prop} {N : Nat} {S R : xS} (h : REL X N S R) {n : Nat} (hn : n < N) : xI S n 16 8 = xI R 0 38 (4 * n) := h.2.1.g_rmany0 hn
theorem REL.g_rbyte0 {X : xS → xS → Prop} {N : Nat} {S R : xS} (h : REL X N S R) {n : Nat} (hn : n < N) : xI S n 16 9 = xI R 0 39 (4 * n) := h.2.1.g_rbyte0 hn
theorem REL.g_who0 {X : xS → xS → Prop} {N : Nat} {S R : xS} (h : REL X N S R) {n : Nat} (hn : n < N) : xI S n 12 2 = xI R 0 44 (4 * n) := h.2.1.g_who0 hn
theorem REL.g_many0 {X : xS → xS → Prop} {N : Nat} {S R : xS} (h : REL X N S R) {n : Nat} (hn : n < N) : xI S n 12 3 = xI R 0 45 (4 * n) := h.2.1.g_many0 hn
theorem REL.g_inw0 {X : xS → xS → Prop} {N : Nat} {S R : xS} (h : REL X N S R) {n : Nat} (hn : n < N) : xI S n 12 7 = xI R 0 47 (4 * n) := h.2.1.g_inw0 hn
theorem REL.g_inm0 {X : xS → xS → Prop} {N : Nat} {S R : xS} (h : REL X N S R) {n : Nat} (hn : n < N) : xI S n 12 8 = xI R 0 48 (4 * n) := h.2.1.g_inm0 hn
theorem REL.g_kept0 {X : xS → xS → Prop} {N : Nat} {S R : xS} (h : REL X N S R) {n : Nat} (hn : n < N) : xI S n 12 10 = xI R 0 50 (4 * n) := h.2.1.g_kept0 hn
theorem REL.g_grd0 {X : xS → xS → Prop} {N : Nat} {S R : xS} (h : REL X N S R) {n : Nat} (hn : n < N) : xI S n 12 11 = xI R 0 51 (4 * n) := h.2.1.g_grd0 hn
theorem REL.g_pbits1 {X : xS → xS → Prop} {N : Nat} {S R : xS} (h : REL X N S R) {n : Nat} (hn : n < N) : xI S n 17 3 = xI R 0 36 (4 * n + 1) := h.2.1.g_pbits1 hn
theorem REL.g_pput1 {X : xS → xS → Prop} {N : Nat} {S R : xS} (h : REL X N S R) {n : Nat} (hn : n < N) : xI S n 17 4 = xI R 0 37 (4 * n + 1) := h.2.1.g_pput1 hn
theorem REL.g_bit1 {X : xS → xS → Prop} {N : Nat} {S R : xS} (h : REL X N S R) {n : Nat} (hn : n < N) : xI S n 17 5 = xI R 0 34 (4 * n + 1) := h.2.1.g_bit1 hn
theorem REL.g_owed1 {X : xS → xS → Prop} {N : Nat} {S R : xS} (h : REL X N S R) {n : Nat} (hn : n < N) : xI S n 17 6 = xI R 0 40 (4 * n + 1) := h.2.1.g_owed1 hn
theorem REL.g_fly1 {X : xS → xS → Prop} {N : Nat} {S R : xS} (h : REL X N S R) {n : Nat} (hn : n < N) : xI S n 17 7 = xI R 0 41 (4 * n + 1) := h.2.1.g_fly1 hn
theorem REL.g_rmany1 {X : xS → xS → Prop} {N : Nat} {S R : xS} (h : REL X N S R) {n : Nat} (hn : n < N) : xI S n 17 8 = xI R 0 38 (4 * n + 1) := h.2.1.g_rmany1 hn
theorem REL.g_rbyte1 {X : xS → xS → Prop} {N : Nat} {S R : xS} (h : REL X N S R) {n : Nat} (hn : n < N) : xI S n 17 9 = xI R 0 39 (4 * n + 1) := h.2.1.g_rbyte1 hn
theorem REL.g_who1 {X : xS → xS → Prop} {N : Nat} {S R : xS} (h : REL X N S R) {n : Nat} (hn : n < N) : xI S n 13 2 = xI R 0 44 (4 * n + 1) := h.2.1.g_who1 hn
theorem REL.g_many1 {X : xS → xS → Prop} {N : Nat} {S R : xS} (h : REL X N S R) {n : Nat} (hn : n < N) : xI S n 13 3 = xI R 0 45 (4 * n + 1) := h.2.1.g_many1 hn
theorem REL.g_inw1 {X : xS → xS → Prop} {N : Nat} {S R : xS} (h : REL X N S R) {n : Nat} (hn : n < N) : xI S n 13 7 = xI R 0 47 (4 * n + 1) := h.2.1.g_inw1 hn
theorem REL.g_inm1 {X : xS → xS → Prop} {N : Nat} {S R : xS} (h : REL X N S R) {n : Nat} (hn : n < N) : xI S n 13 8 = xI R 0 48 (4 * n + 1) := h.2.1.g_inm1 hn
theorem REL.g_kept1 {X : xS → xS → Prop} {N : Nat} {S R : xS} (h : REL X N S R) {n : Nat} (hn : n < N) : xI S n 13 10 = xI R 0 50 (4 * n + 1) := h.2.1.g_kept1 hn
theorem REL.g_grd1 {X : xS → xS → Prop} {N : Nat} {S R : xS} (h : REL X N S R) {n : Nat} (hn : n < N) : xI S n 13 11 = xI R 0 51 (4 * n + 1) := h.2.1.g_grd1 hn
theorem REL.g_pbits2 {X : xS → xS → Prop} {N : Nat} {S R : xS} (h : REL X N S R) {n : Nat} (hn : n < N) : xI S n 18 3 = xI R 0 36 (4 * n + 2) := h.2.1.g_pbits2 hn
theorem REL.g_pput2 {X : xS → xS → Prop} {N : Nat} {S R : xS} (h : REL X N S R) {n : Nat} (hn : n < N) : xI S n 18 4 = xI R 0 37 (4 * n + 2) := h.2.1.g_pput2 hn
theorem REL.g_bit2 {X : xS → xS → Prop} {N : Nat} {S R : xS} (h : REL X N S R) {n : Nat} (hn : n < N) : xI S n 18 5 = xI R 0 34 (4 * n + 2) := h.2.1.g_bit2 hn
theorem REL.g_owed2 {X : xS → xS → Prop} {N : Nat} {S R : xS} (h : REL X N S R) {n : Nat} (hn : n < N) : xI S n 18 6 = xI R 0 40 (4 * n + 2) := h.2.1.g_owed2 hn
theorem REL.g_fly2 {X : xS → xS → Prop} {N : Nat} {S R : xS} (h : REL X N S R) {n : Nat} (hn : n < N) : xI S n 18 7 = xI R 0 41 (4 * n + 2) := h.2.1.g_fly2 hn
theorem REL.g_rmany2 {X : xS → xS → Prop} {N : Nat} {S R : xS} (h : REL X N S R) {n : Nat} (hn : n < N) : xI S n 18 8 = xI R 0 38 (4 * n + 2) := h.2.1.g_rmany2 hn
theorem REL.g_rbyte2 {X : xS → xS → Prop} {N : Nat} {S R : xS} (h : REL X N S R) {n : Nat} (hn : n < N) : xI S n 18 9 = xI R 0 39 (4 * n + 2) := h.2.1.g_rbyte2 hn
theorem REL.g_who2 {X : xS → xS → Prop} {N : Nat} {S R : xS} (h : REL X N S R) {n : Nat} (hn : n < N) : xI S n 14 2 = xI R 0 44 (4 * n + 2) := h.2.1.g_who2 hn
theorem REL.g_many2 {X : xS → xS → Prop} {N : Nat} {S R : xS} (h : REL X N S R) {n : Nat} (hn : n < N) : xI S n 14 3 = xI R 0 45 (4 * n + 2) := h.2.1.g_many2 hn
theorem REL.g_inw2 {X : xS → xS → Prop} {N : Nat} {S R : xS} (h : REL X N S R) {n : Nat} (hn : n < N) : xI S n 14 7 = xI R 0 47 (4 * n + 2) := h.2.1.g_inw2 hn
theorem REL.g_inm2 {X : xS → xS → Prop} {N : Nat} {S R : xS} (h : REL X N S R) {n : Nat} (hn : n < N) : xI S n 14 8 = xI R 0 48 (4 * n + 2) := h.2.1.g_inm2 hn
theorem REL.g_kept2 {X : xS → xS → Prop} {N : Nat} {S R : xS} (h : REL X N S R) {n : Nat} (hn : n < N) : xI S n 14 10 = xI R 0 50 (4 * n + 2) := h.2.1.g_kept2 hn
theorem REL.g_grd2 {X : xS → xS → Prop} {N : Nat} {S R : xS} (h : REL X N S R) {n : Nat} (hn : n < N) : xI S n 14 11 = xI R 0 51 (4 * n + 2) := h.2.1.g_grd2 hn
theorem REL.g_pbits3 {X : xS → xS → Prop} {N : Nat} {S R : xS} (h : REL X N S R) {n : Nat} (hn : n < N) : xI S n 19 3 = xI R 0 36 (4 * n + 3) := h.2.1.g_pbits3 hn
theorem REL.g_pput3 {X : xS → xS → Prop} {N : Nat} {S R : xS} (h : REL X N S R) {n : Nat} (hn : n < N) : xI S n 19 4 = xI R 0 37 (4 * n + 3) := h.2.1.g_pput3 hn
theorem REL.g_bit3 {X : xS → xS → Prop} {N : Nat} {S R : xS} (h : REL X N S R) {n : Nat} (hn : n < N) : xI S n 19 5 = xI R 0 34 (4 * n + 3) := h.2.1.g_bit3 hn
theorem REL.g_owed3 {X : xS → xS → Prop} {N : Nat} {S R : xS} (h : REL X N S R) {n : Nat} (hn : n < N) : xI S n 19 6 = xI R 0 40 (4 * n + 3) := h.2.1.g_owed3 hn
theorem REL.g_fly3 {X : xS → xS → Prop} {N : Nat} {S R : xS} (h : REL X N S R) {n : Nat} (hn : n < N) : xI S n 19 7 = xI R 0 41 (4 * n + 3) := h.2.1.g_fly3 hn
theorem REL.g_rmany3 {X : xS → xS → Prop} {N : Nat} {S R : xS} (h : REL X N S R) {n : Nat} (hn : n < N) : xI S n 19 8 = xI R 0 38 (4 * n + 3) := h.2.1.g_rmany3 hn
theorem REL.g_rbyte3 {X : xS → xS → Prop} {N : Nat} {S R : xS} (h : REL X N S R) {n : Nat} (hn : n < N) : xI S n 19 9 = xI R 0 39 (4 * n + 3) := h.2.1.g_rbyte3 hn
theorem REL.g_who3 {X : xS → xS → Prop} {N : Nat} {S R : xS} (h : REL X N S R) {n : Nat} (hn : n < N) : xI S n 15 2 = xI R 0 44 (4 * n + 3) := h.2.1.g_who3 hn
theorem REL.g_many3 {X : xS → xS → Prop} {N : Nat} {S R : xS} (h : REL X N S R) {n : Nat} (hn : n < N) : xI S n 15 3 = xI R 0 45 (4 * n + 3) := h.2.1.g_many3 hn
theorem REL.g_inw3 {X : xS → xS → Prop} {N : Nat} {S R : xS} (h : REL X N S R) {n : Nat} (hn : n < N) : xI S n 15 7 = xI R 0 47 (4 * n + 3) := h.2.1.g_inw3 hn
theorem REL.g_inm3 {X : xS → xS → Prop} {N : Nat} {S R : xS} (h : REL X N S R) {n : Nat} (hn : n < N) : xI S n 15 8 = xI R 0 48 (4 * n + 3) := h.2.1.g_inm3 hn
theorem REL.g_kept3 {X : xS → xS → Prop} {N : Nat} {S R : xS} (h : REL X N S R) {n : Nat} (hn : n < N) : xI S n 15 10 = xI R 0 50 (4 * n + 3) := h.2.1.g_kept3 hn
theorem REL.g_grd3 {X : xS → xS → Prop} {N : Nat} {S R : xS} (h : REL X N S R) {n : Nat} (hn : n < N) : xI S n 15 11 = xI R 0 51 (4 * n + 3) := h.2.1.g_grd3 hn
