/-! clocks -/
theorem sg_congr {a b : Int32} (h : a &&& 65535 = b &&& 65535) : sg a = sg b := by
  apply Int32.toInt_inj.mp
  unfold sg
  rw [sg_int, sg_int, (m16_iff a b).mp h]
theorem i64_lo (v : Int32) : v.toInt64 &&& 65535 = lN (adr v) := by
  have h0 := lB_i64 v 0 (by decide)
  have h1 := lB_i64 v 1 (by decide)
  have hl := adr_lt v
  refine l_ext (by omega) ?_
  rw [Int64.toBitVec_and, BitVec.toNat_and, show (65535 : Int64).toBitVec.toNat = 2 ^ 16 - 1 from rfl, Nat.and_two_pow_sub_one_eq_mod]
  unfold lB at h0 h1
  unfold adr
  omega
theorem cPw16 (S : xS) (n : Nat) (a : Int32) {v w : Int32} (h : v &&& 65535 = w &&& 65535) : cPw S n a v = cPw S n a w := by
  unfold cPw cSW
  rw [i64_lo, i64_lo, (m16_iff v w).mp h]
theorem REL.pw16 {E : Nat → Nat → Prop} {X : xS → xS → Prop} {N : xN} {S R : xS} (h : REL E X N S R) {n : Nat} (hn : inN n N) (a : Int32) {v w : Int32} (e : v &&& 65535 = w &&& 65535) : REL E X N (cPw S n a v) (rPw R n a w) := by
  rw [cPw16 S n a e]
  exact h.pw hn rfl rfl
theorem release_loop {X : xS → xS → Prop} {N : xN} {n : Nat} (hT : TX X n) (hn : inN n N) {p v w : Int32} (hvw : v &&& 65535 = w &&& 65535) {c : Nat} (hc : c ≤ 64) : ∀ (j fu k l : Nat) (S R : xS), REL E0 X N S R → xI R 0 30 n = nI c → k + j = c → l ≤ k → j < fu → P2 (c10_release_b12 n fu p v (nI l) (nI k) S) (r_sets_b31 fu (nI n) p w (nI l) (nI c) (nI (64 * n + k)) R) (REL E0 X N)
  | _, 0, _, _, _, _, _, _, _, _, hf => absurd hf (by omega)
  | 0, fu + 1, k, l, S, R, h, e, hk, hl, hf => by
    have h8 := h.le8 hn
    unfold c10_release_b12 r_sets_b31
    simp only [gI h8, cl8 h8]
    rw [h.g_tim hn, e, ix64, if_pos (nI_le (by omega) (by omega)), if_pos (nI_le (by omega) (by omega))]
    exact P2.ret (h.s_tim hn rfl ⟨l, by omega, rfl⟩)
  | j + 1, fu + 1, k, l, S, R, h, e, hk, hl, hf => by
    have h8 := h.le8 hn
    have l1 : 64 * n + k < 512 := by omega
    have l2 : 64 * n + l < 512 := by omega
    unfold c10_release_b12 r_sets_b31
    rw [h.g_tim hn, e, ix64, if_neg (nI_ge (by omega) (by omega)), if_neg (nI_ge (by omega) (by omega)), if_neg (show ¬ (64 : Int32) ≤ nI k from nI_ge (b := 64) (by omega) (by decide))]
    simp only [g64 (show k < 64 by omega), g512 l1, nI_clamp (show k < 2 ^ 31 by omega), nI_clamp (show 64 * n + k < 2 ^ 31 by omega)]
    rw [h.g_t9 hT (by omega), h.g_t10 hT (by omega)]
    have keep : P2 (c10_release_b70 n (c10_release_b12 n fu) p v (nI l) (nI k) S) (r_sets_b114 (r_sets_b31 fu) (nI n) p w (nI l) (nI c) (nI (64 * n + k)) (xI R 0 31 (64 * n + k)) R) (REL E0 X N) := by
      unfold c10_release_b70 r_sets_b114 c10_release_b81 r_sets_b150
      refine P2.l (c10_keep_n n S (by omega) (by omega)) ?_
      rw [ix64]
      simp only [g512 l1, g512 l2, nI_clamp (show 64 * n + l < 2 ^ 31 by omega), nI_clamp (show 64 * n + k < 2 ^ 31 by omega)]
      refine P2.xr (P2.xr ?_)
      rw [nI_1, nI_1, nI_1]
      have h1 := h.s_t9 hT (t := l) (by omega) (h.g_t9 hT (t := k) (by omega))
      have h2 := h1.s_t10 hT (t := l) (by omega) (h1.g_t10 hT (t := k) (by omega))
      refine release_loop hT hn hvw hc j fu (k + 1) (l + 1) _ _ h2 ?_ (by omega) (by omega) (by omega)
      rw [xI_ne _ _ (by omega), xI_ne _ _ (by omega)]
      exact e
    refine P2.ite Iff.rfl (fun _ _ => ?_) (fun _ _ => keep)
    refine P2.l (isLater_n _ _) (P2.r (r_isLater_n _ _) ?_)
    rw [sg_congr (m16_sub hvw (rfl : xI R 0 32 (64 * n + k) &&& 65535 = _))]
    refine P2.ite Iff.rfl (fun _ _ => keep) (fun _ _ => ?_)
    unfold c1_wakeAtTime c10_release_b81 r_sets_b150
    generalize xI R 0 31 (64 * n + k) = d
    rw [c5_setWord_n, Option.bind_some, c5_setWord_n, Option.bind_some, c1_makeReady_n, Option.bind_some]
    refine P2.r (r_wordTo_n _ h8 _ _) (P2.r (r_wordTo_n _ h8 _ _) (P2.r (r_ready_n _ h8 _) ?_))
    have h1 := ((h.pw hn (a := (d &&& 65534) - 6) (v := 32771) rfl rfl).pw16 hn ((d &&& 65534) - 10) hvw).rdy hn (d := d) rfl
    rw [nI_1, nI_1]
    refine P2.l rfl (release_loop hT hn hvw hc j fu (k + 1) l _ _ h1 ?_ (by omega) (by omega) (by omega))
    rw [xI_rRdy _ _ _ _ _ (by decide) (by decide) (by decide) (by decide), xI_rPw _ _ _ _ _ _ (by decide) (by decide), xI_rPw _ _ _ _ _ _ (by decide) (by decide)]
    exact e
/-- a clock strikes at a node: high -/
theorem p_strike0 {X : xS → xS → Prop} {N : xN} {S R : xS} (h : REL E0 X N S R) {n : Nat} (hT : TX X n) (hn : inN n N) : P2 (c1_strikeClock n S 0) (gd ((2 : Int32) * nI n) 16 (r_sets R (nI n) 0 (xI R 0 21 ((2 : Int32) * nI n).toNatClampNeg + 1))) (REL E0 X N) := by
  have h8 := h.le8 hn
  unfold c1_strikeClock c10_advance c10_release c10_clockOf r_sets
  rw [ix20, gQ0 h8, clQ0 h8, Int32.add_zero, gQ0 h8, clQ0 h8, if_pos rfl]
  refine P2.l rfl (P2.xr ?_)
  have h1 := h.s_c0 hn (v := (xI S n 8 3 + 1) &&& 65535) (w := (xI R 0 21 (2 * n) + 1) &&& 65535) (by rw [h.g_c0 hn])
  rw [if_pos rfl, gI h8, cl8 h8]
  refine P2.some_l (P2.l rfl ?_)
  obtain ⟨c, hc, e⟩ := h1.w_tim hn
  rw [e]
  have e2 : (64 : Int32) * nI n = nI (64 * n + 0) := by rw [← ix64]; exact (Int32.add_zero _).symm
  rw [e2]
  refine release_loop hT hn ?_ hc c 100000 0 0 _ _ h1 e (by omega) (by omega) (by omega)
  rw [xI_eq, w16, h.g_c0 hn]
theorem p_strike1 {X : xS → xS → Prop} {N : xN} {S R : xS} (h : REL E0 X N S R) {n : Nat} (hT : TX X n) (hn : inN n N) : P2 (c1_strikeClock n S 1) (gd ((2 : Int32) * nI n + 1) 16 (r_sets R (nI n) 1 (xI R 0 21 ((2 : Int32) * nI n + 1).toNatClampNeg + 1))) (REL E0 X N) := by
  have h8 := h.le8 hn
  unfold c1_strikeClock c10_advance c10_release c10_clockOf r_sets
  rw [ix20, ix21, gQ1 h8, clQ1 h8, gQ1 h8, if_neg n10]
  refine P2.l rfl (P2.xr ?_)
  have h1 := h.s_c1 hn (v := (xI S n 8 4 + 1) &&& 65535) (w := (xI R 0 21 (2 * n + 1) + 1) &&& 65535) (by rw [h.g_c1 hn])
  rw [if_neg n10, gI h8, cl8 h8]
  refine P2.some_l (P2.l rfl ?_)
  obtain ⟨c, hc, e⟩ := h1.w_tim hn
  rw [e]
  have e2 : (64 : Int32) * nI n = nI (64 * n + 0) := by rw [← ix64]; exact (Int32.add_zero _).symm
  rw [e2]
  refine release_loop hT hn ?_ hc c 100000 0 0 _ _ h1 e (by omega) (by omega) (by omega)
  rw [xI_eq, w16, h.g_c1 hn]
/-- .. at a node at which nobody waits for a time -/
theorem r_sets_idle (R : xS) {n : Nat} (hn : n < 8) (h30 : xI R 0 30 n = 0) {p : Int32} (hp : p = 0 ∨ p = 1) (v : Int32) {o : xS} (ho : r_sets R (nI n) p v = some o) : ∀ j k, j = 11 ∨ j = 19 ∨ j = 22 ∨ j = 30 → xI o 0 j k = xI R 0 j k := by
  have key : ∀ q, xnm (sI R 0 21 q (v &&& 65535)) (fun S1 => r_sets_b31 100000 (nI n) p v 0 (xI S1 0 30 n) ((64 : Int32) * nI n) S1) = some o → ∀ j k, j = 11 ∨ j = 19 ∨ j = 22 ∨ j = 30 → xI o 0 j k = xI R 0 j k := by
    intro q hq j k hj
    have hq : r_sets_b31 (99999 + 1) (nI n) p v 0 (xI (sI R 0 21 q (v &&& 65535)) 0 30 n) ((64 : Int32) * nI n) (sI R 0 21 q (v &&& 65535)) = some o := hq
    unfold r_sets_b31 at hq
    rw [xI_ne _ _ (by omega), h30, Int32.add_zero, if_pos (Int32.le_refl _), gI hn, cl8 hn] at hq
    have hq : some (sI (sI R 0 21 q (v &&& 65535)) 0 30 n 0) = some o := hq
    cases hq
    rw [xI_sI]
    by_cases c : 0 = 0 ∧ j = 30 ∧ k = n
    · rw [if_pos c, c.2.1, c.2.2, h30]
    · rw [if_neg c, xI_ne _ _ (by omega)]
  unfold r_sets at ho
  rcases hp with e | e <;> subst e
  · rw [ix20, Int32.add_zero, gQ0 hn, clQ0 hn] at ho
    simp only [gI hn, cl8 hn] at ho
    exact key _ ho
  · rw [ix20, ix21, gQ1 hn, clQ1 hn] at ho
    simp only [gI hn, cl8 hn] at ho
    exact key _ ho
/-- for every node, whether it boots or not -/
theorem p_strike0' {N : xN} {D : Nat} {S R : xS} (h : REL E0 (LX D N) N S R) {n : Nat} (hn : n < N.1) : P2 (c1_strikeClock n S 0) (gd ((2 : Int32) * nI n) 16 (r_sets R (nI n) 0 (xI R 0 21 ((2 : Int32) * nI n).toNatClampNeg + 1))) (REL E0 (LX D N) N) := by
  have h8 : n < 8 := Nat.lt_of_lt_of_le hn h.1
  by_cases hz : N.2 n
  · obtain ⟨a, b, x1, x2, x3⟩ := p_strike0 (h.less n) (TX_LX D N hn) (in_less hn)
    refine ⟨a, b, x1, x2, x3.back ?_⟩
    have hi : idle R n := h.2.1.1 n hn hz
    rw [ix20, gQ0 h8] at x2
    exact idle_frm hi (r_sets_idle R h8 hi.2.2.2.2 (Or.inl rfl) _ x2)
  · exact p_strike0 h (TX_LX D N hn) ⟨hn, hz⟩
theorem p_strike1' {N : xN} {D : Nat} {S R : xS} (h : REL E0 (LX D N) N S R) {n : Nat} (hn : n < N.1) : P2 (c1_strikeClock n S 1) (gd ((2 : Int32) * nI n + 1) 16 (r_sets R (nI n) 1 (xI R 0 21 ((2 : Int32) * nI n + 1).toNatClampNeg + 1))) (REL E0 (LX D N) N) := by
  have h8 : n < 8 := Nat.lt_of_lt_of_le hn h.1
  by_cases hz : N.2 n
  · obtain ⟨a, b, x1, x2, x3⟩ := p_strike1 (h.less n) (TX_LX D N hn) (in_less hn)
    refine ⟨a, b, x1, x2, x3.back ?_⟩
    have hi : idle R n := h.2.1.1 n hn hz
    rw [ix20, ix21, gQ1 h8] at x2
    exact idle_frm hi (r_sets_idle R h8 hi.2.2.2.2 (Or.inr rfl) _ x2)
  · exact p_strike1 h (TX_LX D N hn) ⟨hn, hz⟩
theorem p_bey' {N : xN} {D : Nat} {S R : xS} (h : REL E0 (LX D N) N S R) {n : Nat} (hn : n < N.1) : c1_stopIfBeyond n S = some (cBey S n) ∧ REL E0 (LX D N) N (cBey S n) (rBey R n) := by
  have h8 : n < 8 := Nat.lt_of_lt_of_le hn h.1
  have h1 := h.less n
  refine ⟨h1.c_bey (in_less hn), ?_⟩
  by_cases hz : N.2 n
  · refine (h1.bey (in_less hn)).back (idle_frm (h.2.1.1 n hn hz) (fun j k hj => ?_))
    unfold rBey rStop
    by_cases e : xI R 0 18 n = 0
    · rw [if_pos e, xI_ne _ _ (by omega)]
    · rw [if_neg e, xI_ne _ _ (by omega)]
      by_cases e2 : xI R 0 13 n = 0
      · rw [if_pos e2, xI_ne _ _ (by omega)]
      · rw [if_neg e2]
  · exact h.bey ⟨hn, hz⟩
