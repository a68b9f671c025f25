/-! a turn of a node that boots; the loops over the links -/
theorem p_turn_idle {N : xN} {D : Nat} {S R : xS} (h0 : REL E0 (LX D N) N S R) {n : Nat} (hn0 : n < N.1) (hz : N.2 n) : P2 ((c6_prepareTurn n S).bind (fun (r, S1) => if r = 0 then some S1 else c7_execute n S1)) (r_executes R (nI n)) (REL E0 (LX D N) N) := by
  have hi : idle R n := h0.2.1.1 n hn0 hz
  obtain ⟨i1, i2, i3, i4, i5⟩ := id hi
  have h := h0.less n
  have hn := in_less hn0
  have h8 := h.le8 hn
  have s5 : xI S n 5 6 = 2 := by
    rcases h.g_shelf hn with ⟨s1, s2⟩ | ⟨s1, s2⟩
    · rw [i4] at s2; exact absurd s2 (by decide)
    · exact s1
  have x1 : c1_chooseNext n S = some S := by
    unfold c1_chooseNext c1_chooseNext_b40 c1_hasProcess c8_isEmpty
    rw [h.g_P hn, i1, if_neg (by decide), if_pos rfl]
    dsimp only [Option.bind_some]
    rw [if_pos rfl, h.g_f0 hn, if_pos i2]
    dsimp only [Option.bind_some]
    rw [if_neg n10, if_pos s5, h.g_f1 hn, if_pos i3]
    rfl
  have x2 : r_next R (nI n) = some R := by
    unfold r_next r_next_b121
    simp only [ix20, ix21, gQ0 h8, gQ1 h8, clQ0 h8, clQ1 h8, gI h8, cl8 h8]
    rw [i1, if_neg (by decide), if_pos rfl, if_pos i2, if_pos i4, if_pos i3]
  unfold c6_prepareTurn r_executes
  simp only [gI h8, cl8 h8, nar0]
  rw [h.g_busy hn, h.g_out hn]
  by_cases e1 : xI R 0 14 n ≤ 0
  · rw [if_pos e1, if_pos e1]
    by_cases e2 : xI R 0 13 n = 0
    · rw [if_pos e2, if_pos e2, x1, x2, Option.bind_some, Option.bind_some, h.c_bey hn, Option.bind_some]
      obtain ⟨_, hb'⟩ := p_bey' h0 hn0
      rcases h.w_bey hn with b | b
      · have hb : cBey S n = S := by
          unfold cBey
          rw [if_pos (h.z_bey hn b e2)]
        rw [hb, if_pos (by rw [h.g_out hn]; exact e2), if_pos b]
        unfold c1_hasProcess
        rw [h.g_P hn, if_pos i1, if_pos i1]
        exact P2.ret h0
      · have b2 : ¬ xI R 0 18 n = 0 := by rw [b]; decide
        have hb := h.bey hn
        have hr : rBey R n = sI (rStop R n 2) 0 18 n 0 := if_neg b2
        have ho2 : xI (rBey R n) 0 13 n = 2 := by
          rw [hr, xI_ne _ _ (by omega)]
          unfold rStop
          rw [if_pos e2, xI_eq]
        rw [if_neg b2]
        simp only [xnm]
        rw [r_stop_n _ h8, rStop_sI _ _ _ (by decide), ← hr]
        rw [if_neg (by rw [hb.g_out hn, ho2]; decide)]
        exact P2.ret hb'
    · rw [if_neg e2, if_neg e2]
      exact P2.ret h0
  · rw [if_neg e1, if_neg e1]
    exact P2.ret ((h.s_busy hn rfl).back (idle_frm hi (fun j k hj => xI_ne _ _ (by omega))))
theorem p_turn' {N : xN} {D : Nat} {S R : xS} (h : REL E0 (LX D N) N S R) {n : Nat} (hn : n < N.1) : P2 ((c6_prepareTurn n S).bind (fun (r, S1) => if r = 0 then some S1 else c7_execute n S1)) (r_executes R (nI n)) (REL E0 (LX (D + 1) N) N) := by
  by_cases hz : N.2 n
  · exact (p_turn_idle h hn hz).mono (fun a b q => q.mono_D (by omega))
  · exact p_turn h ⟨hn, hz⟩ (ops_ok ⟨hn, hz⟩) (fun S R q => q.mono_D (by omega))
theorem REL.num {E : Nat → Nat → Prop} {N : xN} {D : Nat} {S R : xS} (h : REL E (LX D N) N S R) : xI R 0 0 1 = nI N.1 := h.lx.2.2.2.2
theorem p4 (n : Nat) : (4 : Int32) * nI n = nI (4 * n) := pk_mul 4 n
theorem put_in {N : xN} {D : Nat} (hD : D < 1073741824) {n : Nat} (hn : n < N.1) {Q : xS → xS → Prop} {K : Int32 → Int32 → xS → Option xS} {v2 : Int32} {fu : Nat} (hK : ∀ S R, REL E0 (LX D N) N S R → P2 (K v2 (nI (n + 1)) S) (r_tick_b12 fu (nI (4 * (n + 1))) R) Q) : ∀ (j g k : Nat) (S R : xS), REL E0 (LX D N) N S R → k + j = 4 → j < g → P2 (c11_passBits_b35 N.1 K g v2 (nI n) n (nI 4) (nI k) S) (r_tick_b12 (fu + j) (nI (4 * n + k)) R) Q
  | _, 0, _, _, _, _, _, hg => absurd hg (by omega)
  | 0, g + 1, k, S, R, h, hk, hg => by
    unfold c11_passBits_b35
    rw [if_pos (nI_le (by omega) (by omega)), nI_1, show 4 * n + k = 4 * (n + 1) by omega]
    exact hK S R h
  | j + 1, g + 1, k, S, R, h, hk, hg => by
    have h8 := Nat.lt_of_lt_of_le hn h.1
    have hN := h.1
    rw [show fu + (j + 1) = (fu + j) + 1 from rfl]
    unfold c11_passBits_b35 r_tick_b12
    rw [if_neg (nI_ge (by omega) (by omega)), h.num, p4, if_neg (nI_ge (by omega) (by omega)), gd_nI (i := k) (by omega) (by decide), nI_clamp (show k < 2 ^ 31 by omega)]
    refine P2.bind (p_putLink hD h hn (by omega)) (fun S1 p q => ?_)
    obtain ⟨r, R1⟩ := p
    show P2 _ (gd (nI (4 * n + k)) 33 _) Q
    rw [gd_nI (by omega) (by decide), nI_clamp (show 4 * n + k < 2 ^ 31 by omega)]
    refine P2.xr ?_
    rw [nI_1, nI_1]
    exact put_in hD hn hK j g (k + 1) _ _ q (by omega) (by omega)
theorem put_out {N : xN} {D : Nat} (hD : D < 1073741824) {Q : xS → xS → Prop} {fu : Nat} (hK : ∀ S R, REL E0 (LX D N) N S R → P2 (c11_passBits_b83 N.1 100000 (nI N.1) 0 S) (r_tick_b54 100000 0 R) Q) : ∀ (j g n : Nat) (S R : xS), REL E0 (LX D N) N S R → n + j = N.1 → j < g → P2 (c11_passBits_b10 N.1 g (nI N.1) (nI n) S) (r_tick_b12 (fu + 1 + 4 * j) (nI (4 * n)) R) Q
  | _, 0, _, _, _, _, _, hg => absurd hg (by omega)
  | 0, g + 1, n, S, R, h, hk, hg => by
    have hN := h.1
    rw [show fu + 1 + 4 * 0 = fu + 1 from rfl]
    unfold c11_passBits_b10 r_tick_b12
    rw [if_pos (nI_le (by omega) (by omega)), h.num, p4, if_pos (nI_le (by omega) (by omega))]
    refine P2.bind (p_putHost hD h) (fun S1 p q => ?_)
    obtain ⟨r, R1⟩ := p
    show P2 _ (gd (nI 32) 33 _) Q
    rw [gd_nI (by decide) (by decide)]
    exact P2.xr (hK _ _ q)
  | j + 1, g + 1, n, S, R, h, hk, hg => by
    have hN := h.1
    have hn : n < N.1 := by omega
    unfold c11_passBits_b10
    rw [if_neg (nI_ge (by omega) (by omega)), gd_nI (i := n) hn (by omega), nI_clamp (show n < 2 ^ 31 by omega)]
    rw [show fu + 1 + 4 * (j + 1) = (fu + 1 + 4 * j) + 4 by omega]
    exact put_in hD hn (fun S R q => put_out hD hK j g (n + 1) S R q (by omega) (by omega)) 4 100000 0 S R h rfl (by decide)
theorem nIm1 {f : Nat} (h : f < 2 ^ 31) : ¬ nI f = -1 := fun z => absurd (show (-1 : Int32) < 0 by decide) (z ▸ nI_pos h)
theorem take_in {N : xN} (hw : ∀ m, m < N.1 → N.2 (8 + m)) {d n : Nat} (hn : n < N.1) {Q : xS → xS → Prop} {K : Int32 → Int32 → xS → Option xS} {v2 : Int32} {fu : Nat} (hK : ∀ S R, REL E0 (LX (d + 4 * (n + 1)) N) N S R → P2 (K v2 (nI (n + 1)) S) (r_tick_b54 fu (nI (4 * (n + 1))) R) Q) : ∀ (j g k : Nat) (S R : xS), REL E0 (LX (d + (4 * n + k)) N) N S R → k + j = 4 → j < g → P2 (c11_passBits_b108 N.1 K g v2 (nI n) n (nI 4) (nI k) S) (r_tick_b54 (fu + j) (nI (4 * n + k)) R) Q
  | _, 0, _, _, _, _, _, hg => absurd hg (by omega)
  | 0, g + 1, k, S, R, h, hk, hg => by
    unfold c11_passBits_b108
    have e : 4 * n + k = 4 * (n + 1) := by omega
    rw [e] at h ⊢
    rw [if_pos (nI_le (by omega) (by omega)), nI_1]
    exact hK S R h
  | j + 1, g + 1, k, S, R, h, hk, hg => by
    have h8 := Nat.lt_of_lt_of_le hn h.1
    have hN := h.1
    have hk4 : k < 4 := by omega
    rw [show fu + (j + 1) = (fu + j) + 1 from rfl]
    unfold c11_passBits_b108 r_tick_b54
    rw [if_neg (nI_ge (by omega) (by omega)), h.num, p4, if_neg (nI_ge (by omega) (by omega)), gd_nI (i := k) (by omega) (by decide), nI_clamp (show k < 2 ^ 31 by omega), gd_nI (i := 4 * n + k) (by omega) (by decide), nI_clamp (show 4 * n + k < 2 ^ 31 by omega)]
    obtain ⟨t, ht, hh, hc⟩ := heard h.lx h.1 (n := n) (k := k) (Or.inl ⟨hn, hk4⟩)
    have fin : P2 ((c4_takeBit N.1 n (12 + k) S).bind (fun S8 => (c11_passBits_b108 N.1 K g) v2 (nI n) n (nI 4) (nI k + 1) S8)) (r_tick_b91 (r_tick_b54 (fu + j)) (nI (4 * n + k)) (nI t) (nI (4 * n + k)) R) Q := by
      unfold r_tick_b91
      refine P2.bind (p_takeLink h hn (hw n hn) hk4 ht hh) (fun S1 R1 q => ?_)
      rw [nI_1, nI_1]
      exact take_in hw hn hK j g (k + 1) _ _ q (by omega) (by omega)
    rcases hc with ⟨c1, c2⟩ | ⟨f, hf, c1, c2⟩
    · rw [if_pos c1]
      rw [c2] at fin
      exact fin
    · rw [c1, if_neg (nIm1 (by omega)), gd_nI (i := 4 * n + k) (by omega) (by decide), gd_nI (i := f) (by omega) (by decide), nI_clamp (show f < 2 ^ 31 by omega), c2]
      exact fin
theorem take_out {N : xN} (hw : ∀ m, m < N.1 → N.2 (8 + m)) {d : Nat} {Q : xS → xS → Prop} {fu : Nat} (hK : ∀ S R, REL E0 (LX (d + 4 * N.1 + 1) N) N S R → P2 (some S) (r_tick_b135 100000 0 R) Q) : ∀ (j g n : Nat) (S R : xS), REL E0 (LX (d + 4 * n) N) N S R → n + j = N.1 → j < g → P2 (c11_passBits_b83 N.1 g (nI N.1) (nI n) S) (r_tick_b54 (fu + 1 + 4 * j) (nI (4 * n)) R) Q
  | _, 0, _, _, _, _, _, hg => absurd hg (by omega)
  | 0, g + 1, n, S, R, h, hk, hg => by
    have hN := h.1
    have e : n = N.1 := by omega
    rw [show fu + 1 + 4 * 0 = fu + 1 from rfl]
    unfold c11_passBits_b83 r_tick_b54
    rw [if_pos (nI_le (by omega) (by omega)), h.num, p4, if_pos (nI_le (by omega) (by omega))]
    obtain ⟨t, ht, hh, hc⟩ := heard h.lx h.1 (n := 8) (k := 0) (Or.inr ⟨rfl, rfl⟩)
    have fin : P2 ((c3_takeBit N.1 S).bind (fun S4 => some S4)) (r_tick_b130 (nI t) 32 R) Q := by
      unfold r_tick_b130
      refine P2.bind (p_takeHost h ht hh) (fun S1 R1 q => ?_)
      rw [e] at q
      exact hK _ _ q
    rw [show (32 : Int32) = nI 32 from rfl, gd_nI (by decide) (by decide), nI_clamp (show 32 < 2 ^ 31 by decide)]
    rcases hc with ⟨c1, c2⟩ | ⟨f, hf, c1, c2⟩
    · rw [if_pos c1]
      rw [c2] at fin
      exact fin
    · rw [show 4 * 8 + 0 = 32 from rfl] at c1
      rw [c1, if_neg (nIm1 (by omega)), gd_nI (by decide) (by decide), gd_nI (i := f) (by omega) (by decide), nI_clamp (show f < 2 ^ 31 by omega), c2]
      exact fin
  | j + 1, g + 1, n, S, R, h, hk, hg => by
    have hN := h.1
    have hn : n < N.1 := by omega
    unfold c11_passBits_b83
    rw [if_neg (nI_ge (by omega) (by omega)), gd_nI (i := n) hn (by omega), nI_clamp (show n < 2 ^ 31 by omega)]
    rw [show fu + 1 + 4 * (j + 1) = (fu + 1 + 4 * j) + 4 by omega]
    exact take_in hw hn (fun S R q => take_out hw hK j g (n + 1) S R q (by omega) (by omega)) 4 100000 0 S R h rfl (by decide)
