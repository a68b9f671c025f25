/-! input from a link, whole -/
theorem sub1 (c : Int32) : c + (-1 : Int32) = c - 1 := (Int32.sub_eq_add_neg (a := c) (b := 1)).symm
theorem p_linkIn_b {N : xN} {D : Nat} {S R s r : xS} (hx : REL E0 (XV s r) N S R) (hl : LX D N s r) {n : Nat} (hn : inN n N) (hp : xI R 0 11 n = 0 ∨ xI R 0 11 n = 1) {k : Nat} (hk : k < 4) {m : Nat} (hm1 : 1 ≤ m) (hm2 : m ≤ 4096) {pl : Int32} (hw : pl &&& 65535 = pl) (c1 : xI r 0 47 (4 * n + k) = -1) (v : Int32) : P2 ((c4_deliver n (12 + k) (sI (sI (sI (sI S n (12 + k) 7 (rOwn R n)) n (12 + k) 8 (nI m)) n (12 + k) 9 pl) n (12 + k) 10 (-1)) v).bind (fun S10 => c0_inputFromLink_b58 n (12 + k) S10)) (r_linkIn_b88 (nI n) (nI (4 * n + k)) (nI m + (-1 : Int32)) ((pl + (1 : Int32)) &&& (65535 : Int32)) (sI (sI (rPb R n pl v) 0 50 (4 * n + k) (-1)) 0 40 (4 * n + k) (xI R 0 40 (4 * n + k) + 1))) (REL E0 (LX (D + 1) N) N) := by
  have h8 := hx.le8 hn
  have l33 : 4 * n + k < 33 := by omega
  have ho := w16_own (hx.w_W hn) hp
  have ow2 : rOwn (sI (sI (rPb R n pl v) 0 50 (4 * n + k) (-1)) 0 40 (4 * n + k) (xI R 0 40 (4 * n + k) + 1)) n = rOwn R n := by
    unfold rOwn
    simp (disch := omega) only [xI_ne, xI_rPb]
  have e0 : xI S n (16 + k) 6 = xI R 0 40 (4 * n + k) := by
    rw [hx.c_eq (by omega), hx.r_eq (by omega)]
    exact ((hl.1 n hn.1).2.1 k hk).1.2.2.2.1
  have e00 : xI R 0 40 (4 * n + k) = xI r 0 40 (4 * n + k) := hx.r_eq (by omega)
  rw [c4_deliver_n]
  simp (disch := omega) only [xI_ne, xI_eq]
  rw [e0, sub1]
  generalize rOwn R n = ow at ho ow2 ⊢
  generalize xI R 0 40 (4 * n + k) = o at e00 ow2 ⊢
  have h2 := (((hx.cv (n := n) (j := 12 + k) (k := 7) (by omega) ow).cv (n := n) (j := 12 + k) (k := 8) (by omega) (nI m)).cv (n := n) (j := 12 + k) (k := 9) (by omega) pl).cv (n := n) (j := 12 + k) (k := 10) (by omega) (-1)
  have h3 := ((h2.pb hn (a := pl) (v := v) rfl rfl).rv (j := 50) (k := 4 * n + k) (by omega) (-1)).rv (j := 40) (k := 4 * n + k) (by omega) (o + 1)
  have h4 := ((h3.cv (n := n) (j := 16 + k) (k := 6) (by omega) (o + 1)).cv (n := n) (j := 12 + k) (k := 9) (by omega) (pl + 1)).cv (n := n) (j := 12 + k) (k := 8) (by omega) (nI m - 1)
  by_cases em : m = 1
  · subst em
    have e1 : nI 1 - 1 = 0 := by decide
    rw [e1] at h4 ⊢
    rw [if_pos rfl]
    refine P2.l rfl ?_
    unfold c0_inputFromLink_b58 r_linkIn_b88
    refine P2.pl (xI_eq _ _ _ _ _) (P2.pr rfl (P2.ret ?_))
    have h5 := h4.cv (n := n) (j := 12 + k) (k := 7) (by omega) (-1)
    unfold cDel
    rw [e1]
    exact h5.un (lk_in2 hl hx.1 hn hk ow pl c1 e00)
  · have e1 : nI m - 1 = nI (m - 1) := pk_sub (a := m) (b := 1) hm1
    rw [e1] at h4 ⊢
    have e2 : ¬ nI (m - 1) = 0 := nI_ne0 (by omega) (by omega)
    rw [if_neg e2]
    refine P2.l rfl ?_
    unfold c0_inputFromLink_b58 r_linkIn_b88 cDel
    rw [e1]
    have e3 : xI (sI (sI (sI (cPb (sI (sI (sI (sI S n (12 + k) 7 ow) n (12 + k) 8 (nI m)) n (12 + k) 9 pl) n (12 + k) 10 (-1)) n pl v) n (16 + k) 6 (o + 1)) n (12 + k) 9 (pl + 1)) n (12 + k) 8 (nI (m - 1))) n (12 + k) 7 = ow := by
      simp (disch := omega) only [xI_ne, xI_eq, xI_cPb]
    refine P2.nl (by rw [e3]; exact ne_m1 ho) (P2.nr e2 (P2.r (r_own_n _ h8) ?_))
    simp only [g33 l33, nI_clamp (show 4 * n + k < 2 ^ 31 by omega)]
    rw [ow2]
    have h5 := ((h4.rv (j := 47) (k := 4 * n + k) (by omega) ow).rv (j := 48) (k := 4 * n + k) (by omega) (nI (m - 1))).rv (j := 49) (k := 4 * n + k) (by omega) ((pl + 1) &&& 65535)
    refine P2.xr (P2.xr (P2.xr ?_))
    refine P2.l (c1_leaveWaiting_n _ _) (P2.r (r_waits_n _ h8) (P2.ret ?_))
    exact (h5.waits hn).un (lk_in3 hl hx.1 hn hk ho (m := m - 1) (by omega) (by omega) rfl e00)
theorem p_linkIn {N : xN} {D : Nat} {S R : xS} (h : REL E0 (LX D N) N S R) {n : Nat} (hn : inN n N) (hp : xI R 0 11 n = 0 ∨ xI R 0 11 n = 1) {k : Nat} (hk : k < 4) {cnt pl : Int32} (hc : cnt &&& 65535 = cnt) (hc2 : cnt ≤ 4096) (hw : pl &&& 65535 = pl) : P2 (c0_inputFromLink n (12 + k) S cnt pl) (r_linkIn R (nI n) (nI (4 * n + k)) cnt pl) (REL E0 (LX (D + 1) N) N) := by
  have h8 := h.le8 hn
  have l33 : 4 * n + k < 33 := by omega
  obtain ⟨m, hm, em⟩ := w16_nat hc
  have hm2 : m ≤ 4096 := by rw [em] at hc2; exact (nI_leI (a := m) (b := 4096) (by omega) (by decide)).mp hc2
  unfold c0_inputFromLink r_linkIn
  refine P2.l (c9_popAll_n _ _) (P2.r (r_popped_3 _ h8) ?_)
  simp only [g33 l33, nI_clamp (show 4 * n + k < 2 ^ 31 by omega)]
  have h1 := h.popAll3 hn (okE0 n)
  have hp1 : xI (rPop (rPop (rPop R n) n) n) 0 11 n = 0 ∨ xI (rPop (rPop (rPop R n) n) n) 0 11 n = 1 := by
    rw [rPop_o _ _ _ _ (by decide) (by decide), rPop_o _ _ _ _ (by decide) (by decide), rPop_o _ _ _ _ (by decide) (by decide)]; exact hp
  revert h1 hp1
  generalize cPopAll S n = S1
  generalize rPop (rPop (rPop R n) n) n = R1
  intro h1 hp1
  clear h hp
  refine P2.ite Iff.rfl (fun _ _ => P2.ret (h1.mono_D (Nat.le_succ D))) (fun c0 _ => ?_)
  have hm1 : m ≠ 0 := fun z => c0 (by rw [em, z]; rfl)
  obtain ⟨s, r, hx, hl⟩ := h1.opn
  obtain ⟨o1, ⟨o2, o3, o4, o5, o6, o7⟩, o8, o9, o10, o11, o12, o13⟩ := (hl.1 n hn.1).2.1 k hk
  have o4' : xI S1 n (12 + k) 7 = xI R1 0 47 (4 * n + k) := by rw [hx.c_eq (by omega), hx.r_eq (by omega)]; exact o4
  have o6' : xI S1 n (12 + k) 10 = xI R1 0 50 (4 * n + k) := by rw [hx.c_eq (by omega), hx.r_eq (by omega)]; exact o6
  rw [o4']
  refine P2.ite Iff.rfl (fun c1 _ => ?_) (fun _ _ => ?_)
  · have hown := h1.own hn hp1
    have ho := w16_own (h1.w_W hn) hp1
    refine P2.l (c1_own_n _ _) (P2.l (c4_beginReceiving_n _ _ _ _ _ _) ?_)
    rw [hown]
    have e6 : xI (sI (sI (sI S1 n (12 + k) 7 (rOwn R1 n)) n (12 + k) 8 cnt) n (12 + k) 9 pl) n (12 + k) 10 = xI R1 0 50 (4 * n + k) := by
      simp (disch := omega) only [xI_ne]
      exact o6'
    refine P2.ite (by rw [e6]) (fun c2 _ => ?_) (fun c2 c3 => ?_)
    · unfold c0_inputFromLink_b58 r_linkIn_b88
      refine P2.nl ?_ (P2.nr c0 (P2.r (r_own_n _ h8) ?_))
      · simp (disch := omega) only [xI_ne, xI_eq]
        exact ne_m1 ho
      simp only [g33 l33, nI_clamp (show 4 * n + k < 2 ^ 31 by omega)]
      refine P2.xr (P2.xr (P2.xr ?_))
      refine P2.l (c1_leaveWaiting_n _ _) (P2.r (r_waits_n _ h8) (P2.ret ?_))
      have h2 := (((((hx.cv (n := n) (j := 12 + k) (k := 7) (by omega) (rOwn R1 n)).cv (n := n) (j := 12 + k) (k := 8) (by omega) cnt).cv (n := n) (j := 12 + k) (k := 9) (by omega) pl).rv (j := 47) (k := 4 * n + k) (by omega) (rOwn R1 n)).rv (j := 48) (k := 4 * n + k) (by omega) cnt).rv (j := 49) (k := 4 * n + k) (by omega) pl
      exact ((h2.waits hn).un (lk_in1 hl hx.1 hn hk ho (by omega) hm2 em hw)).mono_D (Nat.le_succ D)
    · refine P2.l (c4_releaseKept_n _ _ _) (P2.r (r_byteTo_n _ h8 _ _) (P2.xr (P2.xr ?_)))
      dsimp only
      rw [e6, em]
      have e7 : xI (sI (rPb R1 n pl (xI R1 0 50 (4 * n + k))) 0 50 (4 * n + k) (-1)) 0 40 (4 * n + k) = xI R1 0 40 (4 * n + k) := by
        simp (disch := omega) only [xI_ne, xI_rPb]
      have c1' : xI r 0 47 (4 * n + k) = -1 := by rw [← hx.r_eq (by omega)]; exact c1
      have fin := p_linkIn_b hx hl hn hp1 hk (m := m) (by omega) hm2 hw c1' (xI R1 0 50 (4 * n + k))
      rw [e7]
      exact fin
  · refine P2.l (c1_stopWith_n _ _ _) (P2.r (r_stop_n _ h8 _) ?_)
    exact P2.ret ((h1.stop hn 3).mono_D (Nat.le_succ D))
