/-! which process runs next -/
theorem n10 : ¬ (1 : Int32) = 0 := by decide
theorem s22 (R : xS) (k : Nat) (v : Int32) {j k' : Nat} (w : Int32) (h : j ≠ 22) : sI (sI R 0 22 k v) 0 j k' w = sI (sI R 0 j k' w) 0 22 k v := sI_comm R v w (by omega)
theorem s12 (R : xS) (k : Nat) (v : Int32) {j k' : Nat} (w : Int32) (h : j < 12) : sI (sI R 0 12 k v) 0 j k' w = sI (sI R 0 j k' w) 0 12 k v := sI_comm R v w (by omega)
/-- related, and the reference's outcome is o -/
def Qn (X : xS → xS → Prop) (N : xN) (n : Nat) (v : Int32) (o p : xS) : Prop := REL E0 X N o p ∧ xI p 0 13 n = v
theorem rGw_sI (R : xS) {j k : Nat} (v : Int32) (n : Nat) (a : Int32) (h : j ≠ 4) : rGw (sI R 0 j k v) n a = rGw R n a := by
  unfold rGw
  rw [rB_sI _ _ _ _ h, rB_sI _ _ _ _ h]
theorem rUw_sI (R : xS) {j k : Nat} (v : Int32) (n : Nat) (a : Int32) (h : j ≠ 18) : rUw (sI R 0 j k v) n a = sI (rUw R n a) 0 j k v := by
  unfold rUw
  by_cases e : inM (adw a)
  · rw [if_pos e, if_pos e]
  · rw [if_neg e, if_neg e, sI_comm _ _ _ (by omega)]
/-- the first of a queue, on both sides, where the rest of the queue is read -/
theorem p_takes_end {X : xS → xS → Prop} {N : xN} {S R : xS} {n : Nat} (h : REL E0 X N S R) (hn : inN n N) {p x t : Int32} (hp : p = 0 ∨ p = 1 ∨ p = 2) {j2 q : Nat} (hq : q < 16) (hs : REL E0 X N (sI S n j2 0 t) (sI R 0 19 q t)) {v : Int32} (hv : xI R 0 13 n = v) : P2 (c1_resumeFirst_b29 n j2 p x t S) (r_takes_b44 (nI n) p x t (nI q) R) (Qn X N n v) := by
  have h8 := h.le8 hn
  unfold c1_resumeFirst_b29 r_takes_b44
  rw [gd_nI hq (by decide), nI_clamp (show q < 2 ^ 31 by omega)]
  simp only [gI h8, cl8 h8]
  have hv1 : xI (sI R 0 19 q t) 0 13 n = v := by rw [xI_ne _ _ (by omega)]; exact hv
  refine P2.xl (P2.xr (P2.xr ?_))
  revert hs hv1
  generalize sI S n j2 0 t = S1
  generalize sI R 0 19 q t = R1
  intro hs hv1
  refine P2.l (c5_wordAt_n _ _ _) (P2.r (r_word_n _ h8 _) ?_)
  rw [xI_eq, rGw_sI _ _ _ _ (by decide), rUw_sI _ _ _ _ (by decide), hs.gw hn (a := (x &&& 65534) - 2) rfl]
  have h1 := hs.tw hn (a := (x &&& 65534) - 2) rfl
  refine P2.l rfl (P2.xr (P2.xr (P2.xr (P2.xr (P2.ret ?_)))))
  have h2 := ((((h1.s_I hn (v := rGw R1 n ((x &&& 65534) - 2)) rfl (w16_rGw _ _ _)).s_W hn (v := x &&& 65534) rfl (w14 _)).s_P hn (v := p) rfl hp).s_O hn (v := 0) rfl).s_L hn (v := 0) rfl
  have e : sI (sI (sI (sI (sI (rUw R1 n ((x &&& 65534) - 2)) 0 9 n (rGw R1 n ((x &&& 65534) - 2))) 0 10 n (x &&& 65534)) 0 11 n p) 0 8 n 0) 0 12 n 0 = sI (sI (sI (sI (sI (rUw R1 n ((x &&& 65534) - 2)) 0 10 n (x &&& 65534)) 0 9 n (rGw R1 n ((x &&& 65534) - 2))) 0 8 n 0) 0 12 n 0) 0 11 n p := by
    simp (disch := omega) only [sI_sort]
  rw [e] at h2
  refine ⟨h2, ?_⟩
  simp (disch := omega) only [xI_ne, xI_rUw]
  exact hv1
theorem p_takes0 {X : xS → xS → Prop} {N : xN} {S R : xS} {n : Nat} (h : REL E0 X N S R) (hn : inN n N) {v : Int32} (hv : xI R 0 13 n = v) : P2 (c1_resumeFirst n 6 S 0) (r_takes R (nI n) 0) (Qn X N n v) := by
  have h8 := h.le8 hn
  unfold c1_resumeFirst r_takes
  rw [ix20, Int32.add_zero, gQ0 h8, gQ0 h8, clQ0 h8, h.g_f0 hn, h.g_b0 hn]
  refine P2.ite Iff.rfl (fun _ _ => ?_) (fun _ _ => ?_)
  · exact p_takes_end h hn (Or.inl rfl) (by omega) (h.s_f0 hn rfl) hv
  · refine P2.l (c5_wordAt_n _ _ _) (P2.r (r_word_n _ h8 _) ?_)
    rw [h.gw hn rfl]
    have h1 := h.tw hn (a := xI R 0 19 (2 * n) - 4) rfl
    exact p_takes_end h1 hn (Or.inl rfl) (by omega) (h1.s_f0 hn rfl) (by rw [xI_rUw _ _ _ _ _ (by decide)]; exact hv)
theorem p_takes1 {X : xS → xS → Prop} {N : xN} {S R : xS} {n : Nat} (h : REL E0 X N S R) (hn : inN n N) {v : Int32} (hv : xI R 0 13 n = v) : P2 (c1_resumeFirst n 7 S 1) (r_takes R (nI n) 1) (Qn X N n v) := by
  have h8 := h.le8 hn
  unfold c1_resumeFirst r_takes
  rw [ix20, ix21, gQ1 h8, gQ1 h8, clQ1 h8, h.g_f1 hn, h.g_b1 hn]
  refine P2.ite Iff.rfl (fun _ _ => ?_) (fun _ _ => ?_)
  · exact p_takes_end h hn (Or.inr (Or.inl rfl)) (by omega) (h.s_f1 hn rfl) hv
  · refine P2.l (c5_wordAt_n _ _ _) (P2.r (r_word_n _ h8 _) ?_)
    rw [h.gw hn rfl]
    have h1 := h.tw hn (a := xI R 0 19 (2 * n + 1) - 4) rfl
    exact p_takes_end h1 hn (Or.inr (Or.inl rfl)) (by omega) (h1.s_f1 hn rfl) (by rw [xI_rUw _ _ _ _ _ (by decide)]; exact hv)
theorem p_choose2 {X : xS → xS → Prop} {N : xN} {S R : xS} {n : Nat} (h : REL E0 X N S R) (hn : inN n N) {v : Int32} (hv : xI R 0 13 n = v) : P2 (c1_chooseNext_b40 n S) (r_next_b121 (nI n) R) (Qn X N n v) := by
  have h8 := h.le8 hn
  unfold c1_chooseNext_b40 r_next_b121 c1_hasProcess c8_isEmpty
  simp only [ix20, ix21, gQ0 h8, gQ1 h8, clQ0 h8, clQ1 h8, gI h8, cl8 h8, nar0]
  rw [h.g_P hn]
  by_cases e : xI R 0 11 n = 2
  · rw [if_pos e, if_pos e]
    refine P2.l rfl (P2.pl rfl ?_)
    rw [h.g_f0 hn]
    by_cases e2 : xI R 0 19 (2 * n) = 32768
    · rw [if_pos e2, if_pos e2]
      refine P2.l rfl (P2.nl n10 ?_)
      rcases h.g_shelf hn with ⟨s1, s2⟩ | ⟨s1, s2⟩
      · rw [s1, s2]
        refine P2.nl (by decide) (P2.nr (by decide) ?_)
        unfold c9_copyFrom c9_setStack
        simp only [xnm, Option.bind_some]
        simp (disch := omega) only [xI_ne]
        have h2 := ((((((((h.s_A hn (h.g_oA hn) (h.w_oA hn)).s_B hn (h.g_oB hn) (h.w_oB hn)).s_C hn (h.g_oC hn) (h.w_oC hn)).s_O hn (h.g_oO hn)).s_I hn (h.g_oI hn) (h.w_oI hn)).s_W hn (h.g_oW hn) (h.w_oW hn)).s_P hn s1 (Or.inr (Or.inl rfl))).s_L hn (h.g_oL hn)).s_shelf hn (v := 2) (w := 0) (Or.inr ⟨rfl, rfl⟩)
        refine P2.ret ⟨?_, ?_⟩
        · simp (disch := omega) only [s22, s12] at h2 ⊢
          exact h2
        · simp (disch := omega) only [xI_ne]
          exact hv
      · rw [s1, s2]
        refine P2.pl rfl (P2.pr rfl ?_)
        rw [h.g_f1 hn]
        by_cases e3 : xI R 0 19 (2 * n + 1) = 32768
        · rw [if_pos e3, if_pos e3]
          refine P2.l rfl (P2.nl n10 ?_)
          exact P2.ret ⟨h, hv⟩
        · rw [if_neg e3, if_neg e3]
          refine P2.l rfl (P2.pl rfl ?_)
          exact P2.bind (p_takes1 h hn hv) (fun a b q => P2.ret q)
    · rw [if_neg e2, if_neg e2]
      refine P2.l rfl (P2.pl rfl ?_)
      exact P2.bind (p_takes0 h hn hv) (fun a b q => P2.ret q)
  · rw [if_neg e, if_neg e]
    refine P2.l rfl (P2.nl n10 ?_)
    exact P2.ret ⟨h, hv⟩
theorem p_next {X : xS → xS → Prop} {N : xN} {S R : xS} {n : Nat} (h : REL E0 X N S R) (hn : inN n N) {v : Int32} (hv : xI R 0 13 n = v) : P2 (c1_chooseNext n S) (r_next R (nI n)) (Qn X N n v) := by
  have h8 := h.le8 hn
  unfold c1_chooseNext r_next c8_isEmpty
  simp only [ix20, gQ0 h8, clQ0 h8, gI h8, cl8 h8, nar1]
  rw [h.g_P hn]
  by_cases e : xI R 0 11 n = 1
  · rw [if_pos e, if_pos e, h.g_f0 hn]
    by_cases e2 : xI R 0 19 (2 * n) = 32768
    · rw [if_pos e2, if_pos e2]
      refine P2.l rfl (P2.nl n10 ?_)
      exact p_choose2 h hn hv
    · rw [if_neg e2, if_neg e2]
      refine P2.l rfl (P2.pl rfl ?_)
      unfold c9_copyFrom c9_setStack
      simp only [xnm, Option.bind_some]
      simp (disch := omega) only [xI_ne]
      have sP : xI S n 4 6 = 1 := by rw [h.g_P hn]; exact e
      have h2 := ((((((((h.s_oA hn (h.g_A hn (okE0 n).1) (h.w_A hn (okE0 n).1)).s_oB hn (h.g_B hn (okE0 n).2.1) (h.w_B hn (okE0 n).2.1)).s_oC hn (h.g_C hn (okE0 n).2.2) (h.w_C hn (okE0 n).2.2)).s_oO hn (h.g_O hn (fun z => z))).s_oI hn (h.g_I hn) (h.w_I hn)).s_oW hn (h.g_W hn) (h.w_W hn)).s_shelf hn (v := xI S n 4 6) (w := 1) (Or.inl ⟨sP, rfl⟩)).s_oL hn (h.g_L hn)).s_P hn (v := 2) rfl (Or.inr (Or.inr rfl))
      refine p_choose2 ?_ hn ?_
      · simp (disch := omega) only [s22, s12] at h2 ⊢
        exact h2
      · simp (disch := omega) only [xI_ne]
        exact hv
  · rw [if_neg e, if_neg e]
    exact p_choose2 h hn hv
/-- the processor's turn in a tick -/
theorem p_turn {X Y : xS → xS → Prop} {N : xN} {S R : xS} {n : Nat} (h : REL E0 X N S R) (hn : inN n N) (ho : opsOk X Y N n) (hxy : subX X Y N) : P2 ((c6_prepareTurn n S).bind (fun (r, S1) => if r = 0 then some S1 else c7_execute n S1)) (r_executes R (nI n)) (REL E0 Y N) := by
  have h8 := h.le8 hn
  unfold c6_prepareTurn r_executes
  simp only [gI h8, cl8 h8, nar0]
  rw [h.g_busy hn, h.g_out hn]
  by_cases e1 : xI R 0 14 n ≤ 0
  · rw [if_pos e1, if_pos e1]
    by_cases e2 : xI R 0 13 n = 0
    · rw [if_pos e2, if_pos e2]
      obtain ⟨S3, R3, c1, c2, h3, v3⟩ := p_next h hn e2
      rw [c1, c2, Option.bind_some, Option.bind_some, h3.c_bey hn, Option.bind_some]
      rcases h3.w_bey hn with b | b
      · have hb : cBey S3 n = S3 := by
          unfold cBey
          rw [if_pos (h3.z_bey hn b v3)]
        rw [hb, if_pos (by rw [h3.g_out hn]; exact v3), if_pos b]
        unfold c1_hasProcess
        rw [h3.g_P hn]
        by_cases e3 : xI R3 0 11 n = 2
        · rw [if_pos e3, if_pos e3]
          exact P2.ret (hxy _ _ h3)
        · rw [if_neg e3, if_neg e3]
          have hp : xI R3 0 11 n = 0 ∨ xI R3 0 11 n = 1 := (h3.w_P hn).elim Or.inl (fun z => z.elim Or.inr (fun z => absurd z e3))
          obtain ⟨a, b, x1, x2, x3⟩ := p_step h3 hn hp ho hxy
          rw [x2]
          exact ⟨a, b, x1, rfl, x3⟩
      · have b2 : ¬ xI R3 0 18 n = 0 := by rw [b]; decide
        have hb := h3.bey hn
        have hr : rBey R3 n = sI (rStop R3 n 2) 0 18 n 0 := if_neg b2
        have ho2 : xI (rBey R3 n) 0 13 n = 2 := by
          rw [hr, xI_ne _ _ (by omega)]
          unfold rStop
          rw [if_pos v3, xI_eq]
        rw [if_neg b2]
        simp only [xnm]
        rw [r_stop_n _ h8, rStop_sI _ _ _ (by decide), ← hr]
        rw [if_neg (by rw [hb.g_out hn, ho2]; decide)]
        exact P2.ret (hxy _ _ hb)
    · rw [if_neg e2, if_neg e2]
      exact P2.ret (hxy _ _ h)
  · rw [if_neg e1, if_neg e1]
    exact P2.ret (hxy _ _ (h.s_busy hn rfl))
