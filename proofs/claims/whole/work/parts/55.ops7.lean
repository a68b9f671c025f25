/-! operations: channels and alternatives -/
theorem q_18 {N : xN} {D : Nat} {S R : xS} (h : REL E0 (LX D N) N S R) {n : Nat} (hn : inN n N) (hp : xI R 0 11 n = 0 ∨ xI R 0 11 n = 1) : P2 (c7_doChannels n S 18) (r_operates R (nI n) 18) (Qo (LX D N) N) := by
  have h8 := h.le8 hn
  have gA := h.g_A hn (okE0 n).1
  have gB := h.g_B hn (okE0 n).2.1
  have gC := h.g_C hn (okE0 n).2.2
  have wA := h.w_A hn (okE0 n).1
  have wB := h.w_B hn (okE0 n).2.1
  have wC := h.w_C hn (okE0 n).2.2
  unfold c7_doChannels r_operates
  iterate 4 (refine P2.nl (by decide) ?_)
  refine P2.pl rfl ?_
  refine P2.g h8 (P2.g h8 (P2.g h8 ?_))
  iterate 14 (refine P2.nr (by decide) ?_)
  refine P2.pr rfl ?_
  refine P2.gzr ?_
  unfold r_channels
  simp only [gI h8, cl8 h8]
  rw [if_pos trivial]
  exact P2.bind (p_reset h hn) (fun a b q => P2.done q)
theorem q_14 {N : xN} {D : Nat} {S R : xS} (h : REL E0 (LX D N) N S R) {n : Nat} (hn : inN n N) (hp : xI R 0 11 n = 0 ∨ xI R 0 11 n = 1) : P2 (c7_doChannels n S 14) (r_operates R (nI n) 14) (Qo (LX D N) N) := by
  have h8 := h.le8 hn
  have gA := h.g_A hn (okE0 n).1
  have gB := h.g_B hn (okE0 n).2.1
  have gC := h.g_C hn (okE0 n).2.2
  have wA := h.w_A hn (okE0 n).1
  have wB := h.w_B hn (okE0 n).2.1
  have wC := h.w_C hn (okE0 n).2.2
  unfold c7_doChannels r_operates
  iterate 2 (refine P2.nl (by decide) ?_)
  refine P2.pl rfl ?_
  refine P2.g h8 (P2.g h8 (P2.g h8 ?_))
  iterate 12 (refine P2.nr (by decide) ?_)
  refine P2.pr rfl ?_
  refine P2.gzr ?_
  unfold r_channels
  simp only [gI h8, cl8 h8]
  rw [if_neg (by decide), if_pos trivial]
  unfold r_channels_b41 r_channels_b66
  simp only [gI h8, cl8 h8]
  rw [gA]
  refine P2.l (c1_setLocal_n _ _ _ _) (P2.r (r_wordTo_n _ h8 _ _) ?_)
  have h1 := h.pw hn (a := xI S n 4 5 + 2 * 0) (a' := xI R 0 10 n) (v := xI R 0 5 n) (by rw [h.g_W hn, show (2 : Int32) * 0 = 0 from by decide, Int32.add_zero]) rfl
  have f1 := (FRM.rfl' R).pw n (xI R 0 10 n) (xI R 0 5 n)
  refine P2.pr (by first | rfl | trivial) ?_
  rw [h1.g_B hn (okE0 n).2.1, f1 6 n (by decide) (by decide), h1.g_W hn]
  exact P2.bind (p_out h1 hn (f1.hp hp) (cnt := 1) (by decide) (by decide) wB (w14_w16 (h1.w_W hn)) (Or.inl rfl)) (fun a b q => P2.done q)
theorem q_15 {N : xN} {D : Nat} {S R : xS} (h : REL E0 (LX D N) N S R) {n : Nat} (hn : inN n N) (hp : xI R 0 11 n = 0 ∨ xI R 0 11 n = 1) : P2 (c7_doChannels n S 15) (r_operates R (nI n) 15) (Qo (LX D N) N) := by
  have h8 := h.le8 hn
  have gA := h.g_A hn (okE0 n).1
  have gB := h.g_B hn (okE0 n).2.1
  have gC := h.g_C hn (okE0 n).2.2
  have wA := h.w_A hn (okE0 n).1
  have wB := h.w_B hn (okE0 n).2.1
  have wC := h.w_C hn (okE0 n).2.2
  unfold c7_doChannels r_operates
  iterate 3 (refine P2.nl (by decide) ?_)
  refine P2.pl rfl ?_
  refine P2.g h8 (P2.g h8 (P2.g h8 ?_))
  iterate 13 (refine P2.nr (by decide) ?_)
  refine P2.pr rfl ?_
  refine P2.gzr ?_
  unfold r_channels
  simp only [gI h8, cl8 h8]
  rw [if_neg (by decide), if_neg (by decide), if_pos trivial]
  unfold r_channels_b41 r_channels_b66
  simp only [gI h8, cl8 h8]
  rw [gA]
  refine P2.l (c1_setLocal_n _ _ _ _) (P2.r (r_wordTo_n _ h8 _ _) ?_)
  have h1 := h.pw hn (a := xI S n 4 5 + 2 * 0) (a' := xI R 0 10 n) (v := xI R 0 5 n) (by rw [h.g_W hn, show (2 : Int32) * 0 = 0 from by decide, Int32.add_zero]) rfl
  have f1 := (FRM.rfl' R).pw n (xI R 0 10 n) (xI R 0 5 n)
  refine P2.nr (by decide) ?_
  rw [h1.g_B hn (okE0 n).2.1, f1 6 n (by decide) (by decide), h1.g_W hn]
  exact P2.bind (p_out h1 hn (f1.hp hp) (cnt := 2) (by decide) (by decide) wB (w14_w16 (h1.w_W hn)) (Or.inl rfl)) (fun a b q => P2.done q)
theorem q_7 {N : xN} {D : Nat} {S R : xS} (h : REL E0 (LX D N) N S R) {n : Nat} (hn : inN n N) (hp : xI R 0 11 n = 0 ∨ xI R 0 11 n = 1) : P2 (c7_doChannels n S 7) (r_operates R (nI n) 7) (Qo (LX (D + 1) N) N) := by
  have h8 := h.le8 hn
  have gA := h.g_A hn (okE0 n).1
  have gB := h.g_B hn (okE0 n).2.1
  have gC := h.g_C hn (okE0 n).2.2
  have wA := h.w_A hn (okE0 n).1
  have wB := h.w_B hn (okE0 n).2.1
  have wC := h.w_C hn (okE0 n).2.2
  unfold c7_doChannels r_operates
  refine P2.pl rfl ?_
  refine P2.g h8 (P2.g h8 (P2.g h8 ?_))
  iterate 6 (refine P2.nr (by decide) ?_)
  refine P2.pr rfl ?_
  refine P2.gzr ?_
  unfold r_channels
  simp only [gI h8, cl8 h8]
  rw [if_neg (by decide), if_neg (by decide), if_neg (by decide)]
  by_cases hc : xI R 0 5 n ≤ 4096
  · rw [if_pos hc, if_pos trivial]
    exact P2.bind (p_in h hn hp hc) (fun a b q => P2.done q)
  · rw [if_neg hc, r_stop_n _ h8]
    unfold c0_input
    rw [gA, if_neg hc, c1_stopWith_n]
    exact P2.done ((h.stop hn 5).mono_D (Nat.le_succ D))
theorem q_11 {N : xN} {D : Nat} {S R : xS} (h : REL E0 (LX D N) N S R) {n : Nat} (hn : inN n N) (hp : xI R 0 11 n = 0 ∨ xI R 0 11 n = 1) : P2 (c7_doChannels n S 11) (r_operates R (nI n) 11) (Qo (LX D N) N) := by
  have h8 := h.le8 hn
  have gA := h.g_A hn (okE0 n).1
  have gB := h.g_B hn (okE0 n).2.1
  have gC := h.g_C hn (okE0 n).2.2
  have wA := h.w_A hn (okE0 n).1
  have wB := h.w_B hn (okE0 n).2.1
  have wC := h.w_C hn (okE0 n).2.2
  unfold c7_doChannels r_operates
  iterate 1 (refine P2.nl (by decide) ?_)
  refine P2.pl rfl ?_
  refine P2.g h8 (P2.g h8 (P2.g h8 ?_))
  iterate 10 (refine P2.nr (by decide) ?_)
  refine P2.pr rfl ?_
  refine P2.gzr ?_
  unfold r_channels
  simp only [gI h8, cl8 h8]
  rw [if_neg (by decide), if_neg (by decide), if_neg (by decide)]
  by_cases hc : xI R 0 5 n ≤ 4096
  · rw [if_pos hc, if_neg (by decide)]
    rw [gA, gB, gC]
    exact P2.bind (p_out h hn hp wA hc wB wC (Or.inr rfl)) (fun a b q => P2.done q)
  · rw [if_neg hc, r_stop_n _ h8]
    unfold c0_output
    rw [gA, if_neg hc, c1_stopWith_n]
    exact P2.done (h.stop hn 5)
theorem q_43 {N : xN} {D : Nat} {S R : xS} (h : REL E0 (LX D N) N S R) {n : Nat} (hn : inN n N) (hp : xI R 0 11 n = 0 ∨ xI R 0 11 n = 1) : P2 (c7_doChannels n S 43) (r_operates R (nI n) 43) (Qo (LX D N) N) := by
  have h8 := h.le8 hn
  have gA := h.g_A hn (okE0 n).1
  have gB := h.g_B hn (okE0 n).2.1
  have gC := h.g_C hn (okE0 n).2.2
  have wA := h.w_A hn (okE0 n).1
  have wB := h.w_B hn (okE0 n).2.1
  have wC := h.w_C hn (okE0 n).2.2
  unfold c7_doChannels r_operates
  iterate 5 (refine P2.nl (by decide) ?_)
  refine P2.pl rfl ?_
  refine P2.g h8 (P2.g h8 (P2.g h8 ?_))
  iterate 17 (refine P2.nr (by decide) ?_)
  refine P2.pr rfl ?_
  refine P2.gzr ?_
  unfold r_alternates
  refine P2.g h8 (P2.g h8 (P2.g h8 (P2.g h8 ?_)))
  simp only [cl8 h8]
  rw [gclk h8 hp]
  iterate 11 (refine P2.nr (by decide) ?_)
  exact P2.q1 (p_timerIn h hn hp)
theorem q_81 {N : xN} {D : Nat} {S R : xS} (h : REL E0 (LX D N) N S R) {n : Nat} (hn : inN n N) (hp : xI R 0 11 n = 0 ∨ xI R 0 11 n = 1) : P2 (c7_doAlternatives n S 81) (r_operates R (nI n) 81) (Qo (LX D N) N) := by
  have h8 := h.le8 hn
  have gA := h.g_A hn (okE0 n).1
  have gB := h.g_B hn (okE0 n).2.1
  have gC := h.g_C hn (okE0 n).2.2
  have wA := h.w_A hn (okE0 n).1
  have wB := h.w_B hn (okE0 n).2.1
  have wC := h.w_C hn (okE0 n).2.2
  unfold c7_doAlternatives r_operates
  iterate 10 (refine P2.nl (by decide) ?_)
  refine P2.pl rfl ?_
  refine P2.g h8 (P2.g h8 (P2.g h8 ?_))
  iterate 36 (refine P2.nr (by decide) ?_)
  refine P2.pr rfl ?_
  refine P2.gzr ?_
  unfold r_alternates
  refine P2.g h8 (P2.g h8 (P2.g h8 (P2.g h8 ?_)))
  simp only [cl8 h8]
  rw [gclk h8 hp]
  iterate 10 (refine P2.nr (by decide) ?_)
  refine P2.pr (by first | rfl | trivial) ?_
  exact P2.q1 (p_timedWait h hn hp)
theorem q_68 {N : xN} {D : Nat} {S R : xS} (h : REL E0 (LX D N) N S R) {n : Nat} (hn : inN n N) (hp : xI R 0 11 n = 0 ∨ xI R 0 11 n = 1) : P2 (c7_doAlternatives n S 68) (r_operates R (nI n) 68) (Qo (LX D N) N) := by
  have h8 := h.le8 hn
  have gA := h.g_A hn (okE0 n).1
  have gB := h.g_B hn (okE0 n).2.1
  have gC := h.g_C hn (okE0 n).2.2
  have wA := h.w_A hn (okE0 n).1
  have wB := h.w_B hn (okE0 n).2.1
  have wC := h.w_C hn (okE0 n).2.2
  unfold c7_doAlternatives r_operates
  iterate 4 (refine P2.nl (by decide) ?_)
  refine P2.pl rfl ?_
  refine P2.g h8 (P2.g h8 (P2.g h8 ?_))
  iterate 28 (refine P2.nr (by decide) ?_)
  refine P2.pr rfl ?_
  refine P2.gzr ?_
  unfold r_alternates
  refine P2.g h8 (P2.g h8 (P2.g h8 (P2.g h8 ?_)))
  simp only [cl8 h8]
  rw [gclk h8 hp]
  iterate 4 (refine P2.nr (by decide) ?_)
  refine P2.pr (by first | rfl | trivial) ?_
  obtain ⟨a, b, x1, x2, x3⟩ := p_waitGuard h hn
  rw [x1]
  exact ⟨(1, a), b, rfl, x2, rfl, x3.1, x3.2⟩
theorem q_71 {N : xN} {D : Nat} {S R : xS} (h : REL E0 (LX D N) N S R) {n : Nat} (hn : inN n N) (hp : xI R 0 11 n = 0 ∨ xI R 0 11 n = 1) : P2 (c7_doAlternatives n S 71) (r_operates R (nI n) 71) (Qo (LX D N) N) := by
  have h8 := h.le8 hn
  have gA := h.g_A hn (okE0 n).1
  have gB := h.g_B hn (okE0 n).2.1
  have gC := h.g_C hn (okE0 n).2.2
  have wA := h.w_A hn (okE0 n).1
  have wB := h.w_B hn (okE0 n).2.1
  have wC := h.w_C hn (okE0 n).2.2
  unfold c7_doAlternatives r_operates
  iterate 6 (refine P2.nl (by decide) ?_)
  refine P2.pl rfl ?_
  refine P2.g h8 (P2.g h8 (P2.g h8 ?_))
  iterate 31 (refine P2.nr (by decide) ?_)
  refine P2.pr rfl ?_
  refine P2.gzr ?_
  unfold r_alternates
  refine P2.g h8 (P2.g h8 (P2.g h8 (P2.g h8 ?_)))
  simp only [cl8 h8]
  rw [gclk h8 hp]
  iterate 6 (refine P2.nr (by decide) ?_)
  refine P2.pr (by first | rfl | trivial) ?_
  simp only [gI h8]
  obtain ⟨a, b, x1, x2, x3⟩ := p_enTime h hn
  rw [x1]
  exact ⟨(1, a), b, rfl, x2, rfl, x3.1, x3.2⟩
theorem q_72 {N : xN} {D : Nat} {S R : xS} (h : REL E0 (LX D N) N S R) {n : Nat} (hn : inN n N) (hp : xI R 0 11 n = 0 ∨ xI R 0 11 n = 1) : P2 (c7_doAlternatives n S 72) (r_operates R (nI n) 72) (Qo (LX D N) N) := by
  have h8 := h.le8 hn
  have gA := h.g_A hn (okE0 n).1
  have gB := h.g_B hn (okE0 n).2.1
  have gC := h.g_C hn (okE0 n).2.2
  have wA := h.w_A hn (okE0 n).1
  have wB := h.w_B hn (okE0 n).2.1
  have wC := h.w_C hn (okE0 n).2.2
  unfold c7_doAlternatives r_operates
  iterate 7 (refine P2.nl (by decide) ?_)
  refine P2.pl rfl ?_
  refine P2.g h8 (P2.g h8 (P2.g h8 ?_))
  iterate 32 (refine P2.nr (by decide) ?_)
  refine P2.pr rfl ?_
  refine P2.gzr ?_
  unfold r_alternates
  refine P2.g h8 (P2.g h8 (P2.g h8 (P2.g h8 ?_)))
  simp only [cl8 h8]
  rw [gclk h8 hp]
  iterate 7 (refine P2.nr (by decide) ?_)
  refine P2.pr (by first | rfl | trivial) ?_
  simp only [gI h8]
  obtain ⟨a, b, x1, x2, x3⟩ := p_enables h hn hp
  rw [x1]
  exact ⟨(1, a), b, rfl, x2, rfl, x3.1, x3.2⟩
theorem q_73 {N : xN} {D : Nat} {S R : xS} (h : REL E0 (LX D N) N S R) {n : Nat} (hn : inN n N) (hp : xI R 0 11 n = 0 ∨ xI R 0 11 n = 1) : P2 (c7_doAlternatives n S 73) (r_operates R (nI n) 73) (Qo (LX D N) N) := by
  have h8 := h.le8 hn
  have gA := h.g_A hn (okE0 n).1
  have gB := h.g_B hn (okE0 n).2.1
  have gC := h.g_C hn (okE0 n).2.2
  have wA := h.w_A hn (okE0 n).1
  have wB := h.w_B hn (okE0 n).2.1
  have wC := h.w_C hn (okE0 n).2.2
  unfold c7_doAlternatives r_operates
  iterate 8 (refine P2.nl (by decide) ?_)
  refine P2.pl rfl ?_
  refine P2.g h8 (P2.g h8 (P2.g h8 ?_))
  iterate 33 (refine P2.nr (by decide) ?_)
  refine P2.pr rfl ?_
  refine P2.gzr ?_
  unfold r_alternates
  refine P2.g h8 (P2.g h8 (P2.g h8 (P2.g h8 ?_)))
  simp only [cl8 h8]
  rw [gclk h8 hp]
  iterate 8 (refine P2.nr (by decide) ?_)
  refine P2.pr (by first | rfl | trivial) ?_
  unfold c0_enableSkip
  rw [gA]
  by_cases e : xI R 0 5 n = 0
  · rw [if_pos e, if_pos e]
    exact P2.done h
  · rw [if_neg e, if_neg e]
    obtain ⟨a, b, x1, x2, x3⟩ := p_setLocal ⟨h, FRM.rfl' R⟩ hn (-3) (v := 32771) rfl
    rw [x1, x2]
    exact P2.done x3.1
theorem q_67 {N : xN} {D : Nat} {S R : xS} (h : REL E0 (LX D N) N S R) {n : Nat} (hn : inN n N) (hp : xI R 0 11 n = 0 ∨ xI R 0 11 n = 1) : P2 (c7_doAlternatives n S 67) (r_operates R (nI n) 67) (Qo (LX D N) N) := by
  have h8 := h.le8 hn
  have gA := h.g_A hn (okE0 n).1
  have gB := h.g_B hn (okE0 n).2.1
  have gC := h.g_C hn (okE0 n).2.2
  have wA := h.w_A hn (okE0 n).1
  have wB := h.w_B hn (okE0 n).2.1
  have wC := h.w_C hn (okE0 n).2.2
  unfold c7_doAlternatives r_operates
  iterate 3 (refine P2.nl (by decide) ?_)
  refine P2.pl rfl ?_
  refine P2.g h8 (P2.g h8 (P2.g h8 ?_))
  iterate 27 (refine P2.nr (by decide) ?_)
  refine P2.pr rfl ?_
  refine P2.gzr ?_
  unfold r_alternates
  refine P2.g h8 (P2.g h8 (P2.g h8 (P2.g h8 ?_)))
  simp only [cl8 h8]
  rw [gclk h8 hp]
  iterate 3 (refine P2.nr (by decide) ?_)
  refine P2.pr (by first | rfl | trivial) ?_
  refine P2.bind (p_setLocal ⟨h, FRM.rfl' R⟩ hn (-3) rfl) (fun a b q => ?_)
  refine P2.nr (by decide) ?_
  exact P2.done q.1
theorem q_78 {N : xN} {D : Nat} {S R : xS} (h : REL E0 (LX D N) N S R) {n : Nat} (hn : inN n N) (hp : xI R 0 11 n = 0 ∨ xI R 0 11 n = 1) : P2 (c7_doAlternatives n S 78) (r_operates R (nI n) 78) (Qo (LX D N) N) := by
  have h8 := h.le8 hn
  have gA := h.g_A hn (okE0 n).1
  have gB := h.g_B hn (okE0 n).2.1
  have gC := h.g_C hn (okE0 n).2.2
  have wA := h.w_A hn (okE0 n).1
  have wB := h.w_B hn (okE0 n).2.1
  have wC := h.w_C hn (okE0 n).2.2
  unfold c7_doAlternatives r_operates
  iterate 9 (refine P2.nl (by decide) ?_)
  refine P2.pl rfl ?_
  refine P2.g h8 (P2.g h8 (P2.g h8 ?_))
  iterate 35 (refine P2.nr (by decide) ?_)
  refine P2.pr rfl ?_
  refine P2.gzr ?_
  unfold r_alternates
  refine P2.g h8 (P2.g h8 (P2.g h8 (P2.g h8 ?_)))
  simp only [cl8 h8]
  rw [gclk h8 hp]
  iterate 9 (refine P2.nr (by decide) ?_)
  refine P2.pr (by first | rfl | trivial) ?_
  refine P2.bind (p_setLocal ⟨h, FRM.rfl' R⟩ hn (-3) rfl) (fun a b q => ?_)
  refine P2.pr (by first | rfl | trivial) ?_
  refine P2.bind (p_setLocal q hn (-4) rfl) (fun a b q => ?_)
  exact P2.done q.1
theorem q_69 {N : xN} {D : Nat} {S R : xS} (h : REL E0 (LX D N) N S R) {n : Nat} (hn : inN n N) (hp : xI R 0 11 n = 0 ∨ xI R 0 11 n = 1) : P2 (c7_doAlternatives n S 69) (r_operates R (nI n) 69) (Qo (LX D N) N) := by
  have h8 := h.le8 hn
  have gA := h.g_A hn (okE0 n).1
  have gB := h.g_B hn (okE0 n).2.1
  have gC := h.g_C hn (okE0 n).2.2
  have wA := h.w_A hn (okE0 n).1
  have wB := h.w_B hn (okE0 n).2.1
  have wC := h.w_C hn (okE0 n).2.2
  unfold c7_doAlternatives r_operates
  iterate 5 (refine P2.nl (by decide) ?_)
  refine P2.pl rfl ?_
  refine P2.g h8 (P2.g h8 (P2.g h8 ?_))
  iterate 29 (refine P2.nr (by decide) ?_)
  refine P2.pr rfl ?_
  refine P2.gzr ?_
  unfold r_alternates
  refine P2.g h8 (P2.g h8 (P2.g h8 (P2.g h8 ?_)))
  simp only [cl8 h8]
  rw [gclk h8 hp]
  iterate 5 (refine P2.nr (by decide) ?_)
  refine P2.pr (by first | rfl | trivial) ?_
  refine P2.g h8 ?_
  refine P2.bind (p_local ⟨h, FRM.rfl' R⟩ hn 0) (fun o p q => ?_)
  obtain ⟨o1, S1⟩ := o
  obtain ⟨p1, R1⟩ := p
  obtain ⟨e1, e2, h1, f1⟩ := q
  have e1 : o1 = p1 := e1
  have h1 : REL E0 (LX D N) N S1 R1 := h1
  subst e1
  refine P2.g h8 (P2.l rfl (P2.xr ?_))
  refine P2.done (h1.s_I hn ?_ (w16 _))
  rw [h1.g_I hn, f1 9 n (by decide) (by decide)]
theorem q_48 {N : xN} {D : Nat} {S R : xS} (h : REL E0 (LX D N) N S R) {n : Nat} (hn : inN n N) (hp : xI R 0 11 n = 0 ∨ xI R 0 11 n = 1) : P2 (c7_doAlternatives n S 48) (r_operates R (nI n) 48) (Qo (LX D N) N) := by
  have h8 := h.le8 hn
  have gA := h.g_A hn (okE0 n).1
  have gB := h.g_B hn (okE0 n).2.1
  have gC := h.g_C hn (okE0 n).2.2
  have wA := h.w_A hn (okE0 n).1
  have wB := h.w_B hn (okE0 n).2.1
  have wC := h.w_C hn (okE0 n).2.2
  unfold c7_doAlternatives r_operates
  iterate 2 (refine P2.nl (by decide) ?_)
  refine P2.pl rfl ?_
  refine P2.g h8 (P2.g h8 (P2.g h8 ?_))
  iterate 21 (refine P2.nr (by decide) ?_)
  refine P2.pr rfl ?_
  refine P2.gzr ?_
  unfold r_alternates
  refine P2.g h8 (P2.g h8 (P2.g h8 (P2.g h8 ?_)))
  simp only [cl8 h8]
  rw [gclk h8 hp]
  iterate 2 (refine P2.nr (by decide) ?_)
  refine P2.pr (by first | rfl | trivial) ?_
  unfold c0_disableSkip
  rw [gB]
  by_cases e : xI R 0 6 n = 0
  · rw [if_pos e, if_pos e]
    obtain ⟨a, b, x1, x2, x3⟩ := p_choose h hn 0
    rw [x1, x2]
    exact P2.q1 (P2.ret x3)
  · rw [if_neg e, if_neg e]
    obtain ⟨a, b, x1, x2, x3⟩ := p_choose h hn 1
    rw [x1, x2]
    exact P2.q1 (P2.ret x3)
theorem gz_ite {c : Prop} [Decidable c] (x y : Option (Int32 × xS)) : (if c then (x.bind (fun (r, S) => gz r (some (r, S)))) else (y.bind (fun (r, S) => gz r (some (r, S))))) = (if c then x else y).bind (fun (r, S) => gz r (some (r, S))) := by
  by_cases h : c
  · rw [if_pos h, if_pos h]
  · rw [if_neg h, if_neg h]
theorem bind_gz {α : Type} (x : Option α) (f : α → Option (Int32 × xS)) : (x.bind (fun a => (f a).bind (fun (r, S) => gz r (some (r, S))))) = (x.bind f).bind (fun (r, S) => gz r (some (r, S))) := by
  cases x <;> rfl
theorem q_46 {N : xN} {D : Nat} {S R : xS} (h : REL E0 (LX D N) N S R) {n : Nat} (hn : inN n N) (hp : xI R 0 11 n = 0 ∨ xI R 0 11 n = 1) : P2 (c7_doAlternatives n S 46) (r_operates R (nI n) 46) (Qo (LX D N) N) := by
  have h8 := h.le8 hn
  have gA := h.g_A hn (okE0 n).1
  have gB := h.g_B hn (okE0 n).2.1
  have gC := h.g_C hn (okE0 n).2.2
  have wA := h.w_A hn (okE0 n).1
  have wB := h.w_B hn (okE0 n).2.1
  have wC := h.w_C hn (okE0 n).2.2
  unfold c7_doAlternatives r_operates
  refine P2.pl rfl ?_
  refine P2.g h8 (P2.g h8 (P2.g h8 ?_))
  iterate 19 (refine P2.nr (by decide) ?_)
  refine P2.pr rfl ?_
  refine P2.gzr ?_
  unfold r_alternates
  refine P2.g h8 (P2.g h8 (P2.g h8 (P2.g h8 ?_)))
  simp only [cl8 h8]
  rw [gclk h8 hp]
  refine P2.pr (by first | rfl | trivial) ?_
  obtain ⟨a, b, x1, x2, x3⟩ := p_disTime h hn
  rw [x1]
  refine ⟨(1, a), b, rfl, ?_, rfl, x3.1, x3.2⟩
  obtain ⟨b1, b2⟩ := b
  have x4 : b1 = 1 := x3.1
  subst x4
  have gzs : ∀ {y : Option (Int32 × xS)}, y = some (1, b2) → y.bind (fun (r, S) => gz r (some (r, S))) = some (1, b2) := fun e => by rw [e]; exact gz1 _
  by_cases e : xI R 0 6 n = 0
  · rw [if_pos e] at x2 ⊢
    exact gzs x2
  · rw [if_neg e] at x2 ⊢
    rw [r_mine_n _ h8, Option.bind_some] at x2 ⊢
    dsimp only at x2 ⊢
    by_cases e2 : rGw R n (xI R 0 10 n + 2 * -4) = 32769
    · rw [if_pos e2] at x2 ⊢
      rw [r_mine_n _ h8, Option.bind_some, r_isLater_n, Option.bind_some] at x2 ⊢
      generalize (if sg _ ≤ 0 then (0 : Int32) else 1) = z at x2 ⊢
      by_cases e3 : z = 0
      · rw [if_pos e3] at x2 ⊢
        exact gzs x2
      · rw [if_neg e3] at x2 ⊢
        exact gzs x2
    · rw [if_neg e2] at x2 ⊢
      exact gzs x2
theorem q_47 {N : xN} {D : Nat} {S R : xS} (h : REL E0 (LX D N) N S R) {n : Nat} (hn : inN n N) (hp : xI R 0 11 n = 0 ∨ xI R 0 11 n = 1) : P2 (c7_doAlternatives n S 47) (r_operates R (nI n) 47) (Qo (LX D N) N) := by
  have h8 := h.le8 hn
  have gA := h.g_A hn (okE0 n).1
  have gB := h.g_B hn (okE0 n).2.1
  have gC := h.g_C hn (okE0 n).2.2
  have wA := h.w_A hn (okE0 n).1
  have wB := h.w_B hn (okE0 n).2.1
  have wC := h.w_C hn (okE0 n).2.2
  unfold c7_doAlternatives r_operates
  iterate 1 (refine P2.nl (by decide) ?_)
  refine P2.pl rfl ?_
  refine P2.g h8 (P2.g h8 (P2.g h8 ?_))
  iterate 20 (refine P2.nr (by decide) ?_)
  refine P2.pr rfl ?_
  refine P2.gzr ?_
  unfold r_alternates
  refine P2.g h8 (P2.g h8 (P2.g h8 (P2.g h8 ?_)))
  simp only [cl8 h8]
  rw [gclk h8 hp]
  iterate 1 (refine P2.nr (by decide) ?_)
  refine P2.pr (by first | rfl | trivial) ?_
  obtain ⟨a, b, x1, x2, x3⟩ := p_disables h hn hp
  rw [x1]
  refine ⟨(1, a), b, rfl, ?_, rfl, x3.1, x3.2⟩
  obtain ⟨b1, b2⟩ := b
  have x4 : b1 = 1 := x3.1
  subst x4
  have gzs : ∀ {y : Option (Int32 × xS)}, y = some (1, b2) → y.bind (fun (r, S) => gz r (some (r, S))) = some (1, b2) := fun e => by rw [e]; exact gz1 _
  by_cases e : xI R 0 6 n = 0
  · rw [if_pos e] at x2 ⊢
    exact gzs x2
  · rw [if_neg e] at x2 ⊢
    cases hd : r_disables R (nI n) (xI R 0 7 n) with
    | none => rw [hd] at x2; cases x2
    | some y =>
      rw [hd] at x2
      obtain ⟨y1, y2⟩ := y
      rw [Option.bind_some] at x2 ⊢
      dsimp only at x2 ⊢
      by_cases e3 : y1 = 0
      · rw [if_pos e3] at x2 ⊢
        exact gzs x2
      · rw [if_neg e3] at x2 ⊢
        exact gzs x2
