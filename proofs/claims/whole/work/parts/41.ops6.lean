/-! operations: check sums, bits -/
theorem q_116 {X : xS → xS → Prop} {N : xN} {S R : xS} (h : REL E0 X N S R) {n : Nat} (hn : inN n N) (hp : xI R 0 11 n = 0 ∨ xI R 0 11 n = 1) : P2 (c7_doLogic n S 116) (r_operates R (nI n) 116) (Qo X N) := by
  have h8 := h.le8 hn
  have gA := h.g_A hn (okE0 n).1
  have gB := h.g_B hn (okE0 n).2.1
  have gC := h.g_C hn (okE0 n).2.2
  have wA := h.w_A hn (okE0 n).1
  have wB := h.w_B hn (okE0 n).2.1
  have wC := h.w_C hn (okE0 n).2.2
  unfold c7_doLogic r_operates
  iterate 7 (refine P2.nl (by decide) ?_)
  refine P2.pl rfl ?_
  refine P2.g h8 (P2.g h8 (P2.g h8 ?_))
  iterate 41 (refine P2.nr (by decide) ?_)
  refine P2.gzr ?_
  unfold r_others
  iterate 24 (refine P2.nr (by decide) ?_)
  refine P2.gzr ?_
  unfold r_more
  iterate 18 (refine P2.nr (by decide) ?_)
  refine P2.pr rfl ?_
  refine P2.pr rfl ?_
  exact P2.q1 (p_crc h hn (m := 16) (by decide))
theorem q_117 {X : xS → xS → Prop} {N : xN} {S R : xS} (h : REL E0 X N S R) {n : Nat} (hn : inN n N) (hp : xI R 0 11 n = 0 ∨ xI R 0 11 n = 1) : P2 (c7_doLogic n S 117) (r_operates R (nI n) 117) (Qo X N) := by
  have h8 := h.le8 hn
  have gA := h.g_A hn (okE0 n).1
  have gB := h.g_B hn (okE0 n).2.1
  have gC := h.g_C hn (okE0 n).2.2
  have wA := h.w_A hn (okE0 n).1
  have wB := h.w_B hn (okE0 n).2.1
  have wC := h.w_C hn (okE0 n).2.2
  unfold c7_doLogic r_operates
  iterate 8 (refine P2.nl (by decide) ?_)
  refine P2.pl rfl ?_
  refine P2.g h8 (P2.g h8 (P2.g h8 ?_))
  iterate 41 (refine P2.nr (by decide) ?_)
  refine P2.gzr ?_
  unfold r_others
  iterate 24 (refine P2.nr (by decide) ?_)
  refine P2.gzr ?_
  unfold r_more
  iterate 19 (refine P2.nr (by decide) ?_)
  refine P2.pr rfl ?_
  refine P2.nr (by decide) ?_
  exact P2.q1 (p_crc h hn (m := 8) (by decide))
theorem q_118 {X : xS → xS → Prop} {N : xN} {S R : xS} (h : REL E0 X N S R) {n : Nat} (hn : inN n N) (hp : xI R 0 11 n = 0 ∨ xI R 0 11 n = 1) : P2 (c7_doLogic n S 118) (r_operates R (nI n) 118) (Qo X N) := by
  have h8 := h.le8 hn
  have gA := h.g_A hn (okE0 n).1
  have gB := h.g_B hn (okE0 n).2.1
  have gC := h.g_C hn (okE0 n).2.2
  have wA := h.w_A hn (okE0 n).1
  have wB := h.w_B hn (okE0 n).2.1
  have wC := h.w_C hn (okE0 n).2.2
  unfold c7_doLogic r_operates
  iterate 9 (refine P2.nl (by decide) ?_)
  refine P2.pl rfl ?_
  refine P2.g h8 (P2.g h8 (P2.g h8 ?_))
  iterate 39 (refine P2.nr (by decide) ?_)
  refine P2.pr rfl ?_
  simp only [gA, gB, gC, gI h8, cl8 h8, c11_signed_n, r_signed_n, c9_replaceTwo_n, r_gives_n _ h8, c7_checked_n, r_checked_n _ h8, c9_push_n, r_push_n _ h8, c9_pop_n, r_pop_n _ h8, c9_popAll_n, r_popped_1 _ h8, r_popped_2 _ h8, r_popped_3 _ h8, c5_wordAt_n, c5_setWord_n, c5_byteAt_n, c5_setByte_n, r_word_n _ h8, r_wordTo_n _ h8, r_byteAt_n _ h8, r_byteTo_n _ h8, c1_makeReady_n, r_ready_n _ h8, c1_leaveWaiting_n, r_waits_n _ h8, c1_yieldIfSliced_n, r_sliced_n _ h8, c1_stopWith_n, r_stop_n _ h8, r_fails_0, r_fails_1 _ h8, c7_failIf_0, c7_failIf_1, Option.bind_some, gz1, gz0, nar0, nar1, xnm, ix20, ix21, gQ0 h8, gQ1 h8, clQ0 h8, clQ1 h8]
  obtain ⟨a, ha, ea⟩ := w16_nat wA
  rw [ea, bc_eq ha, r_bits_n ha]
  simp only [Option.bind_some, c9_replaceTwo_n, r_gives_n _ h8, gz1]
  exact P2.done (h.two hn (okE0 n) rfl)
