/-! operations: checks, moves, scheduling -/
theorem q_16 {X : xS → xS → Prop} {N : xN} {S R : xS} (h : REL E0 X N S R) {n : Nat} (hn : inN n N) (hp : xI R 0 11 n = 0 ∨ xI R 0 11 n = 1) : P2 (c7_doChecks n S 16) (r_operates R (nI n) 16) (Qo X N) := by
  have h8 := h.le8 hn
  have gA := h.g_A hn (okE0 n).1
  have gB := h.g_B hn (okE0 n).2.1
  have gC := h.g_C hn (okE0 n).2.2
  have wA := h.w_A hn (okE0 n).1
  have wB := h.w_B hn (okE0 n).2.1
  have wC := h.w_C hn (okE0 n).2.2
  unfold c7_doChecks r_operates
  refine P2.pl rfl ?_
  refine P2.g h8 (P2.g h8 (P2.g h8 ?_))
  iterate 41 (refine P2.nr (by decide) ?_)
  refine P2.gzr ?_
  unfold r_others
  iterate 2 (refine P2.nr (by decide) ?_)
  refine P2.pr rfl ?_
  simp only [gA, gB, gC, gI h8, cl8 h8, c11_signed_n, r_signed_n, c9_replaceTwo_n, r_gives_n _ h8, c7_checked_n, r_checked_n _ h8, c9_push_n, r_push_n _ h8, c9_pop_n, r_pop_n _ h8, c9_popAll_n, r_popped_1 _ h8, r_popped_2 _ h8, r_popped_3 _ h8, c5_wordAt_n, c5_setWord_n, c5_byteAt_n, c5_setByte_n, r_word_n _ h8, r_wordTo_n _ h8, r_byteAt_n _ h8, r_byteTo_n _ h8, c1_makeReady_n, r_ready_n _ h8, c1_leaveWaiting_n, r_waits_n _ h8, c1_yieldIfSliced_n, r_sliced_n _ h8, c1_stopWith_n, r_stop_n _ h8, r_fails_0, r_fails_1 _ h8, c7_failIf_0, c7_failIf_1, Option.bind_some, gz1, gz0, nar0, nar1, xnm, ix20, ix21, gQ0 h8, gQ1 h8, clQ0 h8, clQ1 h8]
  exact P2.done (h.err hn)
theorem q_19 {X : xS → xS → Prop} {N : xN} {S R : xS} (h : REL E0 X N S R) {n : Nat} (hn : inN n N) (hp : xI R 0 11 n = 0 ∨ xI R 0 11 n = 1) : P2 (c7_doChecks n S 19) (r_operates R (nI n) 19) (Qo X N) := by
  have h8 := h.le8 hn
  have gA := h.g_A hn (okE0 n).1
  have gB := h.g_B hn (okE0 n).2.1
  have gC := h.g_C hn (okE0 n).2.2
  have wA := h.w_A hn (okE0 n).1
  have wB := h.w_B hn (okE0 n).2.1
  have wC := h.w_C hn (okE0 n).2.2
  unfold c7_doChecks r_operates
  iterate 1 (refine P2.nl (by decide) ?_)
  refine P2.pl rfl ?_
  refine P2.g h8 (P2.g h8 (P2.g h8 ?_))
  iterate 41 (refine P2.nr (by decide) ?_)
  refine P2.gzr ?_
  unfold r_others
  iterate 3 (refine P2.nr (by decide) ?_)
  refine P2.pr rfl ?_
  simp only [gA, gB, gC, gI h8, cl8 h8, c11_signed_n, r_signed_n, c9_replaceTwo_n, r_gives_n _ h8, c7_checked_n, r_checked_n _ h8, c9_push_n, r_push_n _ h8, c9_pop_n, r_pop_n _ h8, c9_popAll_n, r_popped_1 _ h8, r_popped_2 _ h8, r_popped_3 _ h8, c5_wordAt_n, c5_setWord_n, c5_byteAt_n, c5_setByte_n, r_word_n _ h8, r_wordTo_n _ h8, r_byteAt_n _ h8, r_byteTo_n _ h8, c1_makeReady_n, r_ready_n _ h8, c1_leaveWaiting_n, r_waits_n _ h8, c1_yieldIfSliced_n, r_sliced_n _ h8, c1_stopWith_n, r_stop_n _ h8, r_fails_0, r_fails_1 _ h8, c7_failIf_0, c7_failIf_1, Option.bind_some, gz1, gz0, nar0, nar1, xnm, ix20, ix21, gQ0 h8, gQ1 h8, clQ0 h8, clQ1 h8]
  exact P2.ite Iff.rfl (fun _ _ => P2.done (h.pop hn (okE0 n))) (fun _ _ => P2.done ((h.err hn).pop hn (okE0 n)))
theorem q_41 {X : xS → xS → Prop} {N : xN} {S R : xS} (h : REL E0 X N S R) {n : Nat} (hn : inN n N) (hp : xI R 0 11 n = 0 ∨ xI R 0 11 n = 1) : P2 (c7_doChecks n S 41) (r_operates R (nI n) 41) (Qo X N) := by
  have h8 := h.le8 hn
  have gA := h.g_A hn (okE0 n).1
  have gB := h.g_B hn (okE0 n).2.1
  have gC := h.g_C hn (okE0 n).2.2
  have wA := h.w_A hn (okE0 n).1
  have wB := h.w_B hn (okE0 n).2.1
  have wC := h.w_C hn (okE0 n).2.2
  unfold c7_doChecks r_operates
  iterate 2 (refine P2.nl (by decide) ?_)
  refine P2.pl rfl ?_
  refine P2.g h8 (P2.g h8 (P2.g h8 ?_))
  iterate 41 (refine P2.nr (by decide) ?_)
  refine P2.gzr ?_
  unfold r_others
  iterate 16 (refine P2.nr (by decide) ?_)
  refine P2.pr rfl ?_
  simp only [gA, gB, gC, gI h8, cl8 h8, c11_signed_n, r_signed_n, c9_replaceTwo_n, r_gives_n _ h8, c7_checked_n, r_checked_n _ h8, c9_push_n, r_push_n _ h8, c9_pop_n, r_pop_n _ h8, c9_popAll_n, r_popped_1 _ h8, r_popped_2 _ h8, r_popped_3 _ h8, c5_wordAt_n, c5_setWord_n, c5_byteAt_n, c5_setByte_n, r_word_n _ h8, r_wordTo_n _ h8, r_byteAt_n _ h8, r_byteTo_n _ h8, c1_makeReady_n, r_ready_n _ h8, c1_leaveWaiting_n, r_waits_n _ h8, c1_yieldIfSliced_n, r_sliced_n _ h8, c1_stopWith_n, r_stop_n _ h8, r_fails_0, r_fails_1 _ h8, c7_failIf_0, c7_failIf_1, Option.bind_some, gz1, gz0, nar0, nar1, xnm, ix20, ix21, gQ0 h8, gQ1 h8, clQ0 h8, clQ1 h8, c7_doChecks_b158, r_others_b704]
  rw [h.g_err hn]
  exact P2.ite Iff.rfl (fun _ _ => P2.done ((h.push hn (okE0 n) rfl).s_err hn rfl (Or.inl rfl))) (fun _ _ => P2.done ((h.push hn (okE0 n) rfl).s_err hn rfl (Or.inl rfl)))
theorem q_76 {X : xS → xS → Prop} {N : xN} {S R : xS} (h : REL E0 X N S R) {n : Nat} (hn : inN n N) (hp : xI R 0 11 n = 0 ∨ xI R 0 11 n = 1) : P2 (c7_doChecks n S 76) (r_operates R (nI n) 76) (Qo X N) := by
  have h8 := h.le8 hn
  have gA := h.g_A hn (okE0 n).1
  have gB := h.g_B hn (okE0 n).2.1
  have gC := h.g_C hn (okE0 n).2.2
  have wA := h.w_A hn (okE0 n).1
  have wB := h.w_B hn (okE0 n).2.1
  have wC := h.w_C hn (okE0 n).2.2
  unfold c7_doChecks r_operates
  iterate 3 (refine P2.nl (by decide) ?_)
  refine P2.pl rfl ?_
  refine P2.g h8 (P2.g h8 (P2.g h8 ?_))
  iterate 41 (refine P2.nr (by decide) ?_)
  refine P2.gzr ?_
  unfold r_others
  iterate 24 (refine P2.nr (by decide) ?_)
  refine P2.gzr ?_
  unfold r_more
  iterate 8 (refine P2.nr (by decide) ?_)
  refine P2.pr rfl ?_
  simp only [gA, gB, gC, gI h8, cl8 h8, c11_signed_n, r_signed_n, c9_replaceTwo_n, r_gives_n _ h8, c7_checked_n, r_checked_n _ h8, c9_push_n, r_push_n _ h8, c9_pop_n, r_pop_n _ h8, c9_popAll_n, r_popped_1 _ h8, r_popped_2 _ h8, r_popped_3 _ h8, c5_wordAt_n, c5_setWord_n, c5_byteAt_n, c5_setByte_n, r_word_n _ h8, r_wordTo_n _ h8, r_byteAt_n _ h8, r_byteTo_n _ h8, c1_makeReady_n, r_ready_n _ h8, c1_leaveWaiting_n, r_waits_n _ h8, c1_yieldIfSliced_n, r_sliced_n _ h8, c1_stopWith_n, r_stop_n _ h8, r_fails_0, r_fails_1 _ h8, c7_failIf_0, c7_failIf_1, Option.bind_some, gz1, gz0, nar0, nar1, xnm, ix20, ix21, gQ0 h8, gQ1 h8, clQ0 h8, clQ1 h8, c7_doChecks_b199, c7_doChecks_b207, r_more_b457, r_more_b465]
  refine P2.ite Iff.rfl (fun _ _ => ?_) (fun _ _ => ?_)
  · refine P2.ite Iff.rfl (fun _ _ => P2.done ?_) (fun _ _ => P2.done ?_)
    · exact h.s_B hn rfl wC
    · have h1 := h.err hn
      refine h1.s_B hn ?_ wC
      rw [h1.g_C hn (okE0 n).2.2, xI_sI, if_neg (by omega)]
  · refine P2.ite Iff.rfl (fun _ _ => P2.done ?_) (fun _ _ => P2.done ?_)
    · exact h.s_B hn rfl wC
    · have h1 := h.err hn
      refine h1.s_B hn ?_ wC
      rw [h1.g_C hn (okE0 n).2.2, xI_sI, if_neg (by omega)]
theorem q_77 {X : xS → xS → Prop} {N : xN} {S R : xS} (h : REL E0 X N S R) {n : Nat} (hn : inN n N) (hp : xI R 0 11 n = 0 ∨ xI R 0 11 n = 1) : P2 (c7_doChecks n S 77) (r_operates R (nI n) 77) (Qo X N) := by
  have h8 := h.le8 hn
  have gA := h.g_A hn (okE0 n).1
  have gB := h.g_B hn (okE0 n).2.1
  have gC := h.g_C hn (okE0 n).2.2
  have wA := h.w_A hn (okE0 n).1
  have wB := h.w_B hn (okE0 n).2.1
  have wC := h.w_C hn (okE0 n).2.2
  unfold c7_doChecks r_operates
  iterate 4 (refine P2.nl (by decide) ?_)
  refine P2.pl rfl ?_
  refine P2.g h8 (P2.g h8 (P2.g h8 ?_))
  iterate 41 (refine P2.nr (by decide) ?_)
  refine P2.gzr ?_
  unfold r_others
  iterate 24 (refine P2.nr (by decide) ?_)
  refine P2.gzr ?_
  unfold r_more
  iterate 9 (refine P2.nr (by decide) ?_)
  refine P2.pr rfl ?_
  simp only [gA, gB, gC, gI h8, cl8 h8, c11_signed_n, r_signed_n, c9_replaceTwo_n, r_gives_n _ h8, c7_checked_n, r_checked_n _ h8, c9_push_n, r_push_n _ h8, c9_pop_n, r_pop_n _ h8, c9_popAll_n, r_popped_1 _ h8, r_popped_2 _ h8, r_popped_3 _ h8, c5_wordAt_n, c5_setWord_n, c5_byteAt_n, c5_setByte_n, r_word_n _ h8, r_wordTo_n _ h8, r_byteAt_n _ h8, r_byteTo_n _ h8, c1_makeReady_n, r_ready_n _ h8, c1_leaveWaiting_n, r_waits_n _ h8, c1_yieldIfSliced_n, r_sliced_n _ h8, c1_stopWith_n, r_stop_n _ h8, r_fails_0, r_fails_1 _ h8, c7_failIf_0, c7_failIf_1, Option.bind_some, gz1, gz0, nar0, nar1, xnm, ix20, ix21, gQ0 h8, gQ1 h8, clQ0 h8, clQ1 h8, c7_doChecks_b255, r_more_b492]
  refine P2.ite Iff.rfl (fun _ _ => P2.done ((h.err hn).pop hn (okE0 n))) (fun _ _ => ?_)
  exact P2.ite Iff.rfl (fun _ _ => P2.done (h.pop hn (okE0 n))) (fun _ _ => P2.done ((h.err hn).pop hn (okE0 n)))
theorem q_85 {X : xS → xS → Prop} {N : xN} {S R : xS} (h : REL E0 X N S R) {n : Nat} (hn : inN n N) (hp : xI R 0 11 n = 0 ∨ xI R 0 11 n = 1) : P2 (c7_doChecks n S 85) (r_operates R (nI n) 85) (Qo X N) := by
  have h8 := h.le8 hn
  have gA := h.g_A hn (okE0 n).1
  have gB := h.g_B hn (okE0 n).2.1
  have gC := h.g_C hn (okE0 n).2.2
  have wA := h.w_A hn (okE0 n).1
  have wB := h.w_B hn (okE0 n).2.1
  have wC := h.w_C hn (okE0 n).2.2
  unfold c7_doChecks r_operates
  iterate 5 (refine P2.nl (by decide) ?_)
  refine P2.pl rfl ?_
  refine P2.g h8 (P2.g h8 (P2.g h8 ?_))
  iterate 41 (refine P2.nr (by decide) ?_)
  refine P2.gzr ?_
  unfold r_others
  iterate 24 (refine P2.nr (by decide) ?_)
  refine P2.gzr ?_
  unfold r_more
  iterate 12 (refine P2.nr (by decide) ?_)
  refine P2.pr rfl ?_
  simp only [gA, gB, gC, gI h8, cl8 h8, c11_signed_n, r_signed_n, c9_replaceTwo_n, r_gives_n _ h8, c7_checked_n, r_checked_n _ h8, c9_push_n, r_push_n _ h8, c9_pop_n, r_pop_n _ h8, c9_popAll_n, r_popped_1 _ h8, r_popped_2 _ h8, r_popped_3 _ h8, c5_wordAt_n, c5_setWord_n, c5_byteAt_n, c5_setByte_n, r_word_n _ h8, r_wordTo_n _ h8, r_byteAt_n _ h8, r_byteTo_n _ h8, c1_makeReady_n, r_ready_n _ h8, c1_leaveWaiting_n, r_waits_n _ h8, c1_yieldIfSliced_n, r_sliced_n _ h8, c1_stopWith_n, r_stop_n _ h8, r_fails_0, r_fails_1 _ h8, c7_failIf_0, c7_failIf_1, Option.bind_some, gz1, gz0, nar0, nar1, xnm, ix20, ix21, gQ0 h8, gQ1 h8, clQ0 h8, clQ1 h8]
  rw [h.g_err hn]
  exact P2.ite Iff.rfl (fun _ _ => P2.done h) (fun _ _ => P2.done (h.waits hn))
theorem q_86 {X : xS → xS → Prop} {N : xN} {S R : xS} (h : REL E0 X N S R) {n : Nat} (hn : inN n N) (hp : xI R 0 11 n = 0 ∨ xI R 0 11 n = 1) : P2 (c7_doChecks n S 86) (r_operates R (nI n) 86) (Qo X N) := by
  have h8 := h.le8 hn
  have gA := h.g_A hn (okE0 n).1
  have gB := h.g_B hn (okE0 n).2.1
  have gC := h.g_C hn (okE0 n).2.2
  have wA := h.w_A hn (okE0 n).1
  have wB := h.w_B hn (okE0 n).2.1
  have wC := h.w_C hn (okE0 n).2.2
  unfold c7_doChecks r_operates
  iterate 6 (refine P2.nl (by decide) ?_)
  refine P2.pl rfl ?_
  refine P2.g h8 (P2.g h8 (P2.g h8 ?_))
  iterate 41 (refine P2.nr (by decide) ?_)
  refine P2.gzr ?_
  unfold r_others
  iterate 24 (refine P2.nr (by decide) ?_)
  refine P2.gzr ?_
  unfold r_more
  iterate 13 (refine P2.nr (by decide) ?_)
  refine P2.pr rfl ?_
  simp only [gA, gB, gC, gI h8, cl8 h8, c11_signed_n, r_signed_n, c9_replaceTwo_n, r_gives_n _ h8, c7_checked_n, r_checked_n _ h8, c9_push_n, r_push_n _ h8, c9_pop_n, r_pop_n _ h8, c9_popAll_n, r_popped_1 _ h8, r_popped_2 _ h8, r_popped_3 _ h8, c5_wordAt_n, c5_setWord_n, c5_byteAt_n, c5_setByte_n, r_word_n _ h8, r_wordTo_n _ h8, r_byteAt_n _ h8, r_byteTo_n _ h8, c1_makeReady_n, r_ready_n _ h8, c1_leaveWaiting_n, r_waits_n _ h8, c1_yieldIfSliced_n, r_sliced_n _ h8, c1_stopWith_n, r_stop_n _ h8, r_fails_0, r_fails_1 _ h8, c7_failIf_0, c7_failIf_1, Option.bind_some, gz1, gz0, nar0, nar1, xnm, ix20, ix21, gQ0 h8, gQ1 h8, clQ0 h8, clQ1 h8, c7_doChecks_b343, r_more_b620]
  refine P2.ite Iff.rfl (fun _ _ => P2.done ((h.err hn).pop hn (okE0 n))) (fun _ _ => ?_)
  exact P2.ite Iff.rfl (fun _ _ => P2.done (h.pop hn (okE0 n))) (fun _ _ => P2.done ((h.err hn).pop hn (okE0 n)))
theorem q_87 {X : xS → xS → Prop} {N : xN} {S R : xS} (h : REL E0 X N S R) {n : Nat} (hn : inN n N) (hp : xI R 0 11 n = 0 ∨ xI R 0 11 n = 1) : P2 (c7_doChecks n S 87) (r_operates R (nI n) 87) (Qo X N) := by
  have h8 := h.le8 hn
  have gA := h.g_A hn (okE0 n).1
  have gB := h.g_B hn (okE0 n).2.1
  have gC := h.g_C hn (okE0 n).2.2
  have wA := h.w_A hn (okE0 n).1
  have wB := h.w_B hn (okE0 n).2.1
  have wC := h.w_C hn (okE0 n).2.2
  unfold c7_doChecks r_operates
  iterate 7 (refine P2.nl (by decide) ?_)
  refine P2.pl rfl ?_
  refine P2.g h8 (P2.g h8 (P2.g h8 ?_))
  iterate 41 (refine P2.nr (by decide) ?_)
  refine P2.gzr ?_
  unfold r_others
  iterate 24 (refine P2.nr (by decide) ?_)
  refine P2.gzr ?_
  unfold r_more
  iterate 14 (refine P2.nr (by decide) ?_)
  refine P2.pr rfl ?_
  refine P2.nr (by decide) ?_
  simp only [gA, gB, gC, gI h8, cl8 h8, c11_signed_n, r_signed_n, c9_replaceTwo_n, r_gives_n _ h8, c7_checked_n, r_checked_n _ h8, c9_push_n, r_push_n _ h8, c9_pop_n, r_pop_n _ h8, c9_popAll_n, r_popped_1 _ h8, r_popped_2 _ h8, r_popped_3 _ h8, c5_wordAt_n, c5_setWord_n, c5_byteAt_n, c5_setByte_n, r_word_n _ h8, r_wordTo_n _ h8, r_byteAt_n _ h8, r_byteTo_n _ h8, c1_makeReady_n, r_ready_n _ h8, c1_leaveWaiting_n, r_waits_n _ h8, c1_yieldIfSliced_n, r_sliced_n _ h8, c1_stopWith_n, r_stop_n _ h8, r_fails_0, r_fails_1 _ h8, c7_failIf_0, c7_failIf_1, Option.bind_some, gz1, gz0, nar0, nar1, xnm, ix20, ix21, gQ0 h8, gQ1 h8, clQ0 h8, clQ1 h8]
  exact P2.done (h.s_halt hn rfl (Or.inl rfl))
theorem q_88 {X : xS → xS → Prop} {N : xN} {S R : xS} (h : REL E0 X N S R) {n : Nat} (hn : inN n N) (hp : xI R 0 11 n = 0 ∨ xI R 0 11 n = 1) : P2 (c7_doChecks n S 88) (r_operates R (nI n) 88) (Qo X N) := by
  have h8 := h.le8 hn
  have gA := h.g_A hn (okE0 n).1
  have gB := h.g_B hn (okE0 n).2.1
  have gC := h.g_C hn (okE0 n).2.2
  have wA := h.w_A hn (okE0 n).1
  have wB := h.w_B hn (okE0 n).2.1
  have wC := h.w_C hn (okE0 n).2.2
  unfold c7_doChecks r_operates
  iterate 8 (refine P2.nl (by decide) ?_)
  refine P2.pl rfl ?_
  refine P2.g h8 (P2.g h8 (P2.g h8 ?_))
  iterate 41 (refine P2.nr (by decide) ?_)
  refine P2.gzr ?_
  unfold r_others
  iterate 24 (refine P2.nr (by decide) ?_)
  refine P2.gzr ?_
  unfold r_more
  iterate 15 (refine P2.nr (by decide) ?_)
  refine P2.pr rfl ?_
  refine P2.pr rfl ?_
  simp only [gA, gB, gC, gI h8, cl8 h8, c11_signed_n, r_signed_n, c9_replaceTwo_n, r_gives_n _ h8, c7_checked_n, r_checked_n _ h8, c9_push_n, r_push_n _ h8, c9_pop_n, r_pop_n _ h8, c9_popAll_n, r_popped_1 _ h8, r_popped_2 _ h8, r_popped_3 _ h8, c5_wordAt_n, c5_setWord_n, c5_byteAt_n, c5_setByte_n, r_word_n _ h8, r_wordTo_n _ h8, r_byteAt_n _ h8, r_byteTo_n _ h8, c1_makeReady_n, r_ready_n _ h8, c1_leaveWaiting_n, r_waits_n _ h8, c1_yieldIfSliced_n, r_sliced_n _ h8, c1_stopWith_n, r_stop_n _ h8, r_fails_0, r_fails_1 _ h8, c7_failIf_0, c7_failIf_1, Option.bind_some, gz1, gz0, nar0, nar1, xnm, ix20, ix21, gQ0 h8, gQ1 h8, clQ0 h8, clQ1 h8]
  exact P2.done (h.s_halt hn rfl (Or.inr rfl))
theorem q_89 {X : xS → xS → Prop} {N : xN} {S R : xS} (h : REL E0 X N S R) {n : Nat} (hn : inN n N) (hp : xI R 0 11 n = 0 ∨ xI R 0 11 n = 1) : P2 (c7_doChecks n S 89) (r_operates R (nI n) 89) (Qo X N) := by
  have h8 := h.le8 hn
  have gA := h.g_A hn (okE0 n).1
  have gB := h.g_B hn (okE0 n).2.1
  have gC := h.g_C hn (okE0 n).2.2
  have wA := h.w_A hn (okE0 n).1
  have wB := h.w_B hn (okE0 n).2.1
  have wC := h.w_C hn (okE0 n).2.2
  unfold c7_doChecks r_operates
  iterate 9 (refine P2.nl (by decide) ?_)
  refine P2.pl rfl ?_
  refine P2.g h8 (P2.g h8 (P2.g h8 ?_))
  iterate 41 (refine P2.nr (by decide) ?_)
  refine P2.gzr ?_
  unfold r_others
  iterate 24 (refine P2.nr (by decide) ?_)
  refine P2.gzr ?_
  unfold r_more
  iterate 16 (refine P2.nr (by decide) ?_)
  refine P2.pr rfl ?_
  simp only [gA, gB, gC, gI h8, cl8 h8, c11_signed_n, r_signed_n, c9_replaceTwo_n, r_gives_n _ h8, c7_checked_n, r_checked_n _ h8, c9_push_n, r_push_n _ h8, c9_pop_n, r_pop_n _ h8, c9_popAll_n, r_popped_1 _ h8, r_popped_2 _ h8, r_popped_3 _ h8, c5_wordAt_n, c5_setWord_n, c5_byteAt_n, c5_setByte_n, r_word_n _ h8, r_wordTo_n _ h8, r_byteAt_n _ h8, r_byteTo_n _ h8, c1_makeReady_n, r_ready_n _ h8, c1_leaveWaiting_n, r_waits_n _ h8, c1_yieldIfSliced_n, r_sliced_n _ h8, c1_stopWith_n, r_stop_n _ h8, r_fails_0, r_fails_1 _ h8, c7_failIf_0, c7_failIf_1, Option.bind_some, gz1, gz0, nar0, nar1, xnm, ix20, ix21, gQ0 h8, gQ1 h8, clQ0 h8, clQ1 h8]
  rw [h.g_halt hn]
  exact P2.ite Iff.rfl (fun _ _ => P2.done (h.push hn (okE0 n) rfl)) (fun _ _ => P2.done (h.push hn (okE0 n) rfl))
theorem q_0 {X : xS → xS → Prop} {N : xN} {S R : xS} (h : REL E0 X N S R) {n : Nat} (hn : inN n N) (hp : xI R 0 11 n = 0 ∨ xI R 0 11 n = 1) : P2 (c7_doMoves n S 0) (r_operates R (nI n) 0) (Qo X N) := by
  have h8 := h.le8 hn
  have gA := h.g_A hn (okE0 n).1
  have gB := h.g_B hn (okE0 n).2.1
  have gC := h.g_C hn (okE0 n).2.2
  have wA := h.w_A hn (okE0 n).1
  have wB := h.w_B hn (okE0 n).2.1
  have wC := h.w_C hn (okE0 n).2.2
  unfold c7_doMoves r_operates
  refine P2.pl rfl ?_
  refine P2.g h8 (P2.g h8 (P2.g h8 ?_))
  refine P2.pr rfl ?_
  simp only [gA, gB, gC, gI h8, cl8 h8, c11_signed_n, r_signed_n, c9_replaceTwo_n, r_gives_n _ h8, c7_checked_n, r_checked_n _ h8, c9_push_n, r_push_n _ h8, c9_pop_n, r_pop_n _ h8, c9_popAll_n, r_popped_1 _ h8, r_popped_2 _ h8, r_popped_3 _ h8, c5_wordAt_n, c5_setWord_n, c5_byteAt_n, c5_setByte_n, r_word_n _ h8, r_wordTo_n _ h8, r_byteAt_n _ h8, r_byteTo_n _ h8, c1_makeReady_n, r_ready_n _ h8, c1_leaveWaiting_n, r_waits_n _ h8, c1_yieldIfSliced_n, r_sliced_n _ h8, c1_stopWith_n, r_stop_n _ h8, r_fails_0, r_fails_1 _ h8, c7_failIf_0, c7_failIf_1, Option.bind_some, gz1, gz0, nar0, nar1, xnm, ix20, ix21, gQ0 h8, gQ1 h8, clQ0 h8, clQ1 h8, c9_setStack]
  have h1 := (h.s_A hn rfl wB).s_B hn rfl wA
  refine P2.done (h1.rC hn ?_ wC)
  rw [xI_sI, if_neg (by omega), xI_sI, if_neg (by omega)]
theorem q_1 {X : xS → xS → Prop} {N : xN} {S R : xS} (h : REL E0 X N S R) {n : Nat} (hn : inN n N) (hp : xI R 0 11 n = 0 ∨ xI R 0 11 n = 1) : P2 (c7_doMoves n S 1) (r_operates R (nI n) 1) (Qo X N) := by
  have h8 := h.le8 hn
  have gA := h.g_A hn (okE0 n).1
  have gB := h.g_B hn (okE0 n).2.1
  have gC := h.g_C hn (okE0 n).2.2
  have wA := h.w_A hn (okE0 n).1
  have wB := h.w_B hn (okE0 n).2.1
  have wC := h.w_C hn (okE0 n).2.2
  unfold c7_doMoves r_operates
  iterate 1 (refine P2.nl (by decide) ?_)
  refine P2.pl rfl ?_
  refine P2.g h8 (P2.g h8 (P2.g h8 ?_))
  iterate 1 (refine P2.nr (by decide) ?_)
  refine P2.pr rfl ?_
  simp only [gA, gB, gC, gI h8, cl8 h8, c11_signed_n, r_signed_n, c9_replaceTwo_n, r_gives_n _ h8, c7_checked_n, r_checked_n _ h8, c9_push_n, r_push_n _ h8, c9_pop_n, r_pop_n _ h8, c9_popAll_n, r_popped_1 _ h8, r_popped_2 _ h8, r_popped_3 _ h8, c5_wordAt_n, c5_setWord_n, c5_byteAt_n, c5_setByte_n, r_word_n _ h8, r_wordTo_n _ h8, r_byteAt_n _ h8, r_byteTo_n _ h8, c1_makeReady_n, r_ready_n _ h8, c1_leaveWaiting_n, r_waits_n _ h8, c1_yieldIfSliced_n, r_sliced_n _ h8, c1_stopWith_n, r_stop_n _ h8, r_fails_0, r_fails_1 _ h8, c7_failIf_0, c7_failIf_1, Option.bind_some, gz1, gz0, nar0, nar1, xnm, ix20, ix21, gQ0 h8, gQ1 h8, clQ0 h8, clQ1 h8]
  exact P2.done ((h.tb hn rfl).s_A hn (h.gb hn rfl) (w16_rGb R n _))
theorem q_6 {X : xS → xS → Prop} {N : xN} {S R : xS} (h : REL E0 X N S R) {n : Nat} (hn : inN n N) (hp : xI R 0 11 n = 0 ∨ xI R 0 11 n = 1) : P2 (c7_doMoves n S 6) (r_operates R (nI n) 6) (Qo X N) := by
  have h8 := h.le8 hn
  have gA := h.g_A hn (okE0 n).1
  have gB := h.g_B hn (okE0 n).2.1
  have gC := h.g_C hn (okE0 n).2.2
  have wA := h.w_A hn (okE0 n).1
  have wB := h.w_B hn (okE0 n).2.1
  have wC := h.w_C hn (okE0 n).2.2
  unfold c7_doMoves r_operates
  iterate 2 (refine P2.nl (by decide) ?_)
  refine P2.pl rfl ?_
  refine P2.g h8 (P2.g h8 (P2.g h8 ?_))
  iterate 5 (refine P2.nr (by decide) ?_)
  refine P2.pr rfl ?_
  simp only [gA, gB, gC, gI h8, cl8 h8, c11_signed_n, r_signed_n, c9_replaceTwo_n, r_gives_n _ h8, c7_checked_n, r_checked_n _ h8, c9_push_n, r_push_n _ h8, c9_pop_n, r_pop_n _ h8, c9_popAll_n, r_popped_1 _ h8, r_popped_2 _ h8, r_popped_3 _ h8, c5_wordAt_n, c5_setWord_n, c5_byteAt_n, c5_setByte_n, r_word_n _ h8, r_wordTo_n _ h8, r_byteAt_n _ h8, r_byteTo_n _ h8, c1_makeReady_n, r_ready_n _ h8, c1_leaveWaiting_n, r_waits_n _ h8, c1_yieldIfSliced_n, r_sliced_n _ h8, c1_stopWith_n, r_stop_n _ h8, r_fails_0, r_fails_1 _ h8, c7_failIf_0, c7_failIf_1, Option.bind_some, gz1, gz0, nar0, nar1, xnm, ix20, ix21, gQ0 h8, gQ1 h8, clQ0 h8, clQ1 h8, c7_exchangeWithI]
  rw [h.g_I hn]
  exact P2.done ((h.s_A hn rfl (h.w_I hn)).s_I hn rfl wA)
theorem q_27 {X : xS → xS → Prop} {N : xN} {S R : xS} (h : REL E0 X N S R) {n : Nat} (hn : inN n N) (hp : xI R 0 11 n = 0 ∨ xI R 0 11 n = 1) : P2 (c7_doMoves n S 27) (r_operates R (nI n) 27) (Qo X N) := by
  have h8 := h.le8 hn
  have gA := h.g_A hn (okE0 n).1
  have gB := h.g_B hn (okE0 n).2.1
  have gC := h.g_C hn (okE0 n).2.2
  have wA := h.w_A hn (okE0 n).1
  have wB := h.w_B hn (okE0 n).2.1
  have wC := h.w_C hn (okE0 n).2.2
  unfold c7_doMoves r_operates
  iterate 3 (refine P2.nl (by decide) ?_)
  refine P2.pl rfl ?_
  refine P2.g h8 (P2.g h8 (P2.g h8 ?_))
  iterate 41 (refine P2.nr (by decide) ?_)
  refine P2.gzr ?_
  unfold r_others
  iterate 9 (refine P2.nr (by decide) ?_)
  refine P2.pr rfl ?_
  simp only [gA, gB, gC, gI h8, cl8 h8, c11_signed_n, r_signed_n, c9_replaceTwo_n, r_gives_n _ h8, c7_checked_n, r_checked_n _ h8, c9_push_n, r_push_n _ h8, c9_pop_n, r_pop_n _ h8, c9_popAll_n, r_popped_1 _ h8, r_popped_2 _ h8, r_popped_3 _ h8, c5_wordAt_n, c5_setWord_n, c5_byteAt_n, c5_setByte_n, r_word_n _ h8, r_wordTo_n _ h8, r_byteAt_n _ h8, r_byteTo_n _ h8, c1_makeReady_n, r_ready_n _ h8, c1_leaveWaiting_n, r_waits_n _ h8, c1_yieldIfSliced_n, r_sliced_n _ h8, c1_stopWith_n, r_stop_n _ h8, r_fails_0, r_fails_1 _ h8, c7_failIf_0, c7_failIf_1, Option.bind_some, gz1, gz0, nar0, nar1, xnm, ix20, ix21, gQ0 h8, gQ1 h8, clQ0 h8, clQ1 h8]
  rw [h.g_I hn]
  exact P2.done (h.s_A hn rfl (w16 _))
theorem q_30 {X : xS → xS → Prop} {N : xN} {S R : xS} (h : REL E0 X N S R) {n : Nat} (hn : inN n N) (hp : xI R 0 11 n = 0 ∨ xI R 0 11 n = 1) : P2 (c7_doMoves n S 30) (r_operates R (nI n) 30) (Qo X N) := by
  have h8 := h.le8 hn
  have gA := h.g_A hn (okE0 n).1
  have gB := h.g_B hn (okE0 n).2.1
  have gC := h.g_C hn (okE0 n).2.2
  have wA := h.w_A hn (okE0 n).1
  have wB := h.w_B hn (okE0 n).2.1
  have wC := h.w_C hn (okE0 n).2.2
  unfold c7_doMoves r_operates
  iterate 4 (refine P2.nl (by decide) ?_)
  refine P2.pl rfl ?_
  refine P2.g h8 (P2.g h8 (P2.g h8 ?_))
  iterate 41 (refine P2.nr (by decide) ?_)
  refine P2.gzr ?_
  unfold r_others
  iterate 12 (refine P2.nr (by decide) ?_)
  refine P2.pr rfl ?_
  simp only [gA, gB, gC, gI h8, cl8 h8, c11_signed_n, r_signed_n, c9_replaceTwo_n, r_gives_n _ h8, c7_checked_n, r_checked_n _ h8, c9_push_n, r_push_n _ h8, c9_pop_n, r_pop_n _ h8, c9_popAll_n, r_popped_1 _ h8, r_popped_2 _ h8, r_popped_3 _ h8, c5_wordAt_n, c5_setWord_n, c5_byteAt_n, c5_setByte_n, r_word_n _ h8, r_wordTo_n _ h8, r_byteAt_n _ h8, r_byteTo_n _ h8, c1_makeReady_n, r_ready_n _ h8, c1_leaveWaiting_n, r_waits_n _ h8, c1_yieldIfSliced_n, r_sliced_n _ h8, c1_stopWith_n, r_stop_n _ h8, r_fails_0, r_fails_1 _ h8, c7_failIf_0, c7_failIf_1, Option.bind_some, gz1, gz0, nar0, nar1, xnm, ix20, ix21, gQ0 h8, gQ1 h8, clQ0 h8, clQ1 h8]
  exact P2.done (h.push hn (okE0 n) (h.g_P hn))
theorem q_32 {X : xS → xS → Prop} {N : xN} {S R : xS} (h : REL E0 X N S R) {n : Nat} (hn : inN n N) (hp : xI R 0 11 n = 0 ∨ xI R 0 11 n = 1) : P2 (c7_doMoves n S 32) (r_operates R (nI n) 32) (Qo X N) := by
  have h8 := h.le8 hn
  have gA := h.g_A hn (okE0 n).1
  have gB := h.g_B hn (okE0 n).2.1
  have gC := h.g_C hn (okE0 n).2.2
  have wA := h.w_A hn (okE0 n).1
  have wB := h.w_B hn (okE0 n).2.1
  have wC := h.w_C hn (okE0 n).2.2
  unfold c7_doMoves r_operates
  iterate 5 (refine P2.nl (by decide) ?_)
  refine P2.pl rfl ?_
  refine P2.g h8 (P2.g h8 (P2.g h8 ?_))
  iterate 41 (refine P2.nr (by decide) ?_)
  refine P2.gzr ?_
  unfold r_others
  iterate 13 (refine P2.nr (by decide) ?_)
  refine P2.pr rfl ?_
  simp only [gA, gB, gC, gI h8, cl8 h8, c11_signed_n, r_signed_n, c9_replaceTwo_n, r_gives_n _ h8, c7_checked_n, r_checked_n _ h8, c9_push_n, r_push_n _ h8, c9_pop_n, r_pop_n _ h8, c9_popAll_n, r_popped_1 _ h8, r_popped_2 _ h8, r_popped_3 _ h8, c5_wordAt_n, c5_setWord_n, c5_byteAt_n, c5_setByte_n, r_word_n _ h8, r_wordTo_n _ h8, r_byteAt_n _ h8, r_byteTo_n _ h8, c1_makeReady_n, r_ready_n _ h8, c1_leaveWaiting_n, r_waits_n _ h8, c1_yieldIfSliced_n, r_sliced_n _ h8, c1_stopWith_n, r_stop_n _ h8, r_fails_0, r_fails_1 _ h8, c7_failIf_0, c7_failIf_1, Option.bind_some, gz1, gz0, nar0, nar1, xnm, ix20, ix21, gQ0 h8, gQ1 h8, clQ0 h8, clQ1 h8, c1_local, c9_setWorkspace]
  have e0 : xI S n 4 5 + (2 : Int32) * 0 = xI R 0 10 n := by rw [h.g_W hn, show (2 : Int32) * 0 = 0 from by decide, Int32.add_zero]
  rw [e0]
  have h1 := h.tw hn (a := xI R 0 10 n) rfl
  have h2 := h1.s_I hn (h.gw hn (a := xI R 0 10 n) rfl) (w16_rGw R n _)
  refine P2.done (h2.s_W hn ?_ ?_)
  · rw [h2.g_W hn]
    exact ev_add8 (h2.w_W hn)
  · rw [← ev_add8 (h2.w_W hn)]
    exact w14 _
theorem q_34 {X : xS → xS → Prop} {N : xN} {S R : xS} (h : REL E0 X N S R) {n : Nat} (hn : inN n N) (hp : xI R 0 11 n = 0 ∨ xI R 0 11 n = 1) : P2 (c7_doMoves n S 34) (r_operates R (nI n) 34) (Qo X N) := by
  have h8 := h.le8 hn
  have gA := h.g_A hn (okE0 n).1
  have gB := h.g_B hn (okE0 n).2.1
  have gC := h.g_C hn (okE0 n).2.2
  have wA := h.w_A hn (okE0 n).1
  have wB := h.w_B hn (okE0 n).2.1
  have wC := h.w_C hn (okE0 n).2.2
  unfold c7_doMoves r_operates
  iterate 7 (refine P2.nl (by decide) ?_)
  refine P2.pl rfl ?_
  refine P2.g h8 (P2.g h8 (P2.g h8 ?_))
  iterate 41 (refine P2.nr (by decide) ?_)
  refine P2.gzr ?_
  unfold r_others
  iterate 15 (refine P2.nr (by decide) ?_)
  refine P2.pr rfl ?_
  refine P2.g h8 ?_
  rw [cl8 h8, ix20, r_push_n _ h8]
  unfold c1_clock c10_clockOf
  simp only [Option.bind_some]
  rw [h.g_P hn]
  rcases hp with e | e
  · rw [e, if_pos rfl, Int32.add_zero, gQ0 h8, clQ0 h8]
    exact P2.done (h.push hn (okE0 n) (h.g_c0 hn))
  · rw [e, if_neg (by decide), ix21, gQ1 h8, clQ1 h8]
    exact P2.done (h.push hn (okE0 n) (h.g_c1 hn))
theorem q_59 {X : xS → xS → Prop} {N : xN} {S R : xS} (h : REL E0 X N S R) {n : Nat} (hn : inN n N) (hp : xI R 0 11 n = 0 ∨ xI R 0 11 n = 1) : P2 (c7_doMoves n S 59) (r_operates R (nI n) 59) (Qo X N) := by
  have h8 := h.le8 hn
  have gA := h.g_A hn (okE0 n).1
  have gB := h.g_B hn (okE0 n).2.1
  have gC := h.g_C hn (okE0 n).2.2
  have wA := h.w_A hn (okE0 n).1
  have wB := h.w_B hn (okE0 n).2.1
  have wC := h.w_C hn (okE0 n).2.2
  unfold c7_doMoves r_operates
  iterate 8 (refine P2.nl (by decide) ?_)
  refine P2.pl rfl ?_
  refine P2.g h8 (P2.g h8 (P2.g h8 ?_))
  iterate 41 (refine P2.nr (by decide) ?_)
  refine P2.gzr ?_
  unfold r_others
  iterate 24 (refine P2.nr (by decide) ?_)
  refine P2.gzr ?_
  unfold r_more
  iterate 1 (refine P2.nr (by decide) ?_)
  refine P2.pr rfl ?_
  simp only [gA, gB, gC, gI h8, cl8 h8, c11_signed_n, r_signed_n, c9_replaceTwo_n, r_gives_n _ h8, c7_checked_n, r_checked_n _ h8, c9_push_n, r_push_n _ h8, c9_pop_n, r_pop_n _ h8, c9_popAll_n, r_popped_1 _ h8, r_popped_2 _ h8, r_popped_3 _ h8, c5_wordAt_n, c5_setWord_n, c5_byteAt_n, c5_setByte_n, r_word_n _ h8, r_wordTo_n _ h8, r_byteAt_n _ h8, r_byteTo_n _ h8, c1_makeReady_n, r_ready_n _ h8, c1_leaveWaiting_n, r_waits_n _ h8, c1_yieldIfSliced_n, r_sliced_n _ h8, c1_stopWith_n, r_stop_n _ h8, r_fails_0, r_fails_1 _ h8, c7_failIf_0, c7_failIf_1, Option.bind_some, gz1, gz0, nar0, nar1, xnm, ix20, ix21, gQ0 h8, gQ1 h8, clQ0 h8, clQ1 h8]
  exact P2.done ((h.pb hn rfl rfl).popAll2 hn (okE0 n))
theorem q_60 {X : xS → xS → Prop} {N : xN} {S R : xS} (h : REL E0 X N S R) {n : Nat} (hn : inN n N) (hp : xI R 0 11 n = 0 ∨ xI R 0 11 n = 1) : P2 (c7_doMoves n S 60) (r_operates R (nI n) 60) (Qo X N) := by
  have h8 := h.le8 hn
  have gA := h.g_A hn (okE0 n).1
  have gB := h.g_B hn (okE0 n).2.1
  have gC := h.g_C hn (okE0 n).2.2
  have wA := h.w_A hn (okE0 n).1
  have wB := h.w_B hn (okE0 n).2.1
  have wC := h.w_C hn (okE0 n).2.2
  unfold c7_doMoves r_operates
  iterate 9 (refine P2.nl (by decide) ?_)
  refine P2.pl rfl ?_
  refine P2.g h8 (P2.g h8 (P2.g h8 ?_))
  iterate 41 (refine P2.nr (by decide) ?_)
  refine P2.gzr ?_
  unfold r_others
  iterate 24 (refine P2.nr (by decide) ?_)
  refine P2.gzr ?_
  unfold r_more
  iterate 2 (refine P2.nr (by decide) ?_)
  refine P2.pr rfl ?_
  simp only [gA, gB, gC, gI h8, cl8 h8, c11_signed_n, r_signed_n, c9_replaceTwo_n, r_gives_n _ h8, c7_checked_n, r_checked_n _ h8, c9_push_n, r_push_n _ h8, c9_pop_n, r_pop_n _ h8, c9_popAll_n, r_popped_1 _ h8, r_popped_2 _ h8, r_popped_3 _ h8, c5_wordAt_n, c5_setWord_n, c5_byteAt_n, c5_setByte_n, r_word_n _ h8, r_wordTo_n _ h8, r_byteAt_n _ h8, r_byteTo_n _ h8, c1_makeReady_n, r_ready_n _ h8, c1_leaveWaiting_n, r_waits_n _ h8, c1_yieldIfSliced_n, r_sliced_n _ h8, c1_stopWith_n, r_stop_n _ h8, r_fails_0, r_fails_1 _ h8, c7_failIf_0, c7_failIf_1, Option.bind_some, gz1, gz0, nar0, nar1, xnm, ix20, ix21, gQ0 h8, gQ1 h8, clQ0 h8, clQ1 h8, c7_exchangeWithW, c9_setWorkspace]
  rw [h.g_W hn]
  exact P2.done ((h.s_A hn rfl (w14_w16 (h.w_W hn))).s_W hn rfl (w14 _))
theorem q_66 {X : xS → xS → Prop} {N : xN} {S R : xS} (h : REL E0 X N S R) {n : Nat} (hn : inN n N) (hp : xI R 0 11 n = 0 ∨ xI R 0 11 n = 1) : P2 (c7_doMoves n S 66) (r_operates R (nI n) 66) (Qo X N) := by
  have h8 := h.le8 hn
  have gA := h.g_A hn (okE0 n).1
  have gB := h.g_B hn (okE0 n).2.1
  have gC := h.g_C hn (okE0 n).2.2
  have wA := h.w_A hn (okE0 n).1
  have wB := h.w_B hn (okE0 n).2.1
  have wC := h.w_C hn (okE0 n).2.2
  unfold c7_doMoves r_operates
  iterate 10 (refine P2.nl (by decide) ?_)
  refine P2.pl rfl ?_
  refine P2.g h8 (P2.g h8 (P2.g h8 ?_))
  iterate 41 (refine P2.nr (by decide) ?_)
  refine P2.gzr ?_
  unfold r_others
  iterate 24 (refine P2.nr (by decide) ?_)
  refine P2.gzr ?_
  unfold r_more
  iterate 6 (refine P2.nr (by decide) ?_)
  refine P2.pr rfl ?_
  simp only [gA, gB, gC, gI h8, cl8 h8, c11_signed_n, r_signed_n, c9_replaceTwo_n, r_gives_n _ h8, c7_checked_n, r_checked_n _ h8, c9_push_n, r_push_n _ h8, c9_pop_n, r_pop_n _ h8, c9_popAll_n, r_popped_1 _ h8, r_popped_2 _ h8, r_popped_3 _ h8, c5_wordAt_n, c5_setWord_n, c5_byteAt_n, c5_setByte_n, r_word_n _ h8, r_wordTo_n _ h8, r_byteAt_n _ h8, r_byteTo_n _ h8, c1_makeReady_n, r_ready_n _ h8, c1_leaveWaiting_n, r_waits_n _ h8, c1_yieldIfSliced_n, r_sliced_n _ h8, c1_stopWith_n, r_stop_n _ h8, r_fails_0, r_fails_1 _ h8, c7_failIf_0, c7_failIf_1, Option.bind_some, gz1, gz0, nar0, nar1, xnm, ix20, ix21, gQ0 h8, gQ1 h8, clQ0 h8, clQ1 h8]
  exact P2.done (h.push hn (okE0 n) rfl)
theorem q_84 {X : xS → xS → Prop} {N : xN} {S R : xS} (h : REL E0 X N S R) {n : Nat} (hn : inN n N) (hp : xI R 0 11 n = 0 ∨ xI R 0 11 n = 1) : P2 (c7_doMoves n S 84) (r_operates R (nI n) 84) (Qo X N) := by
  have h8 := h.le8 hn
  have gA := h.g_A hn (okE0 n).1
  have gB := h.g_B hn (okE0 n).2.1
  have gC := h.g_C hn (okE0 n).2.2
  have wA := h.w_A hn (okE0 n).1
  have wB := h.w_B hn (okE0 n).2.1
  have wC := h.w_C hn (okE0 n).2.2
  unfold c7_doMoves r_operates
  iterate 12 (refine P2.nl (by decide) ?_)
  refine P2.pl rfl ?_
  refine P2.g h8 (P2.g h8 (P2.g h8 ?_))
  iterate 41 (refine P2.nr (by decide) ?_)
  refine P2.gzr ?_
  unfold r_others
  iterate 24 (refine P2.nr (by decide) ?_)
  refine P2.gzr ?_
  unfold r_more
  iterate 11 (refine P2.nr (by decide) ?_)
  refine P2.pr rfl ?_
  simp only [gA, gB, gC, gI h8, cl8 h8, c11_signed_n, r_signed_n, c9_replaceTwo_n, r_gives_n _ h8, c7_checked_n, r_checked_n _ h8, c9_push_n, r_push_n _ h8, c9_pop_n, r_pop_n _ h8, c9_popAll_n, r_popped_1 _ h8, r_popped_2 _ h8, r_popped_3 _ h8, c5_wordAt_n, c5_setWord_n, c5_byteAt_n, c5_setByte_n, r_word_n _ h8, r_wordTo_n _ h8, r_byteAt_n _ h8, r_byteTo_n _ h8, c1_makeReady_n, r_ready_n _ h8, c1_leaveWaiting_n, r_waits_n _ h8, c1_yieldIfSliced_n, r_sliced_n _ h8, c1_stopWith_n, r_stop_n _ h8, r_fails_0, r_fails_1 _ h8, c7_failIf_0, c7_failIf_1, Option.bind_some, gz1, gz0, nar0, nar1, xnm, ix20, ix21, gQ0 h8, gQ1 h8, clQ0 h8, clQ1 h8, c10_setClocks]
  exact P2.done (((h.s_c0 hn rfl).s_c1 hn rfl).pop hn (okE0 n))
theorem q_90 {X : xS → xS → Prop} {N : xN} {S R : xS} (h : REL E0 X N S R) {n : Nat} (hn : inN n N) (hp : xI R 0 11 n = 0 ∨ xI R 0 11 n = 1) : P2 (c7_doMoves n S 90) (r_operates R (nI n) 90) (Qo X N) := by
  have h8 := h.le8 hn
  have gA := h.g_A hn (okE0 n).1
  have gB := h.g_B hn (okE0 n).2.1
  have gC := h.g_C hn (okE0 n).2.2
  have wA := h.w_A hn (okE0 n).1
  have wB := h.w_B hn (okE0 n).2.1
  have wC := h.w_C hn (okE0 n).2.2
  unfold c7_doMoves r_operates
  iterate 13 (refine P2.nl (by decide) ?_)
  refine P2.pl rfl ?_
  refine P2.g h8 (P2.g h8 (P2.g h8 ?_))
  iterate 41 (refine P2.nr (by decide) ?_)
  refine P2.gzr ?_
  unfold r_others
  iterate 24 (refine P2.nr (by decide) ?_)
  refine P2.gzr ?_
  unfold r_more
  iterate 17 (refine P2.nr (by decide) ?_)
  refine P2.pr rfl ?_
  simp only [gA, gB, gC, gI h8, cl8 h8, c11_signed_n, r_signed_n, c9_replaceTwo_n, r_gives_n _ h8, c7_checked_n, r_checked_n _ h8, c9_push_n, r_push_n _ h8, c9_pop_n, r_pop_n _ h8, c9_popAll_n, r_popped_1 _ h8, r_popped_2 _ h8, r_popped_3 _ h8, c5_wordAt_n, c5_setWord_n, c5_byteAt_n, c5_setByte_n, r_word_n _ h8, r_wordTo_n _ h8, r_byteAt_n _ h8, r_byteTo_n _ h8, c1_makeReady_n, r_ready_n _ h8, c1_leaveWaiting_n, r_waits_n _ h8, c1_yieldIfSliced_n, r_sliced_n _ h8, c1_stopWith_n, r_stop_n _ h8, r_fails_0, r_fails_1 _ h8, c7_failIf_0, c7_failIf_1, Option.bind_some, gz1, gz0, nar0, nar1, xnm, ix20, ix21, gQ0 h8, gQ1 h8, clQ0 h8, clQ1 h8]
  exact P2.done (h.push hn (okE0 n) rfl)
theorem q_21 {X : xS → xS → Prop} {N : xN} {S R : xS} (h : REL E0 X N S R) {n : Nat} (hn : inN n N) (hp : xI R 0 11 n = 0 ∨ xI R 0 11 n = 1) : P2 (c7_doScheduling n S 21) (r_operates R (nI n) 21) (Qo X N) := by
  have h8 := h.le8 hn
  have gA := h.g_A hn (okE0 n).1
  have gB := h.g_B hn (okE0 n).2.1
  have gC := h.g_C hn (okE0 n).2.2
  have wA := h.w_A hn (okE0 n).1
  have wB := h.w_B hn (okE0 n).2.1
  have wC := h.w_C hn (okE0 n).2.2
  unfold c7_doScheduling r_operates
  iterate 2 (refine P2.nl (by decide) ?_)
  refine P2.pl rfl ?_
  refine P2.g h8 (P2.g h8 (P2.g h8 ?_))
  iterate 41 (refine P2.nr (by decide) ?_)
  refine P2.gzr ?_
  unfold r_others
  iterate 4 (refine P2.nr (by decide) ?_)
  refine P2.pr rfl ?_
  simp only [gA, gB, gC, gI h8, cl8 h8, c11_signed_n, r_signed_n, c9_replaceTwo_n, r_gives_n _ h8, c7_checked_n, r_checked_n _ h8, c9_push_n, r_push_n _ h8, c9_pop_n, r_pop_n _ h8, c9_popAll_n, r_popped_1 _ h8, r_popped_2 _ h8, r_popped_3 _ h8, c5_wordAt_n, c5_setWord_n, c5_byteAt_n, c5_setByte_n, r_word_n _ h8, r_wordTo_n _ h8, r_byteAt_n _ h8, r_byteTo_n _ h8, c1_makeReady_n, r_ready_n _ h8, c1_leaveWaiting_n, r_waits_n _ h8, c1_yieldIfSliced_n, r_sliced_n _ h8, c1_stopWith_n, r_stop_n _ h8, r_fails_0, r_fails_1 _ h8, c7_failIf_0, c7_failIf_1, Option.bind_some, gz1, gz0, nar0, nar1, xnm, ix20, ix21, gQ0 h8, gQ1 h8, clQ0 h8, clQ1 h8]
  exact P2.done (h.waits hn)
theorem q_23 {X : xS → xS → Prop} {N : xN} {S R : xS} (h : REL E0 X N S R) {n : Nat} (hn : inN n N) (hp : xI R 0 11 n = 0 ∨ xI R 0 11 n = 1) : P2 (c7_doScheduling n S 23) (r_operates R (nI n) 23) (Qo X N) := by
  have h8 := h.le8 hn
  have gA := h.g_A hn (okE0 n).1
  have gB := h.g_B hn (okE0 n).2.1
  have gC := h.g_C hn (okE0 n).2.2
  have wA := h.w_A hn (okE0 n).1
  have wB := h.w_B hn (okE0 n).2.1
  have wC := h.w_C hn (okE0 n).2.2
  unfold c7_doScheduling r_operates
  iterate 3 (refine P2.nl (by decide) ?_)
  refine P2.pl rfl ?_
  refine P2.g h8 (P2.g h8 (P2.g h8 ?_))
  iterate 41 (refine P2.nr (by decide) ?_)
  refine P2.gzr ?_
  unfold r_others
  iterate 5 (refine P2.nr (by decide) ?_)
  refine P2.pr rfl ?_
  simp only [gA, gB, gC, gI h8, cl8 h8, c11_signed_n, r_signed_n, c9_replaceTwo_n, r_gives_n _ h8, c7_checked_n, r_checked_n _ h8, c9_push_n, r_push_n _ h8, c9_pop_n, r_pop_n _ h8, c9_popAll_n, r_popped_1 _ h8, r_popped_2 _ h8, r_popped_3 _ h8, c5_wordAt_n, c5_setWord_n, c5_byteAt_n, c5_setByte_n, r_word_n _ h8, r_wordTo_n _ h8, r_byteAt_n _ h8, r_byteTo_n _ h8, c1_makeReady_n, r_ready_n _ h8, c1_leaveWaiting_n, r_waits_n _ h8, c1_yieldIfSliced_n, r_sliced_n _ h8, c1_stopWith_n, r_stop_n _ h8, r_fails_0, r_fails_1 _ h8, c7_failIf_0, c7_failIf_1, Option.bind_some, gz1, gz0, nar0, nar1, xnm, ix20, ix21, gQ0 h8, gQ1 h8, clQ0 h8, clQ1 h8]
  exact P2.done ((h.s_b1 hn rfl).pop hn (okE0 n))
theorem q_24 {X : xS → xS → Prop} {N : xN} {S R : xS} (h : REL E0 X N S R) {n : Nat} (hn : inN n N) (hp : xI R 0 11 n = 0 ∨ xI R 0 11 n = 1) : P2 (c7_doScheduling n S 24) (r_operates R (nI n) 24) (Qo X N) := by
  have h8 := h.le8 hn
  have gA := h.g_A hn (okE0 n).1
  have gB := h.g_B hn (okE0 n).2.1
  have gC := h.g_C hn (okE0 n).2.2
  have wA := h.w_A hn (okE0 n).1
  have wB := h.w_B hn (okE0 n).2.1
  have wC := h.w_C hn (okE0 n).2.2
  unfold c7_doScheduling r_operates
  iterate 4 (refine P2.nl (by decide) ?_)
  refine P2.pl rfl ?_
  refine P2.g h8 (P2.g h8 (P2.g h8 ?_))
  iterate 41 (refine P2.nr (by decide) ?_)
  refine P2.gzr ?_
  unfold r_others
  iterate 6 (refine P2.nr (by decide) ?_)
  refine P2.pr rfl ?_
  simp only [gA, gB, gC, gI h8, cl8 h8, c11_signed_n, r_signed_n, c9_replaceTwo_n, r_gives_n _ h8, c7_checked_n, r_checked_n _ h8, c9_push_n, r_push_n _ h8, c9_pop_n, r_pop_n _ h8, c9_popAll_n, r_popped_1 _ h8, r_popped_2 _ h8, r_popped_3 _ h8, c5_wordAt_n, c5_setWord_n, c5_byteAt_n, c5_setByte_n, r_word_n _ h8, r_wordTo_n _ h8, r_byteAt_n _ h8, r_byteTo_n _ h8, c1_makeReady_n, r_ready_n _ h8, c1_leaveWaiting_n, r_waits_n _ h8, c1_yieldIfSliced_n, r_sliced_n _ h8, c1_stopWith_n, r_stop_n _ h8, r_fails_0, r_fails_1 _ h8, c7_failIf_0, c7_failIf_1, Option.bind_some, gz1, gz0, nar0, nar1, xnm, ix20, ix21, gQ0 h8, gQ1 h8, clQ0 h8, clQ1 h8]
  exact P2.done ((h.s_f0 hn rfl).pop hn (okE0 n))
theorem q_28 {X : xS → xS → Prop} {N : xN} {S R : xS} (h : REL E0 X N S R) {n : Nat} (hn : inN n N) (hp : xI R 0 11 n = 0 ∨ xI R 0 11 n = 1) : P2 (c7_doScheduling n S 28) (r_operates R (nI n) 28) (Qo X N) := by
  have h8 := h.le8 hn
  have gA := h.g_A hn (okE0 n).1
  have gB := h.g_B hn (okE0 n).2.1
  have gC := h.g_C hn (okE0 n).2.2
  have wA := h.w_A hn (okE0 n).1
  have wB := h.w_B hn (okE0 n).2.1
  have wC := h.w_C hn (okE0 n).2.2
  unfold c7_doScheduling r_operates
  iterate 5 (refine P2.nl (by decide) ?_)
  refine P2.pl rfl ?_
  refine P2.g h8 (P2.g h8 (P2.g h8 ?_))
  iterate 41 (refine P2.nr (by decide) ?_)
  refine P2.gzr ?_
  unfold r_others
  iterate 10 (refine P2.nr (by decide) ?_)
  refine P2.pr rfl ?_
  simp only [gA, gB, gC, gI h8, cl8 h8, c11_signed_n, r_signed_n, c9_replaceTwo_n, r_gives_n _ h8, c7_checked_n, r_checked_n _ h8, c9_push_n, r_push_n _ h8, c9_pop_n, r_pop_n _ h8, c9_popAll_n, r_popped_1 _ h8, r_popped_2 _ h8, r_popped_3 _ h8, c5_wordAt_n, c5_setWord_n, c5_byteAt_n, c5_setByte_n, r_word_n _ h8, r_wordTo_n _ h8, r_byteAt_n _ h8, r_byteTo_n _ h8, c1_makeReady_n, r_ready_n _ h8, c1_leaveWaiting_n, r_waits_n _ h8, c1_yieldIfSliced_n, r_sliced_n _ h8, c1_stopWith_n, r_stop_n _ h8, r_fails_0, r_fails_1 _ h8, c7_failIf_0, c7_failIf_1, Option.bind_some, gz1, gz0, nar0, nar1, xnm, ix20, ix21, gQ0 h8, gQ1 h8, clQ0 h8, clQ1 h8]
  exact P2.done ((h.s_f1 hn rfl).pop hn (okE0 n))
theorem q_80 {X : xS → xS → Prop} {N : xN} {S R : xS} (h : REL E0 X N S R) {n : Nat} (hn : inN n N) (hp : xI R 0 11 n = 0 ∨ xI R 0 11 n = 1) : P2 (c7_doScheduling n S 80) (r_operates R (nI n) 80) (Qo X N) := by
  have h8 := h.le8 hn
  have gA := h.g_A hn (okE0 n).1
  have gB := h.g_B hn (okE0 n).2.1
  have gC := h.g_C hn (okE0 n).2.2
  have wA := h.w_A hn (okE0 n).1
  have wB := h.w_B hn (okE0 n).2.1
  have wC := h.w_C hn (okE0 n).2.2
  unfold c7_doScheduling r_operates
  iterate 9 (refine P2.nl (by decide) ?_)
  refine P2.pl rfl ?_
  refine P2.g h8 (P2.g h8 (P2.g h8 ?_))
  iterate 41 (refine P2.nr (by decide) ?_)
  refine P2.gzr ?_
  unfold r_others
  iterate 23 (refine P2.nr (by decide) ?_)
  refine P2.pr rfl ?_
  simp only [gA, gB, gC, gI h8, cl8 h8, c11_signed_n, r_signed_n, c9_replaceTwo_n, r_gives_n _ h8, c7_checked_n, r_checked_n _ h8, c9_push_n, r_push_n _ h8, c9_pop_n, r_pop_n _ h8, c9_popAll_n, r_popped_1 _ h8, r_popped_2 _ h8, r_popped_3 _ h8, c5_wordAt_n, c5_setWord_n, c5_byteAt_n, c5_setByte_n, r_word_n _ h8, r_wordTo_n _ h8, r_byteAt_n _ h8, r_byteTo_n _ h8, c1_makeReady_n, r_ready_n _ h8, c1_leaveWaiting_n, r_waits_n _ h8, c1_yieldIfSliced_n, r_sliced_n _ h8, c1_stopWith_n, r_stop_n _ h8, r_fails_0, r_fails_1 _ h8, c7_failIf_0, c7_failIf_1, Option.bind_some, gz1, gz0, nar0, nar1, xnm, ix20, ix21, gQ0 h8, gQ1 h8, clQ0 h8, clQ1 h8]
  exact P2.done ((h.s_b0 hn rfl).pop hn (okE0 n))
theorem q_57 {X : xS → xS → Prop} {N : xN} {S R : xS} (h : REL E0 X N S R) {n : Nat} (hn : inN n N) (hp : xI R 0 11 n = 0 ∨ xI R 0 11 n = 1) : P2 (c7_doScheduling n S 57) (r_operates R (nI n) 57) (Qo X N) := by
  have h8 := h.le8 hn
  have gA := h.g_A hn (okE0 n).1
  have gB := h.g_B hn (okE0 n).2.1
  have gC := h.g_C hn (okE0 n).2.2
  have wA := h.w_A hn (okE0 n).1
  have wB := h.w_B hn (okE0 n).2.1
  have wC := h.w_C hn (okE0 n).2.2
  unfold c7_doScheduling r_operates
  iterate 6 (refine P2.nl (by decide) ?_)
  refine P2.pl rfl ?_
  refine P2.g h8 (P2.g h8 (P2.g h8 ?_))
  iterate 41 (refine P2.nr (by decide) ?_)
  refine P2.gzr ?_
  unfold r_others
  iterate 24 (refine P2.nr (by decide) ?_)
  refine P2.gzr ?_
  unfold r_more
  refine P2.pr rfl ?_
  simp only [gA, gB, gC, gI h8, cl8 h8, c11_signed_n, r_signed_n, c9_replaceTwo_n, r_gives_n _ h8, c7_checked_n, r_checked_n _ h8, c9_push_n, r_push_n _ h8, c9_pop_n, r_pop_n _ h8, c9_popAll_n, r_popped_1 _ h8, r_popped_2 _ h8, r_popped_3 _ h8, c5_wordAt_n, c5_setWord_n, c5_byteAt_n, c5_setByte_n, r_word_n _ h8, r_wordTo_n _ h8, r_byteAt_n _ h8, r_byteTo_n _ h8, c1_makeReady_n, r_ready_n _ h8, c1_leaveWaiting_n, r_waits_n _ h8, c1_yieldIfSliced_n, r_sliced_n _ h8, c1_stopWith_n, r_stop_n _ h8, r_fails_0, r_fails_1 _ h8, c7_failIf_0, c7_failIf_1, Option.bind_some, gz1, gz0, nar0, nar1, xnm, ix20, ix21, gQ0 h8, gQ1 h8, clQ0 h8, clQ1 h8]
  exact P2.done ((h.rdy hn rfl).pop hn (okE0 n))
