/-! operations: arithmetic and logic -/
theorem q_2 {X : xS → xS → Prop} {N : xN} {S R : xS} (h : REL E0 X N S R) {n : Nat} (hn : inN n N) (hp : xI R 0 11 n = 0 ∨ xI R 0 11 n = 1) : P2 (c7_doArithmetic n S 2) (r_operates R (nI n) 2) (Qo X N) := by
  have h8 := h.le8 hn
  have gA := h.g_A hn (okE0 n).1
  have gB := h.g_B hn (okE0 n).2.1
  have gC := h.g_C hn (okE0 n).2.2
  have wA := h.w_A hn (okE0 n).1
  have wB := h.w_B hn (okE0 n).2.1
  have wC := h.w_C hn (okE0 n).2.2
  unfold c7_doArithmetic r_operates
  refine P2.l (c11_signed_n _) (P2.l (c11_signed_n _) ?_)
  refine P2.pl rfl ?_
  refine P2.g h8 (P2.g h8 (P2.g h8 ?_))
  iterate 2 (refine P2.nr (by decide) ?_)
  refine P2.pr rfl ?_
  simp only [gA, gB, gC, gI h8, cl8 h8, c11_signed_n, r_signed_n, c9_replaceTwo_n, r_gives_n _ h8, c7_checked_n, r_checked_n _ h8, c9_push_n, r_push_n _ h8, c9_pop_n, r_pop_n _ h8, c9_popAll_n, r_popped_1 _ h8, r_popped_2 _ h8, r_popped_3 _ h8, c5_wordAt_n, c5_setWord_n, c5_byteAt_n, c5_setByte_n, r_word_n _ h8, r_wordTo_n _ h8, r_byteAt_n _ h8, r_byteTo_n _ h8, c1_makeReady_n, r_ready_n _ h8, c1_leaveWaiting_n, r_waits_n _ h8, c1_yieldIfSliced_n, r_sliced_n _ h8, c1_stopWith_n, r_stop_n _ h8, r_fails_0, r_fails_1 _ h8, c7_failIf_0, c7_failIf_1, Option.bind_some, gz1, gz0, nar0, nar1, xnm, ix20, ix21, gQ0 h8, gQ1 h8, clQ0 h8, clQ1 h8]
  exact P2.done (h.two hn (okE0 n) (m16_add (m16_sg _) (m16_sg _)))
theorem q_4 {X : xS → xS → Prop} {N : xN} {S R : xS} (h : REL E0 X N S R) {n : Nat} (hn : inN n N) (hp : xI R 0 11 n = 0 ∨ xI R 0 11 n = 1) : P2 (c7_doArithmetic n S 4) (r_operates R (nI n) 4) (Qo X N) := by
  have h8 := h.le8 hn
  have gA := h.g_A hn (okE0 n).1
  have gB := h.g_B hn (okE0 n).2.1
  have gC := h.g_C hn (okE0 n).2.2
  have wA := h.w_A hn (okE0 n).1
  have wB := h.w_B hn (okE0 n).2.1
  have wC := h.w_C hn (okE0 n).2.2
  unfold c7_doArithmetic r_operates
  refine P2.l (c11_signed_n _) (P2.l (c11_signed_n _) ?_)
  iterate 1 (refine P2.nl (by decide) ?_)
  refine P2.pl rfl ?_
  refine P2.g h8 (P2.g h8 (P2.g h8 ?_))
  iterate 3 (refine P2.nr (by decide) ?_)
  refine P2.pr rfl ?_
  simp only [gA, gB, gC, gI h8, cl8 h8, c11_signed_n, r_signed_n, c9_replaceTwo_n, r_gives_n _ h8, c7_checked_n, r_checked_n _ h8, c9_push_n, r_push_n _ h8, c9_pop_n, r_pop_n _ h8, c9_popAll_n, r_popped_1 _ h8, r_popped_2 _ h8, r_popped_3 _ h8, c5_wordAt_n, c5_setWord_n, c5_byteAt_n, c5_setByte_n, r_word_n _ h8, r_wordTo_n _ h8, r_byteAt_n _ h8, r_byteTo_n _ h8, c1_makeReady_n, r_ready_n _ h8, c1_leaveWaiting_n, r_waits_n _ h8, c1_yieldIfSliced_n, r_sliced_n _ h8, c1_stopWith_n, r_stop_n _ h8, r_fails_0, r_fails_1 _ h8, c7_failIf_0, c7_failIf_1, Option.bind_some, gz1, gz0, nar0, nar1, xnm, ix20, ix21, gQ0 h8, gQ1 h8, clQ0 h8, clQ1 h8]
  exact P2.done (h.two hn (okE0 n) (m16_sub (m16_sg _) (m16_sg _)))
theorem q_5 {X : xS → xS → Prop} {N : xN} {S R : xS} (h : REL E0 X N S R) {n : Nat} (hn : inN n N) (hp : xI R 0 11 n = 0 ∨ xI R 0 11 n = 1) : P2 (c7_doArithmetic n S 5) (r_operates R (nI n) 5) (Qo X N) := by
  have h8 := h.le8 hn
  have gA := h.g_A hn (okE0 n).1
  have gB := h.g_B hn (okE0 n).2.1
  have gC := h.g_C hn (okE0 n).2.2
  have wA := h.w_A hn (okE0 n).1
  have wB := h.w_B hn (okE0 n).2.1
  have wC := h.w_C hn (okE0 n).2.2
  unfold c7_doArithmetic r_operates
  refine P2.l (c11_signed_n _) (P2.l (c11_signed_n _) ?_)
  iterate 2 (refine P2.nl (by decide) ?_)
  refine P2.pl rfl ?_
  refine P2.g h8 (P2.g h8 (P2.g h8 ?_))
  iterate 4 (refine P2.nr (by decide) ?_)
  refine P2.pr rfl ?_
  simp only [gA, gB, gC, gI h8, cl8 h8, c11_signed_n, r_signed_n, c9_replaceTwo_n, r_gives_n _ h8, c7_checked_n, r_checked_n _ h8, c9_push_n, r_push_n _ h8, c9_pop_n, r_pop_n _ h8, c9_popAll_n, r_popped_1 _ h8, r_popped_2 _ h8, r_popped_3 _ h8, c5_wordAt_n, c5_setWord_n, c5_byteAt_n, c5_setByte_n, r_word_n _ h8, r_wordTo_n _ h8, r_byteAt_n _ h8, r_byteTo_n _ h8, c1_makeReady_n, r_ready_n _ h8, c1_leaveWaiting_n, r_waits_n _ h8, c1_yieldIfSliced_n, r_sliced_n _ h8, c1_stopWith_n, r_stop_n _ h8, r_fails_0, r_fails_1 _ h8, c7_failIf_0, c7_failIf_1, Option.bind_some, gz1, gz0, nar0, nar1, xnm, ix20, ix21, gQ0 h8, gQ1 h8, clQ0 h8, clQ1 h8]
  exact P2.done ((h.chk hn rfl).two hn (okE0 n) rfl)
theorem q_12 {X : xS → xS → Prop} {N : xN} {S R : xS} (h : REL E0 X N S R) {n : Nat} (hn : inN n N) (hp : xI R 0 11 n = 0 ∨ xI R 0 11 n = 1) : P2 (c7_doArithmetic n S 12) (r_operates R (nI n) 12) (Qo X N) := by
  have h8 := h.le8 hn
  have gA := h.g_A hn (okE0 n).1
  have gB := h.g_B hn (okE0 n).2.1
  have gC := h.g_C hn (okE0 n).2.2
  have wA := h.w_A hn (okE0 n).1
  have wB := h.w_B hn (okE0 n).2.1
  have wC := h.w_C hn (okE0 n).2.2
  unfold c7_doArithmetic r_operates
  refine P2.l (c11_signed_n _) (P2.l (c11_signed_n _) ?_)
  iterate 6 (refine P2.nl (by decide) ?_)
  refine P2.pl rfl ?_
  refine P2.g h8 (P2.g h8 (P2.g h8 ?_))
  iterate 11 (refine P2.nr (by decide) ?_)
  refine P2.pr rfl ?_
  simp only [gA, gB, gC, gI h8, cl8 h8, c11_signed_n, r_signed_n, c9_replaceTwo_n, r_gives_n _ h8, c7_checked_n, r_checked_n _ h8, c9_push_n, r_push_n _ h8, c9_pop_n, r_pop_n _ h8, c9_popAll_n, r_popped_1 _ h8, r_popped_2 _ h8, r_popped_3 _ h8, c5_wordAt_n, c5_setWord_n, c5_byteAt_n, c5_setByte_n, r_word_n _ h8, r_wordTo_n _ h8, r_byteAt_n _ h8, r_byteTo_n _ h8, c1_makeReady_n, r_ready_n _ h8, c1_leaveWaiting_n, r_waits_n _ h8, c1_yieldIfSliced_n, r_sliced_n _ h8, c1_stopWith_n, r_stop_n _ h8, r_fails_0, r_fails_1 _ h8, c7_failIf_0, c7_failIf_1, Option.bind_some, gz1, gz0, nar0, nar1, xnm, ix20, ix21, gQ0 h8, gQ1 h8, clQ0 h8, clQ1 h8]
  exact P2.done ((h.chk hn rfl).two hn (okE0 n) rfl)
theorem q_22 {X : xS → xS → Prop} {N : xN} {S R : xS} (h : REL E0 X N S R) {n : Nat} (hn : inN n N) (hp : xI R 0 11 n = 0 ∨ xI R 0 11 n = 1) : P2 (c7_doArithmetic n S 22) (r_operates R (nI n) 22) (Qo X N) := by
  have h8 := h.le8 hn
  have gA := h.g_A hn (okE0 n).1
  have gB := h.g_B hn (okE0 n).2.1
  have gC := h.g_C hn (okE0 n).2.2
  have wA := h.w_A hn (okE0 n).1
  have wB := h.w_B hn (okE0 n).2.1
  have wC := h.w_C hn (okE0 n).2.2
  unfold c7_doArithmetic r_operates
  refine P2.l (c11_signed_n _) (P2.l (c11_signed_n _) ?_)
  iterate 7 (refine P2.nl (by decide) ?_)
  refine P2.pl rfl ?_
  refine P2.g h8 (P2.g h8 (P2.g h8 ?_))
  iterate 15 (refine P2.nr (by decide) ?_)
  refine P2.pr rfl ?_
  simp only [gA, gB, gC, gI h8, cl8 h8, c11_signed_n, r_signed_n, c9_replaceTwo_n, r_gives_n _ h8, c7_checked_n, r_checked_n _ h8, c9_push_n, r_push_n _ h8, c9_pop_n, r_pop_n _ h8, c9_popAll_n, r_popped_1 _ h8, r_popped_2 _ h8, r_popped_3 _ h8, c5_wordAt_n, c5_setWord_n, c5_byteAt_n, c5_setByte_n, r_word_n _ h8, r_wordTo_n _ h8, r_byteAt_n _ h8, r_byteTo_n _ h8, c1_makeReady_n, r_ready_n _ h8, c1_leaveWaiting_n, r_waits_n _ h8, c1_yieldIfSliced_n, r_sliced_n _ h8, c1_stopWith_n, r_stop_n _ h8, r_fails_0, r_fails_1 _ h8, c7_failIf_0, c7_failIf_1, Option.bind_some, gz1, gz0, nar0, nar1, xnm, ix20, ix21, gQ0 h8, gQ1 h8, clQ0 h8, clQ1 h8]
  exact P2.done ((h.chk hn rfl).two hn (okE0 n) rfl)
theorem q_56 {X : xS → xS → Prop} {N : xN} {S R : xS} (h : REL E0 X N S R) {n : Nat} (hn : inN n N) (hp : xI R 0 11 n = 0 ∨ xI R 0 11 n = 1) : P2 (c7_doArithmetic n S 56) (r_operates R (nI n) 56) (Qo X N) := by
  have h8 := h.le8 hn
  have gA := h.g_A hn (okE0 n).1
  have gB := h.g_B hn (okE0 n).2.1
  have gC := h.g_C hn (okE0 n).2.2
  have wA := h.w_A hn (okE0 n).1
  have wB := h.w_B hn (okE0 n).2.1
  have wC := h.w_C hn (okE0 n).2.2
  unfold c7_doArithmetic r_operates
  refine P2.l (c11_signed_n _) (P2.l (c11_signed_n _) ?_)
  iterate 11 (refine P2.nl (by decide) ?_)
  refine P2.pl rfl ?_
  refine P2.g h8 (P2.g h8 (P2.g h8 ?_))
  iterate 23 (refine P2.nr (by decide) ?_)
  refine P2.pr rfl ?_
  simp only [gA, gB, gC, gI h8, cl8 h8, c11_signed_n, r_signed_n, c9_replaceTwo_n, r_gives_n _ h8, c7_checked_n, r_checked_n _ h8, c9_push_n, r_push_n _ h8, c9_pop_n, r_pop_n _ h8, c9_popAll_n, r_popped_1 _ h8, r_popped_2 _ h8, r_popped_3 _ h8, c5_wordAt_n, c5_setWord_n, c5_byteAt_n, c5_setByte_n, r_word_n _ h8, r_wordTo_n _ h8, r_byteAt_n _ h8, r_byteTo_n _ h8, c1_makeReady_n, r_ready_n _ h8, c1_leaveWaiting_n, r_waits_n _ h8, c1_yieldIfSliced_n, r_sliced_n _ h8, c1_stopWith_n, r_stop_n _ h8, r_fails_0, r_fails_1 _ h8, c7_failIf_0, c7_failIf_1, Option.bind_some, gz1, gz0, nar0, nar1, xnm, ix20, ix21, gQ0 h8, gQ1 h8, clQ0 h8, clQ1 h8]
  exact P2.done ((h.chk hn rfl).two hn (okE0 n) rfl)
theorem q_83 {X : xS → xS → Prop} {N : xN} {S R : xS} (h : REL E0 X N S R) {n : Nat} (hn : inN n N) (hp : xI R 0 11 n = 0 ∨ xI R 0 11 n = 1) : P2 (c7_doArithmetic n S 83) (r_operates R (nI n) 83) (Qo X N) := by
  have h8 := h.le8 hn
  have gA := h.g_A hn (okE0 n).1
  have gB := h.g_B hn (okE0 n).2.1
  have gC := h.g_C hn (okE0 n).2.2
  have wA := h.w_A hn (okE0 n).1
  have wB := h.w_B hn (okE0 n).2.1
  have wC := h.w_C hn (okE0 n).2.2
  unfold c7_doArithmetic r_operates
  refine P2.l (c11_signed_n _) (P2.l (c11_signed_n _) ?_)
  iterate 13 (refine P2.nl (by decide) ?_)
  refine P2.pl rfl ?_
  refine P2.g h8 (P2.g h8 (P2.g h8 ?_))
  iterate 38 (refine P2.nr (by decide) ?_)
  refine P2.pr rfl ?_
  simp only [gA, gB, gC, gI h8, cl8 h8, c11_signed_n, r_signed_n, c9_replaceTwo_n, r_gives_n _ h8, c7_checked_n, r_checked_n _ h8, c9_push_n, r_push_n _ h8, c9_pop_n, r_pop_n _ h8, c9_popAll_n, r_popped_1 _ h8, r_popped_2 _ h8, r_popped_3 _ h8, c5_wordAt_n, c5_setWord_n, c5_byteAt_n, c5_setByte_n, r_word_n _ h8, r_wordTo_n _ h8, r_byteAt_n _ h8, r_byteTo_n _ h8, c1_makeReady_n, r_ready_n _ h8, c1_leaveWaiting_n, r_waits_n _ h8, c1_yieldIfSliced_n, r_sliced_n _ h8, c1_stopWith_n, r_stop_n _ h8, r_fails_0, r_fails_1 _ h8, c7_failIf_0, c7_failIf_1, Option.bind_some, gz1, gz0, nar0, nar1, xnm, ix20, ix21, gQ0 h8, gQ1 h8, clQ0 h8, clQ1 h8]
  exact P2.done ((h.chk hn rfl).two hn (okE0 n) rfl)
theorem q_8 {X : xS → xS → Prop} {N : xN} {S R : xS} (h : REL E0 X N S R) {n : Nat} (hn : inN n N) (hp : xI R 0 11 n = 0 ∨ xI R 0 11 n = 1) : P2 (c7_doArithmetic n S 8) (r_operates R (nI n) 8) (Qo X N) := by
  have h8 := h.le8 hn
  have gA := h.g_A hn (okE0 n).1
  have gB := h.g_B hn (okE0 n).2.1
  have gC := h.g_C hn (okE0 n).2.2
  have wA := h.w_A hn (okE0 n).1
  have wB := h.w_B hn (okE0 n).2.1
  have wC := h.w_C hn (okE0 n).2.2
  unfold c7_doArithmetic r_operates
  refine P2.l (c11_signed_n _) (P2.l (c11_signed_n _) ?_)
  iterate 3 (refine P2.nl (by decide) ?_)
  refine P2.pl rfl ?_
  refine P2.g h8 (P2.g h8 (P2.g h8 ?_))
  iterate 7 (refine P2.nr (by decide) ?_)
  refine P2.pr rfl ?_
  simp only [gA, gB, gC, gI h8, cl8 h8, c11_signed_n, r_signed_n, c9_replaceTwo_n, r_gives_n _ h8, c7_checked_n, r_checked_n _ h8, c9_push_n, r_push_n _ h8, c9_pop_n, r_pop_n _ h8, c9_popAll_n, r_popped_1 _ h8, r_popped_2 _ h8, r_popped_3 _ h8, c5_wordAt_n, c5_setWord_n, c5_byteAt_n, c5_setByte_n, r_word_n _ h8, r_wordTo_n _ h8, r_byteAt_n _ h8, r_byteTo_n _ h8, c1_makeReady_n, r_ready_n _ h8, c1_leaveWaiting_n, r_waits_n _ h8, c1_yieldIfSliced_n, r_sliced_n _ h8, c1_stopWith_n, r_stop_n _ h8, r_fails_0, r_fails_1 _ h8, c7_failIf_0, c7_failIf_1, Option.bind_some, gz1, gz0, nar0, nar1, xnm, ix20, ix21, gQ0 h8, gQ1 h8, clQ0 h8, clQ1 h8]
  exact P2.done (h.two hn (okE0 n) (m16_mul (m16_sg _) (m16_sg _)))
theorem q_9 {X : xS → xS → Prop} {N : xN} {S R : xS} (h : REL E0 X N S R) {n : Nat} (hn : inN n N) (hp : xI R 0 11 n = 0 ∨ xI R 0 11 n = 1) : P2 (c7_doArithmetic n S 9) (r_operates R (nI n) 9) (Qo X N) := by
  have h8 := h.le8 hn
  have gA := h.g_A hn (okE0 n).1
  have gB := h.g_B hn (okE0 n).2.1
  have gC := h.g_C hn (okE0 n).2.2
  have wA := h.w_A hn (okE0 n).1
  have wB := h.w_B hn (okE0 n).2.1
  have wC := h.w_C hn (okE0 n).2.2
  unfold c7_doArithmetic r_operates
  refine P2.l (c11_signed_n _) (P2.l (c11_signed_n _) ?_)
  iterate 4 (refine P2.nl (by decide) ?_)
  refine P2.pl rfl ?_
  refine P2.g h8 (P2.g h8 (P2.g h8 ?_))
  iterate 8 (refine P2.nr (by decide) ?_)
  refine P2.pr rfl ?_
  simp only [gA, gB, gC, gI h8, cl8 h8, c11_signed_n, r_signed_n, c9_replaceTwo_n, r_gives_n _ h8, c7_checked_n, r_checked_n _ h8, c9_push_n, r_push_n _ h8, c9_pop_n, r_pop_n _ h8, c9_popAll_n, r_popped_1 _ h8, r_popped_2 _ h8, r_popped_3 _ h8, c5_wordAt_n, c5_setWord_n, c5_byteAt_n, c5_setByte_n, r_word_n _ h8, r_wordTo_n _ h8, r_byteAt_n _ h8, r_byteTo_n _ h8, c1_makeReady_n, r_ready_n _ h8, c1_leaveWaiting_n, r_waits_n _ h8, c1_yieldIfSliced_n, r_sliced_n _ h8, c1_stopWith_n, r_stop_n _ h8, r_fails_0, r_fails_1 _ h8, c7_failIf_0, c7_failIf_1, Option.bind_some, gz1, gz0, nar0, nar1, xnm, ix20, ix21, gQ0 h8, gQ1 h8, clQ0 h8, clQ1 h8]
  exact P2.ite Iff.rfl (fun _ _ => P2.done (h.two hn (okE0 n) rfl)) (fun _ _ => P2.done (h.two hn (okE0 n) rfl))
theorem q_10 {X : xS → xS → Prop} {N : xN} {S R : xS} (h : REL E0 X N S R) {n : Nat} (hn : inN n N) (hp : xI R 0 11 n = 0 ∨ xI R 0 11 n = 1) : P2 (c7_doArithmetic n S 10) (r_operates R (nI n) 10) (Qo X N) := by
  have h8 := h.le8 hn
  have gA := h.g_A hn (okE0 n).1
  have gB := h.g_B hn (okE0 n).2.1
  have gC := h.g_C hn (okE0 n).2.2
  have wA := h.w_A hn (okE0 n).1
  have wB := h.w_B hn (okE0 n).2.1
  have wC := h.w_C hn (okE0 n).2.2
  unfold c7_doArithmetic r_operates
  refine P2.l (c11_signed_n _) (P2.l (c11_signed_n _) ?_)
  iterate 5 (refine P2.nl (by decide) ?_)
  refine P2.pl rfl ?_
  refine P2.g h8 (P2.g h8 (P2.g h8 ?_))
  iterate 9 (refine P2.nr (by decide) ?_)
  refine P2.pr rfl ?_
  simp only [gA, gB, gC, gI h8, cl8 h8, c11_signed_n, r_signed_n, c9_replaceTwo_n, r_gives_n _ h8, c7_checked_n, r_checked_n _ h8, c9_push_n, r_push_n _ h8, c9_pop_n, r_pop_n _ h8, c9_popAll_n, r_popped_1 _ h8, r_popped_2 _ h8, r_popped_3 _ h8, c5_wordAt_n, c5_setWord_n, c5_byteAt_n, c5_setByte_n, r_word_n _ h8, r_wordTo_n _ h8, r_byteAt_n _ h8, r_byteTo_n _ h8, c1_makeReady_n, r_ready_n _ h8, c1_leaveWaiting_n, r_waits_n _ h8, c1_yieldIfSliced_n, r_sliced_n _ h8, c1_stopWith_n, r_stop_n _ h8, r_fails_0, r_fails_1 _ h8, c7_failIf_0, c7_failIf_1, Option.bind_some, gz1, gz0, nar0, nar1, xnm, ix20, ix21, gQ0 h8, gQ1 h8, clQ0 h8, clQ1 h8]
  exact P2.done (h.two hn (okE0 n) (m16_add (m16_sg _) (m16_mul rfl (m16_sg _))))
theorem q_82 {X : xS → xS → Prop} {N : xN} {S R : xS} (h : REL E0 X N S R) {n : Nat} (hn : inN n N) (hp : xI R 0 11 n = 0 ∨ xI R 0 11 n = 1) : P2 (c7_doArithmetic n S 82) (r_operates R (nI n) 82) (Qo X N) := by
  have h8 := h.le8 hn
  have gA := h.g_A hn (okE0 n).1
  have gB := h.g_B hn (okE0 n).2.1
  have gC := h.g_C hn (okE0 n).2.2
  have wA := h.w_A hn (okE0 n).1
  have wB := h.w_B hn (okE0 n).2.1
  have wC := h.w_C hn (okE0 n).2.2
  unfold c7_doArithmetic r_operates
  refine P2.l (c11_signed_n _) (P2.l (c11_signed_n _) ?_)
  iterate 12 (refine P2.nl (by decide) ?_)
  refine P2.pl rfl ?_
  refine P2.g h8 (P2.g h8 (P2.g h8 ?_))
  iterate 37 (refine P2.nr (by decide) ?_)
  refine P2.pr rfl ?_
  simp only [gA, gB, gC, gI h8, cl8 h8, c11_signed_n, r_signed_n, c9_replaceTwo_n, r_gives_n _ h8, c7_checked_n, r_checked_n _ h8, c9_push_n, r_push_n _ h8, c9_pop_n, r_pop_n _ h8, c9_popAll_n, r_popped_1 _ h8, r_popped_2 _ h8, r_popped_3 _ h8, c5_wordAt_n, c5_setWord_n, c5_byteAt_n, c5_setByte_n, r_word_n _ h8, r_wordTo_n _ h8, r_byteAt_n _ h8, r_byteTo_n _ h8, c1_makeReady_n, r_ready_n _ h8, c1_leaveWaiting_n, r_waits_n _ h8, c1_yieldIfSliced_n, r_sliced_n _ h8, c1_stopWith_n, r_stop_n _ h8, r_fails_0, r_fails_1 _ h8, c7_failIf_0, c7_failIf_1, Option.bind_some, gz1, gz0, nar0, nar1, xnm, ix20, ix21, gQ0 h8, gQ1 h8, clQ0 h8, clQ1 h8]
  exact P2.done (h.two hn (okE0 n) (m16_add (m16_sg _) (m16_sg _)))
theorem q_31 {X : xS → xS → Prop} {N : xN} {S R : xS} (h : REL E0 X N S R) {n : Nat} (hn : inN n N) (hp : xI R 0 11 n = 0 ∨ xI R 0 11 n = 1) : P2 (c7_doArithmetic n S 31) (r_operates R (nI n) 31) (Qo X N) := by
  have h8 := h.le8 hn
  have gA := h.g_A hn (okE0 n).1
  have gB := h.g_B hn (okE0 n).2.1
  have gC := h.g_C hn (okE0 n).2.2
  have wA := h.w_A hn (okE0 n).1
  have wB := h.w_B hn (okE0 n).2.1
  have wC := h.w_C hn (okE0 n).2.2
  unfold c7_doArithmetic r_operates
  refine P2.l (c11_signed_n _) (P2.l (c11_signed_n _) ?_)
  iterate 8 (refine P2.nl (by decide) ?_)
  refine P2.pl rfl ?_
  refine P2.g h8 (P2.g h8 (P2.g h8 ?_))
  iterate 16 (refine P2.nr (by decide) ?_)
  refine P2.pr rfl ?_
  unfold c7_remainder
  simp only [gA, gB, gC, gI h8, cl8 h8, c11_signed_n, r_signed_n, c9_replaceTwo_n, r_gives_n _ h8, c7_checked_n, r_checked_n _ h8, c9_push_n, r_push_n _ h8, c9_pop_n, r_pop_n _ h8, c9_popAll_n, r_popped_1 _ h8, r_popped_2 _ h8, r_popped_3 _ h8, c5_wordAt_n, c5_setWord_n, c5_byteAt_n, c5_setByte_n, r_word_n _ h8, r_wordTo_n _ h8, r_byteAt_n _ h8, r_byteTo_n _ h8, c1_makeReady_n, r_ready_n _ h8, c1_leaveWaiting_n, r_waits_n _ h8, c1_yieldIfSliced_n, r_sliced_n _ h8, c1_stopWith_n, r_stop_n _ h8, r_fails_0, r_fails_1 _ h8, c7_failIf_0, c7_failIf_1, Option.bind_some, gz1, gz0, nar0, nar1, xnm, ix20, ix21, gQ0 h8, gQ1 h8, clQ0 h8, clQ1 h8, r_rest, r_rest_b11]
  by_cases e : sg (xI R 0 5 n) = 0
  · simp only [if_pos e, xnm, Option.bind_some, c9_replaceTwo_n, r_gives_n _ h8, gz1, gI h8, cl8 h8, nar1]
    exact P2.done ((h.err hn).two hn (okE0 n) rfl)
  · simp only [if_neg e, gq, if_pos e, not_false_eq_true, if_true, Option.bind_some, c9_replaceTwo_n, r_gives_n _ h8, gz1, gI h8, cl8 h8]
    exact P2.done (h.two hn (okE0 n) rfl)
theorem q_44 {X : xS → xS → Prop} {N : xN} {S R : xS} (h : REL E0 X N S R) {n : Nat} (hn : inN n N) (hp : xI R 0 11 n = 0 ∨ xI R 0 11 n = 1) : P2 (c7_doArithmetic n S 44) (r_operates R (nI n) 44) (Qo X N) := by
  have h8 := h.le8 hn
  have gA := h.g_A hn (okE0 n).1
  have gB := h.g_B hn (okE0 n).2.1
  have gC := h.g_C hn (okE0 n).2.2
  have wA := h.w_A hn (okE0 n).1
  have wB := h.w_B hn (okE0 n).2.1
  have wC := h.w_C hn (okE0 n).2.2
  unfold c7_doArithmetic r_operates
  refine P2.l (c11_signed_n _) (P2.l (c11_signed_n _) ?_)
  iterate 9 (refine P2.nl (by decide) ?_)
  refine P2.pl rfl ?_
  refine P2.g h8 (P2.g h8 (P2.g h8 ?_))
  iterate 18 (refine P2.nr (by decide) ?_)
  refine P2.pr rfl ?_
  unfold c7_quotient
  simp only [gA, gB, gC, gI h8, cl8 h8, c11_signed_n, r_signed_n, c9_replaceTwo_n, r_gives_n _ h8, c7_checked_n, r_checked_n _ h8, c9_push_n, r_push_n _ h8, c9_pop_n, r_pop_n _ h8, c9_popAll_n, r_popped_1 _ h8, r_popped_2 _ h8, r_popped_3 _ h8, c5_wordAt_n, c5_setWord_n, c5_byteAt_n, c5_setByte_n, r_word_n _ h8, r_wordTo_n _ h8, r_byteAt_n _ h8, r_byteTo_n _ h8, c1_makeReady_n, r_ready_n _ h8, c1_leaveWaiting_n, r_waits_n _ h8, c1_yieldIfSliced_n, r_sliced_n _ h8, c1_stopWith_n, r_stop_n _ h8, r_fails_0, r_fails_1 _ h8, c7_failIf_0, c7_failIf_1, Option.bind_some, gz1, gz0, nar0, nar1, xnm, ix20, ix21, gQ0 h8, gQ1 h8, clQ0 h8, clQ1 h8, r_quotient, r_quotient_b16, r_quotient_b20, r_quotient_b21, r_quotient_b35]
  by_cases e : sg (xI R 0 5 n) = 0
  · simp only [if_pos e, xnm, Option.bind_some, c9_replaceTwo_n, r_gives_n _ h8, gz1, gI h8, cl8 h8, nar1, one0, ↓reduceIte]
    exact P2.done ((h.err hn).two hn (okE0 n) rfl)
  · by_cases e2 : sg (xI R 0 6 n) = -32768
    · by_cases e3 : sg (xI R 0 5 n) = -1
      · simp only [if_neg e, if_pos e2, if_pos e3, xnm, Option.bind_some, c9_replaceTwo_n, r_gives_n _ h8, gz1, gI h8, cl8 h8, nar1, one0, ↓reduceIte]
        exact P2.done ((h.err hn).two hn (okE0 n) rfl)
      · simp only [e, e2, e3, gq, not_false_eq_true, ↓reduceIte, Option.bind_some, c9_replaceTwo_n, r_gives_n _ h8, gz1, gI h8, cl8 h8]
        exact P2.done (h.two hn (okE0 n) rfl)
    · simp only [e, e2, gq, not_false_eq_true, ↓reduceIte, Option.bind_some, c9_replaceTwo_n, r_gives_n _ h8, gz1, gI h8, cl8 h8]
      exact P2.done (h.two hn (okE0 n) rfl)
theorem q_52 {X : xS → xS → Prop} {N : xN} {S R : xS} (h : REL E0 X N S R) {n : Nat} (hn : inN n N) (hp : xI R 0 11 n = 0 ∨ xI R 0 11 n = 1) : P2 (c7_doArithmetic n S 52) (r_operates R (nI n) 52) (Qo X N) := by
  have h8 := h.le8 hn
  have gA := h.g_A hn (okE0 n).1
  have gB := h.g_B hn (okE0 n).2.1
  have gC := h.g_C hn (okE0 n).2.2
  have wA := h.w_A hn (okE0 n).1
  have wB := h.w_B hn (okE0 n).2.1
  have wC := h.w_C hn (okE0 n).2.2
  unfold c7_doArithmetic r_operates
  refine P2.l (c11_signed_n _) (P2.l (c11_signed_n _) ?_)
  iterate 10 (refine P2.nl (by decide) ?_)
  refine P2.pl rfl ?_
  refine P2.g h8 (P2.g h8 (P2.g h8 ?_))
  iterate 41 (refine P2.nr (by decide) ?_)
  refine P2.gzr ?_
  unfold r_others
  iterate 19 (refine P2.nr (by decide) ?_)
  refine P2.pr rfl ?_
  simp only [gA, gB, gC, gI h8, cl8 h8, c11_signed_n, r_signed_n, c9_replaceTwo_n, r_gives_n _ h8, c7_checked_n, r_checked_n _ h8, c9_push_n, r_push_n _ h8, c9_pop_n, r_pop_n _ h8, c9_popAll_n, r_popped_1 _ h8, r_popped_2 _ h8, r_popped_3 _ h8, c5_wordAt_n, c5_setWord_n, c5_byteAt_n, c5_setByte_n, r_word_n _ h8, r_wordTo_n _ h8, r_byteAt_n _ h8, r_byteTo_n _ h8, c1_makeReady_n, r_ready_n _ h8, c1_leaveWaiting_n, r_waits_n _ h8, c1_yieldIfSliced_n, r_sliced_n _ h8, c1_stopWith_n, r_stop_n _ h8, r_fails_0, r_fails_1 _ h8, c7_failIf_0, c7_failIf_1, Option.bind_some, gz1, gz0, nar0, nar1, xnm, ix20, ix21, gQ0 h8, gQ1 h8, clQ0 h8, clQ1 h8]
  exact P2.done (h.s_A hn (m16_mul rfl (m16_sg _)) (w16 _))
theorem q_50 {X : xS → xS → Prop} {N : xN} {S R : xS} (h : REL E0 X N S R) {n : Nat} (hn : inN n N) (hp : xI R 0 11 n = 0 ∨ xI R 0 11 n = 1) : P2 (c7_doLogic n S 50) (r_operates R (nI n) 50) (Qo X N) := by
  have h8 := h.le8 hn
  have gA := h.g_A hn (okE0 n).1
  have gB := h.g_B hn (okE0 n).2.1
  have gC := h.g_C hn (okE0 n).2.2
  have wA := h.w_A hn (okE0 n).1
  have wB := h.w_B hn (okE0 n).2.1
  have wC := h.w_C hn (okE0 n).2.2
  unfold c7_doLogic r_operates
  refine P2.pl rfl ?_
  refine P2.g h8 (P2.g h8 (P2.g h8 ?_))
  iterate 41 (refine P2.nr (by decide) ?_)
  refine P2.gzr ?_
  unfold r_others
  iterate 18 (refine P2.nr (by decide) ?_)
  refine P2.pr rfl ?_
  simp only [gA, gB, gC, gI h8, cl8 h8, c11_signed_n, r_signed_n, c9_replaceTwo_n, r_gives_n _ h8, c7_checked_n, r_checked_n _ h8, c9_push_n, r_push_n _ h8, c9_pop_n, r_pop_n _ h8, c9_popAll_n, r_popped_1 _ h8, r_popped_2 _ h8, r_popped_3 _ h8, c5_wordAt_n, c5_setWord_n, c5_byteAt_n, c5_setByte_n, r_word_n _ h8, r_wordTo_n _ h8, r_byteAt_n _ h8, r_byteTo_n _ h8, c1_makeReady_n, r_ready_n _ h8, c1_leaveWaiting_n, r_waits_n _ h8, c1_yieldIfSliced_n, r_sliced_n _ h8, c1_stopWith_n, r_stop_n _ h8, r_fails_0, r_fails_1 _ h8, c7_failIf_0, c7_failIf_1, Option.bind_some, gz1, gz0, nar0, nar1, xnm, ix20, ix21, gQ0 h8, gQ1 h8, clQ0 h8, clQ1 h8]
  exact P2.done (h.s_A hn rfl (w_not wA))
theorem q_51 {X : xS → xS → Prop} {N : xN} {S R : xS} (h : REL E0 X N S R) {n : Nat} (hn : inN n N) (hp : xI R 0 11 n = 0 ∨ xI R 0 11 n = 1) : P2 (c7_doLogic n S 51) (r_operates R (nI n) 51) (Qo X N) := by
  have h8 := h.le8 hn
  have gA := h.g_A hn (okE0 n).1
  have gB := h.g_B hn (okE0 n).2.1
  have gC := h.g_C hn (okE0 n).2.2
  have wA := h.w_A hn (okE0 n).1
  have wB := h.w_B hn (okE0 n).2.1
  have wC := h.w_C hn (okE0 n).2.2
  unfold c7_doLogic r_operates
  iterate 1 (refine P2.nl (by decide) ?_)
  refine P2.pl rfl ?_
  refine P2.g h8 (P2.g h8 (P2.g h8 ?_))
  iterate 22 (refine P2.nr (by decide) ?_)
  refine P2.pr rfl ?_
  simp only [gA, gB, gC, gI h8, cl8 h8, c11_signed_n, r_signed_n, c9_replaceTwo_n, r_gives_n _ h8, c7_checked_n, r_checked_n _ h8, c9_push_n, r_push_n _ h8, c9_pop_n, r_pop_n _ h8, c9_popAll_n, r_popped_1 _ h8, r_popped_2 _ h8, r_popped_3 _ h8, c5_wordAt_n, c5_setWord_n, c5_byteAt_n, c5_setByte_n, r_word_n _ h8, r_wordTo_n _ h8, r_byteAt_n _ h8, r_byteTo_n _ h8, c1_makeReady_n, r_ready_n _ h8, c1_leaveWaiting_n, r_waits_n _ h8, c1_yieldIfSliced_n, r_sliced_n _ h8, c1_stopWith_n, r_stop_n _ h8, r_fails_0, r_fails_1 _ h8, c7_failIf_0, c7_failIf_1, Option.bind_some, gz1, gz0, nar0, nar1, xnm, ix20, ix21, gQ0 h8, gQ1 h8, clQ0 h8, clQ1 h8]
  exact P2.done (h.two hn (okE0 n) (rfl))
theorem q_70 {X : xS → xS → Prop} {N : xN} {S R : xS} (h : REL E0 X N S R) {n : Nat} (hn : inN n N) (hp : xI R 0 11 n = 0 ∨ xI R 0 11 n = 1) : P2 (c7_doLogic n S 70) (r_operates R (nI n) 70) (Qo X N) := by
  have h8 := h.le8 hn
  have gA := h.g_A hn (okE0 n).1
  have gB := h.g_B hn (okE0 n).2.1
  have gC := h.g_C hn (okE0 n).2.2
  have wA := h.w_A hn (okE0 n).1
  have wB := h.w_B hn (okE0 n).2.1
  have wC := h.w_C hn (okE0 n).2.2
  unfold c7_doLogic r_operates
  iterate 5 (refine P2.nl (by decide) ?_)
  refine P2.pl rfl ?_
  refine P2.g h8 (P2.g h8 (P2.g h8 ?_))
  iterate 30 (refine P2.nr (by decide) ?_)
  refine P2.pr rfl ?_
  simp only [gA, gB, gC, gI h8, cl8 h8, c11_signed_n, r_signed_n, c9_replaceTwo_n, r_gives_n _ h8, c7_checked_n, r_checked_n _ h8, c9_push_n, r_push_n _ h8, c9_pop_n, r_pop_n _ h8, c9_popAll_n, r_popped_1 _ h8, r_popped_2 _ h8, r_popped_3 _ h8, c5_wordAt_n, c5_setWord_n, c5_byteAt_n, c5_setByte_n, r_word_n _ h8, r_wordTo_n _ h8, r_byteAt_n _ h8, r_byteTo_n _ h8, c1_makeReady_n, r_ready_n _ h8, c1_leaveWaiting_n, r_waits_n _ h8, c1_yieldIfSliced_n, r_sliced_n _ h8, c1_stopWith_n, r_stop_n _ h8, r_fails_0, r_fails_1 _ h8, c7_failIf_0, c7_failIf_1, Option.bind_some, gz1, gz0, nar0, nar1, xnm, ix20, ix21, gQ0 h8, gQ1 h8, clQ0 h8, clQ1 h8]
  exact P2.done (h.two hn (okE0 n) (rfl))
theorem q_75 {X : xS → xS → Prop} {N : xN} {S R : xS} (h : REL E0 X N S R) {n : Nat} (hn : inN n N) (hp : xI R 0 11 n = 0 ∨ xI R 0 11 n = 1) : P2 (c7_doLogic n S 75) (r_operates R (nI n) 75) (Qo X N) := by
  have h8 := h.le8 hn
  have gA := h.g_A hn (okE0 n).1
  have gB := h.g_B hn (okE0 n).2.1
  have gC := h.g_C hn (okE0 n).2.2
  have wA := h.w_A hn (okE0 n).1
  have wB := h.w_B hn (okE0 n).2.1
  have wC := h.w_C hn (okE0 n).2.2
  unfold c7_doLogic r_operates
  iterate 6 (refine P2.nl (by decide) ?_)
  refine P2.pl rfl ?_
  refine P2.g h8 (P2.g h8 (P2.g h8 ?_))
  iterate 34 (refine P2.nr (by decide) ?_)
  refine P2.pr rfl ?_
  simp only [gA, gB, gC, gI h8, cl8 h8, c11_signed_n, r_signed_n, c9_replaceTwo_n, r_gives_n _ h8, c7_checked_n, r_checked_n _ h8, c9_push_n, r_push_n _ h8, c9_pop_n, r_pop_n _ h8, c9_popAll_n, r_popped_1 _ h8, r_popped_2 _ h8, r_popped_3 _ h8, c5_wordAt_n, c5_setWord_n, c5_byteAt_n, c5_setByte_n, r_word_n _ h8, r_wordTo_n _ h8, r_byteAt_n _ h8, r_byteTo_n _ h8, c1_makeReady_n, r_ready_n _ h8, c1_leaveWaiting_n, r_waits_n _ h8, c1_yieldIfSliced_n, r_sliced_n _ h8, c1_stopWith_n, r_stop_n _ h8, r_fails_0, r_fails_1 _ h8, c7_failIf_0, c7_failIf_1, Option.bind_some, gz1, gz0, nar0, nar1, xnm, ix20, ix21, gQ0 h8, gQ1 h8, clQ0 h8, clQ1 h8]
  exact P2.done (h.two hn (okE0 n) (rfl))
theorem q_58 {X : xS → xS → Prop} {N : xN} {S R : xS} (h : REL E0 X N S R) {n : Nat} (hn : inN n N) (hp : xI R 0 11 n = 0 ∨ xI R 0 11 n = 1) : P2 (c7_doLogic n S 58) (r_operates R (nI n) 58) (Qo X N) := by
  have h8 := h.le8 hn
  have gA := h.g_A hn (okE0 n).1
  have gB := h.g_B hn (okE0 n).2.1
  have gC := h.g_C hn (okE0 n).2.2
  have wA := h.w_A hn (okE0 n).1
  have wB := h.w_B hn (okE0 n).2.1
  have wC := h.w_C hn (okE0 n).2.2
  unfold c7_doLogic r_operates
  iterate 2 (refine P2.nl (by decide) ?_)
  refine P2.pl rfl ?_
  refine P2.g h8 (P2.g h8 (P2.g h8 ?_))
  iterate 24 (refine P2.nr (by decide) ?_)
  refine P2.pr rfl ?_
  simp only [gA, gB, gC, gI h8, cl8 h8, c11_signed_n, r_signed_n, c9_replaceTwo_n, r_gives_n _ h8, c7_checked_n, r_checked_n _ h8, c9_push_n, r_push_n _ h8, c9_pop_n, r_pop_n _ h8, c9_popAll_n, r_popped_1 _ h8, r_popped_2 _ h8, r_popped_3 _ h8, c5_wordAt_n, c5_setWord_n, c5_byteAt_n, c5_setByte_n, r_word_n _ h8, r_wordTo_n _ h8, r_byteAt_n _ h8, r_byteTo_n _ h8, c1_makeReady_n, r_ready_n _ h8, c1_leaveWaiting_n, r_waits_n _ h8, c1_yieldIfSliced_n, r_sliced_n _ h8, c1_stopWith_n, r_stop_n _ h8, r_fails_0, r_fails_1 _ h8, c7_failIf_0, c7_failIf_1, Option.bind_some, gz1, gz0, nar0, nar1, xnm, ix20, ix21, gQ0 h8, gQ1 h8, clQ0 h8, clQ1 h8]
  exact P2.ite Iff.rfl (fun _ _ => P2.done (h.two hn (okE0 n) rfl)) (fun _ _ => P2.done (h.two hn (okE0 n) rfl))
theorem q_64 {X : xS → xS → Prop} {N : xN} {S R : xS} (h : REL E0 X N S R) {n : Nat} (hn : inN n N) (hp : xI R 0 11 n = 0 ∨ xI R 0 11 n = 1) : P2 (c7_doLogic n S 64) (r_operates R (nI n) 64) (Qo X N) := by
  have h8 := h.le8 hn
  have gA := h.g_A hn (okE0 n).1
  have gB := h.g_B hn (okE0 n).2.1
  have gC := h.g_C hn (okE0 n).2.2
  have wA := h.w_A hn (okE0 n).1
  have wB := h.w_B hn (okE0 n).2.1
  have wC := h.w_C hn (okE0 n).2.2
  unfold c7_doLogic r_operates
  iterate 3 (refine P2.nl (by decide) ?_)
  refine P2.pl rfl ?_
  refine P2.g h8 (P2.g h8 (P2.g h8 ?_))
  iterate 25 (refine P2.nr (by decide) ?_)
  refine P2.pr rfl ?_
  simp only [gA, gB, gC, gI h8, cl8 h8, c11_signed_n, r_signed_n, c9_replaceTwo_n, r_gives_n _ h8, c7_checked_n, r_checked_n _ h8, c9_push_n, r_push_n _ h8, c9_pop_n, r_pop_n _ h8, c9_popAll_n, r_popped_1 _ h8, r_popped_2 _ h8, r_popped_3 _ h8, c5_wordAt_n, c5_setWord_n, c5_byteAt_n, c5_setByte_n, r_word_n _ h8, r_wordTo_n _ h8, r_byteAt_n _ h8, r_byteTo_n _ h8, c1_makeReady_n, r_ready_n _ h8, c1_leaveWaiting_n, r_waits_n _ h8, c1_yieldIfSliced_n, r_sliced_n _ h8, c1_stopWith_n, r_stop_n _ h8, r_fails_0, r_fails_1 _ h8, c7_failIf_0, c7_failIf_1, Option.bind_some, gz1, gz0, nar0, nar1, xnm, ix20, ix21, gQ0 h8, gQ1 h8, clQ0 h8, clQ1 h8]
  refine P2.ite (lt16 _) (fun _ e => P2.done (h.two hn (okE0 n) ?_)) (fun _ _ => P2.done (h.two hn (okE0 n) rfl))
  obtain ⟨a, ha, ea⟩ := w16_nat wA
  obtain ⟨b, hb, eb⟩ := w16_nat wB
  rw [ea] at e
  rw [ea, eb]
  have := (nI_leI (a := a) (b := 15) (by omega) (by decide)).mp e
  rw [iush_lt (by omega) (by omega)]
theorem q_65 {X : xS → xS → Prop} {N : xN} {S R : xS} (h : REL E0 X N S R) {n : Nat} (hn : inN n N) (hp : xI R 0 11 n = 0 ∨ xI R 0 11 n = 1) : P2 (c7_doLogic n S 65) (r_operates R (nI n) 65) (Qo X N) := by
  have h8 := h.le8 hn
  have gA := h.g_A hn (okE0 n).1
  have gB := h.g_B hn (okE0 n).2.1
  have gC := h.g_C hn (okE0 n).2.2
  have wA := h.w_A hn (okE0 n).1
  have wB := h.w_B hn (okE0 n).2.1
  have wC := h.w_C hn (okE0 n).2.2
  unfold c7_doLogic r_operates
  iterate 4 (refine P2.nl (by decide) ?_)
  refine P2.pl rfl ?_
  refine P2.g h8 (P2.g h8 (P2.g h8 ?_))
  iterate 26 (refine P2.nr (by decide) ?_)
  refine P2.pr rfl ?_
  simp only [gA, gB, gC, gI h8, cl8 h8, c11_signed_n, r_signed_n, c9_replaceTwo_n, r_gives_n _ h8, c7_checked_n, r_checked_n _ h8, c9_push_n, r_push_n _ h8, c9_pop_n, r_pop_n _ h8, c9_popAll_n, r_popped_1 _ h8, r_popped_2 _ h8, r_popped_3 _ h8, c5_wordAt_n, c5_setWord_n, c5_byteAt_n, c5_setByte_n, r_word_n _ h8, r_wordTo_n _ h8, r_byteAt_n _ h8, r_byteTo_n _ h8, c1_makeReady_n, r_ready_n _ h8, c1_leaveWaiting_n, r_waits_n _ h8, c1_yieldIfSliced_n, r_sliced_n _ h8, c1_stopWith_n, r_stop_n _ h8, r_fails_0, r_fails_1 _ h8, c7_failIf_0, c7_failIf_1, Option.bind_some, gz1, gz0, nar0, nar1, xnm, ix20, ix21, gQ0 h8, gQ1 h8, clQ0 h8, clQ1 h8]
  exact P2.ite (lt16 _) (fun _ e => P2.done (h.two hn (okE0 n) rfl)) (fun _ _ => P2.done (h.two hn (okE0 n) rfl))
