/-! operations: those with memory and loops -/
theorem q_74 {X : xS → xS → Prop} {N : xN} {S R : xS} (h : REL E0 X N S R) {n : Nat} (hn : inN n N) (hp : xI R 0 11 n = 0 ∨ xI R 0 11 n = 1) : P2 (c7_doMoves n S 74) (r_operates R (nI n) 74) (Qo X N) := by
  have h8 := h.le8 hn
  have gA := h.g_A hn (okE0 n).1
  have gB := h.g_B hn (okE0 n).2.1
  have gC := h.g_C hn (okE0 n).2.2
  have wA := h.w_A hn (okE0 n).1
  have wB := h.w_B hn (okE0 n).2.1
  have wC := h.w_C hn (okE0 n).2.2
  unfold c7_doMoves r_operates
  iterate 11 (refine P2.nl (by decide) ?_)
  refine P2.pl rfl ?_
  refine P2.g h8 (P2.g h8 (P2.g h8 ?_))
  iterate 41 (refine P2.nr (by decide) ?_)
  refine P2.gzr ?_
  unfold r_others
  iterate 24 (refine P2.nr (by decide) ?_)
  refine P2.gzr ?_
  unfold r_more
  iterate 7 (refine P2.nr (by decide) ?_)
  refine P2.pr rfl ?_
  rw [cl8 h8]
  exact p_move h hn
theorem q_33 {X : xS → xS → Prop} {N : xN} {S R : xS} (h : REL E0 X N S R) {n : Nat} (hn : inN n N) (hp : xI R 0 11 n = 0 ∨ xI R 0 11 n = 1) : P2 (c7_doMoves n S 33) (r_operates R (nI n) 33) (Qo X N) := by
  have h8 := h.le8 hn
  have gA := h.g_A hn (okE0 n).1
  have gB := h.g_B hn (okE0 n).2.1
  have gC := h.g_C hn (okE0 n).2.2
  have wA := h.w_A hn (okE0 n).1
  have wB := h.w_B hn (okE0 n).2.1
  have wC := h.w_C hn (okE0 n).2.2
  unfold c7_doMoves r_operates
  iterate 6 (refine P2.nl (by decide) ?_)
  refine P2.pl rfl ?_
  refine P2.g h8 (P2.g h8 (P2.g h8 ?_))
  iterate 41 (refine P2.nr (by decide) ?_)
  refine P2.gzr ?_
  unfold r_others
  iterate 14 (refine P2.nr (by decide) ?_)
  refine P2.pr rfl ?_
  rw [cl8 h8]
  exact P2.q1 (p_loops h hn)
theorem q_3 {X : xS → xS → Prop} {N : xN} {S R : xS} (h : REL E0 X N S R) {n : Nat} (hn : inN n N) (hp : xI R 0 11 n = 0 ∨ xI R 0 11 n = 1) : P2 (c7_doScheduling n S 3) (r_operates R (nI n) 3) (Qo X N) := by
  have h8 := h.le8 hn
  have gA := h.g_A hn (okE0 n).1
  have gB := h.g_B hn (okE0 n).2.1
  have gC := h.g_C hn (okE0 n).2.2
  have wA := h.w_A hn (okE0 n).1
  have wB := h.w_B hn (okE0 n).2.1
  have wC := h.w_C hn (okE0 n).2.2
  unfold c7_doScheduling r_operates
  refine P2.pl rfl ?_
  refine P2.g h8 (P2.g h8 (P2.g h8 ?_))
  iterate 41 (refine P2.nr (by decide) ?_)
  refine P2.gzr ?_
  unfold r_others
  refine P2.pr rfl ?_
  rw [cl8 h8]
  exact P2.q1 (p_ends h hn)
theorem q_13 {X : xS → xS → Prop} {N : xN} {S R : xS} (h : REL E0 X N S R) {n : Nat} (hn : inN n N) (hp : xI R 0 11 n = 0 ∨ xI R 0 11 n = 1) : P2 (c7_doScheduling n S 13) (r_operates R (nI n) 13) (Qo X N) := by
  have h8 := h.le8 hn
  have gA := h.g_A hn (okE0 n).1
  have gB := h.g_B hn (okE0 n).2.1
  have gC := h.g_C hn (okE0 n).2.2
  have wA := h.w_A hn (okE0 n).1
  have wB := h.w_B hn (okE0 n).2.1
  have wC := h.w_C hn (okE0 n).2.2
  unfold c7_doScheduling r_operates
  iterate 1 (refine P2.nl (by decide) ?_)
  refine P2.pl rfl ?_
  refine P2.g h8 (P2.g h8 (P2.g h8 ?_))
  iterate 41 (refine P2.nr (by decide) ?_)
  refine P2.gzr ?_
  unfold r_others
  iterate 1 (refine P2.nr (by decide) ?_)
  refine P2.pr rfl ?_
  rw [cl8 h8]
  exact p_starts h hn
theorem q_61 {X : xS → xS → Prop} {N : xN} {S R : xS} (h : REL E0 X N S R) {n : Nat} (hn : inN n N) (hp : xI R 0 11 n = 0 ∨ xI R 0 11 n = 1) : P2 (c7_doScheduling n S 61) (r_operates R (nI n) 61) (Qo X N) := by
  have h8 := h.le8 hn
  have gA := h.g_A hn (okE0 n).1
  have gB := h.g_B hn (okE0 n).2.1
  have gC := h.g_C hn (okE0 n).2.2
  have wA := h.w_A hn (okE0 n).1
  have wB := h.w_B hn (okE0 n).2.1
  have wC := h.w_C hn (okE0 n).2.2
  unfold c7_doScheduling r_operates
  iterate 7 (refine P2.nl (by decide) ?_)
  refine P2.pl rfl ?_
  refine P2.g h8 (P2.g h8 (P2.g h8 ?_))
  iterate 41 (refine P2.nr (by decide) ?_)
  refine P2.gzr ?_
  unfold r_others
  iterate 24 (refine P2.nr (by decide) ?_)
  refine P2.gzr ?_
  unfold r_more
  iterate 3 (refine P2.nr (by decide) ?_)
  refine P2.pr rfl ?_
  simp only [gA, gB, gC, gI h8, cl8 h8, c11_signed_n, r_signed_n, c9_replaceTwo_n, r_gives_n _ h8, c7_checked_n, r_checked_n _ h8, c9_push_n, r_push_n _ h8, c9_pop_n, r_pop_n _ h8, c9_popAll_n, r_popped_1 _ h8, r_popped_2 _ h8, r_popped_3 _ h8, c5_wordAt_n, c5_setWord_n, c5_byteAt_n, c5_setByte_n, r_word_n _ h8, r_wordTo_n _ h8, r_byteAt_n _ h8, r_byteTo_n _ h8, c1_makeReady_n, r_ready_n _ h8, c1_leaveWaiting_n, r_waits_n _ h8, c1_yieldIfSliced_n, r_sliced_n _ h8, c1_stopWith_n, r_stop_n _ h8, r_fails_0, r_fails_1 _ h8, c7_failIf_0, c7_failIf_1, Option.bind_some, gz1, gz0, nar0, nar1, xnm, ix20, ix21, gQ0 h8, gQ1 h8, clQ0 h8, clQ1 h8, c7_saveQueue, ix61, ix62]
  have h1 := h.pw hn (a := xI R 0 5 n) rfl (h.g_f1 hn)
  have h2 := h1.pw hn (a := xI R 0 5 n + 2) rfl (h1.g_b1 hn)
  rw [xI_cPw _ _ _ _ _ _ _ (by decide), gA]
  exact P2.done (h2.pop hn (okE0 n))
theorem q_62 {X : xS → xS → Prop} {N : xN} {S R : xS} (h : REL E0 X N S R) {n : Nat} (hn : inN n N) (hp : xI R 0 11 n = 0 ∨ xI R 0 11 n = 1) : P2 (c7_doScheduling n S 62) (r_operates R (nI n) 62) (Qo X N) := by
  have h8 := h.le8 hn
  have gA := h.g_A hn (okE0 n).1
  have gB := h.g_B hn (okE0 n).2.1
  have gC := h.g_C hn (okE0 n).2.2
  have wA := h.w_A hn (okE0 n).1
  have wB := h.w_B hn (okE0 n).2.1
  have wC := h.w_C hn (okE0 n).2.2
  unfold c7_doScheduling r_operates
  iterate 8 (refine P2.nl (by decide) ?_)
  refine P2.pl rfl ?_
  refine P2.g h8 (P2.g h8 (P2.g h8 ?_))
  iterate 41 (refine P2.nr (by decide) ?_)
  refine P2.gzr ?_
  unfold r_others
  iterate 24 (refine P2.nr (by decide) ?_)
  refine P2.gzr ?_
  unfold r_more
  iterate 4 (refine P2.nr (by decide) ?_)
  refine P2.pr rfl ?_
  simp only [gA, gB, gC, gI h8, cl8 h8, c11_signed_n, r_signed_n, c9_replaceTwo_n, r_gives_n _ h8, c7_checked_n, r_checked_n _ h8, c9_push_n, r_push_n _ h8, c9_pop_n, r_pop_n _ h8, c9_popAll_n, r_popped_1 _ h8, r_popped_2 _ h8, r_popped_3 _ h8, c5_wordAt_n, c5_setWord_n, c5_byteAt_n, c5_setByte_n, r_word_n _ h8, r_wordTo_n _ h8, r_byteAt_n _ h8, r_byteTo_n _ h8, c1_makeReady_n, r_ready_n _ h8, c1_leaveWaiting_n, r_waits_n _ h8, c1_yieldIfSliced_n, r_sliced_n _ h8, c1_stopWith_n, r_stop_n _ h8, r_fails_0, r_fails_1 _ h8, c7_failIf_0, c7_failIf_1, Option.bind_some, gz1, gz0, nar0, nar1, xnm, ix20, ix21, gQ0 h8, gQ1 h8, clQ0 h8, clQ1 h8, c7_saveQueue, ix61, ix62]
  have h1 := h.pw hn (a := xI R 0 5 n) rfl (h.g_f0 hn)
  have h2 := h1.pw hn (a := xI R 0 5 n + 2) rfl (h1.g_b0 hn)
  rw [xI_cPw _ _ _ _ _ _ _ (by decide), gA]
  exact P2.done (h2.pop hn (okE0 n))
theorem q_119 {X : xS → xS → Prop} {N : xN} {S R : xS} (h : REL E0 X N S R) {n : Nat} (hn : inN n N) (hp : xI R 0 11 n = 0 ∨ xI R 0 11 n = 1) : P2 (c7_doLogic n S 119) (r_operates R (nI n) 119) (Qo X N) := by
  have h8 := h.le8 hn
  have gA := h.g_A hn (okE0 n).1
  have gB := h.g_B hn (okE0 n).2.1
  have gC := h.g_C hn (okE0 n).2.2
  have wA := h.w_A hn (okE0 n).1
  have wB := h.w_B hn (okE0 n).2.1
  have wC := h.w_C hn (okE0 n).2.2
  unfold c7_doLogic r_operates
  iterate 10 (refine P2.nl (by decide) ?_)
  refine P2.pl rfl ?_
  refine P2.g h8 (P2.g h8 (P2.g h8 ?_))
  iterate 41 (refine P2.nr (by decide) ?_)
  refine P2.gzr ?_
  unfold r_others
  iterate 24 (refine P2.nr (by decide) ?_)
  refine P2.gzr ?_
  unfold r_more
  iterate 20 (refine P2.nr (by decide) ?_)
  refine P2.pr rfl ?_
  simp only [gA, gB, gC, gI h8, cl8 h8, c11_signed_n, r_signed_n, c9_replaceTwo_n, r_gives_n _ h8, c7_checked_n, r_checked_n _ h8, c9_push_n, r_push_n _ h8, c9_pop_n, r_pop_n _ h8, c9_popAll_n, r_popped_1 _ h8, r_popped_2 _ h8, r_popped_3 _ h8, c5_wordAt_n, c5_setWord_n, c5_byteAt_n, c5_setByte_n, r_word_n _ h8, r_wordTo_n _ h8, r_byteAt_n _ h8, r_byteTo_n _ h8, c1_makeReady_n, r_ready_n _ h8, c1_leaveWaiting_n, r_waits_n _ h8, c1_yieldIfSliced_n, r_sliced_n _ h8, c1_stopWith_n, r_stop_n _ h8, r_fails_0, r_fails_1 _ h8, c7_failIf_0, c7_failIf_1, Option.bind_some, gz1, gz0, nar0, nar1, xnm, ix20, ix21, gQ0 h8, gQ1 h8, clQ0 h8, clQ1 h8]
  rw [c7_reversed_eq]
  obtain ⟨t, ht, e⟩ := r_turned_ok (xI R 0 5 n) (m := 16) (by decide)
  rw [show (16 : Int32) = nI 16 from rfl, e, Option.bind_some, Option.bind_some]
  exact P2.done (h.s_A hn rfl (w16_nI ht))
theorem q_120 {X : xS → xS → Prop} {N : xN} {S R : xS} (h : REL E0 X N S R) {n : Nat} (hn : inN n N) (hp : xI R 0 11 n = 0 ∨ xI R 0 11 n = 1) : P2 (c7_doLogic n S 120) (r_operates R (nI n) 120) (Qo X N) := by
  have h8 := h.le8 hn
  have gA := h.g_A hn (okE0 n).1
  have gB := h.g_B hn (okE0 n).2.1
  have gC := h.g_C hn (okE0 n).2.2
  have wA := h.w_A hn (okE0 n).1
  have wB := h.w_B hn (okE0 n).2.1
  have wC := h.w_C hn (okE0 n).2.2
  unfold c7_doLogic r_operates
  iterate 11 (refine P2.nl (by decide) ?_)
  refine P2.pl rfl ?_
  refine P2.g h8 (P2.g h8 (P2.g h8 ?_))
  iterate 40 (refine P2.nr (by decide) ?_)
  refine P2.pr rfl ?_
  simp only [gA, gB, gC, gI h8, cl8 h8, c11_signed_n, r_signed_n, c9_replaceTwo_n, r_gives_n _ h8, c7_checked_n, r_checked_n _ h8, c9_push_n, r_push_n _ h8, c9_pop_n, r_pop_n _ h8, c9_popAll_n, r_popped_1 _ h8, r_popped_2 _ h8, r_popped_3 _ h8, c5_wordAt_n, c5_setWord_n, c5_byteAt_n, c5_setByte_n, r_word_n _ h8, r_wordTo_n _ h8, r_byteAt_n _ h8, r_byteTo_n _ h8, c1_makeReady_n, r_ready_n _ h8, c1_leaveWaiting_n, r_waits_n _ h8, c1_yieldIfSliced_n, r_sliced_n _ h8, c1_stopWith_n, r_stop_n _ h8, r_fails_0, r_fails_1 _ h8, c7_failIf_0, c7_failIf_1, Option.bind_some, gz1, gz0, nar0, nar1, xnm, ix20, ix21, gQ0 h8, gQ1 h8, clQ0 h8, clQ1 h8]
  rw [c7_reversed_eq]
  refine P2.ite Iff.rfl (fun e1 _ => ?_) (fun _ _ => P2.done (h.two hn (okE0 n) rfl))
  obtain ⟨a, ha, ea⟩ := w16_nat wA
  rw [ea] at e1 ⊢
  have := (nI_leI (a := a) (b := 16) (by omega) (by decide)).mp e1
  obtain ⟨t, ht, e⟩ := r_turned_ok (xI R 0 6 n) this
  rw [e, Option.bind_some, Option.bind_some]
  exact P2.done (h.two hn (okE0 n) rfl)
