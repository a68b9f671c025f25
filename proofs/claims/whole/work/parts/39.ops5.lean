/-! operations: double words -/
theorem q_25 {X : xS → xS → Prop} {N : xN} {S R : xS} (h : REL E0 X N S R) {n : Nat} (hn : inN n N) (hp : xI R 0 11 n = 0 ∨ xI R 0 11 n = 1) : P2 (c7_doDoubleWords n S 25) (r_operates R (nI n) 25) (Qo X N) := by
  have h8 := h.le8 hn
  have gA := h.g_A hn (okE0 n).1
  have gB := h.g_B hn (okE0 n).2.1
  have gC := h.g_C hn (okE0 n).2.2
  have wA := h.w_A hn (okE0 n).1
  have wB := h.w_B hn (okE0 n).2.1
  have wC := h.w_C hn (okE0 n).2.2
  unfold c7_doDoubleWords r_operates
  refine P2.pl rfl ?_
  refine P2.g h8 (P2.g h8 (P2.g h8 ?_))
  iterate 41 (refine P2.nr (by decide) ?_)
  refine P2.gzr ?_
  unfold r_others
  iterate 7 (refine P2.nr (by decide) ?_)
  refine P2.pr rfl ?_
  rw [cl8 h8, gA, gB]
  exact P2.q1 (p_norm h hn wB wA)
theorem q_26 {X : xS → xS → Prop} {N : xN} {S R : xS} (h : REL E0 X N S R) {n : Nat} (hn : inN n N) (hp : xI R 0 11 n = 0 ∨ xI R 0 11 n = 1) : P2 (c7_doDoubleWords n S 26) (r_operates R (nI n) 26) (Qo X N) := by
  have h8 := h.le8 hn
  have gA := h.g_A hn (okE0 n).1
  have gB := h.g_B hn (okE0 n).2.1
  have gC := h.g_C hn (okE0 n).2.2
  have wA := h.w_A hn (okE0 n).1
  have wB := h.w_B hn (okE0 n).2.1
  have wC := h.w_C hn (okE0 n).2.2
  unfold c7_doDoubleWords r_operates
  iterate 1 (refine P2.nl (by decide) ?_)
  refine P2.pl rfl ?_
  refine P2.g h8 (P2.g h8 (P2.g h8 ?_))
  iterate 41 (refine P2.nr (by decide) ?_)
  refine P2.gzr ?_
  unfold r_others
  iterate 8 (refine P2.nr (by decide) ?_)
  refine P2.pr rfl ?_
  simp only [gA, gB, gC, gI h8, cl8 h8, c11_signed_n, r_signed_n, c9_replaceTwo_n, r_gives_n _ h8, c7_checked_n, r_checked_n _ h8, c9_push_n, r_push_n _ h8, c9_pop_n, r_pop_n _ h8, c9_popAll_n, r_popped_1 _ h8, r_popped_2 _ h8, r_popped_3 _ h8, c5_wordAt_n, c5_setWord_n, c5_byteAt_n, c5_setByte_n, r_word_n _ h8, r_wordTo_n _ h8, r_byteAt_n _ h8, r_byteTo_n _ h8, c1_makeReady_n, r_ready_n _ h8, c1_leaveWaiting_n, r_waits_n _ h8, c1_yieldIfSliced_n, r_sliced_n _ h8, c1_stopWith_n, r_stop_n _ h8, r_fails_0, r_fails_1 _ h8, c7_failIf_0, c7_failIf_1, Option.bind_some, gz1, gz0, nar0, nar1, xnm, ix20, ix21, gQ0 h8, gQ1 h8, clQ0 h8, clQ1 h8, c7_divideLong, jlrem]
  obtain ⟨a, ha, ea⟩ := w16_nat wA
  obtain ⟨b, hb, eb⟩ := w16_nat wB
  obtain ⟨c, hc, ec⟩ := w16_nat wC
  rw [ea, eb, ec]
  by_cases e : c < a
  · have e1 : nI c < nI a := nI_lt e (by omega)
    have e2 : ¬ nI a ≤ nI c := nI_ge e (by omega)
    have e3 : ¬ nI a = 0 := nI_ne0 (by omega) (by omega)
    have e4 : ¬ (nI a).toInt64 = 0 := by
      rw [nI_l (by omega)]
      exact fun z => absurd ((lN_eq (b := 0) (by omega) (by decide)).mp z) (by omega)
    have e5 : (jlshl ((nI c).toInt64) (16 : Int32)) ||| ((nI b).toInt64) = lN (c * 65536 + b) := by
      rw [nI_l (by omega), nI_l (by omega), jlshl16 hc]
      exact l_or16 hc hb
    have hq : (c * 65536 + b) / a < 65536 := by
      rw [Nat.div_lt_iff_lt_mul (by omega)]
      have := Nat.mul_le_mul_right 65536 e
      omega
    have hr : (c * 65536 + b) % a < a := Nat.mod_lt _ (by omega)
    rw [if_neg e2, if_neg e3, if_pos e1, e5]
    simp only [gq, if_pos e4, Option.bind_some]
    rw [nI_l (n := a) (by omega), pk_lRem (a := c * 65536 + b) (b := a) (by omega) (by omega) (by omega), pk_lDiv (by omega) (by omega) (by omega), lN_i, lN_i, w16_nI hq, w16_nI (by omega)]
    exact P2.done ((h.s_A hn rfl (w16_nI hq)).s_B hn rfl (w16_nI (by omega)))
  · have e1 : ¬ nI c < nI a := nI_nlt (by omega) (by omega)
    have e2 : nI a ≤ nI c := nI_le (by omega) (by omega)
    rw [if_pos e2, if_neg e1]
    exact P2.done (h.err hn)
theorem q_29 {X : xS → xS → Prop} {N : xN} {S R : xS} (h : REL E0 X N S R) {n : Nat} (hn : inN n N) (hp : xI R 0 11 n = 0 ∨ xI R 0 11 n = 1) : P2 (c7_doDoubleWords n S 29) (r_operates R (nI n) 29) (Qo X N) := by
  have h8 := h.le8 hn
  have gA := h.g_A hn (okE0 n).1
  have gB := h.g_B hn (okE0 n).2.1
  have gC := h.g_C hn (okE0 n).2.2
  have wA := h.w_A hn (okE0 n).1
  have wB := h.w_B hn (okE0 n).2.1
  have wC := h.w_C hn (okE0 n).2.2
  unfold c7_doDoubleWords r_operates
  iterate 2 (refine P2.nl (by decide) ?_)
  refine P2.pl rfl ?_
  refine P2.g h8 (P2.g h8 (P2.g h8 ?_))
  iterate 41 (refine P2.nr (by decide) ?_)
  refine P2.gzr ?_
  unfold r_others
  iterate 11 (refine P2.nr (by decide) ?_)
  refine P2.pr rfl ?_
  simp only [gA, gC, gI h8, cl8 h8, c11_signed_n, r_signed_n, c9_replaceTwo_n, r_gives_n _ h8, c7_checked_n, r_checked_n _ h8, c9_push_n, r_push_n _ h8, c9_pop_n, r_pop_n _ h8, c9_popAll_n, r_popped_1 _ h8, r_popped_2 _ h8, r_popped_3 _ h8, c5_wordAt_n, c5_setWord_n, c5_byteAt_n, c5_setByte_n, r_word_n _ h8, r_wordTo_n _ h8, r_byteAt_n _ h8, r_byteTo_n _ h8, c1_makeReady_n, r_ready_n _ h8, c1_leaveWaiting_n, r_waits_n _ h8, c1_yieldIfSliced_n, r_sliced_n _ h8, c1_stopWith_n, r_stop_n _ h8, r_fails_0, r_fails_1 _ h8, c7_failIf_0, c7_failIf_1, Option.bind_some, gz1, gz0, nar0, nar1, xnm, ix20, ix21, gQ0 h8, gQ1 h8, clQ0 h8, clQ1 h8]
  have h1 := h.s_C hn gB wB
  exact P2.ite Iff.rfl (fun _ _ => P2.done (h1.s_B hn rfl (by decide))) (fun _ _ => P2.done (h1.s_B hn rfl (by decide)))
theorem q_49 {X : xS → xS → Prop} {N : xN} {S R : xS} (h : REL E0 X N S R) {n : Nat} (hn : inN n N) (hp : xI R 0 11 n = 0 ∨ xI R 0 11 n = 1) : P2 (c7_doDoubleWords n S 49) (r_operates R (nI n) 49) (Qo X N) := by
  have h8 := h.le8 hn
  have gA := h.g_A hn (okE0 n).1
  have gB := h.g_B hn (okE0 n).2.1
  have gC := h.g_C hn (okE0 n).2.2
  have wA := h.w_A hn (okE0 n).1
  have wB := h.w_B hn (okE0 n).2.1
  have wC := h.w_C hn (okE0 n).2.2
  unfold c7_doDoubleWords r_operates
  iterate 3 (refine P2.nl (by decide) ?_)
  refine P2.pl rfl ?_
  refine P2.g h8 (P2.g h8 (P2.g h8 ?_))
  iterate 41 (refine P2.nr (by decide) ?_)
  refine P2.gzr ?_
  unfold r_others
  iterate 17 (refine P2.nr (by decide) ?_)
  refine P2.pr rfl ?_
  rw [cl8 h8, gA, gB, gC]
  obtain ⟨a, ha, ea⟩ := w16_nat wA
  obtain ⟨b, hb, eb⟩ := w16_nat wB
  obtain ⟨c, hc, ec⟩ := w16_nat wC
  have hab : a * b ≤ 65535 * 65535 := Nat.mul_le_mul (by omega) (by omega)
  rw [ea, eb, ec, nI_l (by omega), nI_l (by omega), nI_l (by omega), lN_mul, lN_add, pk_mul, nI_add]
  exact P2.q1 (p_pair h hn (by omega) (by rw [pk_tn (by omega), Nat.mod_eq_of_lt (by omega)]))
theorem q_53 {X : xS → xS → Prop} {N : xN} {S R : xS} (h : REL E0 X N S R) {n : Nat} (hn : inN n N) (hp : xI R 0 11 n = 0 ∨ xI R 0 11 n = 1) : P2 (c7_doDoubleWords n S 53) (r_operates R (nI n) 53) (Qo X N) := by
  have h8 := h.le8 hn
  have gA := h.g_A hn (okE0 n).1
  have gB := h.g_B hn (okE0 n).2.1
  have gC := h.g_C hn (okE0 n).2.2
  have wA := h.w_A hn (okE0 n).1
  have wB := h.w_B hn (okE0 n).2.1
  have wC := h.w_C hn (okE0 n).2.2
  unfold c7_doDoubleWords r_operates
  iterate 4 (refine P2.nl (by decide) ?_)
  refine P2.pl rfl ?_
  refine P2.g h8 (P2.g h8 (P2.g h8 ?_))
  iterate 41 (refine P2.nr (by decide) ?_)
  refine P2.gzr ?_
  unfold r_others
  iterate 20 (refine P2.nr (by decide) ?_)
  refine P2.pr rfl ?_
  rw [cl8 h8, gA, gB, gC]
  obtain ⟨v, hv, e1, e2⟩ := dw_eq wC wB
  rw [e1, e2]
  refine P2.ite (lt32 _) (fun _ e => ?_) (fun _ _ => P2.q1 (p_pair h hn (k := 0) (by decide) rfl))
  obtain ⟨a, ha, ea⟩ := w16_nat wA
  rw [ea] at e ⊢
  have := (nI_leI (a := a) (b := 31) (by omega) (by decide)).mp e
  have hd : v / 2 ^ a ≤ v := Nat.div_le_self _ _
  have e3 : iush (nI v) (nI a) = nI (v / 2 ^ a) := by
    unfold iush
    exact pk_ushrN hv _ a (ush32 a (by omega))
  rw [e3, jlshr_N (by omega) (by omega)]
  exact P2.q1 (p_pair h hn (by omega) (by rw [pk_tn (by omega), Nat.mod_eq_of_lt (by omega)]))
theorem q_54 {X : xS → xS → Prop} {N : xN} {S R : xS} (h : REL E0 X N S R) {n : Nat} (hn : inN n N) (hp : xI R 0 11 n = 0 ∨ xI R 0 11 n = 1) : P2 (c7_doDoubleWords n S 54) (r_operates R (nI n) 54) (Qo X N) := by
  have h8 := h.le8 hn
  have gA := h.g_A hn (okE0 n).1
  have gB := h.g_B hn (okE0 n).2.1
  have gC := h.g_C hn (okE0 n).2.2
  have wA := h.w_A hn (okE0 n).1
  have wB := h.w_B hn (okE0 n).2.1
  have wC := h.w_C hn (okE0 n).2.2
  unfold c7_doDoubleWords r_operates
  iterate 5 (refine P2.nl (by decide) ?_)
  refine P2.pl rfl ?_
  refine P2.g h8 (P2.g h8 (P2.g h8 ?_))
  iterate 41 (refine P2.nr (by decide) ?_)
  refine P2.gzr ?_
  unfold r_others
  iterate 21 (refine P2.nr (by decide) ?_)
  refine P2.pr rfl ?_
  rw [cl8 h8, gA, gB, gC]
  obtain ⟨v, hv, e1, e2⟩ := dw_eq wC wB
  rw [e1, e2]
  refine P2.ite (lt32 _) (fun _ e => ?_) (fun _ _ => P2.q1 (p_pair h hn (k := 0) (by decide) rfl))
  obtain ⟨a, ha, ea⟩ := w16_nat wA
  rw [ea] at e ⊢
  have ha2 := (nI_leI (a := a) (b := 31) (by omega) (by decide)).mp e
  have h2 : 2 ^ a ≤ 2 ^ 31 := Nat.pow_le_pow_right (by decide) ha2
  have h3 : v * 2 ^ a < 2 ^ 32 * 2 ^ 31 := Nat.lt_of_le_of_lt (Nat.mul_le_mul_left v h2) (Nat.mul_lt_mul_of_pos_right hv (by decide))
  rw [jlshl_N (by omega) (by omega)]
  exact P2.q1 (p_pair h hn (by omega) (by rw [pk_shl _ _ a (sh32 a (by omega)), pk_tn hv]))
theorem q_55 {X : xS → xS → Prop} {N : xN} {S R : xS} (h : REL E0 X N S R) {n : Nat} (hn : inN n N) (hp : xI R 0 11 n = 0 ∨ xI R 0 11 n = 1) : P2 (c7_doDoubleWords n S 55) (r_operates R (nI n) 55) (Qo X N) := by
  have h8 := h.le8 hn
  have gA := h.g_A hn (okE0 n).1
  have gB := h.g_B hn (okE0 n).2.1
  have gC := h.g_C hn (okE0 n).2.2
  have wA := h.w_A hn (okE0 n).1
  have wB := h.w_B hn (okE0 n).2.1
  have wC := h.w_C hn (okE0 n).2.2
  unfold c7_doDoubleWords r_operates
  iterate 6 (refine P2.nl (by decide) ?_)
  refine P2.pl rfl ?_
  refine P2.g h8 (P2.g h8 (P2.g h8 ?_))
  iterate 41 (refine P2.nr (by decide) ?_)
  refine P2.gzr ?_
  unfold r_others
  iterate 22 (refine P2.nr (by decide) ?_)
  refine P2.pr rfl ?_
  rw [cl8 h8, gA, gB, gC]
  obtain ⟨a, ha, ea⟩ := w16_nat wA
  obtain ⟨b, hb, eb⟩ := w16_nat wB
  obtain ⟨c, hc, ec⟩ := pk_andE (xI R 0 7 n) (m := 1) 1 (by decide)
  rw [ea, eb, ec, nI_l (by omega), nI_l (by omega), nI_l (by omega), lN_add, lN_add, nI_add, nI_add]
  exact P2.q1 (p_pair h hn (by omega) (by rw [pk_tn (by omega), Nat.mod_eq_of_lt (by omega)]))
theorem q_63 {X : xS → xS → Prop} {N : xN} {S R : xS} (h : REL E0 X N S R) {n : Nat} (hn : inN n N) (hp : xI R 0 11 n = 0 ∨ xI R 0 11 n = 1) : P2 (c7_doDoubleWords n S 63) (r_operates R (nI n) 63) (Qo X N) := by
  have h8 := h.le8 hn
  have gA := h.g_A hn (okE0 n).1
  have gB := h.g_B hn (okE0 n).2.1
  have gC := h.g_C hn (okE0 n).2.2
  have wA := h.w_A hn (okE0 n).1
  have wB := h.w_B hn (okE0 n).2.1
  have wC := h.w_C hn (okE0 n).2.2
  unfold c7_doDoubleWords r_operates
  iterate 7 (refine P2.nl (by decide) ?_)
  refine P2.pl rfl ?_
  refine P2.g h8 (P2.g h8 (P2.g h8 ?_))
  iterate 41 (refine P2.nr (by decide) ?_)
  refine P2.gzr ?_
  unfold r_others
  iterate 24 (refine P2.nr (by decide) ?_)
  refine P2.gzr ?_
  unfold r_more
  iterate 5 (refine P2.nr (by decide) ?_)
  refine P2.pr rfl ?_
  simp only [gA, gC, gI h8, cl8 h8, c11_signed_n, r_signed_n, c9_replaceTwo_n, r_gives_n _ h8, c7_checked_n, r_checked_n _ h8, c9_push_n, r_push_n _ h8, c9_pop_n, r_pop_n _ h8, c9_popAll_n, r_popped_1 _ h8, r_popped_2 _ h8, r_popped_3 _ h8, c5_wordAt_n, c5_setWord_n, c5_byteAt_n, c5_setByte_n, r_word_n _ h8, r_wordTo_n _ h8, r_byteAt_n _ h8, r_byteTo_n _ h8, c1_makeReady_n, r_ready_n _ h8, c1_leaveWaiting_n, r_waits_n _ h8, c1_yieldIfSliced_n, r_sliced_n _ h8, c1_stopWith_n, r_stop_n _ h8, r_fails_0, r_fails_1 _ h8, c7_failIf_0, c7_failIf_1, Option.bind_some, gz1, gz0, nar0, nar1, xnm, ix20, ix21, gQ0 h8, gQ1 h8, clQ0 h8, clQ1 h8]
  have h1 := (h.s_C hn gB wB).s_B hn (v := xI R 0 5 n &&& 1) rfl (by
    obtain ⟨c, hc, ec⟩ := pk_andE (xI R 0 5 n) (m := 1) 1 (by decide)
    rw [ec]
    exact w16_nI (by omega))
  exact P2.done (h1.s_A hn rfl (w16 _))
theorem q_79 {X : xS → xS → Prop} {N : xN} {S R : xS} (h : REL E0 X N S R) {n : Nat} (hn : inN n N) (hp : xI R 0 11 n = 0 ∨ xI R 0 11 n = 1) : P2 (c7_doDoubleWords n S 79) (r_operates R (nI n) 79) (Qo X N) := by
  have h8 := h.le8 hn
  have gA := h.g_A hn (okE0 n).1
  have gB := h.g_B hn (okE0 n).2.1
  have gC := h.g_C hn (okE0 n).2.2
  have wA := h.w_A hn (okE0 n).1
  have wB := h.w_B hn (okE0 n).2.1
  have wC := h.w_C hn (okE0 n).2.2
  unfold c7_doDoubleWords r_operates
  iterate 8 (refine P2.nl (by decide) ?_)
  refine P2.pl rfl ?_
  refine P2.g h8 (P2.g h8 (P2.g h8 ?_))
  iterate 41 (refine P2.nr (by decide) ?_)
  refine P2.gzr ?_
  unfold r_others
  iterate 24 (refine P2.nr (by decide) ?_)
  refine P2.gzr ?_
  unfold r_more
  iterate 10 (refine P2.nr (by decide) ?_)
  refine P2.pr rfl ?_
  simp only [gA, gB, gC, gI h8, cl8 h8, c11_signed_n, r_signed_n, c9_replaceTwo_n, r_gives_n _ h8, c7_checked_n, r_checked_n _ h8, c9_push_n, r_push_n _ h8, c9_pop_n, r_pop_n _ h8, c9_popAll_n, r_popped_1 _ h8, r_popped_2 _ h8, r_popped_3 _ h8, c5_wordAt_n, c5_setWord_n, c5_byteAt_n, c5_setByte_n, r_word_n _ h8, r_wordTo_n _ h8, r_byteAt_n _ h8, r_byteTo_n _ h8, c1_makeReady_n, r_ready_n _ h8, c1_leaveWaiting_n, r_waits_n _ h8, c1_yieldIfSliced_n, r_sliced_n _ h8, c1_stopWith_n, r_stop_n _ h8, r_fails_0, r_fails_1 _ h8, c7_failIf_0, c7_failIf_1, Option.bind_some, gz1, gz0, nar0, nar1, xnm, ix20, ix21, gQ0 h8, gQ1 h8, clQ0 h8, clQ1 h8]
  have h1 := h.s_A hn (v := (xI R 0 6 n - xI R 0 5 n - (xI R 0 7 n &&& 1)) &&& 65535) rfl (w16 _)
  exact P2.ite Iff.rfl (fun _ _ => P2.done (h1.s_B hn rfl (by decide))) (fun _ _ => P2.done (h1.s_B hn rfl (by decide)))
