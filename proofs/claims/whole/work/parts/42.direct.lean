/-! functions without operations -/
def Qd (X : xS → xS → Prop) (N : xN) (n : Nat) (o p : xS) : Prop := REL (EO n) X N o p ∧ xI o n 4 3 = 0
theorem xI_cRdy (S : xS) (n : Nat) (d : Int32) (m k : Nat) : xI (cRdy S n d) m 4 k = xI S m 4 k := by
  unfold cRdy cRdy1
  by_cases h : d &&& 1 = 0
  · rw [if_pos h]
    by_cases h2 : xI S n 6 0 = 32768
    · rw [if_pos h2, xI_sI, if_neg (by omega), xI_sI, if_neg (by omega)]
    · rw [if_neg h2, xI_sI, if_neg (by omega), xI_cPw _ _ _ _ _ _ _ (by decide)]
  · rw [if_neg h]
    by_cases h2 : xI S n 7 0 = 32768
    · rw [if_pos h2, xI_sI, if_neg (by omega), xI_sI, if_neg (by omega)]
    · rw [if_neg h2, xI_sI, if_neg (by omega), xI_cPw _ _ _ _ _ _ _ (by decide)]
theorem xI_cWaits (S : xS) (n m k : Nat) (hk : k ≠ 6) : xI (cWaits S n) m 4 k = xI S m 4 k := by
  unfold cWaits
  rw [xI_sI, if_neg (by omega), xI_cPw _ _ _ _ _ _ _ (by decide)]
theorem xI_cSliced (S : xS) (n m k : Nat) (hk : k ≠ 6) : xI (cSliced S n) m 4 k = xI S m 4 k := by
  unfold cSliced
  by_cases h : xI S n 4 6 = 1
  · rw [if_pos h]
    by_cases h2 : xI S n 4 7 < 256
    · rw [if_pos h2]
    · rw [if_neg h2, xI_cRdy, xI_cWaits _ _ _ _ hk]
  · rw [if_neg h]
theorem xI_cPush (S : xS) (n : Nat) (v : Int32) (m k : Nat) (hk : 2 < k) : xI (cPush S n v) m 4 k = xI S m 4 k := by
  unfold cPush
  simp only [xI_sI]
  rw [if_neg (by omega), if_neg (by omega), if_neg (by omega)]
theorem xI_cPop (S : xS) (n m k : Nat) (hk : 2 < k) : xI (cPop S n) m 4 k = xI S m 4 k := by
  unfold cPop
  simp only [xI_sI]
  rw [if_neg (by omega), if_neg (by omega)]
theorem xI_cChk (S : xS) (n : Nat) (v : Int32) (m k : Nat) : xI (cChk S n v) m 4 k = xI S m 4 k := by
  unfold cChk
  by_cases h : v = sg v
  · rw [if_pos h]
  · rw [if_neg h, xI_sI, if_neg (by omega)]
theorem c1_local_n (n : Nat) (S : xS) (k : Int32) : c1_local n S k = some (cGw S n (xI S n 4 5 + 2 * k), cTw S n (xI S n 4 5 + 2 * k)) := by
  unfold c1_local
  rw [c5_wordAt_n]
  rfl
theorem c1_setLocal_n (n : Nat) (S : xS) (k v : Int32) : c1_setLocal n S k v = some (cPw S n (xI S n 4 5 + 2 * k) v) := by
  unfold c1_setLocal
  rw [c5_setWord_n]
  rfl
theorem p_call {X : xS → xS → Prop} {N : xN} {S R : xS} {n : Nat} (h : REL (EO n) X N S R) (hn : inN n N) (hz : xI S n 4 3 = 0) (x : Int32) : P2 (c7_call n S x) (gd (nI n) 8 (gd (nI n) 8 (xnm (sI R 0 10 n ((xI R 0 10 n - (8 : Int32)) &&& (65535 : Int32))) (fun S15 => gd (nI n) 8 (gd (nI n) 8 ((r_wordTo S15 (nI n) (xI S15 0 10 n) (xI S15 0 9 n)).bind (fun S16 => gd (nI n) 8 (gd (nI n) 8 ((r_wordTo S16 (nI n) (xI S16 0 10 n + (2 : Int32)) (xI S16 0 5 n)).bind (fun S17 => gd (nI n) 8 (gd (nI n) 8 ((r_wordTo S17 (nI n) (xI S17 0 10 n + (4 : Int32)) (xI S17 0 6 n)).bind (fun S18 => gd (nI n) 8 (gd (nI n) 8 ((r_wordTo S18 (nI n) (xI S18 0 10 n + (6 : Int32)) (xI S18 0 7 n)).bind (fun S19 => gd (nI n) 8 (gd (nI n) 8 (xnm (sI S19 0 5 n (xI S19 0 9 n)) (fun S20 => gd (nI n) 8 (gd (nI n) 8 (xnm (sI S20 0 9 n ((xI S20 0 9 n + x) &&& (65535 : Int32))) (fun S21 => some S21)))))))))))))))))))))) (Qd X N n) := by
  have h8 := h.le8 hn
  have ok := okEO n n
  unfold c7_call
  simp only [gI h8]
  refine P2.l rfl (P2.xr ?_)
  have h1 := h.s_W hn (v := (xI S n 4 5 - 8) &&& 65534) (w := (xI R 0 10 n - 8) &&& 65535) (by rw [h.g_W hn]; exact ev_sub8 (h.w_W hn)) (by rw [← ev_sub8 (h.w_W hn)]; exact w14 _)
  have z1 : xI (sI S n 4 5 ((xI S n 4 5 - 8) &&& 65534)) n 4 3 = 0 := by rw [xI_sI, if_neg (by omega)]; exact hz
  revert h1 z1
  generalize sI S n 4 5 ((xI S n 4 5 - 8) &&& 65534) = S1
  generalize sI R 0 10 n ((xI R 0 10 n - 8) &&& 65535) = R1
  intro h1 z1
  refine P2.l (c1_setLocal_n _ _ _ _) (P2.r (r_wordTo_n _ h8 _ _) ?_)
  have h2 := h1.pw hn (a := xI S1 n 4 5 + 2 * 0) (a' := xI R1 0 10 n) (by rw [h1.g_W hn, show (2 : Int32) * 0 = 0 from by decide, Int32.add_zero]) (h1.g_I hn)
  have z2 : xI (cPw S1 n (xI S1 n 4 5 + 2 * 0) (xI S1 n 4 4)) n 4 3 = 0 := by rw [xI_cPw _ _ _ _ _ _ _ (by decide)]; exact z1
  revert h2 z2
  generalize cPw S1 n (xI S1 n 4 5 + 2 * 0) (xI S1 n 4 4) = S2
  generalize rPw R1 n (xI R1 0 10 n) (xI R1 0 9 n) = R2
  intro h2 z2
  refine P2.l (c1_setLocal_n _ _ _ _) (P2.r (r_wordTo_n _ h8 _ _) ?_)
  have h3 := h2.pw hn (a := xI S2 n 4 5 + 2 * 1) (a' := xI R2 0 10 n + 2) (by rw [h2.g_W hn]; rfl) (h2.g_A hn ok.1)
  have z3 : xI (cPw S2 n (xI S2 n 4 5 + 2 * 1) (xI S2 n 4 0)) n 4 3 = 0 := by rw [xI_cPw _ _ _ _ _ _ _ (by decide)]; exact z2
  revert h3 z3
  generalize cPw S2 n (xI S2 n 4 5 + 2 * 1) (xI S2 n 4 0) = S3
  generalize rPw R2 n (xI R2 0 10 n + 2) (xI R2 0 5 n) = R3
  intro h3 z3
  refine P2.l (c1_setLocal_n _ _ _ _) (P2.r (r_wordTo_n _ h8 _ _) ?_)
  have h4 := h3.pw hn (a := xI S3 n 4 5 + 2 * 2) (a' := xI R3 0 10 n + 4) (by rw [h3.g_W hn]; rfl) (h3.g_B hn ok.2.1)
  have z4 : xI (cPw S3 n (xI S3 n 4 5 + 2 * 2) (xI S3 n 4 1)) n 4 3 = 0 := by rw [xI_cPw _ _ _ _ _ _ _ (by decide)]; exact z3
  revert h4 z4
  generalize cPw S3 n (xI S3 n 4 5 + 2 * 2) (xI S3 n 4 1) = S4
  generalize rPw R3 n (xI R3 0 10 n + 4) (xI R3 0 6 n) = R4
  intro h4 z4
  refine P2.l (c1_setLocal_n _ _ _ _) (P2.r (r_wordTo_n _ h8 _ _) ?_)
  have h5 := h4.pw hn (a := xI S4 n 4 5 + 2 * 3) (a' := xI R4 0 10 n + 6) (by rw [h4.g_W hn]; rfl) (h4.g_C hn ok.2.2)
  have z5 : xI (cPw S4 n (xI S4 n 4 5 + 2 * 3) (xI S4 n 4 2)) n 4 3 = 0 := by rw [xI_cPw _ _ _ _ _ _ _ (by decide)]; exact z4
  revert h5 z5
  generalize cPw S4 n (xI S4 n 4 5 + 2 * 3) (xI S4 n 4 2) = S5
  generalize rPw R4 n (xI R4 0 10 n + 6) (xI R4 0 7 n) = R5
  intro h5 z5
  refine P2.xl (P2.xr ?_)
  have h6 := h5.s_A hn (h5.g_I hn) (h5.w_I hn)
  refine P2.l rfl (P2.xr (P2.ret ⟨h6.s_I hn (by rw [h6.g_I hn]) (w16 _), ?_⟩))
  rw [xI_sI, if_neg (by omega), xI_sI, if_neg (by omega)]
  exact z5
theorem d_0 {X : xS → xS → Prop} {N : xN} {S R : xS} (h : REL E0 X N S R) {n : Nat} (hn : inN n N) : P2 (c7_doLowFunction n S 0) (r_direct R (nI n) 0 (xI R 0 8 n)) (Qd X N n) := by
  have h8 := h.le8 hn
  have ok := okEO n n
  have gO := h.g_O hn (fun z => z)
  have h1 : REL (EO n) X N (sI S n 4 3 0) R := (h.any).c_O hn ⟨rfl, rfl⟩ 0
  have hz : xI (sI S n 4 3 0) n 4 3 = 0 := by rw [xI_sI, if_pos ⟨rfl, rfl, rfl⟩]
  clear h
  unfold c7_doLowFunction r_direct
  rw [gO]
  refine P2.xl ?_
  revert h1 hz
  generalize sI S n 4 3 0 = S1
  generalize xI R 0 8 n = x
  intro h hz
  refine P2.pl rfl ?_
  refine P2.pr rfl ?_
  simp only [gI h8, cl8 h8, c11_signed_n, r_signed_n, c7_checked_n, r_checked_n _ h8, c9_push_n, r_push_n _ h8, c9_pop_n, r_pop_n _ h8, c9_popAll_n, c5_wordAt_n, c5_setWord_n, r_word_n _ h8, r_wordTo_n _ h8, c1_yieldIfSliced_n, r_sliced_n _ h8, c1_local_n, c1_setLocal_n, Option.bind_some, xnm, c9_jump, c9_setWorkspace]
  have h2 := h.s_I hn (v := (xI S1 n 4 4 + x) &&& 65535) (w := (xI R 0 9 n + x) &&& 65535) (by rw [h.g_I hn]) (w16 _)
  exact P2.ret ⟨h2.sliced hn, by rw [xI_cSliced _ _ _ _ (by decide), xI_sI, if_neg (by omega)]; exact hz⟩
theorem d_1 {X : xS → xS → Prop} {N : xN} {S R : xS} (h : REL E0 X N S R) {n : Nat} (hn : inN n N) : P2 (c7_doLowFunction n S 1) (r_direct R (nI n) 1 (xI R 0 8 n)) (Qd X N n) := by
  have h8 := h.le8 hn
  have ok := okEO n n
  have gO := h.g_O hn (fun z => z)
  have h1 : REL (EO n) X N (sI S n 4 3 0) R := (h.any).c_O hn ⟨rfl, rfl⟩ 0
  have hz : xI (sI S n 4 3 0) n 4 3 = 0 := by rw [xI_sI, if_pos ⟨rfl, rfl, rfl⟩]
  clear h
  unfold c7_doLowFunction r_direct
  rw [gO]
  refine P2.xl ?_
  revert h1 hz
  generalize sI S n 4 3 0 = S1
  generalize xI R 0 8 n = x
  intro h hz
  iterate 1 (refine P2.nl (by decide) ?_)
  refine P2.pl rfl ?_
  iterate 1 (refine P2.nr (by decide) ?_)
  refine P2.pr rfl ?_
  simp only [gI h8, cl8 h8, c11_signed_n, r_signed_n, c7_checked_n, r_checked_n _ h8, c9_push_n, r_push_n _ h8, c9_pop_n, r_pop_n _ h8, c9_popAll_n, c5_wordAt_n, c5_setWord_n, r_word_n _ h8, r_wordTo_n _ h8, c1_yieldIfSliced_n, r_sliced_n _ h8, c1_local_n, c1_setLocal_n, Option.bind_some, xnm, c9_jump, c9_setWorkspace]
  exact P2.ret ⟨h.push hn ok (by rw [h.g_W hn]), by rw [xI_cPush _ _ _ _ _ (by decide)]; exact hz⟩
theorem d_3 {X : xS → xS → Prop} {N : xN} {S R : xS} (h : REL E0 X N S R) {n : Nat} (hn : inN n N) : P2 (c7_doLowFunction n S 3) (r_direct R (nI n) 3 (xI R 0 8 n)) (Qd X N n) := by
  have h8 := h.le8 hn
  have ok := okEO n n
  have gO := h.g_O hn (fun z => z)
  have h1 : REL (EO n) X N (sI S n 4 3 0) R := (h.any).c_O hn ⟨rfl, rfl⟩ 0
  have hz : xI (sI S n 4 3 0) n 4 3 = 0 := by rw [xI_sI, if_pos ⟨rfl, rfl, rfl⟩]
  clear h
  unfold c7_doLowFunction r_direct
  rw [gO]
  refine P2.xl ?_
  revert h1 hz
  generalize sI S n 4 3 0 = S1
  generalize xI R 0 8 n = x
  intro h hz
  iterate 3 (refine P2.nl (by decide) ?_)
  refine P2.pl rfl ?_
  iterate 2 (refine P2.nr (by decide) ?_)
  refine P2.pr rfl ?_
  simp only [gI h8, cl8 h8, c11_signed_n, r_signed_n, c7_checked_n, r_checked_n _ h8, c9_push_n, r_push_n _ h8, c9_pop_n, r_pop_n _ h8, c9_popAll_n, c5_wordAt_n, c5_setWord_n, r_word_n _ h8, r_wordTo_n _ h8, c1_yieldIfSliced_n, r_sliced_n _ h8, c1_local_n, c1_setLocal_n, Option.bind_some, xnm, c9_jump, c9_setWorkspace]
  rw [h.g_A hn ok.1]
  exact P2.ret ⟨(h.tw hn rfl).s_A hn (h.gw hn rfl) (w16_rGw _ _ _), by rw [xI_sI, if_neg (by omega), xI_cTw _ _ _ _ _ _ (by decide)]; exact hz⟩
theorem d_4 {X : xS → xS → Prop} {N : xN} {S R : xS} (h : REL E0 X N S R) {n : Nat} (hn : inN n N) : P2 (c7_doLowFunction n S 4) (r_direct R (nI n) 4 (xI R 0 8 n)) (Qd X N n) := by
  have h8 := h.le8 hn
  have ok := okEO n n
  have gO := h.g_O hn (fun z => z)
  have h1 : REL (EO n) X N (sI S n 4 3 0) R := (h.any).c_O hn ⟨rfl, rfl⟩ 0
  have hz : xI (sI S n 4 3 0) n 4 3 = 0 := by rw [xI_sI, if_pos ⟨rfl, rfl, rfl⟩]
  clear h
  unfold c7_doLowFunction r_direct
  rw [gO]
  refine P2.xl ?_
  revert h1 hz
  generalize sI S n 4 3 0 = S1
  generalize xI R 0 8 n = x
  intro h hz
  iterate 4 (refine P2.nl (by decide) ?_)
  refine P2.pl rfl ?_
  iterate 3 (refine P2.nr (by decide) ?_)
  refine P2.pr rfl ?_
  simp only [gI h8, cl8 h8, c11_signed_n, r_signed_n, c7_checked_n, r_checked_n _ h8, c9_push_n, r_push_n _ h8, c9_pop_n, r_pop_n _ h8, c9_popAll_n, c5_wordAt_n, c5_setWord_n, r_word_n _ h8, r_wordTo_n _ h8, c1_yieldIfSliced_n, r_sliced_n _ h8, c1_local_n, c1_setLocal_n, Option.bind_some, xnm, c9_jump, c9_setWorkspace]
  exact P2.ret ⟨h.push hn ok rfl, by rw [xI_cPush _ _ _ _ _ (by decide)]; exact hz⟩
theorem d_5 {X : xS → xS → Prop} {N : xN} {S R : xS} (h : REL E0 X N S R) {n : Nat} (hn : inN n N) : P2 (c7_doLowFunction n S 5) (r_direct R (nI n) 5 (xI R 0 8 n)) (Qd X N n) := by
  have h8 := h.le8 hn
  have ok := okEO n n
  have gO := h.g_O hn (fun z => z)
  have h1 : REL (EO n) X N (sI S n 4 3 0) R := (h.any).c_O hn ⟨rfl, rfl⟩ 0
  have hz : xI (sI S n 4 3 0) n 4 3 = 0 := by rw [xI_sI, if_pos ⟨rfl, rfl, rfl⟩]
  clear h
  unfold c7_doLowFunction r_direct
  rw [gO]
  refine P2.xl ?_
  revert h1 hz
  generalize sI S n 4 3 0 = S1
  generalize xI R 0 8 n = x
  intro h hz
  iterate 5 (refine P2.nl (by decide) ?_)
  refine P2.pl rfl ?_
  iterate 4 (refine P2.nr (by decide) ?_)
  refine P2.pr rfl ?_
  simp only [gI h8, cl8 h8, c11_signed_n, r_signed_n, c7_checked_n, r_checked_n _ h8, c9_push_n, r_push_n _ h8, c9_pop_n, r_pop_n _ h8, c9_popAll_n, c5_wordAt_n, c5_setWord_n, r_word_n _ h8, r_wordTo_n _ h8, c1_yieldIfSliced_n, r_sliced_n _ h8, c1_local_n, c1_setLocal_n, Option.bind_some, xnm, c9_jump, c9_setWorkspace]
  exact P2.ret ⟨h.s_A hn (by rw [h.g_A hn ok.1]) (w16 _), by rw [xI_sI, if_neg (by omega)]; exact hz⟩
theorem d_7 {X : xS → xS → Prop} {N : xN} {S R : xS} (h : REL E0 X N S R) {n : Nat} (hn : inN n N) : P2 (c7_doLowFunction n S 7) (r_direct R (nI n) 7 (xI R 0 8 n)) (Qd X N n) := by
  have h8 := h.le8 hn
  have ok := okEO n n
  have gO := h.g_O hn (fun z => z)
  have h1 : REL (EO n) X N (sI S n 4 3 0) R := (h.any).c_O hn ⟨rfl, rfl⟩ 0
  have hz : xI (sI S n 4 3 0) n 4 3 = 0 := by rw [xI_sI, if_pos ⟨rfl, rfl, rfl⟩]
  clear h
  unfold c7_doLowFunction r_direct
  rw [gO]
  refine P2.xl ?_
  revert h1 hz
  generalize sI S n 4 3 0 = S1
  generalize xI R 0 8 n = x
  intro h hz
  iterate 7 (refine P2.nl (by decide) ?_)
  iterate 5 (refine P2.nr (by decide) ?_)
  refine P2.pr rfl ?_
  simp only [gI h8, cl8 h8, c11_signed_n, r_signed_n, c7_checked_n, r_checked_n _ h8, c9_push_n, r_push_n _ h8, c9_pop_n, r_pop_n _ h8, c9_popAll_n, c5_wordAt_n, c5_setWord_n, r_word_n _ h8, r_wordTo_n _ h8, c1_yieldIfSliced_n, r_sliced_n _ h8, c1_local_n, c1_setLocal_n, Option.bind_some, xnm, c9_jump, c9_setWorkspace]
  rw [h.g_W hn]
  exact P2.ret ⟨(h.tw hn rfl).push hn ok (h.gw hn rfl), by rw [xI_cPush _ _ _ _ _ (by decide), xI_cTw _ _ _ _ _ _ (by decide)]; exact hz⟩
theorem d_8 {X : xS → xS → Prop} {N : xN} {S R : xS} (h : REL E0 X N S R) {n : Nat} (hn : inN n N) : P2 (c7_doHighFunction n S 8) (r_direct R (nI n) 8 (xI R 0 8 n)) (Qd X N n) := by
  have h8 := h.le8 hn
  have ok := okEO n n
  have gO := h.g_O hn (fun z => z)
  have h1 : REL (EO n) X N (sI S n 4 3 0) R := (h.any).c_O hn ⟨rfl, rfl⟩ 0
  have hz : xI (sI S n 4 3 0) n 4 3 = 0 := by rw [xI_sI, if_pos ⟨rfl, rfl, rfl⟩]
  clear h
  unfold c7_doHighFunction r_direct
  rw [gO]
  refine P2.xl ?_
  revert h1 hz
  generalize sI S n 4 3 0 = S1
  generalize xI R 0 8 n = x
  intro h hz
  refine P2.pl rfl ?_
  iterate 6 (refine P2.nr (by decide) ?_)
  refine P2.pr rfl ?_
  simp only [gI h8, cl8 h8, c11_signed_n, r_signed_n, c7_checked_n, r_checked_n _ h8, c9_push_n, r_push_n _ h8, c9_pop_n, r_pop_n _ h8, c9_popAll_n, c5_wordAt_n, c5_setWord_n, r_word_n _ h8, r_wordTo_n _ h8, c1_yieldIfSliced_n, r_sliced_n _ h8, c1_local_n, c1_setLocal_n, Option.bind_some, xnm, c9_jump, c9_setWorkspace]
  rw [h.g_A hn ok.1]
  exact P2.ret ⟨(h.chk hn rfl).s_A hn rfl (w16 _), by rw [xI_sI, if_neg (by omega), xI_cChk]; exact hz⟩
theorem d_9 {X : xS → xS → Prop} {N : xN} {S R : xS} (h : REL E0 X N S R) {n : Nat} (hn : inN n N) : P2 (c7_doHighFunction n S 9) (r_direct R (nI n) 9 (xI R 0 8 n)) (Qd X N n) := by
  have h8 := h.le8 hn
  have ok := okEO n n
  have gO := h.g_O hn (fun z => z)
  have h1 : REL (EO n) X N (sI S n 4 3 0) R := (h.any).c_O hn ⟨rfl, rfl⟩ 0
  have hz : xI (sI S n 4 3 0) n 4 3 = 0 := by rw [xI_sI, if_pos ⟨rfl, rfl, rfl⟩]
  clear h
  unfold c7_doHighFunction r_direct
  rw [gO]
  refine P2.xl ?_
  revert h1 hz
  generalize sI S n 4 3 0 = S1
  generalize xI R 0 8 n = x
  intro h hz
  iterate 1 (refine P2.nl (by decide) ?_)
  refine P2.pl rfl ?_
  iterate 7 (refine P2.nr (by decide) ?_)
  refine P2.pr rfl ?_
  rw [cl8 h8]
  obtain ⟨a, b, e1, e2, q⟩ := p_call h hn hz x
  rw [e1]
  exact ⟨a, b, rfl, e2, q⟩
theorem d_10 {X : xS → xS → Prop} {N : xN} {S R : xS} (h : REL E0 X N S R) {n : Nat} (hn : inN n N) : P2 (c7_doHighFunction n S 10) (r_direct R (nI n) 10 (xI R 0 8 n)) (Qd X N n) := by
  have h8 := h.le8 hn
  have ok := okEO n n
  have gO := h.g_O hn (fun z => z)
  have h1 : REL (EO n) X N (sI S n 4 3 0) R := (h.any).c_O hn ⟨rfl, rfl⟩ 0
  have hz : xI (sI S n 4 3 0) n 4 3 = 0 := by rw [xI_sI, if_pos ⟨rfl, rfl, rfl⟩]
  clear h
  unfold c7_doHighFunction r_direct
  rw [gO]
  refine P2.xl ?_
  revert h1 hz
  generalize sI S n 4 3 0 = S1
  generalize xI R 0 8 n = x
  intro h hz
  iterate 2 (refine P2.nl (by decide) ?_)
  refine P2.pl rfl ?_
  iterate 8 (refine P2.nr (by decide) ?_)
  refine P2.pr rfl ?_
  simp only [gI h8, cl8 h8, c11_signed_n, r_signed_n, c7_checked_n, r_checked_n _ h8, c9_push_n, r_push_n _ h8, c9_pop_n, r_pop_n _ h8, c9_popAll_n, c5_wordAt_n, c5_setWord_n, r_word_n _ h8, r_wordTo_n _ h8, c1_yieldIfSliced_n, r_sliced_n _ h8, c1_local_n, c1_setLocal_n, Option.bind_some, xnm, c9_jump, c9_setWorkspace]
  rw [h.g_A hn ok.1]
  refine P2.ite Iff.rfl (fun _ _ => ?_) (fun _ _ => ?_)
  · exact P2.ret ⟨h.s_I hn (by rw [h.g_I hn]) (w16 _), by rw [xI_sI, if_neg (by omega)]; exact hz⟩
  · exact P2.ret ⟨h.pop hn ok, by rw [xI_cPop _ _ _ _ (by decide)]; exact hz⟩
theorem d_11 {X : xS → xS → Prop} {N : xN} {S R : xS} (h : REL E0 X N S R) {n : Nat} (hn : inN n N) : P2 (c7_doHighFunction n S 11) (r_direct R (nI n) 11 (xI R 0 8 n)) (Qd X N n) := by
  have h8 := h.le8 hn
  have ok := okEO n n
  have gO := h.g_O hn (fun z => z)
  have h1 : REL (EO n) X N (sI S n 4 3 0) R := (h.any).c_O hn ⟨rfl, rfl⟩ 0
  have hz : xI (sI S n 4 3 0) n 4 3 = 0 := by rw [xI_sI, if_pos ⟨rfl, rfl, rfl⟩]
  clear h
  unfold c7_doHighFunction r_direct
  rw [gO]
  refine P2.xl ?_
  revert h1 hz
  generalize sI S n 4 3 0 = S1
  generalize xI R 0 8 n = x
  intro h hz
  iterate 3 (refine P2.nl (by decide) ?_)
  refine P2.pl rfl ?_
  iterate 9 (refine P2.nr (by decide) ?_)
  refine P2.pr rfl ?_
  simp only [gI h8, cl8 h8, c11_signed_n, r_signed_n, c7_checked_n, r_checked_n _ h8, c9_push_n, r_push_n _ h8, c9_pop_n, r_pop_n _ h8, c9_popAll_n, c5_wordAt_n, c5_setWord_n, r_word_n _ h8, r_wordTo_n _ h8, c1_yieldIfSliced_n, r_sliced_n _ h8, c1_local_n, c1_setLocal_n, Option.bind_some, xnm, c9_jump, c9_setWorkspace]
  exact P2.ret ⟨h.s_W hn (by rw [h.g_W hn]) (w14 _), by rw [xI_sI, if_neg (by omega)]; exact hz⟩
theorem d_12 {X : xS → xS → Prop} {N : xN} {S R : xS} (h : REL E0 X N S R) {n : Nat} (hn : inN n N) : P2 (c7_doHighFunction n S 12) (r_direct R (nI n) 12 (xI R 0 8 n)) (Qd X N n) := by
  have h8 := h.le8 hn
  have ok := okEO n n
  have gO := h.g_O hn (fun z => z)
  have h1 : REL (EO n) X N (sI S n 4 3 0) R := (h.any).c_O hn ⟨rfl, rfl⟩ 0
  have hz : xI (sI S n 4 3 0) n 4 3 = 0 := by rw [xI_sI, if_pos ⟨rfl, rfl, rfl⟩]
  clear h
  unfold c7_doHighFunction r_direct
  rw [gO]
  refine P2.xl ?_
  revert h1 hz
  generalize sI S n 4 3 0 = S1
  generalize xI R 0 8 n = x
  intro h hz
  iterate 4 (refine P2.nl (by decide) ?_)
  refine P2.pl rfl ?_
  iterate 10 (refine P2.nr (by decide) ?_)
  refine P2.pr rfl ?_
  simp only [gI h8, cl8 h8, c11_signed_n, r_signed_n, c7_checked_n, r_checked_n _ h8, c9_push_n, r_push_n _ h8, c9_pop_n, r_pop_n _ h8, c9_popAll_n, c5_wordAt_n, c5_setWord_n, r_word_n _ h8, r_wordTo_n _ h8, c1_yieldIfSliced_n, r_sliced_n _ h8, c1_local_n, c1_setLocal_n, Option.bind_some, xnm, c9_jump, c9_setWorkspace]
  rw [h.g_A hn ok.1]
  refine P2.ite Iff.rfl (fun _ _ => ?_) (fun _ _ => ?_)
  · exact P2.ret ⟨h.s_A hn rfl (by decide), by rw [xI_sI, if_neg (by omega)]; exact hz⟩
  · exact P2.ret ⟨h.s_A hn rfl (by decide), by rw [xI_sI, if_neg (by omega)]; exact hz⟩
theorem d_13 {X : xS → xS → Prop} {N : xN} {S R : xS} (h : REL E0 X N S R) {n : Nat} (hn : inN n N) : P2 (c7_doHighFunction n S 13) (r_direct R (nI n) 13 (xI R 0 8 n)) (Qd X N n) := by
  have h8 := h.le8 hn
  have ok := okEO n n
  have gO := h.g_O hn (fun z => z)
  have h1 : REL (EO n) X N (sI S n 4 3 0) R := (h.any).c_O hn ⟨rfl, rfl⟩ 0
  have hz : xI (sI S n 4 3 0) n 4 3 = 0 := by rw [xI_sI, if_pos ⟨rfl, rfl, rfl⟩]
  clear h
  unfold c7_doHighFunction r_direct
  rw [gO]
  refine P2.xl ?_
  revert h1 hz
  generalize sI S n 4 3 0 = S1
  generalize xI R 0 8 n = x
  intro h hz
  iterate 5 (refine P2.nl (by decide) ?_)
  refine P2.pl rfl ?_
  iterate 11 (refine P2.nr (by decide) ?_)
  refine P2.pr rfl ?_
  simp only [gI h8, cl8 h8, c11_signed_n, r_signed_n, c7_checked_n, r_checked_n _ h8, c9_push_n, r_push_n _ h8, c9_pop_n, r_pop_n _ h8, c9_popAll_n, c5_wordAt_n, c5_setWord_n, r_word_n _ h8, r_wordTo_n _ h8, c1_yieldIfSliced_n, r_sliced_n _ h8, c1_local_n, c1_setLocal_n, Option.bind_some, xnm, c9_jump, c9_setWorkspace]
  rw [h.g_W hn]
  exact P2.ret ⟨(h.pw hn rfl (h.g_A hn ok.1)).pop hn ok, by rw [xI_cPop _ _ _ _ (by decide), xI_cPw _ _ _ _ _ _ _ (by decide)]; exact hz⟩
theorem d_14 {X : xS → xS → Prop} {N : xN} {S R : xS} (h : REL E0 X N S R) {n : Nat} (hn : inN n N) : P2 (c7_doHighFunction n S 14) (r_direct R (nI n) 14 (xI R 0 8 n)) (Qd X N n) := by
  have h8 := h.le8 hn
  have ok := okEO n n
  have gO := h.g_O hn (fun z => z)
  have h1 : REL (EO n) X N (sI S n 4 3 0) R := (h.any).c_O hn ⟨rfl, rfl⟩ 0
  have hz : xI (sI S n 4 3 0) n 4 3 = 0 := by rw [xI_sI, if_pos ⟨rfl, rfl, rfl⟩]
  clear h
  unfold c7_doHighFunction r_direct
  rw [gO]
  refine P2.xl ?_
  revert h1 hz
  generalize sI S n 4 3 0 = S1
  generalize xI R 0 8 n = x
  intro h hz
  iterate 6 (refine P2.nl (by decide) ?_)
  iterate 12 (refine P2.nr (by decide) ?_)
  refine P2.pr rfl ?_
  simp only [gI h8, cl8 h8, c11_signed_n, r_signed_n, c7_checked_n, r_checked_n _ h8, c9_push_n, r_push_n _ h8, c9_pop_n, r_pop_n _ h8, c9_popAll_n, c5_wordAt_n, c5_setWord_n, r_word_n _ h8, r_wordTo_n _ h8, c1_yieldIfSliced_n, r_sliced_n _ h8, c1_local_n, c1_setLocal_n, Option.bind_some, xnm, c9_jump, c9_setWorkspace]
  rw [h.g_A hn ok.1]
  exact P2.ret ⟨(h.pw hn rfl (h.g_B hn ok.2.1)).popAll2 hn ok, by rw [cPopAll_o _ _ _ _ _ (by omega), xI_cPw _ _ _ _ _ _ _ (by decide)]; exact hz⟩
