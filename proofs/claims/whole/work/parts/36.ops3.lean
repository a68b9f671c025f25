/-! operations with memory and loops -/
def Q1 (E : Nat → Nat → Prop) (X : xS → xS → Prop) (N : xN) (o : xS) (p : Int32 × xS) : Prop := p.1 = 1 ∧ REL E X N o p.2
theorem P2.q1 {X : xS → xS → Prop} {N : xN} {x : Option xS} {y : Option (Int32 × xS)} (h : P2 x y (Q1 E0 X N)) : P2 (x.bind (fun S => some ((1 : Int32), S))) (y.bind (fun (r, S) => gz r (some (r, S)))) (Qo X N) := by
  obtain ⟨a, b, rfl, rfl, h1, h2⟩ := h
  obtain ⟨b1, b2⟩ := b
  cases h1
  exact ⟨(1, a), (1, b2), rfl, gz1 _, rfl, rfl, h2⟩
theorem copy_loop {E : Nat → Nat → Prop} {X : xS → xS → Prop} {N : xN} {n : Nat} (hn : inN n N) (v1 v2 : Int32) {m : Nat} (hm : m ≤ 4096) : ∀ (j fu k : Nat) (S R : xS), REL E X N S R → k + j = m → j < fu → ∃ S' R', c5_copy_b3 n 2 fu v1 v2 (nI m) (nI k) S = some S' ∧ r_copies_b3 fu (nI n) v1 v2 (nI m) (nI k) R = some (sI R' 0 14 n (nI m / 4)) ∧ REL E X N S' R'
  | 0, 0, k, S, R, h, hk, hf => absurd hf (by decide)
  | 0, fu + 1, k, S, R, h, hk, hf => by
    have h8 := h.le8 hn
    have e : nI m ≤ nI k := nI_le (by omega) (by omega)
    unfold c5_copy_b3 r_copies_b3
    rw [if_pos e, if_pos e, gI h8, cl8 h8]
    exact ⟨S, R, rfl, rfl, h⟩
  | j + 1, 0, k, S, R, h, hk, hf => absurd hf (by omega)
  | j + 1, fu + 1, k, S, R, h, hk, hf => by
    have h8 := h.le8 hn
    have e : ¬ nI m ≤ nI k := nI_ge (by omega) (by omega)
    unfold c5_copy_b3 r_copies_b3
    rw [if_neg e, if_neg e]
    simp only [c5_byteAt_n, c5_setByte_n, r_byteAt_n _ h8, r_byteTo_n _ h8, Option.bind_some, nI_1]
    have h1 := (h.tb hn (a := v1 + nI k) rfl).pb hn (a := v2 + nI k) rfl (h.gb hn (a := v1 + nI k) rfl)
    exact copy_loop hn v1 v2 hm j fu (k + 1) _ _ h1 (by omega) (by omega)
theorem p_copies {E : Nat → Nat → Prop} {X : xS → xS → Prop} {N : xN} {S R : xS} (h : REL E X N S R) {n : Nat} (hn : inN n N) (v1 v2 : Int32) {c : Int32} (hc : c &&& 65535 = c) (hm : c ≤ 4096) : P2 (c1_copyBytes n S v1 v2 c) (r_copies R (nI n) v1 v2 c) (REL E X N) := by
  obtain ⟨m, hm1, rfl⟩ := w16_nat hc
  have hm2 : m ≤ 4096 := (nI_leI (a := m) (b := 4096) (by omega) (by decide)).mp hm
  obtain ⟨S', R', e1, e2, h1⟩ := copy_loop hn v1 v2 hm2 m 100000 0 S R h (by omega) (by omega)
  unfold c1_copyBytes c5_copy r_copies
  have e0 : (0 : Int32) = nI 0 := rfl
  rw [e0, e1, e2, Option.bind_some]
  exact P2.ret (h1.s_busy hn rfl)
theorem p_move {X : xS → xS → Prop} {N : xN} {S R : xS} (h : REL E0 X N S R) {n : Nat} (hn : inN n N) : P2 ((c7_moveBytes n S).bind (fun S18 => some ((1 : Int32), S18))) (if (xI R 0 5 n) ≤ (4096 : Int32) then ((r_copies R (nI n) (xI R 0 7 n) (xI R 0 6 n) (xI R 0 5 n)).bind (fun S20 => (r_popped S20 (nI n) (3 : Int32)).bind (fun (r_21, S21) => gz r_21 (some (r_21, S21))))) else ((r_stop R (nI n) (5 : Int32)).bind (fun S22 => some ((1 : Int32), S22)))) (Qo X N) := by
  have h8 := h.le8 hn
  unfold c7_moveBytes
  rw [h.g_A hn (okE0 n).1, h.g_B hn (okE0 n).2.1, h.g_C hn (okE0 n).2.2]
  by_cases e : xI R 0 5 n ≤ 4096
  · rw [if_pos e, if_pos e]
    obtain ⟨S', R', e1, e2, h1⟩ := p_copies h hn (xI R 0 7 n) (xI R 0 6 n) (h.w_A hn (okE0 n).1) e
    rw [e1, e2]
    simp only [Option.bind_some, c9_popAll_n, r_popped_3 _ h8, gz1]
    exact P2.done (h1.popAll3 hn (okE0 n))
  · rw [if_neg e, if_neg e, c1_stopWith_n, r_stop_n _ h8]
    exact P2.done (h.stop hn 5)
theorem le0_1 (x : Int32) : x ≤ 0 ↔ ¬ 1 ≤ x := by
  rw [Int32.le_iff_toInt_le, Int32.le_iff_toInt_le, show (0 : Int32).toInt = 0 from rfl, show (1 : Int32).toInt = 1 from rfl]
  omega
theorem p_loops {X : xS → xS → Prop} {N : xN} {S R : xS} (h : REL E0 X N S R) {n : Nat} (hn : inN n N) : P2 (c7_endLoop n S) (r_loops R (nI n) (xI R 0 5 n) (xI R 0 6 n)) (Q1 E0 X N) := by
  have h8 := h.le8 hn
  have gA := h.g_A hn (okE0 n).1
  have gB := h.g_B hn (okE0 n).2.1
  unfold c7_endLoop r_loops
  rw [gA, gB]
  generalize xI R 0 5 n = a
  generalize xI R 0 6 n = b
  refine P2.l (c5_wordAt_n _ _ _) (P2.r (r_word_n _ h8 _) ?_)
  rw [h.gw hn (a := b + 2) rfl]
  refine P2.l (c5_setWord_n _ _ _ _) (P2.r (r_wordTo_n _ h8 _ _) ?_)
  have h1 := h.tw hn (a := b + 2) rfl
  have h2 := h1.pw hn (a := b + 2) (v := (rGw R n (b + 2) - 1) &&& 65535) rfl rfl
  revert h2
  generalize cPw (cTw S n (b + 2)) n (b + 2) ((rGw R n (b + 2) - 1) &&& 65535) = S2
  generalize rPw (rUw R n (b + 2)) n (b + 2) ((rGw R n (b + 2) - 1) &&& 65535) = R2
  intro h2
  refine P2.l (c9_popAll_n _ _) (P2.l (c11_signed_n _) (P2.r (r_signed_n _) ?_))
  refine P2.iten (le0_1 _) (fun _ _ => ?_) (fun _ _ => ?_)
  · refine P2.r (r_popped_2 _ h8) (P2.z (Or.inr rfl) ?_)
    exact P2.ret ⟨rfl, h2.popAll2 hn (okE0 n)⟩
  · have h3 := (h2.eB n).cpopAll hn (eb0 E0 n) (eb1 E0 n)
    refine P2.l (c5_wordAt_n _ _ _) (P2.r (r_word_n _ h8 _) ?_)
    rw [h3.gw hn (a := b) rfl]
    refine P2.l (c5_setWord_n _ _ _ _) (P2.r (r_wordTo_n _ h8 _ _) ?_)
    have h4 := (h3.tw hn (a := b) rfl).pw hn (a := b) (v := rGw R2 n b + 1) rfl rfl
    refine P2.g h8 (P2.g h8 ?_)
    rw [cl8 h8]
    refine P2.l rfl (P2.xr ?_)
    have h5 := h4.s_I hn (v := (xI (cPw (cTw (cPopAll S2 n) n b) n b (rGw R2 n b + 1)) n 4 4 + -a) &&& 65535) (w := (xI (rPw (rUw R2 n b) n b (rGw R2 n b + 1)) 0 9 n - a) &&& 65535) (by rw [h4.g_I hn, Int32.sub_eq_add_neg]) (w16 _)
    refine P2.r (r_popped_2 _ h8) ?_
    have h6 := (h5.rpop hn (eb0 E0 n) (eb1 E0 n)).rpop hn (eb0 E0 n) (eb1 E0 n)
    have h7 := h6.unB hn (okE0 n).2.2 (by
      rw [xI_sI, if_neg (by omega), xI_cPw _ _ _ _ _ _ _ (by decide), xI_cTw _ _ _ _ _ _ (by decide), cPopAll_A, xI_sI, if_neg (by omega), xI_cPw _ _ _ _ _ _ _ (by decide), xI_cTw _ _ _ _ _ _ (by decide), cPopAll_o _ _ _ _ _ (by omega)]) (by
      rw [xI_sI, if_neg (by omega), xI_cPw _ _ _ _ _ _ _ (by decide), xI_cTw _ _ _ _ _ _ (by decide), cPopAll_B, xI_sI, if_neg (by omega), xI_cPw _ _ _ _ _ _ _ (by decide), xI_cTw _ _ _ _ _ _ (by decide), cPopAll_o _ _ _ _ _ (by omega)]) (by
      simp only [rPop_A, rPop_B, rPop_C]) (by
      simp only [rPop_A, rPop_B, rPop_C])
    refine P2.l (c1_yieldIfSliced_n _ _) (P2.r (r_sliced_n _ h8) ?_)
    exact P2.ret ⟨rfl, h7.sliced hn⟩
theorem p_ends {X : xS → xS → Prop} {N : xN} {S R : xS} (h : REL E0 X N S R) {n : Nat} (hn : inN n N) : P2 (c7_endProcess n S) (r_ends R (nI n) (xI R 0 5 n)) (Q1 E0 X N) := by
  have h8 := h.le8 hn
  have gA := h.g_A hn (okE0 n).1
  unfold c7_endProcess r_ends
  rw [gA]
  generalize xI R 0 5 n = a
  refine P2.l (c5_wordAt_n _ _ _) (P2.r (r_word_n _ h8 _) ?_)
  rw [h.gw hn (a := a + 2) rfl]
  refine P2.l (c5_setWord_n _ _ _ _) (P2.r (r_wordTo_n _ h8 _ _) ?_)
  have h1 := h.tw hn (a := a + 2) rfl
  have h2 := h1.pw hn (a := a + 2) (v := (rGw R n (a + 2) - 1) &&& 65535) rfl rfl
  revert h2
  generalize cPw (cTw S n (a + 2)) n (a + 2) ((rGw R n (a + 2) - 1) &&& 65535) = S2
  generalize rPw (rUw R n (a + 2)) n (a + 2) ((rGw R n (a + 2) - 1) &&& 65535) = R2
  intro h2
  refine P2.ite Iff.rfl (fun _ _ => ?_) (fun _ _ => ?_)
  · refine P2.g h8 ?_
    rw [cl8 h8]
    refine P2.l rfl (P2.xr ?_)
    have h3 := h2.s_W hn (v := a &&& 65534) rfl (w14 a)
    refine P2.l (c5_wordAt_n _ _ _) (P2.r (r_word_n _ h8 _) (P2.g h8 ?_))
    exact P2.ret ⟨rfl, (h3.tw hn (a := a) rfl).s_I hn (h3.gw hn (a := a) rfl) (w16_rGw _ _ _)⟩
  · refine P2.g h8 ?_
    rw [cl8 h8]
    exact P2.ret ⟨rfl, h2.s_P hn rfl (Or.inr (Or.inr rfl))⟩
theorem p_starts {X : xS → xS → Prop} {N : xN} {S R : xS} (h : REL E0 X N S R) {n : Nat} (hn : inN n N) : P2 ((c7_startProcess n S).bind (fun S3 => some ((1 : Int32), S3))) (gd (nI n) 8 ((r_wordTo R (nI n) (xI R 0 5 n - (2 : Int32)) ((xI R 0 9 n) + xI R 0 6 n)).bind (fun S3 => gd (nI n) 8 ((r_ready S3 (nI n) ((xI R 0 5 n &&& (65534 : Int32)) ||| (xI S3 0 11 n))).bind (fun S4 => (r_popped S4 (nI n) (2 : Int32)).bind (fun (r_5, S5) => gz r_5 (some (r_5, S5)))))))) (Qo X N) := by
  have h8 := h.le8 hn
  unfold c7_startProcess
  rw [h.g_A hn (okE0 n).1, h.g_B hn (okE0 n).2.1, h.g_I hn]
  simp only [c5_setWord_n, r_wordTo_n _ h8, Option.bind_some, gI h8, c1_makeReady_n, r_ready_n _ h8, c9_popAll_n, r_popped_2 _ h8, gz1]
  have h1 := h.pw hn (a := xI R 0 5 n - 2) (v := xI R 0 9 n + xI R 0 6 n) rfl rfl
  refine P2.done (REL.popAll2 (h1.rdy hn ?_) hn (okE0 n))
  rw [h1.g_P hn, h1.g_A hn (okE0 n).1, xI_rPw _ _ _ _ 5 _ (by decide) (by decide)]
theorem ix61 (n : Nat) : nI (2 * n) + (62 : Int32) - 61 = nI (2 * n + 1) := by
  rw [show (62 : Int32) = nI 62 from rfl, show (61 : Int32) = nI 61 from rfl, nI_add, pk_sub (by omega)]
  rfl
theorem ix62 (n : Nat) : nI (2 * n) + (62 : Int32) - 62 = nI (2 * n) := by
  rw [show (62 : Int32) = nI 62 from rfl, nI_add, pk_sub (by omega)]
  rfl
/-- both loops turn a word in the same way -/
theorem turn_eq (fu : Nat) : ∀ v0 v1 v2 v3, c7_reversed_b4 fu v0 v1 v2 v3 = r_turned_b4 fu v0 v1 v2 v3 := by
  induction fu with
  | zero => intros; rfl
  | succ fu ih =>
    intro v0 v1 v2 v3
    unfold c7_reversed_b4 r_turned_b4
    rw [ih]
theorem shr_bit (x s : Int32) : ∃ b, b < 2 ∧ (x >>> s) &&& (1 : Int32) = nI b := pk_andE (x >>> s) 1 (by decide)
theorem shl1 {t : Nat} (h : t < 2 ^ 30) : nI t <<< ((1 : Int32) &&& 31) = nI (2 * t) := by
  rw [pk_shlN _ 1 (by decide) (by omega), Nat.mul_comm]
theorem or_bit {t b : Nat} (hb : b < 2) (ht : t < 2 ^ 30) : nI (2 * t) ||| nI b = nI (2 * t + b) := by
  apply Int32.toBitVec_inj.mp
  rw [Int32.toBitVec_or]
  apply BitVec.eq_of_toNat_eq
  rw [BitVec.toNat_or, pk_tn (by omega), pk_tn (by omega), pk_tn (by omega)]
  have := Nat.two_pow_add_eq_or_of_lt (i := 1) (b := b) (by simpa using hb) t
  simpa using this.symm
theorem turn_loop (v0 : Int32) {m : Nat} (hm : m ≤ 16) : ∀ (j fu k t : Nat), k + j = m → j < fu → t < 2 ^ k → ∃ t', t' < 2 ^ m ∧ r_turned_b4 fu v0 (nI m) (nI t) (nI k) = some (nI t')
  | 0, 0, _, _, _, hf, _ => absurd hf (by decide)
  | 0, fu + 1, k, t, hk, hf, ht => by
    unfold r_turned_b4
    rw [if_pos (nI_le (by omega) (by omega))]
    exact ⟨t, by rw [show m = k by omega]; exact ht, rfl⟩
  | j + 1, 0, _, _, _, hf, _ => absurd hf (by omega)
  | j + 1, fu + 1, k, t, hk, hf, ht => by
    unfold r_turned_b4
    rw [if_neg (nI_ge (by omega) (by omega))]
    obtain ⟨b, hb, e⟩ := shr_bit v0 (nI k &&& 31)
    have hk2 : 2 ^ k ≤ 2 ^ 16 := Nat.pow_le_pow_right (by decide) (by omega)
    rw [e, shl1 (by omega), or_bit hb (by omega), nI_1]
    refine turn_loop v0 hm j fu (k + 1) (2 * t + b) (by omega) (by omega) ?_
    rw [Nat.pow_succ]
    omega
theorem r_turned_ok (v0 : Int32) {m : Nat} (hm : m ≤ 16) : ∃ t', t' < 65536 ∧ r_turned v0 (nI m) = some (nI t') := by
  obtain ⟨t, ht, e⟩ := turn_loop v0 hm m 100000 0 0 (by omega) (by omega) (by decide)
  have : 2 ^ m ≤ 2 ^ 16 := Nat.pow_le_pow_right (by decide) hm
  exact ⟨t, by omega, e⟩
theorem c7_reversed_eq (v0 v1 : Int32) : c7_reversed v0 v1 = r_turned v0 v1 := turn_eq _ _ _ _ _
