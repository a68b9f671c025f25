/-! channels: disabling, resets, input, output -/
theorem p_disables {N : xN} {D : Nat} {S R : xS} (h : REL E0 (LX D N) N S R) {n : Nat} (hn : inN n N) (hp : xI R 0 11 n = 0 ∨ xI R 0 11 n = 1) : P2 (c0_disableChannel n S) (if (xI R 0 6 n) = 0 then (r_chooses R (nI n) (0 : Int32)) else ((r_disables R (nI n) (xI R 0 7 n)).bind (fun (r_14, S14) => if r_14 = 0 then (r_chooses S14 (nI n) (0 : Int32)) else (r_chooses S14 (nI n) (1 : Int32))))) (Q1 E0 (LX D N) N) := by
  have h8 := h.le8 hn
  have wC := h.w_C hn (okE0 n).2.2
  have fin : ∀ {x : Option xS} {y : Option (Int32 × xS)}, P2 x y (Q1 E0 (LX D N) N) → P2 (x.bind (fun S2 => some S2)) y (Q1 E0 (LX D N) N) := by
    rintro x y ⟨a, b, rfl, rfl, q⟩
    exact ⟨a, b, rfl, rfl, q⟩
  have fin2 : ∀ {S1 R1 : xS} (v : Int32), REL E0 (LX D N) N S1 R1 → v = 0 ∨ v = 1 → P2 ((c0_choose n S1 v).bind (fun S2 => some S2)) (if v = 0 then (r_chooses R1 (nI n) (0 : Int32)) else (r_chooses R1 (nI n) (1 : Int32))) (Q1 E0 (LX D N) N) := by
    intro S1 R1 v q hv
    rcases hv with e | e <;> subst e
    · exact fin (p_choose q hn 0)
    · exact fin (p_choose q hn 1)
  unfold c0_disableChannel r_disables
  rw [h.g_B hn (okE0 n).2.1, h.g_C hn (okE0 n).2.2]
  refine P2.ite Iff.rfl (fun _ _ => fin (p_choose h hn 0)) (fun _ _ => ?_)
  rcases link_cases wC n with ⟨k, hk, l1, l2, l3⟩ | ⟨l1, l2⟩
  · have l33 : 4 * n + k < 33 := by omega
    rw [l2]
    refine P2.l (l1 S) ?_
    show P2 (gq (n = n ∧ 12 ≤ 12 + k ∧ 12 + k < 16) _) _ _
    rw [gq_link hk]
    rw [Option.bind_some, if_neg n10, l3]
    simp only [Option.bind_some, g33 l33, nI_clamp (show 4 * n + k < 2 ^ 31 by omega)]
    unfold c0_disableLink c0_disableLink_b19 r_disables_b34
    simp only [Option.bind_some, g33 l33, nI_clamp (show 4 * n + k < 2 ^ 31 by omega), c1_own_n, r_own_n _ h8, xnm]
    rw [h.g_grd hn hk, h.own hn hp]
    have go : ∀ {S1 R1 : xS}, REL E0 (LX D N) N S1 R1 → P2 ((if xI S1 n (12 + k) 10 = -1 then some ((0 : Int32), S1) else some ((1 : Int32), S1)).bind (fun x => (c0_choose n x.2 x.1).bind (fun S8 => some S8))) ((if xI R1 0 50 (4 * n + k) = -1 then some ((0 : Int32), R1) else some ((1 : Int32), R1)).bind (fun x => if x.1 = 0 then (r_chooses x.2 (nI n) (0 : Int32)) else (r_chooses x.2 (nI n) (1 : Int32)))) (Q1 E0 (LX D N) N) := by
      intro S1 R1 q
      rw [q.g_kept hn hk]
      by_cases e : xI R1 0 50 (4 * n + k) = -1
      · rw [if_pos e, if_pos e]
        exact fin2 0 q (Or.inl rfl)
      · rw [if_neg e, if_neg e]
        exact fin2 1 q (Or.inr rfl)
    by_cases e : xI R 0 51 (4 * n + k) = rOwn R n
    · rw [if_pos e, if_pos e]
      exact go (h.guard hn hk (Or.inl rfl))
    · rw [if_neg e, if_neg e]
      exact go h
  · rw [l2]
    refine P2.l (l1 S) ?_
    show P2 ((c0_disableWord n S (xI S n 4 2)).bind _) _ _
    rw [Option.bind_some, if_pos rfl, h.g_C hn (okE0 n).2.2]
    unfold c0_disableWord
    have h1 := h.tw hn (a := xI R 0 7 n) rfl
    have f1 := (FRM.rfl' R).uw n (xI R 0 7 n)
    rw [c5_wordAt_n, r_word_n _ h8, h.gw hn (a := xI R 0 7 n) rfl]
    simp only [Option.bind_some, c1_own_n, r_own_n _ h8]
    rw [h1.own hn (f1.hp hp)]
    by_cases e2 : rGw R n (xI R 0 7 n) = rOwn (rUw R n (xI R 0 7 n)) n
    · rw [if_pos e2, if_pos e2, c5_setWord_n, r_wordTo_n _ h8]
      exact fin2 0 (h1.pw hn rfl rfl) (Or.inl rfl)
    · rw [if_neg e2, if_neg e2]
      by_cases e : rGw R n (xI R 0 7 n) = 32768
      · rw [if_pos e, if_pos e]
        exact fin2 0 h1 (Or.inl rfl)
      · rw [if_neg e, if_neg e]
        exact fin2 1 h1 (Or.inr rfl)
/-- a process waits at a channel -/
theorem p_leaves {X : xS → xS → Prop} {N : xN} {S R : xS} (h : REL E0 X N S R) {n : Nat} (hn : inN n N) (hp : xI R 0 11 n = 0 ∨ xI R 0 11 n = 1) (ch pl : Int32) {np : Int32} (hnp : np = 2 ∨ np = 3) : P2 (c0_waitAt n S ch pl) (r_leaves R (nI n) ch pl np) (REL E0 X N) := by
  have h8 := h.le8 hn
  unfold c0_waitAt r_leaves
  refine P2.l (c1_own_n _ _) (P2.r (r_own_n _ h8) ?_)
  rw [h.own hn hp]
  refine P2.l (c5_setWord_n _ _ _ _) (P2.r (r_wordTo_n _ h8 _ _) ?_)
  rw [gI h8, cl8 h8]
  have h1 := h.pw hn (a := ch) (v := rOwn R n) rfl rfl
  refine P2.l (c1_setLocal_n _ _ _ _) (P2.r (r_wordTo_n _ h8 _ _) ?_)
  have h2 := h1.pw hn (a := xI (cPw S n ch (rOwn R n)) n 4 5 + 2 * -3) (a' := xI (rPw R n ch (rOwn R n)) 0 10 n - 6) (v := pl) (by rw [h1.g_W hn, Int32.sub_eq_add_neg]; rfl) rfl
  refine P2.l (c9_popAll_n _ _) ?_
  rcases hnp with e | e <;> subst e
  · refine P2.r (r_popped_2 _ h8) ?_
    exact P2.l (c1_leaveWaiting_n _ _) (P2.r (r_waits_n _ h8) (P2.ret ((h2.popAll2 hn (okE0 n)).waits hn)))
  · refine P2.r (r_popped_3 _ h8) ?_
    exact P2.l (c1_leaveWaiting_n _ _) (P2.r (r_waits_n _ h8) (P2.ret ((h2.popAll3 hn (okE0 n)).waits hn)))
/-- the partner at a channel goes on -/
theorem p_free {X : xS → xS → Prop} {N : xN} {S R : xS} (h : REL E0 X N S R) {n : Nat} (hn : inN n N) (ch who : Int32) {np : Int32} (hnp : np = 2 ∨ np = 3) : P2 (c0_freePartner n S ch who) ((r_wordTo R (nI n) ch (32768 : Int32)).bind (fun S14 => (r_ready S14 (nI n) who).bind (fun S15 => (r_popped S15 (nI n) np).bind (fun (r_16, S16) => some S16)))) (REL E0 X N) := by
  have h8 := h.le8 hn
  unfold c0_freePartner
  refine P2.l (c5_setWord_n _ _ _ _) (P2.r (r_wordTo_n _ h8 _ _) ?_)
  refine P2.l (c1_makeReady_n _ _ _) (P2.r (r_ready_n _ h8 _) ?_)
  have h1 := (h.pw hn (a := ch) (v := 32768) rfl rfl).rdy hn (d := who) rfl
  refine P2.l (c9_popAll_n _ _) ?_
  rcases hnp with e | e <;> subst e
  · exact P2.r (r_popped_2 _ h8) (P2.ret (h1.popAll2 hn (okE0 n)))
  · exact P2.r (r_popped_3 _ h8) (P2.ret (h1.popAll3 hn (okE0 n)))
theorem P2.some_l {α β : Type} {Q : α → β → Prop} {x : Option α} {y : Option β} (h : P2 x y Q) : P2 (x.bind (fun a => some a)) y Q := by
  obtain ⟨a, b, rfl, rfl, q⟩ := h
  exact ⟨a, b, rfl, rfl, q⟩
theorem P2.some_r {α β : Type} {Q : α → β → Prop} {x : Option α} {y : Option β} (h : P2 x y Q) : P2 x (y.bind (fun a => some a)) Q := by
  obtain ⟨a, b, rfl, rfl, q⟩ := h
  exact ⟨a, b, rfl, rfl, q⟩
theorem p_in {N : xN} {D : Nat} {S R : xS} (h : REL E0 (LX D N) N S R) {n : Nat} (hn : inN n N) (hp : xI R 0 11 n = 0 ∨ xI R 0 11 n = 1) (hc : xI R 0 5 n ≤ 4096) : P2 (c0_input n S) (r_in R (nI n) (xI R 0 5 n) (xI R 0 6 n) (xI R 0 7 n)) (REL E0 (LX (D + 1) N) N) := by
  have h8 := h.le8 hn
  have wA := h.w_A hn (okE0 n).1
  have wB := h.w_B hn (okE0 n).2.1
  have wC := h.w_C hn (okE0 n).2.2
  unfold c0_input r_in
  rw [h.g_A hn (okE0 n).1, h.g_B hn (okE0 n).2.1, h.g_C hn (okE0 n).2.2]
  refine P2.pl hc ?_
  rcases link_cases wB n with ⟨k, hk, l1, l2, l3⟩ | ⟨l1, l2⟩
  · rw [l2]
    refine P2.l (l1 S) (P2.r rfl (P2.nr n10 ?_))
    show P2 (gq (n = n ∧ 12 ≤ 12 + k ∧ 12 + k < 16) _) _ _
    rw [gq_link hk, l3]
    refine P2.r rfl ?_
    exact P2.some_l (P2.some_r (p_linkIn h hn hp hk wA hc wC))
  · rw [l2]
    refine P2.l (l1 S) (P2.r rfl (P2.pr rfl ?_))
    show P2 ((c5_wordAt n 2 S (xI R 0 6 n)).bind _) _ _
    refine P2.l (c5_wordAt_n _ _ _) (P2.r (r_word_n _ h8 _) ?_)
    have h1 := h.tw hn (a := xI R 0 6 n) rfl
    have f1 := (FRM.rfl' R).uw n (xI R 0 6 n)
    rw [h.gw hn (a := xI R 0 6 n) rfl]
    refine P2.ite Iff.rfl (fun _ _ => ?_) (fun _ _ => ?_)
    · exact P2.mono (P2.some_l (P2.some_r (p_leaves h1 hn (f1.hp hp) _ _ (Or.inr rfl)))) (fun a b q => q.mono_D (Nat.le_succ D))
    · refine P2.l (c5_wordAt_n _ _ _) (P2.r (r_word_n _ h8 _) ?_)
      rw [h1.gw hn rfl]
      have h2 := h1.tw hn (a := (rGw R n (xI R 0 6 n) &&& 65534) - 6) rfl
      refine P2.bind (p_copies h2 hn _ _ wA hc) (fun a b q => ?_)
      exact P2.mono (P2.some_l (p_free q hn _ _ (Or.inr rfl))) (fun a b q => q.mono_D (Nat.le_succ D))
theorem cTw_idem (S : xS) (n : Nat) (a : Int32) : cTw (cTw S n a) n a = cTw S n a := by
  unfold cTw
  by_cases e : inM (adw a)
  · rw [if_pos e, if_pos e]
  · rw [if_neg e, if_neg e, sI_idem]
theorem cGw_cTw (S : xS) (n : Nat) (a b : Int32) : cGw (cTw S n a) n b = cGw S n b := by
  unfold cTw
  by_cases e : inM (adw a)
  · rw [if_pos e]
  · rw [if_neg e]; rfl
theorem p_out {N : xN} {D : Nat} {S R : xS} (h : REL E0 (LX D N) N S R) {n : Nat} (hn : inN n N) (hp : xI R 0 11 n = 0 ∨ xI R 0 11 n = 1) {cnt ch pl : Int32} (wc : cnt &&& 65535 = cnt) (hc : cnt ≤ 4096) (wch : ch &&& 65535 = ch) (wpl : pl &&& 65535 = pl) {np : Int32} (hnp : np = 2 ∨ np = 3) : P2 (c0_output n S cnt ch pl) (r_out R (nI n) cnt ch pl np) (REL E0 (LX D N) N) := by
  have h8 := h.le8 hn
  unfold c0_output r_out r_out_b92
  refine P2.pl hc ?_
  rcases link_cases wch n with ⟨k, hk, l1, l2, l3⟩ | ⟨l1, l2⟩
  · rw [l2]
    refine P2.l (l1 S) (P2.r rfl (P2.nr n10 ?_))
    show P2 (gq (n = n ∧ 12 ≤ 12 + k ∧ 12 + k < 16) _) _ _
    rw [gq_link hk, l3]
    refine P2.r rfl ?_
    exact P2.some_l (P2.some_r (p_linkOut h hn hp hk wc hc wpl hnp))
  · rw [l2]
    refine P2.l (l1 S) (P2.r rfl (P2.pr rfl ?_))
    show P2 ((c5_wordAt n 2 S ch).bind _) _ _
    refine P2.l (c5_wordAt_n _ _ _) (P2.r (r_word_n _ h8 _) ?_)
    have h1 := h.tw hn (a := ch) rfl
    have f1 := (FRM.rfl' R).uw n ch
    rw [h.gw hn (a := ch) rfl]
    refine P2.ite Iff.rfl (fun _ _ => ?_) (fun _ _ => ?_)
    · exact P2.some_l (P2.some_r (p_leaves h1 hn (f1.hp hp) _ _ hnp))
    · unfold c1_alert
      generalize rGw R n ch = who
      have e1 := h1.gw hn (a := (who &&& 65534) - 6) rfl
      have h2 := h1.tw hn (a := (who &&& 65534) - 6) rfl
      have f2 := f1.uw n ((who &&& 65534) - 6)
      rw [c5_wordAt_n, Option.bind_some]
      refine P2.r (r_word_n _ h8 _) ?_
      rw [e1]
      have e3 : cGw (cTw (cTw S n ch) n ((who &&& 65534) - 6)) n ((who &&& 65534) - 6) = rGw (rUw R n ch) n ((who &&& 65534) - 6) := by rw [cGw_cTw]; exact e1
      have e4 : cTw (cTw (cTw S n ch) n ((who &&& 65534) - 6)) n ((who &&& 65534) - 6) = cTw (cTw S n ch) n ((who &&& 65534) - 6) := cTw_idem _ _ _
      revert h2 f2 e3 e4
      generalize cTw (cTw S n ch) n ((who &&& 65534) - 6) = S2
      generalize rUw (rUw R n ch) n ((who &&& 65534) - 6) = R2
      generalize rGw (rUw R n ch) n ((who &&& 65534) - 6) = st
      intro h2 f2 e3 e4
      have found : st = 32769 ∨ st = 32770 → P2 ((c1_alert_b39 n who ((who &&& 65534) - 6) st S2).bind (fun (r_7, S7) => if r_7 = 0 then ((c5_wordAt n 2 S7 ((who &&& (65534 : Int32)) - (6 : Int32))).bind (fun (r_9, S9) => (c1_copyBytes n S9 pl r_9 cnt).bind (fun S10 => (c0_freePartner n S10 ch who).bind (fun S11 => some S11)))) else ((c0_waitAt n S7 ch pl).bind (fun S12 => some S12)))) (if st = (32771 : Int32) then ((r_leaves R2 (nI n) ch pl np).bind (fun S8 => some S8)) else ((r_finds R2 (nI n) who st).bind (fun S9 => (r_leaves S9 (nI n) ch pl np).bind (fun S10 => some S10)))) (REL E0 (LX D N) N) := by
        intro hst
        have hne : ¬ st = 32771 := by rcases hst with e | e <;> rw [e] <;> decide
        rw [if_neg hne]
        have hq := p_finds h2 (TX_LX D N hn.1) hn who st
        obtain ⟨a, b, x1, x2, x3, x4, x5⟩ := hq
        have hpb : xI b 0 11 n = 0 ∨ xI b 0 11 n = 1 := by rw [x5]; exact f2.hp hp
        rw [x1, x2, Option.bind_some, Option.bind_some]
        obtain ⟨a1, a2⟩ := a
        have x3 : a1 = 1 := x3
        subst x3
        refine P2.nl n10 ?_
        exact P2.some_l (P2.some_r (p_leaves x4 hn hpb _ _ hnp))
      dsimp only
      by_cases c1 : st = 32771
      · rw [if_pos c1, if_neg (by rw [c1]; decide), if_neg (by rw [c1]; decide), if_pos c1, if_pos c1]
        refine P2.l rfl (P2.nl n10 ?_)
        exact P2.some_l (P2.some_r (p_leaves h2 hn (f2.hp hp) _ _ hnp))
      · rw [if_neg c1]
        by_cases c2 : st = 32769
        · rw [if_pos c2, if_pos c2]
          exact found (Or.inl c2)
        · rw [if_neg c2, if_neg c2]
          by_cases c3 : st = 32770
          · rw [if_pos c3, if_pos c3]
            exact found (Or.inr c3)
          · rw [if_neg c3, if_neg c3]
            refine P2.nr c1 ?_
            refine P2.l rfl (P2.pl rfl (P2.l (c5_wordAt_n _ _ _) ?_))
            rw [e3, e4]
            refine P2.bind (p_copies h2 hn _ _ wc hc) (fun a b q => ?_)
            exact P2.some_l (p_free q hn _ _ hnp)
