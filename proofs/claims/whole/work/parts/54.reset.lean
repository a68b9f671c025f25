/-! resets -/
theorem adw_and (a : Int32) : adw (a &&& 65534) = adw a := by
  have h := tn_lt a
  unfold adw adr
  rw [i_65534, pk_tn (by omega)]
  omega
theorem cGw_and (S : xS) (n : Nat) (a : Int32) : cGw S n (a &&& 65534) = cGw S n a := by unfold cGw; rw [adw_and]
theorem cTw_and (S : xS) (n : Nat) (a : Int32) : cTw S n (a &&& 65534) = cTw S n a := by unfold cTw; rw [adw_and]
theorem cPw_and (S : xS) (n : Nat) (a v : Int32) : cPw S n (a &&& 65534) v = cPw S n a v := by unfold cPw; rw [adw_and]
theorem c0_linkOf_and (n : Nat) (S : xS) (a : Int32) : c0_linkOf n S (a &&& 65534) = c0_linkOf n S a := by unfold c0_linkOf; rw [w14]
theorem w_mint : (32768 : Int32) &&& 65535 = 32768 := by decide
theorem s5 (R : xS) (k : Nat) (v : Int32) {j k' : Nat} (w : Int32) (h : j ≠ 5) : sI (sI R 0 5 k v) 0 j k' w = sI (sI R 0 j k' w) 0 5 k v := sI_comm R v w (by omega)
theorem lk_rout {N : xN} {D : Nat} {s r : xS} (hl : LX D N s r) (hN : N.1 ≤ 8) {n k : Nat} (hn : inN n N) (hk : k < 4) {w : Int32} (hw : w = xI r 0 41 (4 * n + k)) : LX D N (sI (sI (sI s n (12 + k) 2 (-1)) n (12 + k) 3 0) n (12 + k) 6 w) (sI (sI (sI r 0 44 (4 * n + k) (-1)) 0 45 (4 * n + k) 0) 0 42 (4 * n + k) 0) := by
  have nk := hl.1 n hn.1
  have q0 := nk.q0 hn.2
  obtain ⟨o1, ⟨o2, o3, o4, o5, o6, o7⟩, o8, o9, o10, o11, o12, o13⟩ := nk.2.1 k hk
  have w8 : xI r 0 41 (4 * n + k) = 0 ∨ xI r 0 41 (4 * n + k) = 1 := o1.2.2.2.2.2.2.2.2.1
  have l5 : xI s n (12 + k) 5 = -1 ∧ xI r 0 43 (4 * n + k) = 0 := by
    rcases o12 with o | o | o
    · exact ⟨o.2.2.2.1, o.2.2.1⟩
    · exact ⟨o.2.2.2.1, o.2.2.1⟩
    · exact absurd o.2.2.2.1 (by rw [q0]; decide)
  refine hl.link (Nat.le_refl D) hn.1 hk (fun a b hab => ?_) rfl (fun j e he => ?_) ?_ hN ⟨?_, ⟨?_, ?_, ?_, ?_, ?_, ?_⟩, ?_, ?_, ?_, ?_, ?_, ?_⟩ (Or.inr q0)
  · rw [xI_fn_ne _ _ (by omega), xI_fn_ne _ _ (by omega), xI_fn_ne _ _ (by omega)]
  · simp (disch := omega) only [xI_ne]
  · simp (disch := omega) only [xI_ne]
  · refine o1.c7 ?_ ?_ <;> simp (disch := omega) only [rr, xI_ne, xI_eq, and_self]
  · simp (disch := omega) only [rr, xI_ne, xI_eq]
  · simp (disch := omega) only [rr, xI_ne, xI_eq]
  · simp (disch := omega) only [rr, xI_ne, xI_eq]; exact o4
  · simp (disch := omega) only [rr, xI_ne, xI_eq]; exact o5
  · simp (disch := omega) only [rr, xI_ne, xI_eq]; exact o6
  · simp (disch := omega) only [rr, xI_ne, xI_eq]; exact o7
  · simp (disch := omega) only [rr, xI_ne, xI_eq]
    rcases w8 with e | e
    · exact Or.inr ⟨hw.trans e, Or.inl e⟩
    · exact Or.inl ⟨hw.trans e, e, trivial⟩
  · simp (disch := omega) only [rr, xI_ne, xI_eq]; exact o9
  · simp (disch := omega) only [rr, xI_ne, xI_eq]; exact o10
  · refine o11.c ?_ ?_ <;> simp (disch := omega) only [rr, xI_ne, xI_eq, and_self]
  · refine Or.inl ?_
    simp (disch := omega) only [rr, xI_ne, xI_eq]
    exact ⟨trivial, trivial, l5.2, l5.1, fun z => absurd z.2 (by decide)⟩
  · intro z
    exact absurd z (by rw [q0]; decide)
theorem lk_rin {N : xN} {D : Nat} {s r : xS} (hl : LX D N s r) (hN : N.1 ≤ 8) {n k : Nat} (hn : inN n N) (hk : k < 4) : LX D N (sI (sI (sI (sI s n (12 + k) 7 (-1)) n (12 + k) 8 0) n (12 + k) 10 (-1)) n (12 + k) 11 (-1)) (sI (sI (sI (sI r 0 47 (4 * n + k) (-1)) 0 48 (4 * n + k) 0) 0 50 (4 * n + k) (-1)) 0 51 (4 * n + k) (-1)) := by
  have nk := hl.1 n hn.1
  have q0 := nk.q0 hn.2
  obtain ⟨o1, ⟨o2, o3, o4, o5, o6, o7⟩, o8, o9, o10, o11, o12, o13⟩ := nk.2.1 k hk
  refine hl.link (Nat.le_refl D) hn.1 hk (fun a b hab => ?_) rfl (fun j e he => ?_) ?_ hN ⟨?_, ⟨?_, ?_, ?_, ?_, ?_, ?_⟩, ?_, ?_, ?_, ?_, ?_, ?_⟩ (Or.inr q0)
  · rw [xI_fn_ne _ _ (by omega), xI_fn_ne _ _ (by omega), xI_fn_ne _ _ (by omega), xI_fn_ne _ _ (by omega)]
  · simp (disch := omega) only [xI_ne]
  · simp (disch := omega) only [xI_ne]
  · refine o1.c7 ?_ ?_ <;> simp (disch := omega) only [rr, xI_ne, xI_eq, and_self]
  · simp (disch := omega) only [rr, xI_ne, xI_eq]; exact o2
  · simp (disch := omega) only [rr, xI_ne, xI_eq]; exact o3
  · simp (disch := omega) only [rr, xI_ne, xI_eq]
  · simp (disch := omega) only [rr, xI_ne, xI_eq]
  · simp (disch := omega) only [rr, xI_ne, xI_eq]
  · simp (disch := omega) only [rr, xI_ne, xI_eq]
  · simp (disch := omega) only [rr, xI_ne, xI_eq]; exact o8
  · refine Or.inl ?_
    simp (disch := omega) only [rr, xI_ne, xI_eq]
  · refine Or.inl ?_
    simp (disch := omega) only [rr, xI_ne, xI_eq]
  · refine Or.inl ?_
    simp (disch := omega) only [rr, xI_ne, xI_eq, and_self]
  · refine o12.c ?_ ?_ <;> simp (disch := omega) only [rr, xI_ne, xI_eq, and_self]
  · intro z
    exact absurd z (by rw [q0]; decide)
theorem p_rout {N : xN} {D : Nat} {S R : xS} (h : REL E0 (LX D N) N S R) {n k : Nat} (hn : inN n N) (hk : k < 4) : P2 ((c4_resetOutput n (12 + k) S).bind (fun (r_9, S9) => xnm (sI S9 n 4 0 r_9) (fun S10 => some S10))) (if (xI R 0 44 (4 * n + k)) = (-1 : Int32) then (r_resets_b70 (nI (4 * n + k)) (32768 : Int32) (nI n) R) else (r_resets_b70 (nI (4 * n + k)) (xI R 0 44 (4 * n + k)) (nI n) R)) (REL E0 (LX D N) N) := by
  have h8 := h.le8 hn
  have l33 : 4 * n + k < 33 := by omega
  obtain ⟨s, r, hx, hl⟩ := h.opn
  obtain ⟨o1, ⟨o2, o3, o4, o5, o6, o7⟩, o8, o9, o10, o11, o12, o13⟩ := (h.lx.1 n hn.1).2.1 k hk
  have w8 : xI S n (16 + k) 7 = 0 ∨ xI S n (16 + k) 7 = 1 := by
    have e : xI S n (16 + k) 7 = xI R 0 41 (4 * n + k) := o1.2.2.2.2.1
    rw [e]
    exact o1.2.2.2.2.2.2.2.2.1
  have e7 : xI S n (16 + k) 7 = xI r 0 41 (4 * n + k) := by
    rw [← hx.r_eq (by omega)]
    exact o1.2.2.2.2.1
  have o2' : xI S n (12 + k) 2 = xI R 0 44 (4 * n + k) := o2
  have wd : xI R 0 44 (4 * n + k) = -1 ∨ xI R 0 44 (4 * n + k) &&& 65535 = xI R 0 44 (4 * n + k) := by
    rcases o12 with o | o | o
    · exact Or.inl o.1
    · exact Or.inr o.1
    · exact Or.inl o.1
  unfold c4_resetOutput r_resets_b70
  simp only [gI h8, cl8 h8, g33 l33, nI_clamp (show 4 * n + k < 2 ^ 31 by omega), nar0, xnm]
  simp (disch := omega) only [xI_ne]
  rw [show 12 + k + 4 = 16 + k by omega]
  have gz' : ∀ {α : Type} (x : Option α), gz (xI S n (16 + k) 7) x = x := fun x => if_pos w8
  rw [gz', o2']
  have go : ∀ {v : Int32}, v &&& 65535 = v → REL E0 (LX D N) N (sI (sI (sI (sI S n (12 + k) 2 (-1)) n (12 + k) 3 0) n (12 + k) 6 (xI S n (16 + k) 7)) n 4 0 v) (sI (sI (sI (sI R 0 5 n v) 0 44 (4 * n + k) (-1)) 0 45 (4 * n + k) 0) 0 42 (4 * n + k) 0) := by
    intro v hv
    have h2 := (((((hx.cv (n := n) (j := 12 + k) (k := 2) (by omega) (-1)).cv (n := n) (j := 12 + k) (k := 3) (by omega) 0).cv (n := n) (j := 12 + k) (k := 6) (by omega) (xI S n (16 + k) 7)).rv (j := 44) (k := 4 * n + k) (by omega) (-1)).rv (j := 45) (k := 4 * n + k) (by omega) 0).rv (j := 42) (k := 4 * n + k) (by omega) 0
    have h3 := (h2.un (lk_rout hl h.1 hn hk e7)).s_A hn (v := v) rfl hv
    simp (disch := omega) only [s5]
    exact h3
  by_cases e : xI R 0 44 (4 * n + k) = -1
  · rw [if_pos e, if_pos e]
    exact P2.ret (go w_mint)
  · rw [if_neg e, if_neg e]
    exact P2.ret (go (wd.resolve_left e))
theorem p_rin {N : xN} {D : Nat} {S R : xS} (h : REL E0 (LX D N) N S R) {n k : Nat} (hn : inN n N) (hk : k < 4) : P2 ((c4_resetInput n (12 + k) S).bind (fun (r_9, S9) => xnm (sI S9 n 4 0 r_9) (fun S10 => some S10))) (if (xI R 0 47 (4 * n + k)) = (-1 : Int32) then (r_resets_b121 (nI (4 * n + k)) (32768 : Int32) (nI n) R) else (r_resets_b121 (nI (4 * n + k)) (xI R 0 47 (4 * n + k)) (nI n) R)) (REL E0 (LX D N) N) := by
  have h8 := h.le8 hn
  have l33 : 4 * n + k < 33 := by omega
  obtain ⟨s, r, hx, hl⟩ := h.opn
  obtain ⟨o1, ⟨o2, o3, o4, o5, o6, o7⟩, o8, o9, o10, o11, o12, o13⟩ := (h.lx.1 n hn.1).2.1 k hk
  have o4' : xI S n (12 + k) 7 = xI R 0 47 (4 * n + k) := o4
  have wd : xI R 0 47 (4 * n + k) = -1 ∨ xI R 0 47 (4 * n + k) &&& 65535 = xI R 0 47 (4 * n + k) := by
    rcases o11 with o | o
    · exact Or.inl o.1
    · exact Or.inr o.1
  unfold c4_resetInput r_resets_b121
  simp only [gI h8, cl8 h8, g33 l33, nI_clamp (show 4 * n + k < 2 ^ 31 by omega), xnm]
  rw [o4']
  have go : ∀ {v : Int32}, v &&& 65535 = v → REL E0 (LX D N) N (sI (sI (sI (sI (sI S n (12 + k) 7 (-1)) n (12 + k) 8 0) n (12 + k) 10 (-1)) n (12 + k) 11 (-1)) n 4 0 v) (sI (sI (sI (sI (sI R 0 5 n v) 0 47 (4 * n + k) (-1)) 0 48 (4 * n + k) 0) 0 50 (4 * n + k) (-1)) 0 51 (4 * n + k) (-1)) := by
    intro v hv
    have h2 := (((((((hx.cv (n := n) (j := 12 + k) (k := 7) (by omega) (-1)).cv (n := n) (j := 12 + k) (k := 8) (by omega) 0).cv (n := n) (j := 12 + k) (k := 10) (by omega) (-1)).cv (n := n) (j := 12 + k) (k := 11) (by omega) (-1)).rv (j := 47) (k := 4 * n + k) (by omega) (-1)).rv (j := 48) (k := 4 * n + k) (by omega) 0).rv (j := 50) (k := 4 * n + k) (by omega) (-1)).rv (j := 51) (k := 4 * n + k) (by omega) (-1)
    have h3 := (h2.un (lk_rin hl h.1 hn hk)).s_A hn (v := v) rfl hv
    simp (disch := omega) only [s5]
    exact h3
  by_cases e : xI R 0 47 (4 * n + k) = -1
  · rw [if_pos e, if_pos e]
    exact P2.ret (go w_mint)
  · rw [if_neg e, if_neg e]
    exact P2.ret (go (wd.resolve_left e))
theorem p_reset {N : xN} {D : Nat} {S R : xS} (h : REL E0 (LX D N) N S R) {n : Nat} (hn : inN n N) : P2 (c0_reset n S) (r_resets R (nI n) (xI R 0 5 n)) (REL E0 (LX D N) N) := by
  have h8 := h.le8 hn
  have wA := h.w_A hn (okE0 n).1
  unfold c0_reset r_resets
  rw [h.g_A hn (okE0 n).1, c0_linkOf_and]
  rcases link_cases wA n with ⟨k, hk, l1, l2, l3⟩ | ⟨l1, l2⟩
  · have l33 : 4 * n + k < 33 := by omega
    rw [l2]
    refine P2.l (l1 S) (P2.r rfl (P2.nr n10 ?_))
    show P2 (gq (n = n ∧ 12 ≤ 12 + k ∧ 12 + k < 16) _) _ _
    rw [gq_link hk, l3]
    refine P2.r rfl ?_
    simp only [g33 l33, nI_clamp (show 4 * n + k < 2 ^ 31 by omega)]
    exact P2.ite Iff.rfl (fun _ _ => p_rin h hn hk) (fun _ _ => p_rout h hn hk)
  · rw [l2]
    refine P2.l (l1 S) (P2.r rfl (P2.pr rfl ?_))
    show P2 ((c5_wordAt n 2 S (xI R 0 5 n &&& 65534)).bind _) _ _
    refine P2.l (c5_wordAt_n _ _ _) (P2.r (r_word_n _ h8 _) ?_)
    rw [cGw_and, cTw_and, h.gw hn (a := xI R 0 5 n) rfl]
    have h1 := (h.tw hn (a := xI R 0 5 n) rfl).s_A hn (v := rGw R n (xI R 0 5 n)) rfl (w16_rGw _ _ _)
    dsimp only
    rw [gI h8, cl8 h8]
    refine P2.xl (P2.xr ?_)
    refine P2.l (c5_setWord_n _ _ _ _) (P2.r (r_wordTo_n _ h8 _ _) ?_)
    rw [cPw_and]
    exact P2.ret (h1.pw hn rfl rfl)
