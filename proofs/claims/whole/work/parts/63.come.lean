/-! a byte comes to a link -/
theorem lk_keep {D : Nat} {N : xN} {s r : xS} (hl : LX D N s r) (hN : N.1 ≤ 8) {n k : Nat} (hn : n < N.1) (hk : k < 4) {v g : Int32} (hv : v = -1 ∨ ∃ b, b < 256 ∧ v = nI b) (hg : g = -1 ∨ g = xI r 0 51 (4 * n + k)) : LX D N (sI (sI s n (12 + k) 10 v) n (12 + k) 11 g) (sI (sI r 0 50 (4 * n + k) v) 0 51 (4 * n + k) g) := by
  obtain ⟨o1, ⟨o2, o3, o4, o5, o6, o7⟩, o8, o9, o10, o11, o12, o13⟩ := (hl.1 n hn).2.1 k hk
  refine hl.link (Nat.le_refl D) hn hk (fun a b hab => ?_) rfl (fun j e he => ?_) ?_ hN ⟨?_, ⟨?_, ?_, ?_, ?_, ?_, ?_⟩, ?_, ?_, ?_, ?_, ?_, ?_⟩ (Or.inl ?_)
  · rw [xI_fn_ne _ _ (by omega), xI_fn_ne _ _ (by omega)]
  · simp (disch := omega) only [xI_ne]
  · simp (disch := omega) only [xI_ne]
  · refine o1.c7 ?_ ?_ <;> simp (disch := omega) only [rr, xI_ne, xI_eq, and_self]
  · simp (disch := omega) only [rr, xI_ne, xI_eq]; exact o2
  · simp (disch := omega) only [rr, xI_ne, xI_eq]; exact o3
  · simp (disch := omega) only [rr, xI_ne, xI_eq]; exact o4
  · simp (disch := omega) only [rr, xI_ne, xI_eq]; exact o5
  · simp (disch := omega) only [rr, xI_ne, xI_eq]
  · simp (disch := omega) only [rr, xI_ne, xI_eq]
  · simp (disch := omega) only [rr, xI_ne, xI_eq]; exact o8
  · simp (disch := omega) only [rr, xI_ne, xI_eq]; exact hv
  · simp (disch := omega) only [rr, xI_ne, xI_eq]
    rcases hg with e | e
    · exact Or.inl e
    · rw [e]; exact o10
  · refine o11.c ?_ ?_ <;> simp (disch := omega) only [rr, xI_ne, xI_eq, and_self]
  · refine o12.c ?_ ?_ <;> simp (disch := omega) only [rr, xI_ne, xI_eq, and_self]
  · simp (disch := omega) only [rr, xI_ne, xI_eq]
    intro z
    refine ⟨(o13 z).1, ?_⟩
    rcases hg with e | e
    · exact e
    · rw [e]; exact (o13 z).2
  · simp (disch := omega) only [xI_ne]
/-- a byte is given to one who waits; more is asked for -/
theorem lk_del1 {D : Nat} {N : xN} {s r : xS} (hl : LX D N s r) (hN : N.1 ≤ 8) {n k : Nat} (hn : n < N.1) (hk : k < 4) (q0 : rb r n 0 = 0) {a b : Int32} (hab : a &&& 65535 = b) (h47 : xI r 0 47 (4 * n + k) &&& 65535 = xI r 0 47 (4 * n + k)) {m : Nat} (hm : 1 ≤ m) (hm2 : m ≤ 4096) {o : Int32} (eo : o = xI r 0 40 (4 * n + k)) : LX (D + 1) N (sI (sI (sI s n (16 + k) 6 (o + 1)) n (12 + k) 9 a) n (12 + k) 8 (nI m)) (sI (sI (sI r 0 49 (4 * n + k) b) 0 48 (4 * n + k) (nI m)) 0 40 (4 * n + k) (o + 1)) := by
  obtain ⟨o1, ⟨o2, o3, o4, o5, o6, o7⟩, o8, o9, o10, o11, o12, o13⟩ := (hl.1 n hn).2.1 k hk
  refine hl.link (Nat.le_succ D) hn hk (fun a b hab => ?_) rfl (fun j e he => ?_) ?_ hN ⟨?_, ⟨?_, ?_, ?_, ?_, ?_, ?_⟩, ?_, ?_, ?_, ?_, ?_, ?_⟩ (Or.inr q0)
  · rw [xI_fn_ne _ _ (by omega), xI_fn_ne _ _ (by omega), xI_fn_ne _ _ (by omega)]
  · simp (disch := omega) only [xI_ne]
  · simp (disch := omega) only [xI_ne]
  · refine o1.c6 ?_ ?_ ?_ ?_ <;> simp (disch := omega) only [rr, xI_ne, xI_eq, and_self]
    obtain ⟨d, hd, ed⟩ := o1.bd
    exact ⟨d + 1, by omega, by rw [eo]; exact (congrArg (· + 1) ed).trans (nI_1 d)⟩
  · simp (disch := omega) only [rr, xI_ne, xI_eq]; exact o2
  · simp (disch := omega) only [rr, xI_ne, xI_eq]; exact o3
  · simp (disch := omega) only [rr, xI_ne, xI_eq]; exact o4
  · simp (disch := omega) only [rr, xI_ne, xI_eq]
  · simp (disch := omega) only [rr, xI_ne, xI_eq]; exact o6
  · simp (disch := omega) only [rr, xI_ne, xI_eq]; exact o7
  · simp (disch := omega) only [rr, xI_ne, xI_eq]; exact o8
  · simp (disch := omega) only [rr, xI_ne, xI_eq]; exact o9
  · simp (disch := omega) only [rr, xI_ne, xI_eq]; exact o10
  · refine Or.inr ?_
    simp (disch := omega) only [rr, xI_ne, xI_eq]
    exact ⟨h47, ⟨m, hm, hm2, rfl⟩, hab⟩
  · refine o12.c ?_ ?_ <;> simp (disch := omega) only [rr, xI_ne, xI_eq, and_self]
  · intro z
    exact absurd z (by rw [q0]; decide)
/-- .. it was the last -/
theorem lk_del2 {D : Nat} {N : xN} {s r : xS} (hl : LX D N s r) (hN : N.1 ≤ 8) {n k : Nat} (hn : n < N.1) (hk : k < 4) (q0 : rb r n 0 = 0) (a b : Int32) {o : Int32} (eo : o = xI r 0 40 (4 * n + k)) : LX (D + 1) N (sI (sI (sI (sI s n (16 + k) 6 (o + 1)) n (12 + k) 9 a) n (12 + k) 8 0) n (12 + k) 7 (-1)) (sI (sI (sI (sI r 0 49 (4 * n + k) b) 0 48 (4 * n + k) 0) 0 40 (4 * n + k) (o + 1)) 0 47 (4 * n + k) (-1)) := by
  obtain ⟨o1, ⟨o2, o3, o4, o5, o6, o7⟩, o8, o9, o10, o11, o12, o13⟩ := (hl.1 n hn).2.1 k hk
  refine hl.link (Nat.le_succ D) hn hk (fun a b hab => ?_) rfl (fun j e he => ?_) ?_ hN ⟨?_, ⟨?_, ?_, ?_, ?_, ?_, ?_⟩, ?_, ?_, ?_, ?_, ?_, ?_⟩ (Or.inr q0)
  · rw [xI_fn_ne _ _ (by omega), xI_fn_ne _ _ (by omega), xI_fn_ne _ _ (by omega), xI_fn_ne _ _ (by omega)]
  · simp (disch := omega) only [xI_ne]
  · simp (disch := omega) only [xI_ne]
  · refine o1.c6 ?_ ?_ ?_ ?_ <;> simp (disch := omega) only [rr, xI_ne, xI_eq, and_self]
    obtain ⟨d, hd, ed⟩ := o1.bd
    exact ⟨d + 1, by omega, by rw [eo]; exact (congrArg (· + 1) ed).trans (nI_1 d)⟩
  · simp (disch := omega) only [rr, xI_ne, xI_eq]; exact o2
  · simp (disch := omega) only [rr, xI_ne, xI_eq]; exact o3
  · simp (disch := omega) only [rr, xI_ne, xI_eq]
  · simp (disch := omega) only [rr, xI_ne, xI_eq]
  · simp (disch := omega) only [rr, xI_ne, xI_eq]; exact o6
  · simp (disch := omega) only [rr, xI_ne, xI_eq]; exact o7
  · simp (disch := omega) only [rr, xI_ne, xI_eq]; exact o8
  · simp (disch := omega) only [rr, xI_ne, xI_eq]; exact o9
  · simp (disch := omega) only [rr, xI_ne, xI_eq]; exact o10
  · refine Or.inl ?_
    simp (disch := omega) only [rr, xI_ne, xI_eq, and_self]
  · refine o12.c ?_ ?_ <;> simp (disch := omega) only [rr, xI_ne, xI_eq, and_self]
  · intro z
    exact absurd z (by rw [q0]; decide)
/-- the rest, as it is where one link's guard is none's -/
def XG (D : Nat) (N : xN) (n k : Nat) (s r : xS) : Prop := LX D N (sI s n (12 + k) 11 (-1)) r
theorem TX_XG (D : Nat) (N : xN) {n : Nat} (hn : n < N.1) (k : Nat) : TX (XG D N n k) n := by
  refine ⟨fun s r h t ht => ?_, fun s r t v ht h => ?_, fun s r t v ht h => ?_⟩
  · have h1 := (h.1 n hn).2.2.2 t ht
    rw [xI_ne _ _ (by omega), xI_ne _ _ (by omega)] at h1
    exact h1
  · have h1 := LX.t9 h ht v (n := n)
    unfold XG
    rw [sI_comm _ _ _ (by omega)]
    exact h1
  · have h1 := LX.t10 h ht v (n := n)
    unfold XG
    rw [sI_comm _ _ _ (by omega)]
    exact h1
theorem xg_un {E : Nat → Nat → Prop} {D : Nat} {N : xN} {n k : Nat} {S R : xS} (h : REL E (XG D N n k) N S R) : REL E (LX D N) N (sI S n (12 + k) 11 (-1)) R := by
  have h1 := h.xv.cv (n := n) (j := 12 + k) (k := 11) (by omega) (-1)
  exact h1.un h.2.2.2
theorem p_comes {N : xN} {D : Nat} {S R : xS} (h : REL E0 (LX D N) N S R) {n : Nat} (hn : n < N.1) {k : Nat} (hk : k < 4) {b : Nat} (hb : b < 256) : P2 (c4_accept n (12 + k) S (nI b)) (r_comes R (nI (4 * n + k)) (nI b)) (REL E0 (LX (D + 1) N) N) := by
  have h8 : n < 8 := Nat.lt_of_lt_of_le hn h.1
  have he : 4 * n + k ≤ 32 := by omega
  have ne32 : ¬ nI (4 * n + k) = 32 := fun z => absurd ((nI_eq (b := 32) (by omega) (by decide)).mp z) (by omega)
  obtain ⟨s, r, hx, hl⟩ := h.opn
  have nk := hl.1 n hn
  obtain ⟨o1, ⟨o2, o3, o4, o5, o6, o7⟩, o8, o9, o10, o11, o12, o13⟩ := nk.2.1 k hk
  have l7 : xI S n (12 + k) 7 = xI r 0 47 (4 * n + k) := by rw [hx.c_eq (by omega)]; exact o4
  have l8 : xI S n (12 + k) 8 = xI r 0 48 (4 * n + k) := by rw [hx.c_eq (by omega)]; exact o5
  have l9 : xI S n (12 + k) 9 = xI s n (12 + k) 9 := hx.c_eq (by omega)
  have l11 : xI S n (12 + k) 11 = xI r 0 51 (4 * n + k) := by rw [hx.c_eq (by omega)]; exact o7
  have c6 : xI S n (16 + k) 6 = xI r 0 40 (4 * n + k) := by rw [hx.c_eq (by omega)]; exact o1.2.2.2.1
  unfold c4_accept r_comes
  refine P2.nr ne32 ?_
  simp only [g33x he, nI_clamp (show 4 * n + k < 2 ^ 31 by omega), e_div n hk h8]
  rw [l7, hx.r_eq (j := 47) (by omega)]
  refine P2.ite Iff.rfl (fun e1 _ => ?_) (fun e1 _ => ?_)
  · unfold c4_keep
    refine P2.some_l (P2.xl (P2.xr ?_))
    simp (disch := omega) only [xI_ne]
    rw [l11, hx.r_eq (j := 51) (by omega)]
    have h2 := (hx.cv (n := n) (j := 12 + k) (k := 10) (by omega) (nI b)).rv (j := 50) (k := 4 * n + k) (by omega) (nI b)
    refine P2.ite Iff.rfl (fun e2 _ => P2.ret ?_) (fun e2 _ => ?_)
    · refine (h2.un ?_).mono_D (Nat.le_succ D)
      have h3 := lk_keep hl h.1 hn hk (v := nI b) (g := xI r 0 51 (4 * n + k)) (Or.inr ⟨b, hb, rfl⟩) (Or.inr rfl)
      have e3 : sI (sI s n (12 + k) 10 (nI b)) n (12 + k) 11 (xI r 0 51 (4 * n + k)) = sI s n (12 + k) 10 (nI b) := by
        have h7 : xI s n (12 + k) 11 = xI r 0 51 (4 * n + k) := o7
        have := sI_id (sI s n (12 + k) 10 (nI b)) n (12 + k) 11
        rw [xI_ne _ _ (by omega), h7] at this
        exact this
      have e4 : sI (sI r 0 50 (4 * n + k) (nI b)) 0 51 (4 * n + k) (xI r 0 51 (4 * n + k)) = sI r 0 50 (4 * n + k) (nI b) := by
        have := sI_id (sI r 0 50 (4 * n + k) (nI b)) 0 51 (4 * n + k)
        rw [xI_ne _ _ (by omega)] at this
        exact this
      rw [e3, e4] at h3
      exact h3
    · have q0 : rb r n 0 = 0 := by
        rcases nk.2.2.1.2 with q | q
        · exact q
        · exact absurd (o13 q.1).2 e2
      have hin : inN n N := ⟨hn, fun z => absurd (nk.1.mp z) (by rw [q0]; decide)⟩
      have h3 := h2.rv (j := 51) (k := 4 * n + k) (by omega) (-1)
      have h4 : REL E0 (XG D N n k) N (sI S n (12 + k) 10 (nI b)) (sI (sI R 0 50 (4 * n + k) (nI b)) 0 51 (4 * n + k) (-1)) := by
        refine ⟨h3.1, h3.2.1, h3.2.2.1, ?_⟩
        rw [h3.2.2.2.1, h3.2.2.2.2]
        exact lk_keep hl h.1 hn hk (Or.inr ⟨b, hb, rfl⟩) (Or.inl rfl)
      refine P2.xr ?_
      generalize xI r 0 51 (4 * n + k) = who
      unfold c1_alert
      revert h4
      generalize sI S n (12 + k) 10 (nI b) = S1
      generalize sI (sI R 0 50 (4 * n + k) (nI b)) 0 51 (4 * n + k) (-1) = R1
      intro h4
      rw [c5_wordAt_n, Option.bind_some]
      refine P2.r (r_word_n _ h8 _) ?_
      rw [h4.gw hin rfl]
      have h5 := h4.tw hin (a := (who &&& 65534) - 6) rfl
      revert h5
      generalize cTw S1 n ((who &&& 65534) - 6) = S2
      generalize rUw R1 n ((who &&& 65534) - 6) = R2
      generalize rGw R1 n ((who &&& 65534) - 6) = st
      intro h5
      dsimp only
      have found : P2 ((c1_alert_b39 n who ((who &&& 65534) - 6) st S2).bind (fun (r_3, S3) => xnm (sI S3 n (12 + k) 11 (-1)) (fun S4 => some S4))) ((r_finds R2 (nI n) who st).bind (fun S8 => some S8)) (REL E0 (LX (D + 1) N) N) := by
        obtain ⟨a, b', x1, x2, x3, x4, x5⟩ := p_finds h5 (TX_XG D N hn k) hin who st
        rw [x1, x2]
        exact P2.ret ((xg_un x4).mono_D (Nat.le_succ D))
      by_cases c1 : st = 32771
      · rw [if_pos c1, if_neg (by rw [c1]; decide), if_neg (by rw [c1]; decide)]
        exact P2.ret ((xg_un h5).mono_D (Nat.le_succ D))
      · rw [if_neg c1]
        by_cases c2 : st = 32769
        · rw [if_pos c2, if_pos c2]
          exact found
        · rw [if_neg c2, if_neg c2]
          by_cases c3 : st = 32770
          · rw [if_pos c3, if_pos c3]
            exact found
          · rw [if_neg c3, if_neg c3]
            exact P2.ret ((xg_un h5).mono_D (Nat.le_succ D))
  · have q0 : rb r n 0 = 0 := by
      rcases nk.2.2.1.2 with q | q
      · exact q
      · exact absurd (o13 q.1).1 e1
    have hin : inN n N := ⟨hn, fun z => absurd (nk.1.mp z) (by rw [q0]; decide)⟩
    rcases o11 with q | ⟨q1, ⟨m, hm1, hm2, q2⟩, q3⟩
    · exact absurd q.1 e1
    have q1' : xI r 0 47 (4 * n + k) &&& 65535 = xI r 0 47 (4 * n + k) := q1
    have q2' : xI r 0 48 (4 * n + k) = nI m := q2
    have q3' : xI s n (12 + k) 9 &&& 65535 = xI r 0 49 (4 * n + k) := q3
    have w49 : xI r 0 49 (4 * n + k) &&& 65535 = xI r 0 49 (4 * n + k) := by rw [← q3']; exact w16 _
    have ea : (xI s n (12 + k) 9 + 1) &&& 65535 = (xI r 0 49 (4 * n + k) + 1) &&& 65535 := by rw [← q3']; exact add1_16 _
    rw [c4_deliver_n]
    refine P2.r (r_byteTo_n _ h8 _ _) ?_
    refine P2.xr (P2.xr (P2.xr ?_))
    simp (disch := omega) only [xI_ne, xI_eq, xI_rPb]
    rw [hx.r_eq (j := 49) (by omega), hx.r_eq (j := 48) (by omega), hx.r_eq (j := 40) (by omega), hx.r_eq (j := 47) (by omega), l8, l9, c6, q2']
    have em : nI m - 1 = nI (m - 1) := pk_sub (a := m) (b := 1) hm1
    unfold cDel
    rw [em, cPb_adr S n (b := xI r 0 49 (4 * n + k)) (nI b) (by rw [q3', w49])]
    have h2 := ((((((hx.pb hin (a := xI r 0 49 (4 * n + k)) (v := nI b) rfl rfl).cv (n := n) (j := 16 + k) (k := 6) (by omega) (xI r 0 40 (4 * n + k) + 1)).cv (n := n) (j := 12 + k) (k := 9) (by omega) (xI s n (12 + k) 9 + 1)).cv (n := n) (j := 12 + k) (k := 8) (by omega) (nI (m - 1))).rv (j := 49) (k := 4 * n + k) (by omega) ((xI r 0 49 (4 * n + k) + 1) &&& 65535)).rv (j := 48) (k := 4 * n + k) (by omega) (nI (m - 1))).rv (j := 40) (k := 4 * n + k) (by omega) (xI r 0 40 (4 * n + k) + 1)
    by_cases m1 : m = 1
    · subst m1
      have e0 : nI (1 - 1) = 0 := rfl
      rw [e0] at h2 ⊢
      rw [if_pos rfl]
      refine P2.l rfl (P2.pl (xI_eq _ _ _ _ _) (P2.pr (by decide) (P2.xr ?_)))
      have h3 := (h2.cv (n := n) (j := 12 + k) (k := 7) (by omega) (-1)).rv (j := 47) (k := 4 * n + k) (by omega) (-1)
      have h4 := h3.un (lk_del2 hl h.1 hn hk q0 _ _ rfl)
      refine P2.l (c1_makeReady_n _ _ _) (P2.r (r_ready_n _ h8 _) (P2.ret ?_))
      exact h4.rdy hin rfl
    · have n1 : ¬ nI (m - 1) = 0 := nI_ne0 (by omega) (by omega)
      rw [if_neg n1]
      refine P2.l rfl (P2.nl ?_ (P2.nr (nI_nle (by omega) (by omega)) (P2.ret ?_)))
      · simp (disch := omega) only [xI_ne, xI_cPb]
        rw [l7]
        exact e1
      · exact h2.un (lk_del1 hl h.1 hn hk q0 ea q1' (by omega) (by omega) rfl)
