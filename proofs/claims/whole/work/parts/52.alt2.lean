/-! waiting for a time; channels of an alternative -/
theorem p_tw_end {N : xN} {D : Nat} {R0 S R : xS} (q : RP (LX D N) N R0 S R) {n : Nat} (hn : inN n N) (hp : xI R0 0 11 n = 0 ∨ xI R0 0 11 n = 1) {t : Int32} (ht : t = 0 ∨ t = 1) : P2 (c0_waitForGuardOrTime_b115 n t S) (r_timedWait_b88 (nI n) t R) (Q1 E0 (LX D N) N) := by
  have h8 := q.1.le8 hn
  unfold c0_waitForGuardOrTime_b115 r_timedWait_b88 r_timedWait_b120
  refine P2.bind (p_setLocal q hn (-3) rfl) (fun S1 R1 q1 => ?_)
  refine P2.r (r_own_n _ h8) ?_
  rcases ht with e | e
  · subst e
    refine P2.pl rfl (P2.pr rfl ?_)
    refine P2.l (c1_leaveWaiting_n _ _) (P2.r (r_waits_n _ h8) (P2.pr rfl ?_))
    exact P2.ret ⟨rfl, q1.1.waits hn⟩
  · subst e
    refine P2.nl n10 (P2.nr n10 ?_)
    refine P2.bind (p_local q1 hn (-5)) (fun o p q2 => ?_)
    obtain ⟨o1, S2⟩ := o
    obtain ⟨p1, R2⟩ := p
    obtain ⟨e1, e2, q2⟩ := q2
    have e1 : o1 = p1 := e1
    subst e1
    refine P2.r (r_waits_n _ h8) (P2.nr n10 ?_)
    have h2 : REL E0 (LX D N) N S2 R2 := q2.1
    have hp2 : xI R2 0 11 n = 0 ∨ xI R2 0 11 n = 1 := q2.2.hp hp
    have e3 : rOwn R1 n = rOwn R2 n := by
      unfold rOwn
      rw [q1.2 10 n (by decide) (by decide), q1.2 11 n (by decide) (by decide), q2.2 10 n (by decide) (by decide), q2.2 11 n (by decide) (by decide)]
    rw [e3]
    exact P2.bind (p_waitTime h2 (TX_LX D N hn.1) hn hp2 o1) (fun a b q => P2.ret ⟨rfl, q⟩)
theorem p_tw_60 {N : xN} {D : Nat} {R0 S R : xS} (q : RP (LX D N) N R0 S R) {n : Nat} (hn : inN n N) (hp : xI R0 0 11 n = 0 ∨ xI R0 0 11 n = 1) {t : Int32} (ht : t = 0 ∨ t = 1) : P2 (c0_waitForGuardOrTime_b60 n t S) (r_timedWait_b49 (nI n) (rClk R0 n) t R) (Q1 E0 (LX D N) N) := by
  have h8 := q.1.le8 hn
  unfold c0_waitForGuardOrTime_b60 r_timedWait_b49
  refine P2.ite Iff.rfl (fun _ _ => p_tw_end q hn hp ht) (fun _ _ => ?_)
  refine P2.l (c1_clock_n q.1 hn (q.2.hp hp)) ?_
  rw [q.2.clk n]
  refine P2.bind (p_local q hn (-5)) (fun o p q2 => ?_)
  obtain ⟨o1, S2⟩ := o
  obtain ⟨p1, R2⟩ := p
  obtain ⟨e1, e2, q2⟩ := q2
  have e1 : o1 = p1 := e1
  subst e1
  refine P2.l (isLater_n _ _) (P2.r (r_isLater_n _ _) ?_)
  refine P2.ite Iff.rfl (fun _ _ => p_tw_end q2 hn hp ht) (fun _ _ => ?_)
  refine P2.bind (p_setLocal q2 hn (-3) rfl) (fun S3 R3 q3 => ?_)
  refine P2.l (c1_clock_n q3.1 hn (q3.2.hp hp)) ?_
  refine P2.bind (p_setLocal q3 hn (-5) (q3.2.clk n)) (fun S4 R4 q4 => ?_)
  exact P2.ret ⟨rfl, q4.1⟩
theorem p_timedWait {N : xN} {D : Nat} {S R : xS} (h : REL E0 (LX D N) N S R) {n : Nat} (hn : inN n N) (hp : xI R 0 11 n = 0 ∨ xI R 0 11 n = 1) : P2 (c0_waitForGuardOrTime n S) (r_timedWait R (nI n) (rClk R n)) (Q1 E0 (LX D N) N) := by
  have h8 := h.le8 hn
  unfold c0_waitForGuardOrTime r_timedWait
  refine P2.bind (p_setLocal ⟨h, FRM.rfl' R⟩ hn 0 rfl) (fun S1 R1 q1 => ?_)
  refine P2.bind (p_local q1 hn (-3)) (fun o p q => ?_)
  obtain ⟨o1, S2⟩ := o
  obtain ⟨p1, R2⟩ := p
  obtain ⟨e1, e2, q2⟩ := q
  have e1 : o1 = p1 := e1
  subst e1
  refine P2.ite Iff.rfl (fun _ _ => ?_) (fun _ _ => ?_)
  · refine P2.l (c1_clock_n q2.1 hn (q2.2.hp hp)) ?_
    refine P2.bind (p_setLocal q2 hn (-5) (q2.2.clk n)) (fun S4 R4 q4 => ?_)
    exact P2.ret ⟨rfl, q4.1⟩
  · refine P2.bind (p_local q2 hn (-4)) (fun o p q => ?_)
    obtain ⟨o3, S3⟩ := o
    obtain ⟨p3, R3⟩ := p
    obtain ⟨e3, e4, q3⟩ := q
    have e3 : o3 = p3 := e3
    subst e3
    exact P2.ite Iff.rfl (fun _ _ => p_tw_60 q3 hn hp (Or.inr rfl)) (fun _ _ => p_tw_60 q3 hn hp (Or.inl rfl))
theorem rPop_frm {R : xS} {n j k : Nat} (h : j ≠ 5) (h2 : j ≠ 6) : xI (rPop R n) 0 j k = xI R 0 j k := rPop_o R n j k h h2
theorem p_timerIn {N : xN} {D : Nat} {S R : xS} (h : REL E0 (LX D N) N S R) {n : Nat} (hn : inN n N) (hp : xI R 0 11 n = 0 ∨ xI R 0 11 n = 1) : P2 (c0_inputTime n S) (r_timerIn R (nI n) (xI R 0 5 n) (rClk R n)) (Q1 E0 (LX D N) N) := by
  have h8 := h.le8 hn
  have hp1 : xI (rPop R n) 0 11 n = 0 ∨ xI (rPop R n) 0 11 n = 1 := by rw [rPop_frm (by decide) (by decide)]; exact hp
  have ec : rClk (rPop R n) n = rClk R n := by
    unfold rClk
    rw [rPop_frm (by decide) (by decide), rPop_frm (by decide) (by decide)]
  unfold c0_inputTime r_timerIn
  rw [h.g_A hn (okE0 n).1]
  refine P2.l (c9_pop_n _ _) (P2.r (r_pop_n _ h8) ?_)
  have h1 := h.pop hn (okE0 n)
  refine P2.l (c1_clock_n h1 hn hp1) ?_
  rw [ec]
  generalize xI R 0 5 n = t
  refine P2.l (isLater_n _ _) (P2.r (r_isLater_n _ _) ?_)
  refine P2.ite Iff.rfl (fun _ _ => ?_) (fun _ _ => P2.ret ⟨rfl, h1⟩)
  refine P2.bind (p_setLocal ⟨h1, FRM.rfl' _⟩ hn (-5) rfl) (fun S2 R2 q2 => ?_)
  refine P2.bind (p_setLocal q2 hn (-4) rfl) (fun S3 R3 q3 => ?_)
  refine P2.bind (p_setLocal q3 hn (-3) rfl) (fun S4 R4 q4 => ?_)
  refine P2.r (r_own_n _ h8) (P2.r (r_waits_n _ h8) ?_)
  exact P2.bind (p_waitTime q4.1 (TX_LX D N hn.1) hn (q4.2.hp hp1) t) (fun a b q => P2.ret ⟨rfl, q⟩)
/-- a link's guard is set -/
theorem lk_guard {N : xN} {D : Nat} {s r : xS} (hl : LX D N s r) (hN : N.1 ≤ 8) {n k : Nat} (hn : inN n N) (hk : k < 4) {v : Int32} (hv : v = -1 ∨ v &&& 65535 = v) : LX D N (sI s n (12 + k) 11 v) (sI r 0 51 (4 * n + k) v) := by
  have nk := hl.1 n hn.1
  have q0 := nk.q0 hn.2
  obtain ⟨o1, ⟨o2, o3, o4, o5, o6, o7⟩, o8, o9, o10, o11, o12, o13⟩ := nk.2.1 k hk
  refine hl.link (Nat.le_refl D) hn.1 hk (fun a b hab => ?_) rfl (fun j e he => ?_) ?_ hN ⟨?_, ⟨?_, ?_, ?_, ?_, ?_, ?_⟩, ?_, ?_, ?_, ?_, ?_, ?_⟩ (Or.inr q0)
  · rw [xI_fn_ne _ _ (by omega)]
  · simp (disch := omega) only [xI_ne]
  · simp (disch := omega) only [xI_ne]
  · refine o1.c7 ?_ ?_ <;> simp (disch := omega) only [rr, xI_ne, xI_eq, and_self]
  · simp (disch := omega) only [rr, xI_ne, xI_eq]; exact o2
  · simp (disch := omega) only [rr, xI_ne, xI_eq]; exact o3
  · simp (disch := omega) only [rr, xI_ne, xI_eq]; exact o4
  · simp (disch := omega) only [rr, xI_ne, xI_eq]; exact o5
  · simp (disch := omega) only [rr, xI_ne, xI_eq]; exact o6
  · simp (disch := omega) only [rr, xI_ne, xI_eq]
  · simp (disch := omega) only [rr, xI_ne, xI_eq]; exact o8
  · simp (disch := omega) only [rr, xI_ne, xI_eq]; exact o9
  · simp (disch := omega) only [rr, xI_ne, xI_eq]; exact hv
  · refine o11.c ?_ ?_ <;> simp (disch := omega) only [rr, xI_ne, xI_eq, and_self]
  · refine o12.c ?_ ?_ <;> simp (disch := omega) only [rr, xI_ne, xI_eq, and_self]
  · intro z
    exact absurd z (by rw [q0]; decide)
theorem REL.guard {E : Nat → Nat → Prop} {N : xN} {D : Nat} {S R : xS} (h : REL E (LX D N) N S R) {n k : Nat} (hn : inN n N) (hk : k < 4) {v : Int32} (hv : v = -1 ∨ v &&& 65535 = v) : REL E (LX D N) N (sI S n (12 + k) 11 v) (sI R 0 51 (4 * n + k) v) := ((h.xv.cv (n := n) (j := 12 + k) (k := 11) (by omega) v).rv (j := 51) (k := 4 * n + k) (by omega) v).un (lk_guard h.lx.ofv h.1 hn hk hv)
theorem REL.g_kept {E : Nat → Nat → Prop} {N : xN} {D : Nat} {S R : xS} (h : REL E (LX D N) N S R) {n k : Nat} (hn : inN n N) (hk : k < 4) : xI S n (12 + k) 10 = xI R 0 50 (4 * n + k) := ((h.lx.1 n hn.1).2.1 k hk).2.1.2.2.2.2.1
theorem REL.g_grd {E : Nat → Nat → Prop} {N : xN} {D : Nat} {S R : xS} (h : REL E (LX D N) N S R) {n k : Nat} (hn : inN n N) (hk : k < 4) : xI S n (12 + k) 11 = xI R 0 51 (4 * n + k) := ((h.lx.1 n hn.1).2.1 k hk).2.1.2.2.2.2.2
theorem gq_link {α : Type} {n k : Nat} (hk : k < 4) (x : Option α) : gq (n = n ∧ 12 ≤ 12 + k ∧ 12 + k < 16) x = x := if_pos ⟨rfl, by omega, by omega⟩
theorem p_enables {N : xN} {D : Nat} {S R : xS} (h : REL E0 (LX D N) N S R) {n : Nat} (hn : inN n N) (hp : xI R 0 11 n = 0 ∨ xI R 0 11 n = 1) : P2 (c0_enableChannel n S) (if (xI R 0 5 n) = 0 then (xnm (sI R 0 6 n (xI R 0 7 n)) (fun S45 => some ((1 : Int32), S45))) else ((r_enables R (nI n) (xI R 0 6 n)).bind (fun S46 => (xnm (sI S46 0 6 n (xI R 0 7 n)) (fun S47 => some ((1 : Int32), S47)))))) (Q1 E0 (LX D N) N) := by
  have h8 := h.le8 hn
  have wB := h.w_B hn (okE0 n).2.1
  have fin : ∀ {S1 R1 : xS}, REL E0 (LX D N) N S1 R1 → xI R1 0 7 n = xI R 0 7 n → P2 (xnm (sI S1 n 4 1 (xI S1 n 4 2)) (fun S2 => some S2)) (xnm (sI R1 0 6 n (xI R 0 7 n)) (fun S32 => some ((1 : Int32), S32))) (Q1 E0 (LX D N) N) := by
    intro S1 R1 q1 q2
    refine P2.ret ⟨rfl, q1.s_B hn ?_ (h.w_C hn (okE0 n).2.2)⟩
    rw [q1.g_C hn (okE0 n).2.2, q2]
  unfold c0_enableChannel r_enables
  rw [h.g_A hn (okE0 n).1, h.g_B hn (okE0 n).2.1]
  refine P2.ite Iff.rfl (fun _ _ => fin h rfl) (fun _ _ => ?_)
  rcases link_cases wB n with ⟨k, hk, l1, l2, l3⟩ | ⟨l1, l2⟩
  · have l33 : 4 * n + k < 33 := by omega
    rw [l2]
    refine P2.l (l1 S) ?_
    show P2 (gq (n = n ∧ 12 ≤ 12 + k ∧ 12 + k < 16) _) _ _
    rw [gq_link hk]
    rw [Option.bind_some, if_neg n10, l3]
    simp only [Option.bind_some, g33 l33, nI_clamp (show 4 * n + k < 2 ^ 31 by omega)]
    unfold c0_enableLink
    rw [h.g_kept hn hk]
    by_cases e : xI R 0 50 (4 * n + k) = -1
    · rw [if_pos e, if_pos e, c1_own_n, r_own_n _ h8, h.own hn hp]
      simp only [Option.bind_some]
      exact fin (h.guard hn hk (Or.inr (w16_own (h.w_W hn) hp))) (by simp (disch := omega) only [xI_ne])
    · rw [if_neg e, if_neg e]
      obtain ⟨a, b, x1, x2, x3⟩ := p_setLocal ⟨h, FRM.rfl' R⟩ hn (-3) (v := 32771) rfl
      rw [x1, x2]
      simp only [Option.bind_some]
      exact fin x3.1 (x3.2 7 n (by decide) (by decide))
  · rw [l2]
    refine P2.l (l1 S) ?_
    show P2 ((c0_enableWord n S (xI S n 4 1)).bind _) _ _
    rw [Option.bind_some, if_pos rfl, h.g_B hn (okE0 n).2.1]
    unfold c0_enableWord
    have h1 := h.tw hn (a := xI R 0 6 n) rfl
    have f1 := (FRM.rfl' R).uw n (xI R 0 6 n)
    rw [c5_wordAt_n, r_word_n _ h8, h.gw hn (a := xI R 0 6 n) rfl]
    simp only [Option.bind_some, c1_own_n, r_own_n _ h8]
    rw [h1.own hn (f1.hp hp)]
    by_cases e : rGw R n (xI R 0 6 n) = 32768
    · rw [if_pos e, if_pos e, c5_setWord_n, r_wordTo_n _ h8]
      simp only [Option.bind_some]
      exact fin (h1.pw hn rfl rfl) ((f1.pw n _ _) 7 n (by decide) (by decide))
    · rw [if_neg e, if_neg e]
      by_cases e2 : rGw R n (xI R 0 6 n) = rOwn (rUw R n (xI R 0 6 n)) n
      · rw [if_pos e2, if_pos e2]
        simp only [Option.bind_some]
        exact fin h1 (f1 7 n (by decide) (by decide))
      · rw [if_neg e2, if_neg e2]
        obtain ⟨a, b, x1, x2, x3⟩ := p_setLocal ⟨h1, f1⟩ hn (-3) (v := 32771) rfl
        rw [x1, x2]
        simp only [Option.bind_some]
        exact fin x3.1 (x3.2 7 n (by decide) (by decide))
