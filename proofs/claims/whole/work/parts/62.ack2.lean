/-! an acknowledgement, on both sides -/
theorem g8x {α : Type} {n : Nat} {k : Option α} (hn : n < 8) : gd (nI n) 8 k = k := gI hn
theorem p_ack {N : xN} {D : Nat} {S R : xS} (h : REL E0 (LX D N) N S R) {n : Nat} (hn : n < N.1) (hww : N.2 (8 + n)) {k : Nat} (hk : k < 4) (h6 : xI S n (12 + k) 6 = 0) (h41 : xI R 0 41 (4 * n + k) = 0) (hne : ¬ xI R 0 45 (4 * n + k) = 0) : P2 (c4_acknowledge n (12 + k) S) (xnm (sI R 0 45 (4 * n + k) (xI R 0 45 (4 * n + k) - 1)) (fun S4 => if nI (4 * n + k) = (32 : Int32) then (xnm (sI S4 0 0 59 ((xI S4 0 0 59) + (1 : Int32))) (fun S15 => some S15)) else (if (xI S4 0 43 (4 * n + k)) = 0 then (xnm (sI S4 0 46 (4 * n + k) (((xI S4 0 46 (4 * n + k)) + (1 : Int32)) &&& (65535 : Int32))) (fun S14 => r_acknowledged_b80 (nI (4 * n + k)) S14)) else (r_acknowledged_b80 (nI (4 * n + k)) S4)))) (REL E0 (LX D N) N) := by
  have h8 : n < 8 := Nat.lt_of_lt_of_le hn h.1
  have he : 4 * n + k ≤ 32 := by omega
  have ne32 : ¬ nI (4 * n + k) = 32 := fun z => absurd ((nI_eq (b := 32) (by omega) (by decide)).mp z) (by omega)
  obtain ⟨s, r, hx, hl⟩ := h.opn
  have nk := hl.1 n hn
  obtain ⟨o1, ⟨o2, o3, o4, o5, o6, o7⟩, o8, o9, o10, o11, o12, o13⟩ := nk.2.1 k hk
  have r41 : xI r 0 41 (4 * n + k) = 0 := by rw [← hx.r_eq (by omega)]; exact h41
  have r45 : ¬ xI r 0 45 (4 * n + k) = 0 := by rw [← hx.r_eq (by omega)]; exact hne
  have l3 : xI S n (12 + k) 3 = xI r 0 45 (4 * n + k) := by rw [hx.c_eq (by omega)]; exact o3
  have l2 : xI S n (12 + k) 2 = xI r 0 44 (4 * n + k) := by rw [hx.c_eq (by omega)]; exact o2
  have l5 : xI S n (12 + k) 5 = xI s n (12 + k) 5 := hx.c_eq (by omega)
  have l4 : xI S n (12 + k) 4 = xI s n (12 + k) 4 := hx.c_eq (by omega)
  unfold c4_acknowledge c4_acknowledge_b52 c4_finishSending r_acknowledged_b80
  refine P2.pl h6 (P2.xl (P2.xl (P2.xr (P2.nr ne32 ?_))))
  simp (disch := omega) only [xI_ne, xI_eq, g33x he, nI_clamp (show 4 * n + k < 2 ^ 31 by omega), e_div n hk h8, g8x h8, cl8 h8, nar0]
  rw [l3, l4, l5, l2, hx.r_eq (j := 43) (by omega), hx.r_eq (j := 44) (by omega), hx.r_eq (j := 45) (by omega), hx.r_eq (j := 46) (by omega)]
  rcases o12 with q | q | q
  · exact absurd q.2.1 r45
  · obtain ⟨q1, ⟨m, hm1, hm2, q2⟩, q3, q4, q5, q6⟩ := q
    have hin : inN n N := ⟨hn, fun z => absurd (nk.1.mp z) (by rw [q6]; decide)⟩
    have q2' : xI r 0 45 (4 * n + k) = nI m := q2
    have q3' : xI r 0 43 (4 * n + k) = 0 := q3
    have q1' : xI r 0 44 (4 * n + k) &&& 65535 = xI r 0 44 (4 * n + k) := q1
    have q5' : xI s n (12 + k) 4 &&& 65535 = xI r 0 46 (4 * n + k) := q5
    have ea : (xI s n (12 + k) 4 + 1) &&& 65535 = (xI r 0 46 (4 * n + k) + 1) &&& 65535 := by rw [← q5']; exact add1_16 _
    have em : nI m - 1 = nI (m - 1) := pk_sub (a := m) (b := 1) hm1
    rw [if_pos q4, if_pos q3', q2', em]
    refine P2.xr ?_
    simp (disch := omega) only [xI_ne, xI_eq]
    rw [hx.r_eq (j := 43) (by omega), hx.r_eq (j := 44) (by omega), if_pos q3']
    have h2 := (((hx.cv (n := n) (j := 12 + k) (k := 3) (by omega) (nI (m - 1))).cv (n := n) (j := 12 + k) (k := 4) (by omega) (xI s n (12 + k) 4 + 1)).rv (j := 45) (k := 4 * n + k) (by omega) (nI (m - 1))).rv (j := 46) (k := 4 * n + k) (by omega) ((xI r 0 46 (4 * n + k) + 1) &&& 65535)
    by_cases m1 : m = 1
    · subst m1
      have e0 : nI (1 - 1) = 0 := rfl
      rw [e0] at h2 ⊢
      refine P2.pl rfl (P2.pr (by decide) ?_)
      have h3 := ((h2.cv (n := n) (j := 12 + k) (k := 2) (by omega) (-1)).cv (n := n) (j := 12 + k) (k := 5) (by omega) (-1)).rv (j := 44) (k := 4 * n + k) (by omega) (-1)
      have h4 := h3.un (lk_ack2 hl h.1 hn hk q6 _ _ q3' r41)
      refine P2.some_l (P2.xl (P2.xl (P2.nl (ne_m1 q1') (P2.xr ?_))))
      refine P2.l (c1_makeReady_n _ _ _) (P2.r (r_ready_n _ h8 _) (P2.ret ?_))
      exact h4.rdy hin rfl
    · have n1 : ¬ nI (m - 1) = 0 := nI_ne0 (by omega) (by omega)
      refine P2.nl n1 (P2.nr (nI_nle (by omega) (by omega)) (P2.ret ?_))
      exact h2.un (lk_ack1 hl h.1 hn hk q6 q1' q3' q4 (by omega) (by omega) ea)
  · obtain ⟨q1, q2, ⟨w, hw, q3, q4⟩, q5⟩ := q
    have q2' : ¬ xI r 0 43 (4 * n + k) = 0 := by rw [show xI r 0 43 (4 * n + k) = 1 from q2]; decide
    have nm : ∀ x, x < 65536 → ¬ nI x = -1 := fun x hx => ne_m1 (w16_nI hx)
    have q1' : xI r 0 44 (4 * n + k) = -1 := q1
    rw [if_neg q2', if_neg q2']
    rcases q4 with ⟨q4, q6⟩ | ⟨q4, q6⟩
    · have q4' : xI r 0 45 (4 * n + k) = 2 := q4
      rw [q4', q6, show (2 : Int32) - 1 = 1 from by decide]
      refine P2.nl (nm w hw) (P2.xl ?_)
      rw [pk_shrN (by omega) _ 8 (by decide), show w / 2 ^ 8 = w / 256 from rfl]
      simp (disch := omega) only [xI_ne, xI_eq]
      refine P2.nl n10 (P2.nr (by decide) (P2.ret ?_))
      have h2 := (((hx.cv (n := n) (j := 12 + k) (k := 3) (by omega) 1).cv (n := n) (j := 12 + k) (k := 4) (by omega) (xI s n (12 + k) 4 + 1)).cv (n := n) (j := 12 + k) (k := 5) (by omega) (nI (w / 256))).rv (j := 45) (k := 4 * n + k) (by omega) 1
      exact h2.un (lk_ack3 hl h.1 hn hk _ hw q1' q2 q3 q4' q5)
    · have q4' : xI r 0 45 (4 * n + k) = 1 := q4
      rw [q4', q6, show (1 : Int32) - 1 = 0 from by decide]
      refine P2.nl (nm (w / 256) (by omega)) (P2.xl ?_)
      simp (disch := omega) only [xI_ne, xI_eq]
      refine P2.pl trivial (P2.pr (by decide) ?_)
      rw [l2, q1']
      refine P2.some_l (P2.xl (P2.xl (P2.pl rfl (P2.xr (P2.xr (P2.xr (P2.ret ?_)))))))
      have h2 := ((((((((hx.cv (n := n) (j := 12 + k) (k := 3) (by omega) 0).cv (n := n) (j := 12 + k) (k := 4) (by omega) (xI s n (12 + k) 4 + 1)).cv (n := n) (j := 12 + k) (k := 5) (by omega) (nI (w / 256) >>> ((8 : Int32) &&& 31))).cv (n := n) (j := 12 + k) (k := 2) (by omega) (-1)).cv (n := n) (j := 12 + k) (k := 5) (by omega) (-1)).rv (j := 45) (k := 4 * n + k) (by omega) 0).rv (j := 43) (k := 4 * n + k) (by omega) 0).rv (j := 53) (k := n) (by omega) (-1)).rv (j := 54) (k := n) (by omega) (-1)
      exact h2.un (lk_ack4 hl h.1 hn hww hk _ _ q1' r41 q5)
