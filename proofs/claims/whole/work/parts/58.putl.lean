/-! a link puts a bit -/
theorem p_put_data {D : Nat} {E : Nat → Nat → Prop} {N : xN} {S R R' S' s r : xS} (hx : REL E (XV s r) N S R) (hx' : REL E (XV s r) N S' R') {n j e : Nat} (hj : 16 ≤ j) (he : e ≤ 32) (hE : EPp D (xI s n j) (rr r e)) (h0 : xI r 0 36 e = 0) (h1 : xI r 0 40 e = 0) (h2 : xI r 0 41 e = 0) (h3 : ¬ xI r 0 45 e ≤ 0) {v : Nat} (hv : v < 256) (hg : r_goes (sI (sI R 0 41 e 1) 0 42 e 1) (nI e) = some (nI v, sI (sI R' 0 41 e 1) 0 42 e 1)) : P2 ((c2_beginData n j S' (nI v)).bind (fun S10 => c2_putNextBit n j S10)) (r_puts R (nI e)) (QB D E N (sI s n j 7 1) (sI (sI r 0 41 e 1) 0 42 e 1) n j e) := by
  have p2 : xI r 0 37 e = 0 := by
    obtain ⟨b3, b4, b5, b6, b7, b8, b9, w1, w8, w5, w6, w7, wp⟩ := hE
    rcases wp with ⟨p1, p2, p3⟩ | ⟨z, u, w, hz, hu, hw, p1, p2, p3, p4⟩
    · exact p2
    · exact absurd h0 (by show ¬ rr r e 3 = 0; rw [p1]; exact nI_ne0 (by omega) (by omega))
  have h37 : sI R 0 37 e 0 = R := by
    have := sI_id R 0 37 e
    rw [hx.r_eq (by omega), p2] at this
    exact this
  unfold r_puts
  simp only [g33x he, nI_clamp (show e < 2 ^ 31 by omega), nar1]
  rw [hx.r_eq (j := 36) (by omega), if_pos h0, h37]
  refine P2.xr ?_
  rw [hx.r_eq (j := 40) (by omega), hx.r_eq (j := 41) (by omega), hx.r_eq (j := 45) (by omega)]
  refine P2.pr (by rw [h1]; decide) (P2.pr h2 (P2.nr h3 (P2.xr (P2.xr (P2.r hg ?_)))))
  have fin := p_put1 hx' hj he hE h0 hv
  simp only [g33x he] at fin
  exact fin
theorem lk_pb {D : Nat} {N : xN} {s r s1 r1 s' r' : xS} (hl : LX D N s r) (hN : N.1 ≤ 8) {n k : Nat} (hn : n < N.1) (hk : k < 4) (f1 : ∀ a b, ¬ (a = n ∧ b = 16 + k) → xI s1 a b = xI s a b) (f2 : s1.2 = s.2) (f3 : xI s1 n (16 + k) 1 = xI s n (16 + k) 1) (f4 : ∀ jj ee, ¬ (ee = 4 * n + k ∧ (jj = 41 ∨ jj = 42)) → xI r1 0 jj ee = xI r 0 jj ee) (pb : PB D s1 r1 s' r' n (16 + k) (4 * n + k)) (hs : (xI s n (12 + k) 6 = 1 ∧ xI r1 0 41 (4 * n + k) = 1 ∧ xI r1 0 42 (4 * n + k) = 0) ∨ (xI s n (12 + k) 6 = 0 ∧ (xI r1 0 41 (4 * n + k) = 0 ∨ xI r1 0 42 (4 * n + k) = 1))) (ho : OUp (xI s n (12 + k)) (rr r1 (4 * n + k)) (xI s n 0) (rb r n) k) : LX D N s' r' := by
  obtain ⟨g1, g2, g3, g4, g5⟩ := pb
  obtain ⟨o1, ⟨o2, o3, o4, o5, o6, o7⟩, o8, o9, o10, o11, o12, o13⟩ := (hl.1 n hn).2.1 k hk
  have el : xI s' n (12 + k) = xI s n (12 + k) := by rw [g1 n (12 + k) (by omega), f1 n (12 + k) (by omega)]
  have er : ∀ i, 10 ≤ i → rr r' (4 * n + k) i = rr r (4 * n + k) i := by
    intro i hi
    unfold rr
    rw [g4 _ _ (by omega), f4 _ _ (by omega)]
  have er1 : ∀ i, 8 ≤ i → rr r' (4 * n + k) i = rr r1 (4 * n + k) i := by
    intro i hi
    unfold rr
    rw [g4 _ _ (by omega)]
  refine hl.link (Nat.le_refl D) hn hk (fun a b hab => ?_) ?_ (fun jj ee hh => ?_) ?_ hN ⟨g5, ⟨?_, ?_, ?_, ?_, ?_, ?_⟩, ?_, ?_, ?_, ?_, ?_, ?_⟩ (Or.inl (by rw [el]))
  · rw [g1 a b (by omega), f1 a b (by omega)]
  · rw [g2, f2]
  · rw [g4 jj ee (by omega), f4 jj ee (by omega)]
  · rw [g3, f3]
  · rw [el, er 11 (by decide)]; exact o2
  · rw [el, er 12 (by decide)]; exact o3
  · rw [el, er 14 (by decide)]; exact o4
  · rw [el, er 15 (by decide)]; exact o5
  · rw [el, er 17 (by decide)]; exact o6
  · rw [el, er 18 (by decide)]; exact o7
  · rw [el, er1 8 (by decide), er1 9 (by decide)]; exact hs
  · rw [er 17 (by decide)]; exact o9
  · rw [er 18 (by decide)]; exact o10
  · exact o11.c (by rw [el]) ⟨er 14 (by decide), er 15 (by decide), er 16 (by decide)⟩
  · exact ho.c ⟨by rw [el], by rw [el]⟩ ⟨er1 8 (by decide), er1 9 (by decide), er1 10 (by decide), er1 11 (by decide), er1 12 (by decide), er1 13 (by decide)⟩
  · rw [er 14 (by decide), er 18 (by decide)]; exact o13
theorem cGb_adr (S : xS) (n : Nat) {a b : Int32} (h : a &&& 65535 = b &&& 65535) : cGb S n a = cGb S n b := by
  unfold cGb
  rw [(m16_iff a b).mp h]
theorem cTb_adr (S : xS) (n : Nat) {a b : Int32} (h : a &&& 65535 = b &&& 65535) : cTb S n a = cTb S n b := by
  unfold cTb
  rw [(m16_iff a b).mp h]
theorem rUb_sI (R : xS) {j k : Nat} (v : Int32) (n : Nat) (a : Int32) (h : j ≠ 18) : rUb (sI R 0 j k v) n a = sI (rUb R n a) 0 j k v := by
  unfold rUb
  by_cases e : inM (adr a)
  · rw [if_pos e, if_pos e]
  · rw [if_neg e, if_neg e, sI_comm _ _ _ (by omega)]
theorem rGb_sI (R : xS) {j k : Nat} (v : Int32) (n : Nat) (a : Int32) (h : j ≠ 4) : rGb (sI R 0 j k v) n a = rGb R n a := by
  unfold rGb
  rw [rB_sI _ _ _ _ h]
theorem e_div (n : Nat) {k : Nat} (hk : k < 4) (hn : n < 8) : nI (4 * n + k) / 4 = nI n := by
  rw [show (4 : Int32) = nI 4 from rfl, pk_div (by omega) (by decide) (by decide)]
  congr 1
  omega
theorem i_255 (x : Nat) (h : x < 2 ^ 31) : nI x &&& 255 = nI (x % 256) := by
  rw [pk_and _ 8 (by decide), pk_tn (by omega)]
theorem p_putLink {N : xN} {D : Nat} (hD : D < 1073741824) {S R : xS} (h : REL E0 (LX D N) N S R) {n : Nat} (hn : n < N.1) {k : Nat} (hk : k < 4) : P2 (c4_putBit n (12 + k) S) (r_puts R (nI (4 * n + k))) (fun o p => REL E0 (LX D N) N o (sI p.2 0 34 (4 * n + k) p.1)) := by
  have h8 : n < 8 := Nat.lt_of_lt_of_le hn h.1
  have he : 4 * n + k ≤ 32 := by omega
  obtain ⟨s, r, hx, hl⟩ := h.opn
  have nk := hl.1 n hn
  obtain ⟨o1, ⟨o2, o3, o4, o5, o6, o7⟩, o8, o9, o10, o11, o12, o13⟩ := nk.2.1 k hk
  have o3' : xI S n (12 + k) 3 = xI r 0 45 (4 * n + k) := by rw [hx.c_eq (by omega)]; exact o3
  have c3 : xI S n (16 + k) 3 = xI r 0 36 (4 * n + k) := by rw [hx.c_eq (by omega)]; exact o1.1
  have c6 : xI S n (16 + k) 6 = xI r 0 40 (4 * n + k) := by rw [hx.c_eq (by omega)]; exact o1.2.2.2.1
  have c7 : xI S n (16 + k) 7 = xI r 0 41 (4 * n + k) := by rw [hx.c_eq (by omega)]; exact o1.2.2.2.2.1
  -- no data begins
  have nod : ¬ xI r 0 36 (4 * n + k) = 0 ∨ ¬ xI r 0 40 (4 * n + k) = 0 ∨ ¬ xI r 0 41 (4 * n + k) = 0 ∨ xI r 0 45 (4 * n + k) ≤ 0 → P2 ((c2_putNextBit n (16 + k) S).bind (fun S2 => some S2)) (r_puts R (nI (4 * n + k))) (fun o p => REL E0 (LX D N) N o (sI p.2 0 34 (4 * n + k) p.1)) := by
    intro hno
    refine P2.some_l (P2.mono (p_put0 hD hx (by omega) he o1 hno) ?_)
    rintro o p ⟨s', r', pb, hq⟩
    exact hq.un (lk_pb hl h.1 hn hk (fun a b _ => rfl) rfl rfl (fun _ _ _ => rfl) pb o8 o12)
  unfold c4_putBit
  rw [show 12 + k + 4 = 16 + k by omega, o3']
  by_cases e1 : xI r 0 45 (4 * n + k) ≤ 0
  · rw [if_pos e1]
    exact nod (Or.inr (Or.inr (Or.inr e1)))
  · rw [if_neg e1]
    unfold c2_mayBeginData
    rw [c3, c6, c7]
    by_cases e2 : xI r 0 36 (4 * n + k) = 0
    · rw [if_pos e2]
      by_cases e3 : xI r 0 40 (4 * n + k) = 0
      · rw [if_pos e3]
        by_cases e4 : xI r 0 41 (4 * n + k) = 0
        · rw [if_pos e4]
          refine P2.l rfl (P2.nl n10 ?_)
          have l5 : xI S n (12 + k) 5 = xI s n (12 + k) 5 := hx.c_eq (by omega)
          have l4 : xI S n (12 + k) 4 = xI s n (12 + k) 4 := hx.c_eq (by omega)
          have st : xI s n (12 + k) 6 = 0 := by
            rcases o8 with q | q
            · exact absurd (show xI r 0 41 (4 * n + k) = 1 from q.2.1) (by rw [e4]; decide)
            · exact q.1
          -- behind the byte that begins
          have fin : ∀ {S' R' : xS} {v : Nat}, REL E0 (XV s r) N S' R' → v < 256 → r_goes (sI (sI R 0 41 (4 * n + k) 1) 0 42 (4 * n + k) 1) (nI (4 * n + k)) = some (nI v, sI (sI R' 0 41 (4 * n + k) 1) 0 42 (4 * n + k) 1) → OUp (xI s n (12 + k)) (rr (sI (sI r 0 41 (4 * n + k) 1) 0 42 (4 * n + k) 1) (4 * n + k)) (xI s n 0) (rb r n) k → P2 ((c2_beginData n (16 + k) S' (nI v)).bind (fun S10 => (c2_putNextBit n (16 + k) S10).bind (fun S11 => some S11))) (r_puts R (nI (4 * n + k))) (fun o p => REL E0 (LX D N) N o (sI p.2 0 34 (4 * n + k) p.1)) := by
            intro S' R' v hx' hv hg hou
            obtain ⟨a, b, x1, x2, s', r', pb, hq⟩ := p_put_data hx hx' (j := 16 + k) (by omega) he o1 e2 e3 e4 e1 hv hg
            rw [x2]
            refine ⟨a, b, ?_, rfl, hq.un (lk_pb hl h.1 hn hk (fun a b hab => xI_fn_ne _ _ (by omega)) rfl (xI_ne _ _ (by omega)) (fun jj ee hh => ?_) pb (Or.inr ⟨st, Or.inr (xI_eq _ _ _ _ _)⟩) hou)⟩
            · cases hb : c2_beginData n (16 + k) S' (nI v) with
              | none => rw [hb] at x1; cases x1
              | some w =>
                rw [hb, Option.bind_some] at x1
                rw [Option.bind_some, x1]
                rfl
            · rw [xI_ne _ _ (by omega), xI_ne _ _ (by omega)]
          have hgo : r_goes (sI (sI R 0 41 (4 * n + k) 1) 0 42 (4 * n + k) 1) (nI (4 * n + k)) = if xI r 0 43 (4 * n + k) = 0 then some (rGb R n (xI r 0 46 (4 * n + k)), sI (sI (rUb R n (xI r 0 46 (4 * n + k))) 0 41 (4 * n + k) 1) 0 42 (4 * n + k) 1) else if xI r 0 45 (4 * n + k) = 2 then some (xI r 0 46 (4 * n + k) &&& 255, sI (sI R 0 41 (4 * n + k) 1) 0 42 (4 * n + k) 1) else some ((xI r 0 46 (4 * n + k) >>> ((8 : Int32) &&& 31)) &&& 255, sI (sI R 0 41 (4 * n + k) 1) 0 42 (4 * n + k) 1) := by
            have ne32 : ¬ nI (4 * n + k) = 32 := fun z => absurd ((nI_eq (b := 32) (by omega) (by decide)).mp z) (by omega)
            unfold r_goes
            rw [if_neg ne32]
            simp only [g33x he, nI_clamp (show 4 * n + k < 2 ^ 31 by omega), e_div n hk h8, r_byteAt_n _ h8, Option.bind_some]
            simp (disch := omega) only [xI_ne, rUb_sI, rGb_sI]
            rw [hx.r_eq (j := 43) (by omega), hx.r_eq (j := 45) (by omega), hx.r_eq (j := 46) (by omega)]
          rcases o12 with q | q | q
          · exact absurd (show xI r 0 45 (4 * n + k) ≤ 0 by rw [show xI r 0 45 (4 * n + k) = 0 from q.2.1]; decide) e1
          · obtain ⟨q1, q2, q3, q4, q5, q6⟩ := q
            have hin : inN n N := ⟨hn, fun z => absurd (nk.1.mp z) (by rw [q6]; decide)⟩
            have q3' : xI r 0 43 (4 * n + k) = 0 := q3
            rw [if_pos q3'] at hgo
            refine P2.pl (l5.trans q4) (P2.l (c5_byteAt_n _ _ _) ?_)
            have ea : xI S n (12 + k) 4 &&& 65535 = xI r 0 46 (4 * n + k) &&& 65535 := by
              rw [l4, show xI s n (12 + k) 4 &&& 65535 = xI r 0 46 (4 * n + k) from q5, ← show xI s n (12 + k) 4 &&& 65535 = xI r 0 46 (4 * n + k) from q5, w16]
            rw [cGb_adr S n ea, cTb_adr S n ea, hx.gb hin rfl]
            obtain ⟨v, hv, ev⟩ := rGb_nat R n (xI r 0 46 (4 * n + k))
            rw [ev] at hgo ⊢
            refine fin (hx.tb hin rfl) hv hgo (Or.inr (Or.inl ?_))
            simp (disch := omega) only [rr, xI_ne, xI_eq]
            exact ⟨q1, q2, q3, q4, q5, q6⟩
          · obtain ⟨q1, q2, ⟨w, hw, q3, q4⟩, q5⟩ := q
            have q2' : ¬ xI r 0 43 (4 * n + k) = 0 := by rw [show xI r 0 43 (4 * n + k) = 1 from q2]; decide
            have q3' : xI r 0 46 (4 * n + k) = nI w := q3
            rw [if_neg q2', q3'] at hgo
            have nm : ∀ x, x < 65536 → ¬ nI x = -1 := fun x hx => ne_m1 (w16_nI hx)
            have hou : OUp (xI s n (12 + k)) (rr (sI (sI r 0 41 (4 * n + k) 1) 0 42 (4 * n + k) 1) (4 * n + k)) (xI s n 0) (rb r n) k := by
              refine Or.inr (Or.inr ?_)
              simp (disch := omega) only [rr, xI_ne, xI_eq]
              exact ⟨q1, q2, ⟨w, hw, q3, q4⟩, q5⟩
            rcases q4 with ⟨q4, q6⟩ | ⟨q4, q6⟩
            · rw [if_pos (show xI r 0 45 (4 * n + k) = 2 from q4), i_255 w (by omega)] at hgo
              rw [l5, q6]
              refine P2.nl (nm w hw) ?_
              rw [i_255 w (by omega)]
              exact fin hx (Nat.mod_lt _ (by decide)) hgo hou
            · rw [if_neg (show ¬ xI r 0 45 (4 * n + k) = 2 by rw [show xI r 0 45 (4 * n + k) = 1 from q4]; decide), pk_shrN (by omega) _ 8 (by decide), show w / 2 ^ 8 = w / 256 from rfl, i_255 (w / 256) (by omega)] at hgo
              rw [l5, q6]
              refine P2.nl (nm (w / 256) (by omega)) ?_
              rw [i_255 (w / 256) (by omega)]
              exact fin hx (Nat.mod_lt _ (by decide)) hgo hou
        · rw [if_neg e4]
          refine P2.l rfl (P2.pl rfl ?_)
          exact nod (Or.inr (Or.inr (Or.inl e4)))
      · rw [if_neg e3]
        refine P2.l rfl (P2.pl rfl ?_)
        exact nod (Or.inr (Or.inl e3))
    · rw [if_neg e2]
      refine P2.l rfl (P2.pl rfl ?_)
      exact nod (Or.inl e2)
