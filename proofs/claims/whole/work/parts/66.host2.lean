/-! the host takes a bit -/
theorem vS_cSB8 (S : xS) (j c : Nat) (v : Int32) : vS (cSB S 8 j c v) = cSB (vS S) 8 j c v := by
  unfold cSB
  rw [vS_J (by decide)]
  refine Prod.ext rfl (Prod.ext ?_ rfl)
  funext a b d
  show (if 8 ≤ a then xJ (sJ S 8 j (c / 8) _) a b d else 0) = xJ (sJ (vS S) 8 j (c / 8) _) a b d
  rw [xJ_sJ, xJ_sJ]
  by_cases e : a = 8 ∧ b = j ∧ d = c / 8
  · obtain ⟨rfl, rfl, rfl⟩ := e
    rw [if_pos (by decide), if_pos ⟨rfl, rfl, rfl⟩, if_pos ⟨rfl, rfl, rfl⟩]
  · rw [if_neg e, if_neg e]
    rfl
theorem REL.cvB {E : Nat → Nat → Prop} {N : xN} {S R s r : xS} (h : REL E (XV s r) N S R) (j c : Nat) (v : Int32) : REL E (XV (cSB s 8 j c v) r) N (cSB S 8 j c v) R := by
  refine ⟨h.1, h.2.1.cSB 8 j c v, fun n hn x hx => ?_, by rw [vS_cSB8, h.2.2.2.1], h.2.2.2.2⟩
  rw [cB_cSB, if_neg (by have := h.1; omega)]
  exact h.2.2.1 n hn x hx
theorem rem4096 {x : Nat} (h : x < 2 ^ 31) : jrem (nI x) 4096 = nI (x % 4096) := by
  unfold jrem
  exact pk_rem (d := 4096) h (by decide) (by decide)
theorem and4095 (x : Int32) : x &&& 4095 = nI (x.toBitVec.toNat % 4096) := pk_and x 12 (by decide)
theorem and4095_add {x : Int32} {f : Nat} (d : Nat) (h : x &&& 4095 = nI f) (hf : f < 4096) : (x + nI d) &&& 4095 = nI ((f + d) % 4096) := by
  rw [and4095] at h ⊢
  have h1 : x.toBitVec.toNat % 4096 = f := (nI_eq (by omega) (by omega)).mp h
  rw [Int32.toBitVec_add, BitVec.toNat_add]
  have e : (nI d).toBitVec.toNat = d % 2 ^ 32 := rfl
  rw [e]
  congr 1
  omega
theorem p_takeHost {N : xN} {D : Nat} {S R : xS} (h : REL E0 (LX D N) N S R) {t : Nat} (ht : t < 2) (hh : c2_readNextBit N.1 8 16 S = c2_readNextBit_b18 N.1 8 16 (nI t) S) : P2 (c3_takeBit N.1 S) (r_reads R (32 : Int32) (nI t)) (REL E0 (LX (D + 1) N) N) := by
  obtain ⟨s, r, hx, hl⟩ := h.opn
  obtain ⟨o1, f, m, c, c1, c2, c3, c4, c5, c6, c7, c8, c9, c10, c11, c12, c13⟩ := hl.2.1
  have c7' : xI r 0 45 32 = nI m := c7
  unfold c3_takeBit
  rw [hh]
  rcases read_cases hx (n := 8) (j := 16) (e := 32) (by decide) (by decide) o1 N.1 ht with ⟨S', R', s', r', x1, x2, x3, x4⟩ | ⟨x1, x2⟩ | ⟨b, hb, eb, x1, x2⟩
  · rw [x1, show (32 : Int32) = nI 32 from rfl, x2]
    refine P2.l rfl (P2.nl n12 (P2.pl rfl (P2.ret ?_)))
    obtain ⟨g1, g2, g3, g4, g5⟩ := x4
    refine (x3.un (hl.host (Nat.le_refl D) h.1 (fun a b hab => g1 a b (by omega)) (by rw [g2]) (fun j e he _ _ _ => g4 j e (by omega)) g3 ?_)).mono_D (Nat.le_succ D)
    have eB : ∀ j x, cB s' 8 j x = cB s 8 j x := fun j x => by unfold cB xJ; rw [g2]
    have e0 : xI s' 8 0 = xI s 8 0 := g1 8 0 (by omega)
    refine ⟨g5, f, m, c, c1, c2, c3, by rw [e0]; exact c4, by rw [e0]; exact c5, by rw [e0]; exact c6, (g4 45 32 (by omega)).trans c7, by rw [g4 0 59 (by omega)]; exact c8, by rw [g4 0 60 (by omega), g4 0 59 (by omega)]; exact c9, by rw [g4 0 61 (by omega)]; exact c10, ?_, fun x hx => by rw [eB, g4 58 x (by omega)]; exact c12 x hx, fun x hx => by rw [eB, g4 59 x (by omega)]; exact c13 x hx⟩
    rw [show rr r' 32 8 = rr r 32 8 from g4 41 32 (by omega), show rr r' 32 9 = rr r 32 9 from g4 42 32 (by omega)]
    exact c11
  · rw [x1, show (32 : Int32) = nI 32 from rfl, x2]
    obtain ⟨b3, b4, b5, b6, b7, b8, b9, w1, w8, w5, w6, w7, wp⟩ := o1
    have d7 : xI S 8 16 7 = xI r 0 41 32 := by rw [hx.c_eq (by omega)]; exact b7
    have w8' : xI r 0 41 32 = 0 ∨ xI r 0 41 32 = 1 := w8
    have l2 : xI S 8 0 2 = nI f := by rw [hx.c_eq (by omega), c4]
    have l3 : xI S 8 0 3 = nI m := by rw [hx.c_eq (by omega), c5]
    unfold c2_endOfAcknowledgement r_acknowledged
    simp (disch := omega) only [xI_ne, xI_eq, g33x (Nat.le_refl 32), nI_clamp (show 32 < 2 ^ 31 by decide), nar0]
    rw [d7, hx.r_eq (j := 41) (by omega)]
    have h2 := ((hx.cv (n := 8) (j := 16) (k := 8) (by omega) 0).cv (n := 8) (j := 16) (k := 7) (by omega) 0).rv (j := 38) (k := 32) (by omega) 0
    rcases w8' with e | e
    · rw [if_pos e]
      refine P2.l (P2_bind_some (show xnm (sI (sI S 8 16 8 0) 8 16 7 0) (fun S1 => if xI r 0 41 32 = 0 then some ((-1 : Int32), S1) else some ((-2 : Int32), S1)) = some (-1, sI (sI S 8 16 8 0) 8 16 7 0) from if_pos e)) (P2.nl n12 (P2.pl rfl (P2.r rfl (P2.ret ?_))))
      refine (h2.un (hl.host (Nat.le_refl D) h.1 (fun a b hab => ?_) rfl (fun j e he _ _ _ => ?_) ?_ ⟨?_, f, m, c, c1, c2, c3, ?_, ?_, ?_, ?_, ?_, ?_, ?_, ?_, fun x hx => ?_, fun x hx => ?_⟩)).mono_D (Nat.le_succ D)
      · simp (disch := omega) only [xI_fn_ne]
      · simp (disch := omega) only [xI_ne]
      · simp (disch := omega) only [xI_ne]
      · unfold EPp
        simp (disch := omega) only [rr, xI_ne, xI_eq]
        exact ⟨b3, b4, b5, b6, e.symm, trivial, b9, w1, w8, ⟨0, by decide, rfl⟩, w6, w7, wp⟩
      · simp (disch := omega) only [xI_ne]; exact c4
      · simp (disch := omega) only [xI_ne]; exact c5
      · simp (disch := omega) only [xI_ne]; exact c6
      · simp (disch := omega) only [rr, xI_ne]; exact c7
      · simp (disch := omega) only [xI_ne]; exact c8
      · simp (disch := omega) only [xI_ne]; exact c9
      · simp (disch := omega) only [xI_ne]; exact c10
      · simp (disch := omega) only [rr, xI_ne]; exact c11
      · rw [xI_ne _ _ (by omega)]; exact c12 x hx
      · rw [xI_ne _ _ (by omega)]; exact c13 x hx
    · have n1 : ¬ xI r 0 41 32 = 0 := by rw [e]; decide
      obtain ⟨q42, hm1⟩ := c11 e
      have q42' : xI r 0 42 32 = 1 := q42
      rw [if_neg n1]
      refine P2.l (P2_bind_some (show xnm (sI (sI S 8 16 8 0) 8 16 7 0) (fun S1 => if xI r 0 41 32 = 0 then some ((-1 : Int32), S1) else some ((-2 : Int32), S1)) = some (-2, sI (sI S 8 16 8 0) 8 16 7 0) from if_neg n1)) (P2.pl rfl ?_)
      refine P2.some_l (P2.some_r (P2.xr ?_))
      simp (disch := omega) only [xI_ne, xI_eq]
      rw [hx.r_eq (j := 42) (by omega), if_neg (by rw [q42']; decide)]
      refine P2.xr (P2.pr rfl (P2.xr ?_))
      unfold c3_dropFirst
      refine P2.xl (P2.xl ?_)
      simp (disch := omega) only [xI_ne, xI_eq]
      rw [l2, l3, hx.r_eq (j := 45) (by omega), hx.r_eq (j := 0) (by omega), c7', nI_1, rem4096 (by omega), show nI m - 1 = nI (m - 1) from pk_sub (a := m) (b := 1) hm1]
      refine P2.ret ?_
      have h3 := ((((h2.cv (n := 8) (j := 0) (k := 2) (by omega) (nI ((f + 1) % 4096))).cv (n := 8) (j := 0) (k := 3) (by omega) (nI (m - 1))).rv (j := 41) (k := 32) (by omega) 0).rv (j := 45) (k := 32) (by omega) (nI (m - 1))).rv (j := 0) (k := 59) (by omega) (xI r 0 0 59 + 1)
      refine (h3.un (hl.host (Nat.le_refl D) h.1 (fun a b hab => ?_) rfl (fun j e he _ _ _ => ?_) ?_ ⟨?_, (f + 1) % 4096, m - 1, c, Nat.mod_lt _ (by decide), by omega, c3, ?_, ?_, ?_, ?_, ?_, ?_, ?_, ?_, fun x hx => ?_, fun x hx => ?_⟩)).mono_D (Nat.le_succ D)
      · simp (disch := omega) only [xI_fn_ne]
      · simp (disch := omega) only [xI_ne]
      · simp (disch := omega) only [xI_ne]
      · unfold EPp
        simp (disch := omega) only [rr, xI_ne, xI_eq]
        exact ⟨b3, b4, b5, b6, trivial, trivial, b9, w1, Or.inl trivial, ⟨0, by decide, rfl⟩, w6, w7, wp⟩
      · simp (disch := omega) only [xI_ne, xI_eq]
      · simp (disch := omega) only [xI_ne, xI_eq]
      · simp (disch := omega) only [xI_ne, xI_eq]; exact c6
      · simp (disch := omega) only [rr, xI_ne, xI_eq]
      · simp (disch := omega) only [xI_ne, xI_eq]; exact and4095_add 1 c8 c1
      · simp (disch := omega) only [xI_ne, xI_eq]
        rw [c9, Int32.add_assoc, show (1 : Int32) = nI 1 from rfl, nI_add, show 1 + (m - 1) = m by omega]
      · simp (disch := omega) only [xI_ne, xI_eq]; exact c10
      · simp (disch := omega) only [rr, xI_ne, xI_eq]
        exact fun z => absurd z (by decide)
      · simp (disch := omega) only [xI_ne]; exact c12 x hx
      · simp (disch := omega) only [xI_ne]; exact c13 x hx
  · rw [x1, show (32 : Int32) = nI 32 from rfl, x2]
    obtain ⟨b3, b4, b5, b6, b7, b8, b9, w1, w8, w5, w6, w7, wp⟩ := o1
    have d6 : xI S 8 16 6 = xI r 0 40 32 := by rw [hx.c_eq (by omega)]; exact b6
    have l5 : xI S 8 0 5 = nI c := by rw [hx.c_eq (by omega), c6]
    have nb : ∀ c : Int32, c = -2 ∨ c = -1 → ¬ nI b = c := by
      intro c hc z
      have w := w16_nI (k := b) (by omega)
      rw [z] at w
      rcases hc with e | e <;> rw [e] at w <;> exact absurd w (by decide)
    refine P2.l rfl (P2.nl (nb _ (Or.inl rfl)) (P2.nl (nb _ (Or.inr rfl)) ?_))
    refine P2.some_l (P2.some_r ?_)
    unfold c3_keep r_comes
    refine P2.pr rfl ?_
    simp (disch := omega) only [xI_ne, xI_eq, g33x (Nat.le_refl 32), nI_clamp (show 32 < 2 ^ 31 by decide)]
    rw [d6, hx.r_eq (j := 40) (by omega)]
    refine P2.xl (P2.xr ?_)
    simp (disch := omega) only [xI_ne, xI_eq]
    rw [l5, hx.r_eq (j := 0) (by omega), c10]
    obtain ⟨d, hd, ed⟩ := w7
    have ed' : xI r 0 40 32 = nI d := ed
    rw [ed', nI_1]
    have h2 := ((hx.cv (n := 8) (j := 16) (k := 8) (by omega) 0).cv (n := 8) (j := 16) (k := 6) (by omega) (nI (d + 1))).rv (j := 38) (k := 32) (by omega) 0 |>.rv (j := 40) (k := 32) (by omega) (nI (d + 1))
    refine P2.ite Iff.rfl (fun e1 _ => P2.ret ?_) (fun e1 _ => ?_)
    · refine h2.un (hl.host (Nat.le_succ D) h.1 (fun a b hab => ?_) rfl (fun j e he _ _ _ => ?_) ?_ ⟨?_, f, m, c, c1, c2, c3, ?_, ?_, ?_, ?_, ?_, ?_, ?_, ?_, fun x hx => ?_, fun x hx => ?_⟩)
      · simp (disch := omega) only [xI_fn_ne]
      · simp (disch := omega) only [xI_ne]
      · simp (disch := omega) only [xI_ne]
      · unfold EPp
        simp (disch := omega) only [rr, xI_ne, xI_eq]
        exact ⟨b3, b4, b5, trivial, b7, trivial, b9, w1, w8, ⟨0, by decide, rfl⟩, w6, ⟨d + 1, by omega, rfl⟩, wp⟩
      · simp (disch := omega) only [xI_ne]; exact c4
      · simp (disch := omega) only [xI_ne]; exact c5
      · simp (disch := omega) only [xI_ne]; exact c6
      · simp (disch := omega) only [rr, xI_ne]; exact c7
      · simp (disch := omega) only [xI_ne]; exact c8
      · simp (disch := omega) only [xI_ne]; exact c9
      · simp (disch := omega) only [xI_ne]; exact c10
      · simp (disch := omega) only [rr, xI_ne]; exact c11
      · simp (disch := omega) only [xI_ne]; exact c12 x hx
      · simp (disch := omega) only [xI_ne]; exact c13 x hx
    · have hc : c < 4096 := by
        rcases Nat.lt_or_ge c 4096 with z | z
        · exact z
        · exact absurd (show (4096 : Int32) ≤ nI c from nI_le (a := 4096) z (by omega)) e1
      rw [gd_nI hc (by decide), nI_clamp (n := c) (by omega), pk_vb]
      refine P2.l (c5_setByte_h 4 _ hc _) (P2.xl (P2.xr (P2.xr (P2.ret ?_))))
      have e0 : xI (cSB (sI (sI S 8 16 8 0) 8 16 6 (nI (d + 1))) 8 (4 + 1) c (nI b)) 8 0 5 = nI c := by
        rw [xI_cSB]
        simp (disch := omega) only [xI_ne]
        exact l5
      rw [e0]
      simp (disch := omega) only [xI_ne]
      rw [hx.r_eq (j := 0) (by omega), c10, nI_1]
      have h3 := ((h2.cvB 5 c (nI b)).cv (n := 8) (j := 0) (k := 5) (by omega) (nI (c + 1))).rv (j := 59) (k := c) (by omega) (nI b).toInt8.toInt32 |>.rv (j := 0) (k := 61) (by omega) (nI (c + 1))
      refine h3.un (hl.host (Nat.le_succ D) h.1 (fun a b hab => ?_) rfl (fun j e he _ _ _ => ?_) ?_ ⟨?_, f, m, c + 1, c1, c2, by omega, ?_, ?_, ?_, ?_, ?_, ?_, ?_, ?_, fun x hx => ?_, fun x hx => ?_⟩)
      · rw [xI_fn_ne _ _ (by omega), xI_cSB]
        simp (disch := omega) only [xI_fn_ne]
      · simp (disch := omega) only [xI_ne]
      · rw [xI_ne _ _ (by omega), xI_cSB]
        simp (disch := omega) only [xI_ne]
      · rw [xI_fn_ne _ _ (by omega), xI_cSB]
        unfold EPp
        simp (disch := omega) only [rr, xI_ne, xI_eq]
        exact ⟨b3, b4, b5, trivial, b7, trivial, b9, w1, w8, ⟨0, by decide, rfl⟩, w6, ⟨d + 1, by omega, rfl⟩, wp⟩
      · rw [xI_ne _ _ (by omega), xI_cSB]
        simp (disch := omega) only [xI_ne]; exact c4
      · rw [xI_ne _ _ (by omega), xI_cSB]
        simp (disch := omega) only [xI_ne]; exact c5
      · rw [xI_eq]
      · simp (disch := omega) only [rr, xI_ne]; exact c7
      · simp (disch := omega) only [xI_ne]; exact c8
      · simp (disch := omega) only [xI_ne]; exact c9
      · rw [xI_eq]
      · simp (disch := omega) only [rr, xI_ne]; exact c11
      · simp (disch := omega) only [xI_ne]
        rw [cB_sI, cB_cSB, if_neg (by omega)]
        exact c12 x hx
      · rw [xI_ne _ _ (by omega), cB_sI, cB_cSB, xI_sI]
        by_cases e : x = c
        · subst e
          rw [if_pos ⟨rfl, rfl, rfl⟩, if_pos ⟨rfl, rfl, rfl⟩, i8_byte]
        · rw [if_neg (by omega), if_neg (by omega)]
          simp (disch := omega) only [xI_ne]
          exact c13 x hx
