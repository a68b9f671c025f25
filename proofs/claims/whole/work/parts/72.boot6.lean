/-! booting: one node in a tick -/
theorem BTp.un {w : Prop} {b q t : Nat → Int32} (h : BTp w b q t) (hn : ¬ (b 8 = 1 ∧ q 1 = -1)) (w' : Prop) : BTp w' b q t := by
  obtain ⟨h1, h2⟩ := h
  refine ⟨h1, h2.imp id (fun h2 => ⟨h2.1, h2.2.imp id (fun h2 => h2.imp id ?_)⟩)⟩
  rintro ⟨k, d1, d2, d3, d4, d5⟩
  refine ⟨k, d1, d2, d3, d4, Or.inl ?_⟩
  rcases d5 with d | d
  · exact d
  · exact absurd ⟨d4, d.2.1⟩ hn
theorem LX.strong {N : xN} {D : Nat} {s r : xS} (hl : LX D N s r) (hN : N.1 ≤ 8) {n : Nat} (hn : n < N.1) (hB : ∀ w', BTp w' (xI s n 0) (rb r n) (fun k => xI s n (12 + k) 3)) : LX D (strongN N n) s r := by
  have h8 : n < 8 := Nat.lt_of_lt_of_le hn hN
  have nk := hl.1 n hn
  exact hl.node2 (N' := strongN N n) (Nat.le_refl D) hN rfl hn (fun m hm hne => sN_zz N h8 m (by omega) hne) (fun _ _ _ => rfl) rfl (fun _ _ _ => rfl) (fun _ _ => rfl) ((sN_n N h8).trans nk.1) nk.2.1 (hB _)
theorem rn_same {N : xN} {D : Nat} {s r S R : xS} (hx : REL E0 (XV s r) N S R) (hl : LX D N s r) {n : Nat} (hn : n < N.1) (hB : ∀ w', BTp w' (xI s n 0) (rb r n) (fun k => xI s n (12 + k) 3)) : RN (D + 1) N n S R := ⟨strongN N n, rfl, fun m z => z.1, fun z => z.2 rfl, ((hx.reN (N' := strongN N n) rfl (fun m _ z => z.1)).un (hl.strong hx.1 hn hB)).mono_D (Nat.le_succ D)⟩
theorem p_b28 {N : xN} {D : Nat} {s0 r0 s r S R : xS} (hl : LX D N s0 r0) (hx : REL E0 (XV s r) N S R) {n k : Nat} (hn : n < N.1) (hz : N.2 n) (hk : k < 4) (hF : freeL D s0 r0 n)
    (g1 : ∀ a b, ¬ (a = n ∧ b = 0) → xI s a b = xI s0 a b) (g2 : s.2 = s0.2) (g3 : ∀ j e, ¬ (e = n ∧ 53 ≤ j ∧ j ≤ 57) → xI r 0 j e = xI r0 0 j e)
    (b3 : xI s n 0 3 = 1) (b4 : xI s n 0 4 = nI k) (b8 : xI s n 0 8 = 0) (q0 : rb r n 0 = 1) (q1 : rb r n 1 = nI k)
    (hcase : (xI s n 0 5 = -1 ∧ xI s n 0 6 = 0 ∧ xI s n 0 7 = 0 ∧ rb r n 2 = -1) ∨ (∃ c m, c < 256 ∧ xI s n 0 5 = nI c ∧ rb r n 2 = nI c ∧ xI s n 0 6 = nI m ∧ rb r n 3 = nI m ∧ ((2 ≤ c ∧ m < c ∧ xI s n 0 7 = 0) ∨ (c = 0 ∧ m < 4 ∧ GAp (xI s n 0) (rb r n) m) ∨ (c = 1 ∧ m < 2 ∧ GAp (xI s n 0) (rb r n) m))))
    (hkept : ¬ xI r0 0 50 (4 * n + k) = -1) : P2 (c6_takeBootByte_b28 n S) (r_boot_b43 (nI n) R) (RN (D + 1) N n) := by
  have h8 : n < 8 := Nat.lt_of_lt_of_le hn hx.1
  have he : 4 * n + k ≤ 32 := by omega
  obtain ⟨o1, ⟨o2, o3, o4, o5, o6, o7⟩, o8, o9, o10, o11, o12, o13⟩ := hF k hk (fun _ => 0) (fun _ => 1)
  obtain ⟨v, hv, ev⟩ := o9.resolve_left hkept
  have ev' : xI r0 0 50 (4 * n + k) = nI v := ev
  have c4 : xI S n 0 4 = nI k := by rw [hx.c_eq (by omega), b4]
  have c8 : xI S n 0 8 = 0 := by rw [hx.c_eq (by omega), b8]
  have ck : xI S n (12 + k) 10 = nI v := by rw [hx.c_eq (by omega), g1 n (12 + k) (by omega)]; exact o6.trans ev
  have rk : xI R 0 50 (4 * n + k) = nI v := by rw [hx.r_eq (by omega), g3 50 _ (by omega)]; exact ev
  have co : xI S n (16 + k) 6 = xI r0 0 40 (4 * n + k) := by rw [hx.c_eq (by omega), g1 n (16 + k) (by omega)]; exact o1.2.2.2.1
  have ro : xI R 0 40 (4 * n + k) = xI r0 0 40 (4 * n + k) := by rw [hx.r_eq (by omega), g3 40 _ (by omega)]
  have r53 : xI R 0 53 n = nI k := by rw [hx.r_eq (by omega)]; exact q1
  have r43 : xI R 0 43 (4 * n + k) = 0 := by
    rw [hx.r_eq (by omega), g3 43 _ (by omega)]
    rcases o12 with z | z | z
    · exact z.2.2.1
    · exact absurd z.2.2.2.2.2 (by decide)
    · exact absurd z.2.2.2.2.2.1 (by decide)
  have nv : ¬ nI v = -1 := ne_m1 (w16_nI (by omega))
  have ix : (4 : Int32) * nI n + nI k = nI (4 * n + k) := by rw [show (4 : Int32) = nI 4 from rfl, pk_mul, nI_add]
  unfold c6_takeBootByte_b28
  rw [c4, c8, gd_nI hk (by decide), nI_clamp (show k < 2 ^ 31 by omega), ck, show 12 + k + 4 = 16 + k by omega, co]
  refine P2.pl rfl (P2.nl (nI_pos (by omega)) (P2.pl (show nI k < (4 : Int32) from nI_lt (b := 4) hk (by decide)) (P2.nl nv (P2.xl ?_))))
  refine P2.l (c4_releaseKept_n _ _ _) ?_
  have ck2 : xI (sI S n (16 + k) 6 (xI r0 0 40 (4 * n + k) + 1)) n (12 + k) 10 = nI v := by rw [xI_ne _ _ (by omega)]; exact ck
  rw [ck2]
  refine P2.some_l ?_
  unfold r_boot_b43
  simp only [gI h8, cl8 h8]
  rw [r53, ix]
  simp only [g33x he, nI_clamp (show 4 * n + k < 2 ^ 31 by omega)]
  rw [rk, r43]
  refine P2.nr (ne_m1 (w16_nI (by omega))) (P2.nr nv (P2.pr rfl (P2.xr ?_)))
  have ro2 : xI (sI R 0 50 (4 * n + k) (-1)) 0 40 (4 * n + k) = xI r0 0 40 (4 * n + k) := by rw [xI_ne _ _ (by omega)]; exact ro
  rw [ro2]
  refine P2.xr ?_
  have r54 : xI (sI (sI R 0 50 (4 * n + k) (-1)) 0 40 (4 * n + k) (xI r0 0 40 (4 * n + k) + 1)) 0 54 n = rb r n 2 := by
    rw [xI_ne _ _ (by omega), xI_ne _ _ (by omega), hx.r_eq (by omega)]; rfl
  have r55 : xI (sI (sI R 0 50 (4 * n + k) (-1)) 0 40 (4 * n + k) (xI r0 0 40 (4 * n + k) + 1)) 0 55 n = rb r n 3 := by
    rw [xI_ne _ _ (by omega), xI_ne _ _ (by omega), hx.r_eq (by omega)]; rfl
  rcases hcase with ⟨e5, e6, e7, e2⟩ | ⟨c, m, hc, e5, e2, e6, e3, hc3⟩
  · refine P2.pr (r54.trans e2) ?_
    exact p_obey_first hl hx hn hz hk hF g1 g2 g3 b3 b4 e5 e6 e7 b8 q0 q1 e2 hv _ rfl
  · refine P2.nr (by rw [r54, e2]; exact ne_m1 (w16_nI (by omega))) (P2.xr ?_)
    have r54b : ∀ x, xI (sI (sI (sI R 0 50 (4 * n + k) (-1)) 0 40 (4 * n + k) (xI r0 0 40 (4 * n + k) + 1)) 0 55 n x) 0 54 n = nI c := fun x => by rw [xI_ne _ _ (by omega), r54, e2]
    rw [r55, e3]
    rcases hc3 with ⟨h2, h3, h4⟩ | ⟨h2, h3, h4⟩ | ⟨h2, h3, h4⟩
    · refine P2.nr (by rw [r54b]; exact nI_ge (a := 1) (by omega) (by omega)) ?_
      exact p_obey_load hl hx hn hz hk hF g1 g2 g3 h2 hc h3 b3 b4 e5 e6 h4 b8 q0 q1 e2 e3 hv _ rfl
    · subst h2
      refine P2.pr (by rw [r54b]; decide) ?_
      have fin := p_obey_poke hl hx hn hz hk hF g1 g2 g3 h3 b3 b4 e5 e6 b8 q0 q1 e2 e3 h4 hv _ rfl
      unfold rGa at fin
      by_cases c2 : m < 2
      · rw [if_pos c2] at fin
        refine P2.nr (show ¬ (2 : Int32) ≤ nI m from nI_ge (b := 2) c2 (by decide)) (P2.xr ?_)
        exact fin
      · rw [if_neg c2] at fin
        refine P2.pr (show (2 : Int32) ≤ nI m from nI_le (a := 2) (by omega) (by omega)) (P2.xr ?_)
        exact fin
    · subst h2
      refine P2.pr (by rw [r54b]; decide) ?_
      have fin := p_obey_peek hl hx hn hz hk hF g1 g2 g3 h3 b3 b4 e5 e6 b8 q0 q1 e2 e3 h4 hv _ rfl
      unfold rGa at fin
      rw [if_pos h3] at fin
      refine P2.nr (show ¬ (2 : Int32) ≤ nI m from nI_ge (b := 2) h3 (by decide)) (P2.xr ?_)
      exact fin
/-- .. where no link is held -/
theorem p_boot_idle {N : xN} {D : Nat} {s0 r0 s S R : xS} (hl : LX D N s0 r0) (hx : REL E0 (XV s r0) N S R) {n : Nat} (hn : n < N.1) (hz : N.2 n) (hF : freeL D s0 r0 n)
    (g1 : ∀ a b, ¬ (a = n ∧ b = 0) → xI s a b = xI s0 a b) (g2 : s.2 = s0.2) (b3 : xI s n 0 3 = 1) (b4 : xI s n 0 4 = -1) (b5 : xI s n 0 5 = -1) (b6 : xI s n 0 6 = 0) (b7 : xI s n 0 7 = 0) (b8 : xI s n 0 8 = 0) (q0 : rb r0 n 0 = 1) (q1 : rb r0 n 1 = -1) (q2 : rb r0 n 2 = -1) :
    P2 ((c6_firstLinkWithByte n S).bind (fun (r_12, S12) => xnm (sI S12 n 0 4 r_12) (fun S13 => c6_takeBootByte_b28 n S13))) (r_boot_b12 100000 (nI n) 3 R) (RN (D + 1) N n) := by
  have h8 : n < 8 := Nat.lt_of_lt_of_le hn hx.1
  have hkk : ∀ k, k < 4 → xI S n (12 + k) 10 = xI R 0 50 (4 * n + k) := by
    intro k hk
    rw [hx.c_eq (by omega), hx.r_eq (by omega), g1 n (12 + k) (by omega)]
    exact (hF k hk (fun _ => 0) (fun _ => 1)).2.1.2.2.2.2.1
  rcases first_link h8 hkk with ⟨x1, x2⟩ | ⟨k, hk, x0, x1, x2⟩
  · rw [x1, x2]
    refine P2.l rfl (P2.xl ?_)
    have e4 : sI S n 0 4 (-1) = S := by
      have := sI_id S n 0 4
      rw [hx.c_eq (by omega), b4] at this
      exact this
    rw [e4]
    unfold c6_takeBootByte_b28 r_boot_b43
    simp only [gI h8, cl8 h8]
    have c4 : xI S n 0 4 = -1 := by rw [hx.c_eq (by omega), b4]
    have c8 : xI S n 0 8 = 0 := by rw [hx.c_eq (by omega), b8]
    have r53 : xI R 0 53 n = -1 := by rw [hx.r_eq (by omega)]; exact q1
    rw [c4, c8, r53]
    refine P2.pl rfl (P2.pl (by decide) (P2.pr rfl (P2.ret ?_)))
    refine ⟨strongN N n, rfl, fun m z => z.1, fun z => z.2 rfl, ((hx.reN (N' := strongN N n) rfl (fun m _ z => z.1)).un ?_).mono_D (Nat.le_succ D)⟩
    refine hl.node2 (N' := strongN N n) (Nat.le_refl D) hx.1 rfl hn (fun m hm hne => sN_zz N h8 m (by have := hx.1; omega) hne) (fun a b hab => g1 a b (by omega)) g2 (fun _ _ _ => rfl) (fun k hk => by rw [g1 n (16 + k) (by omega)]) ⟨fun _ => q0, fun _ => ⟨hz, by omega⟩⟩ (fun k hk => ?_) ?_
    · rw [g1 n (12 + k) (by omega), g1 n (16 + k) (by omega)]
      exact hF k hk _ _
    · exact ⟨b3.trans q0.symm, Or.inr ⟨q0, Or.inl ⟨b4, b5, b6, b7, b8, q1, q2⟩⟩⟩
  · rw [x1, x2]
    refine P2.l rfl (P2.xl ?_)
    have h1 := (hx.cv (n := n) (j := 0) (k := 4) (by omega) (nI k)).rv (j := 53) (k := n) (by omega) (nI k)
    refine p_b28 hl h1 hn hz hk hF (fun a b hab => ?_) g2 (fun j e hje => ?_) ?_ ?_ ?_ ?_ ?_ (Or.inl ⟨?_, ?_, ?_, ?_⟩) ?_
    · rw [xI_fn_ne _ _ (by omega)]; exact g1 a b hab
    · rw [xI_ne _ _ (by omega)]
    · rw [xI_ne _ _ (by omega)]; exact b3
    · rw [xI_eq]
    · rw [xI_ne _ _ (by omega)]; exact b8
    · unfold rb; rw [xI_ne _ _ (by omega)]; exact q0
    · unfold rb; rw [xI_eq]
    · rw [xI_ne _ _ (by omega)]; exact b5
    · rw [xI_ne _ _ (by omega)]; exact b6
    · rw [xI_ne _ _ (by omega)]; exact b7
    · unfold rb; rw [xI_ne _ _ (by omega)]; exact q2
    · rw [← hx.r_eq (by omega)]; exact x0
/-- one node boots, or doesn't -/
theorem p_boot {N : xN} {D : Nat} {S R : xS} (h : REL E0 (LX D N) N S R) {n : Nat} (hn : n < N.1) : P2 (c6_takeBootByte n S) (if xI R 0 52 n = 0 then some R else r_boot R (nI n)) (RN (D + 1) N n) := by
  have h8 : n < 8 := Nat.lt_of_lt_of_le hn h.1
  obtain ⟨s, r, hx, hl⟩ := h.opn
  have nk := hl.1 n hn
  obtain ⟨bq, hb⟩ := nk.2.2.1
  have r52 : xI R 0 52 n = rb r n 0 := hx.r_eq (by omega)
  have c3 : xI S n 0 3 = rb r n 0 := by rw [hx.c_eq (by omega)]; exact bq
  unfold c6_takeBootByte
  rw [c3, r52]
  rcases hb with q0 | ⟨q0, hb⟩
  · refine P2.pl q0 (P2.pr q0 (P2.ret ?_))
    exact rn_same hx hl hn (fun w' => ⟨bq, Or.inl q0⟩)
  · have n0 : ¬ rb r n 0 = 0 := by rw [q0]; decide
    have hz : N.2 n := nk.1.mpr q0
    have b3 : xI s n 0 3 = 1 := bq.trans q0
    refine P2.nl n0 (P2.nr n0 ?_)
    unfold r_boot
    rw [gI h8, cl8 h8]
    have r53 : xI R 0 53 n = rb r n 1 := hx.r_eq (by omega)
    have c4 : xI S n 0 4 = xI s n 0 4 := hx.c_eq (by omega)
    have c8 : xI S n 0 8 = xI s n 0 8 := hx.c_eq (by omega)
    unfold c6_leaveWhenAnswered
    rw [r53, c8]
    rcases hb with ⟨b4, b5, b6, b7, b8, q1, q2⟩ | ⟨k, c, m, hk, hc, b4, q1, b8, b5, q2, b6, q3, hc3⟩ | ⟨k, hk, b4, b5, b8, ha⟩
    · have hF : freeL D s r n := fun k hk b q => (nk.2.1 k hk).bq q0 b8
      rw [if_pos b8]
      refine P2.l rfl (P2.pl (c4.trans b4) (P2.pr q1 ?_))
      exact p_boot_idle hl hx hn hz hF (fun _ _ _ => rfl) rfl b3 b4 b5 b6 b7 b8 q0 q1 q2
    · have hF : freeL D s r n := fun k hk b q => (nk.2.1 k hk).bq q0 b8
      rw [if_pos b8]
      refine P2.l rfl (P2.nl (by rw [c4, b4]; exact ne_m1 (w16_nI (by omega))) (P2.nr (by rw [q1]; exact ne_m1 (w16_nI (by omega))) ?_))
      by_cases hkept : xI r 0 50 (4 * n + k) = -1
      · unfold c6_takeBootByte_b28 r_boot_b43
        have ck : xI S n (12 + k) 10 = -1 := by
          rw [hx.c_eq (by omega)]
          exact (nk.2.1 k hk).2.1.2.2.2.2.1.trans hkept
        have rk : xI R 0 50 (4 * n + k) = -1 := by rw [hx.r_eq (by omega)]; exact hkept
        have ix : (4 : Int32) * nI n + nI k = nI (4 * n + k) := by rw [show (4 : Int32) = nI 4 from rfl, pk_mul, nI_add]
        have he : 4 * n + k ≤ 32 := by omega
        simp only [gI h8, cl8 h8]
        rw [c4, b4, c8, b8, r53, q1, ix, gd_nI hk (by decide), nI_clamp (show k < 2 ^ 31 by omega), ck]
        simp only [g33x he, nI_clamp (show 4 * n + k < 2 ^ 31 by omega)]
        rw [rk]
        refine P2.pl (by first | rfl | trivial) (P2.nl (nI_pos (by omega)) (P2.pl (show nI k < (4 : Int32) from nI_lt (b := 4) hk (by decide)) (P2.pl (by first | rfl | trivial) (P2.nr (ne_m1 (w16_nI (by omega))) (P2.pr (by first | rfl | trivial) (P2.ret ?_))))))
        exact rn_same hx hl hn (fun w' => nk.2.2.1.un (fun z => absurd z.1 (by rw [b8]; decide)) w')
      · exact p_b28 hl hx hn hz hk hF (fun _ _ _ => rfl) rfl (fun _ _ _ => rfl) b3 b4 b8 q0 q1 (Or.inr ⟨c, m, hc, b5, q2, b6, q3, hc3⟩) hkept
    · have n8 : ¬ xI s n 0 8 = 0 := by rw [b8]; decide
      rw [if_neg n8, c4, b4, if_neg (nI_pos (by omega)), if_neg (show ¬ (4 : Int32) ≤ nI k from nI_ge (b := 4) hk (by decide)), gd_nI hk (by decide), nI_clamp (show k < 2 ^ 31 by omega), show xI S n (12 + k) 3 = xI s n (12 + k) 3 from hx.c_eq (by omega)]
      rcases ha with ⟨q1, q2, ht⟩ | ⟨hw, q1, q2, ht⟩
      · rw [if_neg ht]
        refine P2.l rfl (P2.nl (by rw [c4, b4]; exact ne_m1 (w16_nI (by omega))) (P2.nr (by rw [q1]; exact ne_m1 (w16_nI (by omega))) ?_))
        unfold c6_takeBootByte_b28 r_boot_b43
        have ix : (4 : Int32) * nI n + nI k = nI (4 * n + k) := by rw [show (4 : Int32) = nI 4 from rfl, pk_mul, nI_add]
        have he : 4 * n + k ≤ 32 := by omega
        simp only [gI h8, cl8 h8]
        rw [r53, q1, ix]
        simp only [g33x he, nI_clamp (show 4 * n + k < 2 ^ 31 by omega)]
        have r43 : ¬ xI R 0 43 (4 * n + k) = 0 := by
          rw [hx.r_eq (by omega)]
          obtain ⟨o1, ⟨o2, o3, o4, o5, o6, o7⟩, o8, o9, o10, o11, o12, o13⟩ := nk.2.1 k hk
          rcases o12 with z | z | z
          · exact absurd (o3.trans z.2.1) ht
          · exact absurd z.2.2.2.2.2 (by rw [q0]; decide)
          · rw [show xI r 0 43 (4 * n + k) = 1 from z.2.1]; decide
        refine P2.nl (by rw [c8]; exact n8) (P2.nr (ne_m1 (w16_nI (by omega))) ?_)
        rw [if_neg r43]
        have hr : (if xI R 0 50 (4 * n + k) = -1 then some R else some R) = some R := by
          by_cases z : xI R 0 50 (4 * n + k) = -1
          · rw [if_pos z]
          · rw [if_neg z]
        rw [hr]
        refine P2.ret (rn_same hx hl hn (fun w' => nk.2.2.1.un (fun z => ?_) w'))
        rw [q1] at z
        exact absurd z.2 (ne_m1 (w16_nI (by omega)))
      · have hF : freeL D s r n := by
          intro k' hk' b q
          obtain ⟨o1, o2, o8, o9, o10, o11, o12, o13⟩ := nk.2.1 k' hk'
          refine ⟨o1, o2, o8, o9, o10, o11, ?_, fun _ => o13 q0⟩
          rcases o12 with z | z | z
          · exact Or.inl z
          · exact absurd z.2.2.2.2.2 (by rw [q0]; decide)
          · exact absurd q1 (by rw [z.2.2.2.2.2.2.2.1]; exact ne_m1 (w16_nI (by omega)))
        rw [if_pos ht]
        refine P2.l rfl ?_
        have h1 := ((((hx.cv (n := n) (j := 0) (k := 4) (by omega) (-1)).cv (n := n) (j := 0) (k := 5) (by omega) (-1)).cv (n := n) (j := 0) (k := 6) (by omega) 0).cv (n := n) (j := 0) (k := 7) (by omega) 0).cv (n := n) (j := 0) (k := 8) (by omega) 0
        refine P2.pl ?_ (P2.pr q1 ?_)
        · simp (disch := omega) only [xI_ne, xI_eq]
        refine p_boot_idle hl h1 hn hz hF (fun a b hab => ?_) rfl ?_ ?_ ?_ ?_ ?_ ?_ q0 q1 q2
        · simp (disch := omega) only [xI_fn_ne]
        · simp (disch := omega) only [xI_ne]; exact b3
        · simp (disch := omega) only [xI_ne, xI_eq]
        · simp (disch := omega) only [xI_ne, xI_eq]
        · simp (disch := omega) only [xI_ne, xI_eq]
        · simp (disch := omega) only [xI_ne, xI_eq]
        · simp (disch := omega) only [xI_ne, xI_eq]
