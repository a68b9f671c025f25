/-! the host -/
theorem LX.host {N : xN} {D0 D : Nat} {s r s' r' : xS} (h0 : LX D0 N s r) (hD : D0 ≤ D) (hN : N.1 ≤ 8) (f1 : ∀ a b, a ≠ 8 → xI s' a b = xI s a b) (f2 : s'.2.2 = s.2.2) (f3 : ∀ j e, ¬ (e = 32 ∧ 34 ≤ j ∧ j ≤ 51) → j ≠ 58 → j ≠ 59 → ¬ (j = 0 ∧ 59 ≤ e) → xI r' 0 j e = xI r 0 j e) (f4 : xI s' 8 16 1 = xI s 8 16 1) (hH : HOp D s' r') : LX D N s' r' := by
  have h := h0.mono hD
  obtain ⟨a1, a2, a3, a4⟩ := h
  have ex : ∀ a b, xE s' a b = xE s a b := fun a b => by unfold xE; rw [f2]
  refine ⟨fun m hm => ?_, hH, ?_, ?_⟩
  · obtain ⟨b1, b2, b3, b4⟩ := a1 m hm
    have hm8 : m ≠ 8 := by omega
    have eb : ∀ i, i ≤ 5 → rb r' m i = rb r m i := fun i hi => f3 _ _ (by omega) (by omega) (by omega) (by omega)
    have eb' : rb r' m = fun i => rb r' m i := rfl
    refine ⟨by rw [eb 0 (by decide)]; exact b1, fun k hk => ?_, ?_, fun t ht => ?_⟩
    · rw [f1 m 0 hm8, f1 m (12 + k) hm8, f1 m (16 + k) hm8]
      have h1 := (b2 k hk).cr (r' := rr r' (4 * m + k)) (fun i hi => f3 _ _ (by omega) (by omega) (by omega) (by omega))
      obtain ⟨o1, o2, o8, o9, o10, o11, o12, o13⟩ := h1
      refine ⟨o1, o2, o8, o9, o10, o11, ?_, by rw [eb 0 (by decide)]; exact o13⟩
      unfold OUp at o12 ⊢
      rw [eb 0 (by decide), eb 1 (by decide), eb 2 (by decide)]
      exact o12
    · rw [f1 m 0 hm8]
      have e2 : (fun k => xI s' m (12 + k) 3) = fun k => xI s m (12 + k) 3 := funext fun k => by rw [f1 m (12 + k) hm8]
      rw [e2]
      unfold BTp GAp at b3 ⊢
      rw [eb 0 (by decide), eb 1 (by decide), eb 2 (by decide), eb 3 (by decide), eb 4 (by decide), eb 5 (by decide)]
      exact b3
    · rw [f1 m 9 hm8, f1 m 10 hm8, f3 _ _ (by omega) (by omega) (by omega) (by omega), f3 _ _ (by omega) (by omega) (by omega) (by omega)]
      exact b4 t ht
  · intro a b hab
    have e1 : xI s' a (16 + b) 1 = xI s a (16 + b) 1 := by
      by_cases e : a = 8
      · subst e
        have hb : b = 0 := by rcases hab with h | h <;> omega
        subst hb
        exact f4
      · rw [f1 a (16 + b) e]
    have e2 : rr r' (4 * a + b) 0 = rr r (4 * a + b) 0 := f3 _ _ (by omega) (by omega) (by omega) (by omega)
    rw [ex, e2, e1]
    exact a3 a b hab
  · refine ⟨?_, ?_⟩
    · rw [f1 9 0 (by decide), f3 0 2 (by omega) (by omega) (by omega) (by omega)]
      exact a4.1
    · rw [f3 0 1 (by omega) (by omega) (by omega) (by omega)]
      exact a4.2
theorem adr_h {f : Nat} (hf : f < 4096) : adr ((32768 : Int32) + nI f) = 32768 + f := by
  rw [show (32768 : Int32) = nI 32768 from rfl, nI_add]
  exact adr_nI (by omega)
theorem c5_byteAt_h (j : Nat) (S : xS) {f : Nat} (hf : f < 4096) : c5_byteAt 8 j S ((32768 : Int32) + nI f) = some (nI (cB S 8 (j + 1) f), S) := by
  rw [c5_byteAt_eq, adr_h hf, if_pos (by omega), show 32768 + f - 32768 = f by omega]
theorem c5_setByte_h (j : Nat) (S : xS) {f : Nat} (hf : f < 4096) (v : Int32) : c5_setByte 8 j S ((32768 : Int32) + nI f) v = some (cSB S 8 (j + 1) f v) := by
  rw [c5_setByte_eq, adr_h hf, if_pos (by omega), show 32768 + f - 32768 = f by omega]
theorem p_putHost {N : xN} {D : Nat} (hD : D < 1073741824) {S R : xS} (h : REL E0 (LX D N) N S R) : P2 (c3_putBit S) (r_puts R (32 : Int32)) (fun o p => REL E0 (LX D N) N o (sI p.2 0 34 32 p.1)) := by
  obtain ⟨s, r, hx, hl⟩ := h.opn
  have ho := hl.2.1
  obtain ⟨o1, f, m, c, c1, c2, c3, c4, c5, c6, c7, c8, c9, c10, c11, c12, c13⟩ := ho
  have l3 : xI S 8 0 3 = xI r 0 45 32 := by rw [hx.c_eq (by omega), c5]; exact c7.symm
  have l2 : xI S 8 0 2 = nI f := by rw [hx.c_eq (by omega), c4]
  have e3 : xI S 8 16 3 = xI r 0 36 32 := by rw [hx.c_eq (by omega)]; exact o1.1
  have e6 : xI S 8 16 6 = xI r 0 40 32 := by rw [hx.c_eq (by omega)]; exact o1.2.2.2.1
  have e7 : xI S 8 16 7 = xI r 0 41 32 := by rw [hx.c_eq (by omega)]; exact o1.2.2.2.2.1
  have c7' : xI r 0 45 32 = nI m := c7
  have clo : ∀ {s1 r1 s' r' : xS}, (∀ a b, ¬ (a = 8 ∧ b = 16) → xI s1 a b = xI s a b) → s1.2 = s.2 → xI s1 8 16 1 = xI s 8 16 1 → (∀ jj ee, ¬ (ee = 32 ∧ (jj = 41 ∨ jj = 42)) → xI r1 0 jj ee = xI r 0 jj ee) → (xI r1 0 41 32 = 1 → xI r1 0 42 32 = 1 ∧ 1 ≤ m) → PB D s1 r1 s' r' 8 16 32 → LX D N s' r' := by
    intro s1 r1 s' r' f1 f2 f3 f4 f5 pb
    obtain ⟨g1, g2, g3, g4, g5⟩ := pb
    refine hl.host (Nat.le_refl D) h.1 (fun a b hab => by rw [g1 a b (by omega), f1 a b (by omega)]) (by rw [g2, f2]) (fun j e he _ _ _ => by rw [g4 j e (by omega), f4 j e (by omega)]) (by rw [g3, f3]) ?_
    have eB : ∀ j x, cB s' 8 j x = cB s 8 j x := fun j x => by unfold cB xJ; rw [g2, f2]
    have e0 : xI s' 8 0 = xI s 8 0 := by rw [g1 8 0 (by omega), f1 8 0 (by omega)]
    have er : ∀ j e, ¬ (e = 32 ∧ 34 ≤ j ∧ j ≤ 42) → xI r' 0 j e = xI r 0 j e := fun j e he => by rw [g4 j e (by omega), f4 j e (by omega)]
    refine ⟨g5, f, m, c, c1, c2, c3, by rw [e0]; exact c4, by rw [e0]; exact c5, by rw [e0]; exact c6, (er 45 32 (by omega)).trans c7, by rw [er 0 59 (by omega)]; exact c8, by rw [er 0 60 (by omega), er 0 59 (by omega)]; exact c9, by rw [er 0 61 (by omega)]; exact c10, ?_, fun x hx => by rw [eB, er 58 x (by omega)]; exact c12 x hx, fun x hx => by rw [eB, er 59 x (by omega)]; exact c13 x hx⟩
    have x1 : rr r' 32 8 = xI r1 0 41 32 := g4 41 32 (by omega)
    have x2 : rr r' 32 9 = xI r1 0 42 32 := g4 42 32 (by omega)
    rw [x1, x2]
    exact f5
  have nod : ¬ xI r 0 36 32 = 0 ∨ ¬ xI r 0 40 32 = 0 ∨ ¬ xI r 0 41 32 = 0 ∨ xI r 0 45 32 ≤ 0 → P2 ((c2_putNextBit 8 16 S).bind (fun S2 => some S2)) (r_puts R (32 : Int32)) (fun o p => REL E0 (LX D N) N o (sI p.2 0 34 32 p.1)) := by
    intro hno
    refine P2.some_l (P2.mono (p_put0 hD hx (j := 16) (e := 32) (by decide) (by decide) o1 hno) ?_)
    rintro o p ⟨s', r', pb, hq⟩
    exact hq.un (clo (fun a b _ => rfl) rfl rfl (fun _ _ _ => rfl) c11 pb)
  unfold c3_putBit
  rw [l3]
  by_cases e1 : xI r 0 45 32 ≤ 0
  · rw [if_pos e1]
    exact nod (Or.inr (Or.inr (Or.inr e1)))
  · rw [if_neg e1]
    unfold c2_mayBeginData
    rw [e3, e6, e7]
    by_cases x2 : xI r 0 36 32 = 0
    · rw [if_pos x2]
      by_cases x3 : xI r 0 40 32 = 0
      · rw [if_pos x3]
        by_cases x4 : xI r 0 41 32 = 0
        · rw [if_pos x4]
          refine P2.l rfl (P2.nl n10 ?_)
          rw [l2]
          refine P2.l (c5_byteAt_h 2 S c1) ?_
          have hm1 : 1 ≤ m := by
            rcases Nat.eq_zero_or_pos m with z | z
            · exact absurd (show xI r 0 45 32 ≤ 0 by rw [c7', z]; decide) e1
            · exact z
          have hS : cB S 8 3 f = cB s 8 3 f := by
            rw [← hx.2.2.2.1, cB_v S (by decide)]
          have hgo : r_goes (sI (sI R 0 41 32 1) 0 42 32 1) (32 : Int32) = some (nI (cB S 8 3 f), sI (sI R 0 41 32 1) 0 42 32 1) := by
            unfold r_goes
            rw [if_pos rfl]
            simp (disch := omega) only [xI_ne]
            rw [hx.r_eq (j := 0) (by omega), c8, gd_nI c1 (by decide), nI_clamp (by omega), hx.r_eq (j := 58) (by omega), hS, c12 f c1]
            have := pk_and (xI r 0 58 f) (m := 255) 8 (by decide)
            rw [this]
          obtain ⟨a, b, y1, y2, s', r', pb, hq⟩ := p_put_data hx hx (n := 8) (j := 16) (e := 32) (by decide) (by decide) o1 x2 x3 x4 e1 (v := cB S 8 3 f) (lB_lt _ _) hgo
          rw [show (32 : Int32) = nI 32 from rfl, y2]
          refine ⟨a, b, ?_, rfl, hq.un (clo (fun a b hab => xI_fn_ne _ _ (by omega)) rfl (xI_ne _ _ (by omega)) (fun jj ee hh => ?_) (fun _ => ⟨xI_eq _ _ _ _ _, hm1⟩) pb)⟩
          · show ((c2_beginData 8 16 S (nI (cB S 8 3 f))).bind (fun S7 => (c2_putNextBit 8 16 S7).bind (fun S8 => some S8))) = some a
            cases hb : c2_beginData 8 16 S (nI (cB S 8 3 f)) with
            | none => rw [hb] at y1; cases y1
            | some w =>
              rw [hb, Option.bind_some] at y1
              rw [Option.bind_some, y1]
              rfl
          · rw [xI_ne _ _ (by omega), xI_ne _ _ (by omega)]
        · rw [if_neg x4]
          refine P2.l rfl (P2.pl rfl ?_)
          exact nod (Or.inr (Or.inr (Or.inl x4)))
      · rw [if_neg x3]
        refine P2.l rfl (P2.pl rfl ?_)
        exact nod (Or.inr (Or.inl x3))
    · rw [if_neg x2]
      refine P2.l rfl (P2.pl rfl ?_)
      exact nod (Or.inl x2)
