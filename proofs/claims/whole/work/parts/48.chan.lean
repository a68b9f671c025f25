/-! links, from a process -/
theorem REL.opn {E : Nat → Nat → Prop} {N : xN} {D : Nat} {S R : xS} (h : REL E (LX D N) N S R) : ∃ s r, REL E (XV s r) N S R ∧ LX D N s r := ⟨_, _, h.xv, h.lx.ofv⟩
theorem EPp.bd {D : Nat} {e r : Nat → Int32} (h : EPp D e r) : ∃ d, d ≤ D ∧ r 7 = nI d := h.2.2.2.2.2.2.2.2.2.2.2.1
theorem EPp.c6 {D D' : Nat} {e e' r r' : Nat → Int32} (h : EPp D e r) (a : e' 2 = e 2 ∧ e' 3 = e 3 ∧ e' 4 = e 4 ∧ e' 5 = e 5 ∧ e' 7 = e 7 ∧ e' 8 = e 8 ∧ e' 9 = e 9) (b : r' 1 = r 1 ∧ r' 2 = r 2 ∧ r' 3 = r 3 ∧ r' 4 = r 4 ∧ r' 5 = r 5 ∧ r' 6 = r 6 ∧ r' 8 = r 8) (c : e' 6 = r' 7) (d : ∃ d, d ≤ D' ∧ r' 7 = nI d) : EPp D' e' r' := by
  obtain ⟨a2, a3, a4, a5, a7, a8, a9⟩ := a
  obtain ⟨b1, b2, b3, b4, b5, b6, b8⟩ := b
  unfold EPp at h ⊢
  rw [a2, a3, a4, a5, a7, a8, a9, b1, b2, b3, b4, b5, b6, b8]
  obtain ⟨h1, h2, h3, h4, h5, h6, h7, h8, h9, h10, h11, h12, h13⟩ := h
  exact ⟨h1, h2, h3, c, h5, h6, h7, h8, h9, h10, h11, d, h13⟩
theorem EPp.c7 {D : Nat} {e e' r r' : Nat → Int32} (h : EPp D e r) (a : e' 2 = e 2 ∧ e' 3 = e 3 ∧ e' 4 = e 4 ∧ e' 5 = e 5 ∧ e' 6 = e 6 ∧ e' 7 = e 7 ∧ e' 8 = e 8 ∧ e' 9 = e 9) (b : r' 1 = r 1 ∧ r' 2 = r 2 ∧ r' 3 = r 3 ∧ r' 4 = r 4 ∧ r' 5 = r 5 ∧ r' 6 = r 6 ∧ r' 7 = r 7 ∧ r' 8 = r 8) : EPp D e' r' := h.c6 ⟨a.1, a.2.1, a.2.2.1, a.2.2.2.1, a.2.2.2.2.2.1, a.2.2.2.2.2.2⟩ ⟨b.1, b.2.1, b.2.2.1, b.2.2.2.1, b.2.2.2.2.1, b.2.2.2.2.2.1, b.2.2.2.2.2.2.2⟩ (by rw [a.2.2.2.2.1, b.2.2.2.2.2.2.1]; exact h.2.2.2.1) (by rw [b.2.2.2.2.2.2.1]; exact h.bd)
theorem OUp.c {l l' r r' b q : Nat → Int32} {k : Nat} (h : OUp l r b q k) (a : l' 4 = l 4 ∧ l' 5 = l 5) (b' : r' 8 = r 8 ∧ r' 9 = r 9 ∧ r' 10 = r 10 ∧ r' 11 = r 11 ∧ r' 12 = r 12 ∧ r' 13 = r 13) : OUp l' r' b q k := by
  obtain ⟨a4, a5⟩ := a
  obtain ⟨b8, b9, b10, b11, b12, b13⟩ := b'
  unfold OUp at h ⊢
  rw [a4, a5, b8, b9, b10, b11, b12, b13]
  exact h
theorem INp.c {l l' r r' : Nat → Int32} (h : INp l r) (a : l' 9 = l 9) (b : r' 14 = r 14 ∧ r' 15 = r 15 ∧ r' 16 = r 16) : INp l' r' := by
  obtain ⟨b1, b2, b3⟩ := b
  unfold INp at h ⊢
  rw [a, b1, b2, b3]
  exact h
theorem ne_m1 {v : Int32} (h : v &&& 65535 = v) : ¬ v = -1 := by
  intro e
  rw [e] at h
  exact absurd h (by decide)
theorem w16_own {R : xS} {n : Nat} (hw : xI R 0 10 n &&& 65534 = xI R 0 10 n) (hp : xI R 0 11 n = 0 ∨ xI R 0 11 n = 1) : rOwn R n &&& 65535 = rOwn R n := by
  unfold rOwn
  obtain ⟨k, hk, e⟩ := w14_nat hw
  rw [e]
  rcases hp with p | p <;> rw [p]
  · rw [show nI (2 * k) ||| (0 : Int32) = nI (2 * k + 0) from or_bit (t := k) (b := 0) (by decide) (by omega)]
    exact w16_nI (by omega)
  · rw [show nI (2 * k) ||| (1 : Int32) = nI (2 * k + 1) from or_bit (t := k) (b := 1) (by decide) (by omega)]
    exact w16_nI (by omega)
theorem g33 {α : Type} {i : Nat} {k : Option α} (h : i < 33) : gd (nI i) 33 k = k := gd_nI h (by decide)
/-- which link a channel is -/
theorem link_cases {ch : Int32} (hw : ch &&& 65535 = ch) (n : Nat) : (∃ k, k < 4 ∧ (∀ S, c0_linkOf n S ch = some (some (n, 12 + k), S)) ∧ r_isLink ch = some 1 ∧ r_linkOf (nI n) ch = some (nI (4 * n + k))) ∨ ((∀ S, c0_linkOf n S ch = some (none, S)) ∧ r_isLink ch = some 0) := by
  obtain ⟨a, ha, rfl⟩ := w16_nat hw
  have e1 : nI a &&& 65534 = nI (a / 2 * 2) := by
    rw [i_65534, pk_tn (by omega), Nat.mod_eq_of_lt ha]
  unfold c0_linkOf r_isLink r_linkOf
  rw [e1]
  by_cases c1 : a < 32768
  · refine Or.inr ⟨fun S => ?_, ?_⟩
    · have e2 : (nI (a / 2 * 2) - 32768) >>> ((1 : Int32) &&& 31) < 0 := by
        rw [Int32.lt_iff_toInt_lt, pk_shr _ _ 1 (by decide), show (32768 : Int32) = nI 32768 from rfl, pk_sub_toInt (by omega) (by decide), Int.shiftRight_eq_div_pow, show (0 : Int32).toInt = 0 from rfl]
        omega
      rw [if_pos e2]
    · rw [if_pos (show nI (a / 2 * 2) < (32768 : Int32) from nI_lt (b := 32768) (by omega) (by decide))]
  · have e3 : nI (a / 2 * 2) - 32768 = nI (a / 2 * 2 - 32768) := pk_sub (b := 32768) (by omega)
    have e4 : nI (a / 2 * 2 - 32768) >>> ((1 : Int32) &&& 31) = nI ((a - 32768) / 2) := by
      rw [pk_shrN (by omega) _ 1 (by decide), show (a / 2 * 2 - 32768) / 2 ^ 1 = (a - 32768) / 2 by omega]
    have e8 : ¬ nI ((a - 32768) / 2) < 0 := nI_pos (by omega)
    have e9 : ¬ nI (a / 2 * 2) < (32768 : Int32) := nI_nlt (b := 32768) (by omega) (by omega)
    rw [e3, e4]
    by_cases c2 : a < 32784
    · refine Or.inl ⟨(a - 32768) / 2 % 4, Nat.mod_lt _ (by decide), fun S => ?_, ?_, ?_⟩
      · rw [if_neg e8, if_pos (show nI ((a - 32768) / 2) < (8 : Int32) from nI_lt (b := 8) (by omega) (by decide))]
        have e5 : jrem (nI ((a - 32768) / 2)) 4 = nI ((a - 32768) / 2 % 4) := by
          unfold jrem
          exact pk_rem (d := 4) (by omega) (by decide) (by decide)
        rw [e5, gd_nI (Nat.mod_lt _ (by decide)) (by decide), nI_clamp (by omega)]
      · rw [if_neg e9, if_neg (show ¬ (32782 : Int32) < nI (a / 2 * 2) from nI_nlt (a := 32782) (by omega) (by decide))]
      · have e6 : (nI a - 32768) / 2 = nI ((a - 32768) / 2) := by
          rw [show nI a - 32768 = nI (a - 32768) from pk_sub (b := 32768) (by omega)]
          exact pk_div (d := 2) (by omega) (by decide) (by decide)
        have e7 : nI ((a - 32768) / 2) &&& 3 = nI ((a - 32768) / 2 % 4) := by
          rw [pk_and _ 2 (by decide), pk_tn (by omega)]
        rw [e6, e7, show (4 : Int32) = nI 4 from rfl, pk_mul, nI_add]
    · refine Or.inr ⟨fun S => ?_, ?_⟩
      · rw [if_neg e8, if_neg (show ¬ nI ((a - 32768) / 2) < (8 : Int32) from nI_nlt (b := 8) (by omega) (by omega))]
      · rw [if_neg e9, if_pos (show (32782 : Int32) < nI (a / 2 * 2) from nI_lt (a := 32782) (by omega) (by omega))]
/-- the node's output is no PEEK's where it doesn't boot -/
theorem NKp.q0 {D : Nat} {z w : Prop} {S R : xS} {n : Nat} (h : NKp D z w S R n) (hz : ¬ z) : rb R n 0 = 0 := by
  obtain ⟨h1, h2, h3, h4⟩ := h
  rcases h3.2 with h | h
  · exact h
  · exact absurd (h1.mpr h.1) hz
theorem p_linkOut {N : xN} {D : Nat} {S R : xS} (h : REL E0 (LX D N) N S R) {n : Nat} (hn : inN n N) (hp : xI R 0 11 n = 0 ∨ xI R 0 11 n = 1) {k : Nat} (hk : k < 4) {cnt pl : Int32} (hc : cnt &&& 65535 = cnt) (hc2 : cnt ≤ 4096) (hw : pl &&& 65535 = pl) {np : Int32} (hnp : np = 2 ∨ np = 3) : P2 (c0_outputToLink n (12 + k) S cnt pl) (r_linkOut R (nI n) (nI (4 * n + k)) cnt pl np) (REL E0 (LX D N) N) := by
  have h8 := h.le8 hn
  have l33 : 4 * n + k < 33 := by omega
  have h1 : ∃ R1, r_popped R (nI n) np = some (1, R1) ∧ REL E0 (LX D N) N (cPopAll S n) R1 ∧ (xI R1 0 11 n = 0 ∨ xI R1 0 11 n = 1) := by
    rcases hnp with e | e <;> rw [e]
    · exact ⟨_, r_popped_2 _ h8, h.popAll2 hn (okE0 n), by rw [rPop_o _ _ _ _ (by decide) (by decide), rPop_o _ _ _ _ (by decide) (by decide)]; exact hp⟩
    · exact ⟨_, r_popped_3 _ h8, h.popAll3 hn (okE0 n), by rw [rPop_o _ _ _ _ (by decide) (by decide), rPop_o _ _ _ _ (by decide) (by decide), rPop_o _ _ _ _ (by decide) (by decide)]; exact hp⟩
  obtain ⟨R1, e1, h1, hp1⟩ := h1
  unfold c0_outputToLink r_linkOut
  refine P2.l (c9_popAll_n _ _) (P2.r e1 ?_)
  simp only [g33 l33, nI_clamp (show 4 * n + k < 2 ^ 31 by omega)]
  revert h1
  generalize cPopAll S n = S1
  intro h1
  clear h e1 hp
  refine P2.ite Iff.rfl (fun _ _ => P2.ret h1) (fun c0 _ => ?_)
  obtain ⟨s, r, hx, hl⟩ := h1.opn
  have nk := hl.1 n hn.1
  have q0 := nk.q0 hn.2
  have old := nk.2.1 k hk
  obtain ⟨o1, ⟨o2, o3, o4, o5, o6, o7⟩, o8, o9, o10, o11, o12, o13⟩ := old
  have o2' : xI s n (12 + k) 2 = xI r 0 44 (4 * n + k) := o2
  rw [hx.c_eq (by omega), hx.r_eq (by omega), o2']
  refine P2.ite Iff.rfl (fun c1 _ => ?_) (fun _ _ => ?_)
  · refine P2.l (c1_own_n _ _) (P2.r (r_own_n _ h8) ?_)
    rw [h1.own hn hp1]
    have ho := w16_own (h1.w_W hn) hp1
    revert ho
    generalize rOwn R1 n = ow
    intro ho
    refine P2.l rfl (P2.xr (P2.xr (P2.xr ?_)))
    refine P2.l (c1_leaveWaiting_n _ _) (P2.r (r_waits_n _ h8) (P2.ret ?_))
    have h2 := (((((hx.cv (n := n) (j := 12 + k) (k := 2) (by omega) ow).cv (n := n) (j := 12 + k) (k := 3) (by omega) cnt).cv (n := n) (j := 12 + k) (k := 4) (by omega) pl).rv (j := 44) (k := 4 * n + k) (by omega) ow).rv (j := 45) (k := 4 * n + k) (by omega) cnt).rv (j := 46) (k := 4 * n + k) (by omega) pl
    refine (h2.waits hn).un ?_
    refine hl.link (Nat.le_refl D) hn.1 hk (fun a b hab => ?_) rfl (fun j e he => ?_) ?_ h1.1 ⟨?_, ⟨?_, ?_, ?_, ?_, ?_, ?_⟩, ?_, ?_, ?_, ?_, ?_, ?_⟩ (Or.inr q0)
    · rw [xI_fn_ne _ _ (by omega), xI_fn_ne _ _ (by omega), xI_fn_ne _ _ (by omega)]
    · simp (disch := omega) only [xI_ne]
    · simp (disch := omega) only [xI_ne]
    · refine o1.c7 ?_ ?_ <;> simp (disch := omega) only [rr, xI_ne, xI_eq, and_self]
    · simp (disch := omega) only [rr, xI_ne, xI_eq]
    · simp (disch := omega) only [rr, xI_ne, xI_eq]
    · simp (disch := omega) only [rr, xI_ne, xI_eq]; exact o4
    · simp (disch := omega) only [rr, xI_ne, xI_eq]; exact o5
    · simp (disch := omega) only [rr, xI_ne, xI_eq]; exact o6
    · simp (disch := omega) only [rr, xI_ne, xI_eq]; exact o7
    · simp (disch := omega) only [rr, xI_ne, xI_eq]; exact o8
    · simp (disch := omega) only [rr, xI_ne, xI_eq]; exact o9
    · simp (disch := omega) only [rr, xI_ne, xI_eq]; exact o10
    · refine o11.c ?_ ?_ <;> simp (disch := omega) only [rr, xI_ne, xI_eq, and_self]
    · obtain ⟨m, hm, em⟩ := w16_nat hc
      have hm2 : m ≤ 4096 := by rw [em] at hc2; exact (nI_leI (a := m) (b := 4096) (by omega) (by decide)).mp hc2
      have hm1 : m ≠ 0 := fun z => c0 (by rw [em, z]; rfl)
      have l5 : xI s n (12 + k) 5 = -1 ∧ xI r 0 43 (4 * n + k) = 0 := by
        rcases o12 with o | o | o
        · exact ⟨o.2.2.2.1, o.2.2.1⟩
        · exact absurd c1 (ne_m1 o.1)
        · exact absurd o.2.2.2.1 (by rw [q0]; decide)
      refine Or.inr (Or.inl ?_)
      simp (disch := omega) only [rr, xI_ne, xI_eq]
      exact ⟨ho, ⟨m, by omega, hm2, em⟩, l5.2, l5.1, hw, q0⟩
    · intro z
      exact absurd z (by rw [q0]; decide)
  · refine P2.l (c1_stopWith_n _ _ _) (P2.r (r_stop_n _ h8 _) ?_)
    exact P2.ret (h1.stop hn 3)
