/-! booting: the relation -/
/-- one node's links and its boot are changed; the node may go on -/
theorem LX.node2 {N N' : xN} {D0 D : Nat} {s r s' r' : xS} (h0 : LX D0 N s r) (hD : D0 ≤ D) (hN : N.1 ≤ 8) (hN' : N'.1 = N.1) {n : Nat} (hn : n < N.1) (hzz : ∀ m, m < N.1 → m ≠ n → (N'.2 m ↔ N.2 m) ∧ (N'.2 (8 + m) ↔ N.2 (8 + m))) (f1 : ∀ a b, ¬ (a = n ∧ (b = 0 ∨ (12 ≤ b ∧ b < 20))) → xI s' a b = xI s a b) (f2 : s'.2 = s.2) (f3 : ∀ j e, ¬ ((4 * n ≤ e ∧ e < 4 * n + 4 ∧ 34 ≤ j ∧ j ≤ 51) ∨ (e = n ∧ 52 ≤ j ∧ j ≤ 57)) → xI r' 0 j e = xI r 0 j e) (f4 : ∀ k, k < 4 → xI s' n (16 + k) 1 = xI s n (16 + k) 1) (hz : N'.2 n ↔ rb r' n 0 = 1) (hL : ∀ k, k < 4 → LKp D (xI s' n (12 + k)) (xI s' n (16 + k)) (rr r' (4 * n + k)) (xI s' n 0) (rb r' n) k) (hB : BTp (N'.2 (8 + n)) (xI s' n 0) (rb r' n) (fun k => xI s' n (12 + k) 3)) : LX D N' s' r' := by
  have h := h0.mono hD
  obtain ⟨a1, a2, a3, a4⟩ := h
  have eb : ∀ m, m ≠ n → rb r' m = rb r m := fun m hm => funext fun i => f3 _ _ (by omega)
  have er0 : ∀ e, rr r' e 0 = rr r e 0 := fun e => f3 _ _ (by omega)
  have ex : ∀ a b, xE s' a b = xE s a b := fun a b => by unfold xE; rw [f2]
  have eB : ∀ a b x, cB s' a b x = cB s a b x := fun a b x => by unfold cB xJ; rw [f2]
  refine ⟨fun m hm => ?_, ?_, ?_, ?_⟩
  · rw [hN'] at hm
    obtain ⟨b1, b2, b3, b4⟩ := a1 m hm
    have hT : TMp s' r' m := fun t ht => by
      rw [f1 m 9 (by omega), f1 m 10 (by omega), f3 _ _ (by omega), f3 _ _ (by omega)]
      exact b4 t ht
    by_cases e : m = n
    · subst e
      exact ⟨hz, hL, hB, hT⟩
    · refine ⟨by rw [eb m e]; exact (hzz m hm e).1.trans b1, fun k hk => ?_, ?_, hT⟩
      · rw [eb m e, f1 m 0 (by omega), f1 m (12 + k) (by omega), f1 m (16 + k) (by omega)]
        refine (b2 k hk).cr (fun i hi => ?_)
        exact f3 _ _ (by omega)
      · have e2 : (fun k => xI s' m (12 + k) 3) = fun k => xI s m (12 + k) 3 := funext fun k => by rw [f1 m (12 + k) (by omega)]
        rw [eb m e, f1 m 0 (by omega), e2]
        rw [show N'.2 (8 + m) = N.2 (8 + m) from propext (hzz m hm e).2]
        exact b3
  · obtain ⟨b1, f, m, c, c1, c2, c3, c4, c5, c6, c7, c8, c9, c10, c11, c12, c13⟩ := a2
    have e32 : rr r' 32 = rr r 32 := funext fun i => f3 _ _ (by omega)
    unfold HOp
    rw [e32, f1 8 16 (by omega), f1 8 0 (by omega), f3 0 59 (by omega), f3 0 60 (by omega), f3 0 61 (by omega)]
    exact ⟨b1, f, m, c, c1, c2, c3, c4, c5, c6, c7, c8, c9, c10, c11, fun x hx => by rw [eB, f3 58 x (by omega)]; exact c12 x hx, fun x hx => by rw [eB, f3 59 x (by omega)]; exact c13 x hx⟩
  · rw [hN']
    intro a b hab
    have e1 : xI s' a (16 + b) 1 = xI s a (16 + b) 1 := by
      by_cases e : a = n
      · subst e
        exact f4 b (by rcases hab with h | h <;> omega)
      · rw [f1 a (16 + b) (by omega)]
    rw [ex, er0, e1]
    exact a3 a b hab
  · refine ⟨?_, ?_⟩
    · rw [f1 9 0 (by omega), f3 0 2 (by omega)]
      exact a4.1
    · rw [f3 0 1 (by omega), hN']
      exact a4.2
/-- a link of a node that boots and answers nothing -/
theorem LKp.bq {D : Nat} {l e r b q b' q' : Nat → Int32} {k : Nat} (h : LKp D l e r b q k) (h0 : q 0 = 1) (h8 : b 8 = 0) : LKp D l e r b' q' k := by
  obtain ⟨o1, o2, o8, o9, o10, o11, o12, o13⟩ := h
  refine ⟨o1, o2, o8, o9, o10, o11, ?_, fun _ => o13 h0⟩
  rcases o12 with o | o | o
  · exact Or.inl o
  · exact absurd o.2.2.2.2.2 (by rw [h0]; decide)
  · exact absurd o.2.2.2.2.2.2.1 (by rw [h8]; decide)
theorem REL.reN {E : Nat → Nat → Prop} {X : xS → xS → Prop} {N N' : xN} {S R : xS} (h : REL E X N S R) (e : N'.1 = N.1) (hz : ∀ m, m < N.1 → N'.2 m → N.2 m) : REL E X N' S R := by
  obtain ⟨h0, ⟨h1, h1', h1''⟩, h2, h3⟩ := h
  exact ⟨by rw [e]; exact h0, ⟨fun m hm hm2 => h1 m (by rw [← e]; exact hm) (hz m (by rw [← e]; exact hm) hm2), fun m hm => h1' m (by rw [← e]; exact hm), fun m hm => h1'' m (by rw [← e]; exact hm)⟩, fun m hm => h2 m (by rw [← e]; exact hm), h3⟩
/-- the nodes that boot, but for n -/
def lessN (N : xN) (n : Nat) : xN := (N.1, fun m => N.2 m ∧ m ≠ n)
theorem REL.less {E : Nat → Nat → Prop} {X : xS → xS → Prop} {N : xN} {S R : xS} (h : REL E X N S R) (n : Nat) : REL E X (lessN N n) S R := h.reN rfl (fun _ _ z => z.1)
theorem REL.back {E : Nat → Nat → Prop} {X : xS → xS → Prop} {N : xN} {n : Nat} {S R : xS} (h : REL E X (lessN N n) S R) (hi : idle R n) : REL E X N S R := by
  obtain ⟨h0, ⟨h1, h1'⟩, h2, h3⟩ := h
  refine ⟨h0, ⟨fun m hm hm2 => ?_, h1'⟩, h2, h3⟩
  by_cases e : m = n
  · subst e; exact hi
  · exact h1 m hm ⟨hm2, e⟩
theorem in_less {N : xN} {n : Nat} (hn : n < N.1) : inN n (lessN N n) := ⟨hn, fun z => z.2 rfl⟩
/-- nothing is left to leave at node n -/
def strongN (N : xN) (n : Nat) : xN := (N.1, fun m => N.2 m ∧ m ≠ 8 + n)
/-- node n boots no longer -/
def goN (N : xN) (n : Nat) : xN := (N.1, fun m => N.2 m ∧ m ≠ n ∧ m ≠ 8 + n)
theorem idle_frm {R R' : xS} {n : Nat} (h : idle R n) (f : ∀ j k, j = 11 ∨ j = 19 ∨ j = 22 ∨ j = 30 → xI R' 0 j k = xI R 0 j k) : idle R' n := by
  unfold idle
  rw [f 11 _ (by omega), f 19 _ (by omega), f 19 _ (by omega), f 22 _ (by omega), f 30 _ (by omega)]
  exact h
/-- the first link with a byte, on both sides -/
theorem first_link {S R : xS} {n : Nat} (hn : n < 8) (hk : ∀ k, k < 4 → xI S n (12 + k) 10 = xI R 0 50 (4 * n + k)) : (c6_firstLinkWithByte n S = some (-1, S) ∧ r_boot_b12 100000 (nI n) 3 R = r_boot_b43 (nI n) R) ∨ ∃ k, k < 4 ∧ ¬ xI R 0 50 (4 * n + k) = -1 ∧ c6_firstLinkWithByte n S = some (nI k, S) ∧ r_boot_b12 100000 (nI n) 3 R = r_boot_b43 (nI n) (sI R 0 53 n (nI k)) := by
  have k0 := hk 0 (by decide)
  have k1 := hk 1 (by decide)
  have k2 := hk 2 (by decide)
  have k3 := hk 3 (by decide)
  have ix : ∀ k, (4 : Int32) * nI n + nI k = nI (4 * n + k) := fun k => by rw [show (4 : Int32) = nI 4 from rfl, pk_mul, nI_add]
  have st : ∀ (fu k : Nat) (R : xS), k < 4 → r_boot_b12 (fu + 1) (nI n) (nI k) R = if xI R 0 50 (4 * n + k) = -1 then r_boot_b12 fu (nI n) (nI k + (-1)) R else r_boot_b12 fu (nI n) (nI k + (-1)) (sI R 0 53 n (nI k)) := by
    intro fu k R hk
    conv => lhs; unfold r_boot_b12 r_boot_b37
    rw [if_neg (nI_pos (by omega)), ix, gd_nI (show 4 * n + k < 33 by omega) (by decide), nI_clamp (show 4 * n + k < 2 ^ 31 by omega), gI hn, cl8 hn]
    rfl
  have st0 : ∀ (fu : Nat) (R : xS), r_boot_b12 (fu + 1) (nI n) (nI 0 + (-1)) R = r_boot_b43 (nI n) R := by
    intro fu R
    conv => lhs; unfold r_boot_b12
    rw [if_pos (by decide)]
  have ct : ∀ (fu k : Nat), k < 4 → c6_firstLinkWithByte_b2 n (fu + 1) (nI k) S = if xI S n (12 + k) 10 = -1 then c6_firstLinkWithByte_b2 n fu (nI k + 1) S else some (nI k, S) := by
    intro fu k hk
    conv => lhs; unfold c6_firstLinkWithByte_b2
    rw [if_neg (show ¬ (4 : Int32) ≤ nI k from nI_ge (b := 4) hk (by decide)), gd_nI hk (by decide), nI_clamp (show k < 2 ^ 31 by omega)]
  have ct4 : ∀ fu, c6_firstLinkWithByte_b2 n (fu + 1) (nI 3 + 1) S = some (-1, S) := by
    intro fu
    conv => lhs; unfold c6_firstLinkWithByte_b2
    rw [if_pos (by decide)]
  have cc : c6_firstLinkWithByte n S = if xI S n (12 + 0) 10 = -1 then (if xI S n (12 + 1) 10 = -1 then (if xI S n (12 + 2) 10 = -1 then (if xI S n (12 + 3) 10 = -1 then some (-1, S) else some (nI 3, S)) else some (nI 2, S)) else some (nI 1, S)) else some (nI 0, S) := by
    show c6_firstLinkWithByte_b2 n (99995 + 1 + 1 + 1 + 1 + 1) (nI 0) S = _
    rw [ct _ 0 (by decide), nI_1, ct _ 1 (by decide), nI_1, ct _ 2 (by decide), nI_1, ct _ 3 (by decide), ct4]
  have e3 : (3 : Int32) = nI 3 := rfl
  have m1 : ∀ k, nI (k + 1) + (-1) = nI k := fun k => pk_m1 k
  have f0 : ∀ R' : xS, (∀ k, xI R' 0 50 k = xI R 0 50 k) → ∀ fu, r_boot_b12 (fu + 1 + 1) (nI n) (nI 0) R' = if xI R 0 50 (4 * n + 0) = -1 then r_boot_b43 (nI n) R' else r_boot_b43 (nI n) (sI R' 0 53 n (nI 0)) := by
    intro R' h fu
    rw [st _ 0 _ (by decide), h, st0, st0]
  have f1 : ∀ R' : xS, (∀ k, xI R' 0 50 k = xI R 0 50 k) → ∀ fu, r_boot_b12 (fu + 1 + 1 + 1) (nI n) (nI 1) R' = if xI R 0 50 (4 * n + 1) = -1 then r_boot_b12 (fu + 1 + 1) (nI n) (nI 0) R' else r_boot_b12 (fu + 1 + 1) (nI n) (nI 0) (sI R' 0 53 n (nI 1)) := by
    intro R' h fu
    rw [st _ 1 _ (by decide), h, m1 0]
  have f2 : ∀ R' : xS, (∀ k, xI R' 0 50 k = xI R 0 50 k) → ∀ fu, r_boot_b12 (fu + 1 + 1 + 1 + 1) (nI n) (nI 2) R' = if xI R 0 50 (4 * n + 2) = -1 then r_boot_b12 (fu + 1 + 1 + 1) (nI n) (nI 1) R' else r_boot_b12 (fu + 1 + 1 + 1) (nI n) (nI 1) (sI R' 0 53 n (nI 2)) := by
    intro R' h fu
    rw [st _ 2 _ (by decide), h, m1 1]
  have f3 : r_boot_b12 100000 (nI n) 3 R = if xI R 0 50 (4 * n + 3) = -1 then r_boot_b12 (99995 + 1 + 1 + 1 + 1) (nI n) (nI 2) R else r_boot_b12 (99995 + 1 + 1 + 1 + 1) (nI n) (nI 2) (sI R 0 53 n (nI 3)) := by
    show r_boot_b12 (99995 + 1 + 1 + 1 + 1 + 1) (nI n) (nI 3) R = _
    rw [st _ 3 _ (by decide), m1 2]
  have nx : ∀ (R' : xS) (v : Int32) (k : Nat), xI (sI R' 0 53 n v) 0 50 k = xI R' 0 50 k := fun R' v k => xI_ne _ _ (by omega)
  rw [cc, f3, k0, k1, k2, k3]
  -- the rest is a matter of cases
  have g : ∀ R' : xS, (∀ k, xI R' 0 50 k = xI R 0 50 k) → (∀ v, sI R' 0 53 n v = sI R 0 53 n v) → r_boot_b12 (99995 + 1 + 1 + 1 + 1) (nI n) (nI 2) R' = if xI R 0 50 (4 * n + 0) = -1 then (if xI R 0 50 (4 * n + 1) = -1 then (if xI R 0 50 (4 * n + 2) = -1 then r_boot_b43 (nI n) R' else r_boot_b43 (nI n) (sI R 0 53 n (nI 2))) else r_boot_b43 (nI n) (sI R 0 53 n (nI 1))) else r_boot_b43 (nI n) (sI R 0 53 n (nI 0)) := by
    intro R' h1 h2
    have h3 : ∀ v k, xI (sI R' 0 53 n v) 0 50 k = xI R 0 50 k := fun v k => (nx R' v k).trans (h1 k)
    have h4 : ∀ v w, sI (sI R' 0 53 n v) 0 53 n w = sI R 0 53 n w := fun v w => by rw [sI_idem]; exact h2 w
    rw [f2 R' h1, f1 R' h1, f1 _ (h3 _), f0 R' h1, f0 _ (h3 _), f0 _ (h3 _), f0 _ (fun k => (nx _ _ k).trans (h3 _ k))]
    rw [h4, h4, h2, h2, h4, sI_idem, h2]
    by_cases c0 : xI R 0 50 (4 * n + 0) = -1 <;> by_cases c1 : xI R 0 50 (4 * n + 1) = -1 <;> by_cases c2 : xI R 0 50 (4 * n + 2) = -1 <;> simp only [c0, c1, c2, if_true, if_false]
  rw [g R (fun _ => rfl) (fun _ => rfl), g (sI R 0 53 n (nI 3)) (fun k => nx R _ k) (fun v => sI_idem _ _ _ _ _ _)]
  by_cases c0 : xI R 0 50 (4 * n + 0) = -1
  · by_cases c1 : xI R 0 50 (4 * n + 1) = -1
    · by_cases c2 : xI R 0 50 (4 * n + 2) = -1
      · by_cases c3 : xI R 0 50 (4 * n + 3) = -1
        · refine Or.inl ⟨?_, ?_⟩
          · rw [if_pos c0, if_pos c1, if_pos c2, if_pos c3]
          · rw [if_pos c3, if_pos c0, if_pos c1, if_pos c2]
        · refine Or.inr ⟨3, by decide, c3, ?_, ?_⟩
          · rw [if_pos c0, if_pos c1, if_pos c2, if_neg c3]
          · rw [if_neg c3, if_pos c0, if_pos c1, if_pos c2]
      · refine Or.inr ⟨2, by decide, c2, ?_, ?_⟩
        · rw [if_pos c0, if_pos c1, if_neg c2]
        · by_cases c3 : xI R 0 50 (4 * n + 3) = -1
          · rw [if_pos c3, if_pos c0, if_pos c1, if_neg c2]
          · rw [if_neg c3, if_pos c0, if_pos c1, if_neg c2]
    · refine Or.inr ⟨1, by decide, c1, ?_, ?_⟩
      · rw [if_pos c0, if_neg c1]
      · by_cases c3 : xI R 0 50 (4 * n + 3) = -1
        · rw [if_pos c3, if_pos c0, if_neg c1]
        · rw [if_neg c3, if_pos c0, if_neg c1]
  · refine Or.inr ⟨0, by decide, c0, ?_, ?_⟩
    · rw [if_neg c0]
    · by_cases c3 : xI R 0 50 (4 * n + 3) = -1
      · rw [if_pos c3, if_neg c0]
      · rw [if_neg c3, if_neg c0]
