/-! a link takes a bit: silence, acknowledgements -/
theorem LKp.cr {D : Nat} {l e r r' b q : Nat → Int32} {k : Nat} (h : LKp D l e r b q k) (hr : ∀ i, i ≤ 18 → r' i = r i) : LKp D l e r' b q k := by
  have e1 := hr 1 (by decide)
  have e2 := hr 2 (by decide)
  have e3 := hr 3 (by decide)
  have e4 := hr 4 (by decide)
  have e5 := hr 5 (by decide)
  have e6 := hr 6 (by decide)
  have e7 := hr 7 (by decide)
  have e8 := hr 8 (by decide)
  have e9 := hr 9 (by decide)
  have e10 := hr 10 (by decide)
  have e11 := hr 11 (by decide)
  have e12 := hr 12 (by decide)
  have e13 := hr 13 (by decide)
  have e14 := hr 14 (by decide)
  have e15 := hr 15 (by decide)
  have e16 := hr 16 (by decide)
  have e17 := hr 17 (by decide)
  have e18 := hr 18 (by decide)
  unfold LKp EPp INp OUp at *
  rw [e1, e2, e3, e4, e5, e6, e7, e8, e9, e10, e11, e12, e13, e14, e15, e16, e17, e18]
  exact h
/-- one node's links and its boot are changed -/
theorem LX.node {N : xN} {D0 D : Nat} {s r s' r' : xS} (h0 : LX D0 N s r) (hD : D0 ≤ D) (hN : N.1 ≤ 8) {n : Nat} (hn : n < N.1) (f1 : ∀ a b, ¬ (a = n ∧ (b = 0 ∨ (12 ≤ b ∧ b < 20))) → xI s' a b = xI s a b) (f2 : s'.2 = s.2) (f3 : ∀ j e, ¬ ((4 * n ≤ e ∧ e < 4 * n + 4 ∧ 34 ≤ j ∧ j ≤ 51) ∨ (e = n ∧ 52 ≤ j ∧ j ≤ 57)) → xI r' 0 j e = xI r 0 j e) (f4 : ∀ k, k < 4 → xI s' n (16 + k) 1 = xI s n (16 + k) 1) (hz : N.2 n ↔ rb r' n 0 = 1) (hL : ∀ k, k < 4 → LKp D (xI s' n (12 + k)) (xI s' n (16 + k)) (rr r' (4 * n + k)) (xI s' n 0) (rb r' n) k) (hB : BTp (N.2 (8 + n)) (xI s' n 0) (rb r' n) (fun k => xI s' n (12 + k) 3)) : LX D N s' r' := by
  have h := h0.mono hD
  obtain ⟨a1, a2, a3, a4⟩ := h
  have eb : ∀ m, m ≠ n → rb r' m = rb r m := fun m hm => funext fun i => f3 _ _ (by omega)
  have er0 : ∀ e, rr r' e 0 = rr r e 0 := fun e => f3 _ _ (by omega)
  have ex : ∀ a b, xE s' a b = xE s a b := fun a b => by unfold xE; rw [f2]
  have eB : ∀ a b x, cB s' a b x = cB s a b x := fun a b x => by unfold cB xJ; rw [f2]
  refine ⟨fun m hm => ?_, ?_, ?_, ?_⟩
  · obtain ⟨b1, b2, b3, b4⟩ := a1 m hm
    have hT : TMp s' r' m := fun t ht => by
      rw [f1 m 9 (by omega), f1 m 10 (by omega), f3 _ _ (by omega), f3 _ _ (by omega)]
      exact b4 t ht
    by_cases e : m = n
    · subst e
      exact ⟨hz, hL, hB, hT⟩
    · refine ⟨by rw [eb m e]; exact b1, fun k hk => ?_, ?_, hT⟩
      · rw [eb m e, f1 m 0 (by omega), f1 m (12 + k) (by omega), f1 m (16 + k) (by omega)]
        refine (b2 k hk).cr (fun i hi => ?_)
        exact f3 _ _ (by omega)
      · have e2 : (fun k => xI s' m (12 + k) 3) = fun k => xI s m (12 + k) 3 := funext fun k => by rw [f1 m (12 + k) (by omega)]
        rw [eb m e, f1 m 0 (by omega), e2]
        exact b3
  · obtain ⟨b1, f, m, c, c1, c2, c3, c4, c5, c6, c7, c8, c9, c10, c11, c12, c13⟩ := a2
    have e32 : rr r' 32 = rr r 32 := funext fun i => f3 _ _ (by omega)
    unfold HOp
    rw [e32, f1 8 16 (by omega), f1 8 0 (by omega), f3 0 59 (by omega), f3 0 60 (by omega), f3 0 61 (by omega)]
    exact ⟨b1, f, m, c, c1, c2, c3, c4, c5, c6, c7, c8, c9, c10, c11, fun x hx => by rw [eB, f3 58 x (by omega)]; exact c12 x hx, fun x hx => by rw [eB, f3 59 x (by omega)]; exact c13 x hx⟩
  · intro a b hab
    have e1 : xI s' a (16 + b) 1 = xI s a (16 + b) 1 := by
      by_cases e : a = n
      · subst e
        exact f4 b (by rcases hab with h | h <;> omega)
      · rw [f1 a (16 + b) (by omega)]
    rw [ex, er0, e1]
    exact a3 a b hab
  · refine ⟨?_, ?_⟩
    · rw [f1 9 0 (by omega), f3 0 2 (by omega)]
      exact a4.1
    · rw [f3 0 1 (by omega)]
      exact a4.2
/-- nothing but the end of one link is changed -/
theorem lk_end {D : Nat} {N : xN} {s r s' r' : xS} (hl : LX D N s r) (hN : N.1 ≤ 8) {n k : Nat} (hn : n < N.1) (hk : k < 4) (f1 : ∀ a b, ¬ (a = n ∧ b = 16 + k) → xI s' a b = xI s a b) (f2 : s'.2 = s.2) (f3 : xI s' n (16 + k) 1 = xI s n (16 + k) 1) (f4 : ∀ jj ee, ¬ (ee = 4 * n + k ∧ 34 ≤ jj ∧ jj ≤ 42) → xI r' 0 jj ee = xI r 0 jj ee) (hE : EPp D (xI s' n (16 + k)) (rr r' (4 * n + k))) (hs : (xI s n (12 + k) 6 = 1 ∧ xI r' 0 41 (4 * n + k) = 1 ∧ xI r' 0 42 (4 * n + k) = 0) ∨ (xI s n (12 + k) 6 = 0 ∧ (xI r' 0 41 (4 * n + k) = 0 ∨ xI r' 0 42 (4 * n + k) = 1))) (ho : OUp (xI s n (12 + k)) (rr r' (4 * n + k)) (xI s n 0) (rb r n) k) : LX D N s' r' := by
  obtain ⟨o1, ⟨o2, o3, o4, o5, o6, o7⟩, o8, o9, o10, o11, o12, o13⟩ := (hl.1 n hn).2.1 k hk
  have el : xI s' n (12 + k) = xI s n (12 + k) := f1 n (12 + k) (by omega)
  have er : ∀ i, 10 ≤ i → rr r' (4 * n + k) i = rr r (4 * n + k) i := fun i hi => f4 _ _ (by omega)
  refine hl.link (Nat.le_refl D) hn hk (fun a b hab => f1 a b (by omega)) f2 (fun jj ee hh => f4 jj ee (by omega)) f3 hN ⟨hE, ⟨?_, ?_, ?_, ?_, ?_, ?_⟩, ?_, ?_, ?_, ?_, ?_, ?_⟩ (Or.inl (by rw [el]))
  · rw [el, er 11 (by decide)]; exact o2
  · rw [el, er 12 (by decide)]; exact o3
  · rw [el, er 14 (by decide)]; exact o4
  · rw [el, er 15 (by decide)]; exact o5
  · rw [el, er 17 (by decide)]; exact o6
  · rw [el, er 18 (by decide)]; exact o7
  · rw [el]; exact hs
  · rw [er 17 (by decide)]; exact o9
  · rw [er 18 (by decide)]; exact o10
  · exact o11.c (by rw [el]) ⟨er 14 (by decide), er 15 (by decide), er 16 (by decide)⟩
  · rw [el]; exact ho
  · rw [er 14 (by decide), er 18 (by decide)]; exact o13
theorem OUp.off {l r r' b q : Nat → Int32} {k : Nat} (h : OUp l r b q k) (h8 : r' 8 = 0) (hr : ∀ i, 10 ≤ i → r' i = r i) : OUp l r' b q k := by
  unfold OUp at h ⊢
  rw [hr 10 (by decide), hr 11 (by decide), hr 12 (by decide), hr 13 (by decide), h8]
  rcases h with h | h | h
  · exact Or.inl ⟨h.1, h.2.1, h.2.2.1, h.2.2.2.1, fun z => absurd z.1 (by decide)⟩
  · exact Or.inr (Or.inl h)
  · exact Or.inr (Or.inr h)
/-- an acknowledgement ends, that is none of a reset's -/
theorem lk_ack0 {D : Nat} {N : xN} {s r : xS} (hl : LX D N s r) (hN : N.1 ≤ 8) {n k : Nat} (hn : n < N.1) (hk : k < 4) (h6 : xI s n (12 + k) 6 = 0) : LX D N (sI (sI s n (16 + k) 8 0) n (16 + k) 7 0) (sI (sI r 0 38 (4 * n + k) 0) 0 41 (4 * n + k) 0) := by
  obtain ⟨o1, ⟨o2, o3, o4, o5, o6, o7⟩, o8, o9, o10, o11, o12, o13⟩ := (hl.1 n hn).2.1 k hk
  obtain ⟨b3, b4, b5, b6, b7, b8, b9, w1, w8, w5, w6, w7, wp⟩ := o1
  refine lk_end hl hN hn hk (fun a b hab => ?_) rfl ?_ (fun jj ee hh => ?_) ?_ ?_ ?_
  · rw [xI_fn_ne _ _ (by omega), xI_fn_ne _ _ (by omega)]
  · simp (disch := omega) only [xI_ne]
  · simp (disch := omega) only [xI_ne]
  · unfold EPp
    simp (disch := omega) only [rr, xI_ne, xI_eq]
    exact ⟨b3, b4, b5, b6, trivial, trivial, b9, w1, Or.inl trivial, ⟨0, by decide, rfl⟩, w6, w7, wp⟩
  · simp (disch := omega) only [xI_ne, xI_eq]
    exact Or.inr ⟨h6, Or.inl trivial⟩
  · refine o12.off ?_ (fun i hi => ?_)
    · show xI _ 0 41 _ = 0
      rw [xI_eq]
    · unfold rr
      rw [xI_ne _ _ (by omega), xI_ne _ _ (by omega)]
/-- .. of a reset's -/
theorem lk_stray {D : Nat} {N : xN} {s r : xS} (hl : LX D N s r) (hN : N.1 ≤ 8) {n k : Nat} (hn : n < N.1) (hk : k < 4) : LX D N (sI (sI (sI s n (16 + k) 8 0) n (16 + k) 7 0) n (12 + k) 6 0) (sI (sI r 0 38 (4 * n + k) 0) 0 41 (4 * n + k) 0) := by
  obtain ⟨o1, ⟨o2, o3, o4, o5, o6, o7⟩, o8, o9, o10, o11, o12, o13⟩ := (hl.1 n hn).2.1 k hk
  obtain ⟨b3, b4, b5, b6, b7, b8, b9, w1, w8, w5, w6, w7, wp⟩ := o1
  refine hl.link (Nat.le_refl D) hn hk (fun a b hab => ?_) rfl (fun j e he => ?_) ?_ hN ⟨?_, ⟨?_, ?_, ?_, ?_, ?_, ?_⟩, ?_, ?_, ?_, ?_, ?_, ?_⟩ (Or.inl ?_)
  · rw [xI_fn_ne _ _ (by omega), xI_fn_ne _ _ (by omega), xI_fn_ne _ _ (by omega)]
  · simp (disch := omega) only [xI_ne]
  · simp (disch := omega) only [xI_ne]
  · unfold EPp
    simp (disch := omega) only [rr, xI_ne, xI_eq]
    exact ⟨b3, b4, b5, b6, trivial, trivial, b9, w1, Or.inl trivial, ⟨0, by decide, rfl⟩, w6, w7, wp⟩
  · simp (disch := omega) only [rr, xI_ne, xI_eq]; exact o2
  · simp (disch := omega) only [rr, xI_ne, xI_eq]; exact o3
  · simp (disch := omega) only [rr, xI_ne, xI_eq]; exact o4
  · simp (disch := omega) only [rr, xI_ne, xI_eq]; exact o5
  · simp (disch := omega) only [rr, xI_ne, xI_eq]; exact o6
  · simp (disch := omega) only [rr, xI_ne, xI_eq]; exact o7
  · simp (disch := omega) only [rr, xI_ne, xI_eq]; exact Or.inr ⟨trivial, Or.inl trivial⟩
  · simp (disch := omega) only [rr, xI_ne, xI_eq]; exact o9
  · simp (disch := omega) only [rr, xI_ne, xI_eq]; exact o10
  · refine o11.c ?_ ?_ <;> simp (disch := omega) only [rr, xI_ne, xI_eq, and_self]
  · have o := OUp.off (r' := rr (sI (sI r 0 38 (4 * n + k) 0) 0 41 (4 * n + k) 0) (4 * n + k)) o12 (by unfold rr; rw [xI_eq]) (fun i hi => by unfold rr; rw [xI_ne _ _ (by omega), xI_ne _ _ (by omega)])
    refine o.c ?_ ⟨rfl, rfl, rfl, rfl, rfl, rfl⟩
    simp (disch := omega) only [xI_ne, and_self]
  · simp (disch := omega) only [rr, xI_ne]; exact o13
  · simp (disch := omega) only [xI_ne]
