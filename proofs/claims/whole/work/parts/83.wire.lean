/-! the call wire -/
theorem LKp.ce {D : Nat} {l e e' r r' b q : Nat → Int32} {k : Nat} (h : LKp D l e r b q k) (he : ∀ i, 2 ≤ i → e' i = e i) (hr : ∀ i, 1 ≤ i → r' i = r i) : LKp D l e' r' b q k := by
  unfold LKp EPp INp OUp at h ⊢
  simp only [he 2 (by decide), he 3 (by decide), he 4 (by decide), he 5 (by decide), he 6 (by decide), he 7 (by decide), he 8 (by decide), he 9 (by decide), hr 1 (by decide), hr 2 (by decide), hr 3 (by decide), hr 4 (by decide), hr 5 (by decide), hr 6 (by decide), hr 7 (by decide), hr 8 (by decide), hr 9 (by decide), hr 10 (by decide), hr 11 (by decide), hr 12 (by decide), hr 13 (by decide), hr 14 (by decide), hr 15 (by decide), hr 16 (by decide), hr 17 (by decide), hr 18 (by decide)]
  exact h
theorem EPp.ce {D : Nat} {e e' r r' : Nat → Int32} (h : EPp D e r) (he : ∀ i, 2 ≤ i → e' i = e i) (hr : ∀ i, 1 ≤ i → r' i = r i) : EPp D e' r' := by
  unfold EPp at h ⊢
  simp only [he 2 (by decide), he 3 (by decide), he 4 (by decide), he 5 (by decide), he 6 (by decide), he 7 (by decide), he 8 (by decide), he 9 (by decide), hr 1 (by decide), hr 2 (by decide), hr 3 (by decide), hr 4 (by decide), hr 5 (by decide), hr 6 (by decide), hr 7 (by decide), hr 8 (by decide)]
  exact h
theorem LX.wire {D : Nat} {N : xN} {s r s' r' : xS} (h : LX D N s r) (f1 : ∀ a b i, ¬ (16 ≤ b ∧ i = 1) → xI s' a b i = xI s a b i) (f2 : s'.2.1 = s.2.1) (f3 : ∀ j e, j ≠ 33 → xI r' 0 j e = xI r 0 j e) (hW : WIp N.1 s' r') : LX D N s' r' := by
  obtain ⟨a1, a2, a3, a4⟩ := h
  have eb : ∀ m, rb r' m = rb r m := fun m => funext fun i => f3 _ _ (by omega)
  have er : ∀ e i, 1 ≤ i → rr r' e i = rr r e i := fun e i hi => f3 _ _ (by omega)
  have g : ∀ a b, b < 16 → xI s' a b = xI s a b := fun a b hb => funext fun i => f1 a b i (by omega)
  have eB : ∀ a b x, cB s' a b x = cB s a b x := fun a b x => by unfold cB xJ; rw [f2]
  refine ⟨fun m hm => ?_, ?_, hW, ?_⟩
  · obtain ⟨b1, b2, b3, b4⟩ := a1 m hm
    refine ⟨by rw [eb]; exact b1, fun k hk => ?_, ?_, fun t ht => ?_⟩
    · rw [eb, g m 0 (by omega), g m (12 + k) (by omega)]
      exact (b2 k hk).ce (fun i hi => f1 _ _ _ (by omega)) (er _)
    · have e2 : (fun k => xI s' m (12 + k) 3) = fun k => xI s m (12 + k) 3 := funext fun k => f1 _ _ _ (by omega)
      rw [eb, g m 0 (by omega), e2]
      exact b3
    · rw [g m 9 (by omega), g m 10 (by omega), f3 _ _ (by omega), f3 _ _ (by omega)]
      exact b4 t ht
  · obtain ⟨b1, f, m, c, c1, c2, c3, c4, c5, c6, c7, c8, c9, c10, c11, c12, c13⟩ := a2
    unfold HOp
    rw [g 8 0 (by omega), f3 0 59 (by omega), f3 0 60 (by omega), f3 0 61 (by omega), er 32 12 (by decide), er 32 8 (by decide), er 32 9 (by decide)]
    exact ⟨b1.ce (fun i hi => f1 _ _ _ (by omega)) (er _), f, m, c, c1, c2, c3, c4, c5, c6, c7, c8, c9, c10, c11, fun x hx => by rw [eB, f3 58 x (by omega)]; exact c12 x hx, fun x hx => by rw [eB, f3 59 x (by omega)]; exact c13 x hx⟩
  · refine ⟨?_, ?_⟩
    · rw [g 9 0 (by omega), f3 0 2 (by omega)]
      exact a4.1
    · rw [f3 0 1 (by omega)]
      exact a4.2
theorem REL.cvE {E : Nat → Nat → Prop} {N : xN} {S R s r : xS} (h : REL E (XV s r) N S R) (n j : Nat) (v : Option (Nat × Nat)) : REL E (XV (sE s n j v) r) N (sE S n j v) R := ⟨h.1, h.2.1, h.2.2.1, by rw [← h.2.2.2.1]; rfl, h.2.2.2.2⟩
theorem xE_sE (S : xS) (n j : Nat) (v : Option (Nat × Nat)) (a b : Nat) : xE (sE S n j v) a b = if a = n ∧ b = j then v else xE S a b := rfl
theorem xI_sE (S : xS) (n j : Nat) (v : Option (Nat × Nat)) (a b c : Nat) : xI (sE S n j v) a b c = xI S a b c := rfl
theorem REL.join {N : xN} {D : Nat} {S R : xS} (h : REL E0 (LX D N) N S R) {n k n' k' : Nat} (h1 : endOk N.1 n k) (h2 : endOk N.1 n' k') (hne : ¬ (n = n' ∧ k = k')) : REL E0 (LX D N) N (sI (sE (sI (sE S n (16 + k) (some (n', 16 + k'))) n (16 + k) 1 (nI n')) n' (16 + k') (some (n, 16 + k))) n' (16 + k') 1 (nI n)) (sI (sI R 0 33 (4 * n + k) (nI (4 * n' + k'))) 0 33 (4 * n' + k') (nI (4 * n + k))) := by
  have hN := h.1
  obtain ⟨s, r, hx, hl⟩ := h.opn
  have h3 := (((((hx.cvE n (16 + k) (some (n', 16 + k'))).cv (n := n) (j := 16 + k) (k := 1) (by omega) (nI n')).cvE n' (16 + k') (some (n, 16 + k))).cv (n := n') (j := 16 + k') (k := 1) (by omega) (nI n)).rv (j := 33) (k := 4 * n + k) (by omega) (nI (4 * n' + k'))).rv (j := 33) (k := 4 * n' + k') (by omega) (nI (4 * n + k))
  refine h3.un (hl.wire (fun a b i hi => ?_) rfl (fun j e hj => ?_) ?_)
  · rw [xI_ne _ _ (by omega), xI_sE, xI_ne _ _ (by omega), xI_sE]
  · rw [xI_ne _ _ (by omega), xI_ne _ _ (by omega)]
  · unfold endOk at h1 h2
    intro a b hab
    have hab' := hab
    unfold endOk at hab'
    by_cases e1 : a = n' ∧ b = k'
    · obtain ⟨rfl, rfl⟩ := e1
      refine Or.inr ⟨n, k, h1, ?_, ?_, ?_⟩
      · rw [xE_sI, xE_sE, if_pos ⟨rfl, rfl⟩]
      · exact xI_eq _ _ _ _ _
      · exact xI_eq _ _ _ _ _
    · by_cases e2 : a = n ∧ b = k
      · obtain ⟨rfl, rfl⟩ := e2
        refine Or.inr ⟨n', k', h2, ?_, ?_, ?_⟩
        · rw [xE_sI, xE_sE, if_neg (by omega), xE_sI, xE_sE, if_pos ⟨rfl, rfl⟩]
        · show xI _ 0 33 _ = _
          rw [xI_ne _ _ (by omega), xI_eq]
        · rw [xI_ne _ _ (by omega), xI_sE, xI_eq]
      · have w := hl.2.2.1 a b hab
        rw [xE_sI, xE_sE, if_neg (by omega), xE_sI, xE_sE, if_neg (by omega), xI_ne _ _ (by omega), xI_sE, xI_ne _ _ (by omega), xI_sE]
        rw [show rr (sI (sI r 0 33 (4 * n + k) (nI (4 * n' + k'))) 0 33 (4 * n' + k') (nI (4 * n + k))) (4 * a + b) 0 = rr r (4 * a + b) 0 from by
          show xI _ 0 33 _ = xI _ 0 33 _
          rw [xI_ne _ _ (by omega), xI_ne _ _ (by omega)]]
        exact w
theorem wired {N : xN} {D : Nat} {S R : xS} (h : REL E0 (LX D N) N S R) {n k : Nat} (h1 : endOk N.1 n k) : (c2_isWired N.1 n (16 + k) S = some (0, S) ∧ xI R 0 33 (4 * n + k) = -1) ∨ (c2_isWired N.1 n (16 + k) S = some (1, S) ∧ ¬ xI R 0 33 (4 * n + k) = -1) := by
  unfold c2_isWired
  have hN := h.1
  rcases h.lx.2.2.1 n k h1 with ⟨w1, w2, w3⟩ | ⟨n', k', w1, w2, w3, w4⟩
  · rw [w1]
    exact Or.inl ⟨rfl, w2⟩
  · rw [w2]
    refine Or.inr ⟨?_, ?_⟩
    · show gq _ _ = _
      rw [gqp]
      unfold endOk at w1
      omega
    · rw [show xI R 0 33 (4 * n + k) = nI (4 * n' + k') from w3]
      exact nIm1 (by unfold endOk at w1; omega)
def wireC (M n k n' k' : Nat) (S : xS) : Option (Int32 × xS) := if n = n' ∧ 16 + k = 16 + k' then some (0, S) else (c2_isWired M n (16 + k) S).bind (fun (r_7, S7) => if r_7 = 0 then (c2_isWired M n' (16 + k') S7).bind (fun (r_9, S9) => if r_9 = 0 then (c2_join n (16 + k) n' (16 + k') S9 (nI n')).bind (fun S12 => (c2_join n' (16 + k') n (16 + k) S12 (nI n)).bind (fun S13 => some (1, S13))) else some (0, S9)) else some (0, S7))
theorem wire_core {N : xN} {D : Nat} {S R : xS} (hs : strongA N) (h : REL E0 (LX D N) N S R) {n k n' k' : Nat} (h1 : endOk N.1 n k) (h2 : endOk N.1 n' k') : P2 (wireC N.1 n k n' k' S) (r_wire_b54 (nI (4 * n + k)) (nI (4 * n' + k')) R) (QA N.1 D) := by
  have hN := h.1
  have hw : WR N.1 D S R := ⟨N, rfl, hs, h⟩
  have b1 : 4 * n + k < 33 := by unfold endOk at h1; omega
  have b2 : 4 * n' + k' < 33 := by unfold endOk at h2; omega
  unfold wireC r_wire_b54
  by_cases e : n = n' ∧ k = k'
  · obtain ⟨rfl, rfl⟩ := e
    rw [if_pos ⟨rfl, rfl⟩, if_pos rfl]
    exact hw.ans rfl
  have e' : ¬ nI (4 * n + k) = nI (4 * n' + k') := fun z => e (by
    have := (nI_eq (by omega) (by omega)).mp z
    unfold endOk at h1 h2
    omega)
  rw [if_neg (fun z => e (by omega)), if_neg e', gd_nI b1 (by decide), nI_clamp (show 4 * n + k < 2 ^ 31 by omega)]
  rcases wired h h1 with ⟨w1, w2⟩ | ⟨w1, w2⟩
  · rw [w1, if_pos w2]
    dsimp only [Option.bind_some]
    rw [if_pos rfl, gd_nI b2 (by decide), nI_clamp (show 4 * n' + k' < 2 ^ 31 by omega)]
    rcases wired h h2 with ⟨v1, v2⟩ | ⟨v1, v2⟩
    · rw [v1, if_pos v2]
      dsimp only [Option.bind_some]
      rw [if_pos rfl, gd_nI b1 (by decide)]
      refine P2.xr ?_
      rw [gd_nI b2 (by decide)]
      exact P2.ret ⟨rfl, N, rfl, hs, h.join h1 h2 e⟩
    · rw [v1, if_neg v2]
      dsimp only [Option.bind_some]
      rw [if_neg n10]
      exact hw.ans rfl
  · rw [w1, if_neg w2]
    dsimp only [Option.bind_some]
    rw [if_neg n10]
    exact hw.ans rfl
theorem end_cases {M D : Nat} {S R : xS} (h : WR M D S R) (a1 a2 : Int32) : (c11_endAt M S a1 a2 = some (none, S) ∧ r_isEnd R a1 a2 = some (0, R)) ∨ ∃ n k, n < M ∧ k < 4 ∧ a1 = nI n ∧ a2 = nI k ∧ c11_endAt M S a1 a2 = some (some (n, 16 + k), S) ∧ r_isEnd R a1 a2 = some (1, R) := by
  unfold c11_endAt
  rcases lnk_cases h a1 a2 with ⟨x1, x2⟩ | ⟨n, k, hn, hk, e1, e2, x1, x2⟩
  · rw [x1, x2]
    exact Or.inl ⟨rfl, rfl⟩
  · rw [x1, x2]
    refine Or.inr ⟨n, k, hn, hk, e1, e2, ?_, rfl⟩
    dsimp only [Option.bind_some, xcs]
    rw [gqp ⟨hn, by omega, by omega⟩, show 12 + k + 4 = 16 + k by omega]
theorem q_wire {M D : Nat} {S R : xS} (h : WR M D S R) (a1 a2 a3 a4 : Int32) : P2 (c11_wire M S a1 a2 a3 a4) (r_wire R a1 a2 a3 a4) (QA M D) := by
  have h1 := h.thr
  unfold c11_wire r_wire r_wire_b31
  refine P2.xr ?_
  generalize sI R 0 0 0 0 = R1 at h1 ⊢
  obtain ⟨N, eN, hs, q⟩ := id h1
  have hN := q.1
  rcases end_cases h1 a1 a2 with ⟨x1, x2⟩ | ⟨n, k, hn, hk, e1, e2, x1, x2⟩
  · rw [x1, x2]
    dsimp only [Option.bind_some, xcs]
    rw [if_pos rfl]
    by_cases c : a3 = -1
    · rw [if_pos c]
      exact h1.ans rfl
    · rw [if_neg c]
      rcases end_cases h1 a3 a4 with ⟨y1, y2⟩ | ⟨n', k', hn', hk', d1, d2, y1, y2⟩
      · rw [y1]
        exact h1.ans rfl
      · rw [y1]
        exact h1.ans rfl
  subst e1
  subst e2
  rw [x1, x2]
  dsimp only [Option.bind_some, xcs]
  rw [if_neg n10]
  have ee : (4 : Int32) * nI n + nI k = nI (4 * n + k) := by rw [p4, nI_add]
  have o1 : endOk N.1 n k := Or.inl ⟨by omega, hk⟩
  by_cases c : a3 = -1
  · subst c
    simp only [if_pos (rfl : (-1 : Int32) = -1)]
    rw [gqp (Or.inl ⟨hn, by omega, by omega⟩), ee]
    have w := wire_core hs q o1 (n' := 8) (k' := 0) (Or.inr ⟨rfl, rfl⟩)
    rw [eN] at w
    exact w
  · simp only [if_neg c]
    rcases end_cases h1 a3 a4 with ⟨y1, y2⟩ | ⟨n', k', hn', hk', d1, d2, y1, y2⟩
    · rw [y1, y2]
      dsimp only [Option.bind_some, xcs]
      rw [gqp (Or.inl ⟨hn, by omega, by omega⟩), if_pos rfl]
      exact h1.ans rfl
    · subst d1
      subst d2
      rw [y1, y2]
      dsimp only [Option.bind_some, xcs]
      have ee2 : (4 : Int32) * nI n' + nI k' = nI (4 * n' + k') := by rw [p4, nI_add]
      rw [gqp (Or.inl ⟨hn, by omega, by omega⟩), gqp (Or.inl ⟨hn', by omega, by omega⟩), if_neg n10, ee, ee2]
      have w := wire_core hs q o1 (n' := n') (k' := k') (Or.inl ⟨by omega, hk'⟩)
      rw [eN] at w
      exact w
