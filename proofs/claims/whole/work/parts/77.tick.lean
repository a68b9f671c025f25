/-! one node's boot and clocks in a tick -/
theorem REL.okn {N : xN} {D : Nat} {S R : xS} (h : REL E0 (LX D N) N S R) : OKa N.1 R := by
  intro n hn
  have h1 := h.2.1.get hn (t := (8, 2, 30, 1, 0)) (by decide) (fun z => absurd z.1 (by decide))
  simp only [rc, rg, Nat.one_mul, Nat.add_zero] at h1
  refine ⟨?_, h1.2⟩
  rcases (h.lx.1 n hn).2.2.1.2 with q | ⟨q, hb⟩
  · exact Or.inl q
  · refine Or.inr ?_
    rcases hb with ⟨b4, b5, b6, b7, b8, q1, q2⟩ | ⟨k, c, m, hk, hc, b4, q1, b8, b5, q2, b6, q3, hc3⟩ | ⟨k, hk, b4, b5, b8, ha⟩
    · exact Or.inl q1
    · exact Or.inr ⟨k, hk, q1⟩
    · rcases ha with ⟨q1, q2, ht⟩ | ⟨hw, q1, q2, ht⟩
      · exact Or.inr ⟨k, hk, q1⟩
      · exact Or.inl q1
theorem and3 {T : Nat} (h : T < 2 ^ 32) : nI T &&& 3 = 0 ↔ T % 4 = 0 := by
  rw [pk_and _ 2 (by decide), pk_tn (by omega)]
  exact ⟨fun z => (nI_eq (a := T % 2 ^ 2) (b := 0) (by omega) (by decide)).mp z, fun z => by rw [show T % 2 ^ 2 = 0 from z]; rfl⟩
theorem and63 {T : Nat} (h : T < 2 ^ 32) : nI T &&& 63 = 0 ↔ T % 64 = 0 := by
  rw [pk_and _ 6 (by decide), pk_tn (by omega)]
  exact ⟨fun z => (nI_eq (a := T % 2 ^ 6) (b := 0) (by omega) (by decide)).mp z, fun z => by rw [show T % 2 ^ 6 = 0 from z]; rfl⟩
theorem p_clocks {N : xN} {D : Nat} {S R : xS} (h : REL E0 (LX D N) N S R) {n : Nat} (hn : n < N.1) {T : Nat} (hT : T < 2 ^ 32) : P2 (c6_changeClocks n S (nI T)) ((bCk T n R).bind (fun R => bY n R)) (REL E0 (LX D N) N) := by
  have h8 : n < 8 := Nat.lt_of_lt_of_le hn h.1
  have fin : ∀ {S1 R1 : xS}, REL E0 (LX D N) N S1 R1 → P2 (c6_changeClocks_b14 n (nI T) S1) ((bC1 T n R1).bind (fun R => bY n R)) (REL E0 (LX D N) N) := by
    intro S1 R1 h1
    unfold c6_changeClocks_b14 bC1 bY
    by_cases e : T % 64 = 0
    · rw [if_pos ((and63 hT).mpr e), if_pos e]
      have h2 := p_strike1' h1 hn
      rw [ix20, ix21, gQ1 h8, clQ1 h8] at h2
      refine P2.bind h2 (fun a b q => ?_)
      obtain ⟨x1, x2⟩ := p_bey' q hn
      rw [x1]
      exact P2.ret x2
    · rw [if_neg (fun z => e ((and63 hT).mp z)), if_neg e]
      obtain ⟨x1, x2⟩ := p_bey' h1 hn
      rw [x1]
      exact P2.ret x2
  unfold c6_changeClocks bCk bC0
  by_cases e : T % 4 = 0
  · rw [if_pos ((and3 hT).mpr e), if_pos e]
    have h2 := p_strike0' h hn
    rw [ix20, gQ0 h8, clQ0 h8] at h2
    obtain ⟨a, b, x1, x2, x3⟩ := h2
    rw [x1, x2]
    exact fin x3
  · rw [if_neg (fun z => e ((and3 hT).mp z)), if_neg e]
    exact fin h
theorem p_node {N : xN} {D : Nat} {S R : xS} (h : REL E0 (LX D N) N S R) {n : Nat} (hn : n < N.1) {T : Nat} (hT : T < 2 ^ 32) (ht : xI R 0 0 2 = nI T) : P2 ((c6_takeBootByte n S).bind (fun S13 => c6_changeClocks n S13 (xI S13 9 0 2))) ((bB n R).bind (fun R => (bCk T n R).bind (fun R => bY n R))) (fun o p => RN (D + 1) N n o p ∧ xI p 0 0 2 = nI T) := by
  have h8 : n < 8 := Nat.lt_of_lt_of_le hn h.1
  obtain ⟨a, b, x1, x2, N', e1, e2, e3, q⟩ := p_boot h hn
  have x2' : bB n R = some b := x2
  have f1 := loc_B.self h8 (h.okn n hn) x2'
  have tb : xI b 0 0 2 = nI T := by rw [f1.1 0 0 2 (fun z => by have := z.2; unfold Wn at this; omega)]; exact ht
  have ta : xI a 9 0 2 = nI T := q.lx.2.2.2.1.trans tb
  have hn' : n < N'.1 := by rw [e1]; exact hn
  rw [x1, x2', Option.bind_some, Option.bind_some, ta]
  obtain ⟨a2, b2, y1, y2, y3⟩ := p_clocks q hn' hT
  refine ⟨a2, b2, y1, y2, ⟨N', e1, e2, e3, y3⟩, ?_⟩
  -- the ticks stay
  have f2 : xI b2 0 0 2 = xI b 0 0 2 := by
    cases hc : bCk T n b with
    | none => rw [hc] at y2; cases y2
    | some b1 =>
      rw [hc, Option.bind_some] at y2
      have g1 := (loc_C T).self h8 (q.okn n hn') hc
      have g2 := loc_Y.self h8 g1.2.2 y2
      rw [g2.1 0 0 2 (fun z => by have := z.2; unfold Wn at this; omega), g1.1 0 0 2 (fun z => by have := z.2; unfold Wn at this; omega)]
  rw [f2]
  exact tb
