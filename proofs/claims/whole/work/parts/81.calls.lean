/-! the calls: run, register, peek, link, out -/
/-- between two calls -/
def WR (M D : Nat) (S R : xS) : Prop := ∃ N : xN, N.1 = M ∧ strongA N ∧ REL E0 (LX D N) N S R
/-- both answer alike -/
def QA (M D : Nat) (o p : Int32 × xS) : Prop := o.1 = p.1 ∧ WR M D o.2 p.2
theorem WR.ans {M D : Nat} {S R : xS} (h : WR M D S R) {a b : Int32} (e : a = b) : P2 (some (a, S)) (some (b, R)) (QA M D) := P2.ret ⟨e, h⟩
theorem REL.thr {E : Nat → Nat → Prop} {D : Nat} {N : xN} {S R : xS} (h : REL E (LX D N) N S R) : REL E (LX D N) N S (sI R 0 0 0 0) := by
  obtain ⟨s, r, hx, hl⟩ := h.opn
  refine (hx.rv (j := 0) (k := 0) (Or.inl rfl) 0).un (hl.frame h.1 (fun a b ha => rfl) rfl (fun j e hj => xI_ne _ _ (by omega)) ?_)
  rw [xI_ne _ _ (by omega)]
  exact hl.2.2.2.1
theorem WR.thr {M D : Nat} {S R : xS} (h : WR M D S R) : WR M D S (sI R 0 0 0 0) := by
  obtain ⟨N, e, hs, q⟩ := h
  exact ⟨N, e, hs, q.thr⟩
theorem WR.le {M D D' : Nat} {S R : xS} (h : WR M D S R) (hD : D ≤ D') : WR M D' S R := by
  obtain ⟨N, e, hs, q⟩ := h
  exact ⟨N, e, hs, q.mono_D hD⟩
theorem WR.num {M D : Nat} {S R : xS} (h : WR M D S R) : M ≤ 8 ∧ xI R 0 0 1 = nI M := by
  obtain ⟨N, e, hs, q⟩ := h
  subst e
  exact ⟨q.1, q.num⟩
theorem gqp {α : Type} {c : Prop} [Decidable c] (h : c) (k : Option α) : gq c k = k := if_pos h
theorem node_cases {M D : Nat} {S R : xS} (h : WR M D S R) (a1 : Int32) : (c11_nodeAt M S a1 = some (none, S) ∧ r_isNode R a1 = some (0, R)) ∨ ∃ n, n < M ∧ a1 = nI n ∧ c11_nodeAt M S a1 = some (some (n, 0), S) ∧ r_isNode R a1 = some (1, R) := by
  obtain ⟨hM, hm⟩ := h.num
  unfold c11_nodeAt r_isNode
  rw [hm, show Int32.ofNat M = nI M from rfl]
  rcases pk_ix a1 (n := M) (by omega) with c | c | ⟨n, hn, c⟩
  · rw [if_pos c, if_pos c]
    exact Or.inl ⟨rfl, rfl⟩
  · by_cases c0 : a1 < 0
    · rw [if_pos c0, if_pos c0]
      exact Or.inl ⟨rfl, rfl⟩
    · rw [if_neg c0, if_neg c0, if_neg (fun z => absurd c (Int32.not_le.mpr z)), if_pos c]
      exact Or.inl ⟨rfl, rfl⟩
  · subst c
    rw [if_neg (nI_pos (by omega)), if_neg (nI_pos (by omega)), if_pos (nI_lt hn (by omega)), if_neg (nI_ge hn (by omega)), gd_nI hn (by omega), nI_clamp (show n < 2 ^ 31 by omega)]
    exact Or.inr ⟨n, hn, rfl, rfl, rfl⟩
theorem lnk_cases {M D : Nat} {S R : xS} (h : WR M D S R) (a1 a2 : Int32) : (c11_linkAt M S a1 a2 = some (none, S) ∧ r_isEnd R a1 a2 = some (0, R)) ∨ ∃ n k, n < M ∧ k < 4 ∧ a1 = nI n ∧ a2 = nI k ∧ c11_linkAt M S a1 a2 = some (some (n, 12 + k), S) ∧ r_isEnd R a1 a2 = some (1, R) := by
  unfold c11_linkAt r_isEnd
  rcases node_cases h a1 with ⟨x1, x2⟩ | ⟨n, hn, e, x1, x2⟩
  · rw [x1, x2]
    exact Or.inl ⟨rfl, rfl⟩
  · rw [x1, x2]
    dsimp only [Option.bind_some, xcs]
    rw [gqp ⟨hn, rfl⟩, if_neg n10]
    rcases pk_ix a2 (n := 4) (by omega) with c | c | ⟨k, hk, c⟩
    · rw [if_pos c, if_pos c]
      exact Or.inl ⟨rfl, rfl⟩
    · have c : (4 : Int32) ≤ a2 := c
      by_cases c0 : a2 < 0
      · rw [if_pos c0, if_pos c0]
        exact Or.inl ⟨rfl, rfl⟩
      · rw [if_neg c0, if_neg c0, if_neg (fun z => absurd c (Int32.not_le.mpr z)), if_pos c]
        exact Or.inl ⟨rfl, rfl⟩
    · subst c
      rw [if_neg (nI_pos (by omega)), if_neg (nI_pos (by omega)), if_pos (show nI k < 4 from nI_lt (b := 4) hk (by decide)), if_neg (show ¬ (4 : Int32) ≤ nI k from nI_ge (b := 4) hk (by decide)), gd_nI hk (by decide), nI_clamp (show k < 2 ^ 31 by omega)]
      exact Or.inr ⟨n, k, hn, hk, e, rfl, rfl, rfl⟩
theorem q_run {M D : Nat} {S R : xS} (h : WR M D S R) (hD : D + 100000 < 1073741824) (a1 : Int32) : P2 (c11_run M S a1) (r_run R a1) (QA M (D + 100000)) := by
  have h1 := h.thr
  unfold c11_run r_run
  refine P2.xr ?_
  by_cases c : a1 < 0
  · rw [if_pos c, if_pos c]
    exact (h1.le (by omega)).ans rfl
  · rw [if_neg c, if_neg c]
    by_cases c2 : a1 ≤ 1000
    · rw [if_pos c2, if_pos c2]
      obtain ⟨j, hj, e⟩ := nI_of2 (n := 1000) (M := 1000) (by decide) c c2
      subst e
      obtain ⟨N, e, hs, q⟩ := h1
      obtain ⟨S', R', N', x1, x2, x3, x4, x5⟩ := run_loop (M := M) hj j 100000 0 D N S _ e hs q (by omega) (by omega) (by omega)
      rw [nI_0'] at x4 x5
      exact P2.eq x4 x5 ⟨rfl, N', x1, x2, x3.mono_D (by omega)⟩
    · rw [if_neg c2, if_neg c2]
      exact (h1.le (by omega)).ans rfl

theorem q_register {M D : Nat} {S R : xS} (h : WR M D S R) (a1 a2 : Int32) : P2 (c11_register M S a1 a2) (r_register R a1 a2) (QA M D) := by
  have h1 := h.thr
  unfold c11_register r_register
  refine P2.xr ?_
  generalize sI R 0 0 0 0 = R1 at h1 ⊢
  rcases node_cases h1 a1 with ⟨x1, x2⟩ | ⟨n, hn, e, x1, x2⟩
  · rw [x1, x2]
    exact h1.ans rfl
  subst e
  rw [x1, x2]
  dsimp only [Option.bind_some, xcs]
  rw [gqp ⟨hn, rfl⟩, if_neg n10]
  obtain ⟨N, eN, hs, q0⟩ := id h1
  have q := q0.less n
  have hn' := in_less (N := N) (n := n) (by omega)
  have h8 := q.le8 hn'
  simp only [ix20, ix21, gI h8, cl8 h8, gQ0 h8, gQ1 h8, clQ0 h8, clQ1 h8]
  have hl := q0.lx.1 n (by omega)
  unfold c11_register_b31 c1_processorFact c1_schedulerFact c10_clockOf
  by_cases c0 : a2 = 0
  · subst c0
    rw [if_neg (by decide), if_neg (by decide), if_pos rfl, if_pos rfl]
    exact h1.ans (q.g_A hn' (fun z => z))
  by_cases c1 : a2 = 1
  · subst c1
    rw [if_neg (by decide), if_neg (by decide), if_neg (by decide), if_pos rfl, if_neg (by decide), if_pos rfl]
    exact h1.ans (q.g_B hn' (fun z => z))
  by_cases c2 : a2 = 2
  · subst c2
    rw [if_neg (by decide), if_neg (by decide), if_neg (by decide), if_neg (by decide), if_pos rfl, if_neg (by decide), if_neg (by decide), if_pos rfl]
    exact h1.ans (q.g_C hn' (fun z => z))
  by_cases c3 : a2 = 3
  · subst c3
    rw [if_neg (by decide), if_neg (by decide), if_neg (by decide), if_neg (by decide), if_neg (by decide), if_pos rfl, if_neg (by decide), if_neg (by decide), if_neg (by decide), if_pos rfl]
    exact h1.ans (q.g_O hn' (fun z => z))
  by_cases c4 : a2 = 4
  · subst c4
    rw [if_neg (by decide), if_neg (by decide), if_neg (by decide), if_neg (by decide), if_neg (by decide), if_neg (by decide), if_pos rfl, if_neg (by decide), if_neg (by decide), if_neg (by decide), if_neg (by decide), if_pos rfl]
    exact h1.ans (q.g_I hn')
  by_cases c5 : a2 = 5
  · subst c5
    rw [if_neg (by decide), if_neg (by decide), if_neg (by decide), if_neg (by decide), if_neg (by decide), if_neg (by decide), if_neg (by decide), if_pos rfl, if_neg (by decide), if_neg (by decide), if_neg (by decide), if_neg (by decide), if_neg (by decide), if_pos rfl]
    exact h1.ans (q.g_W hn')
  by_cases c6 : a2 = 6
  · subst c6
    rw [if_neg (by decide), if_neg (by decide), if_neg (by decide), if_neg (by decide), if_neg (by decide), if_neg (by decide), if_neg (by decide), if_neg (by decide), if_pos rfl, if_neg (by decide), if_neg (by decide), if_neg (by decide), if_neg (by decide), if_neg (by decide), if_neg (by decide), if_pos rfl]
    exact h1.ans (q.g_P hn')
  by_cases c7 : a2 = 7
  · subst c7
    rw [if_neg (by decide), if_neg (by decide), if_neg (by decide), if_neg (by decide), if_neg (by decide), if_neg (by decide), if_neg (by decide), if_neg (by decide), if_neg (by decide), if_pos rfl]
    rw [q.g_err hn']
    by_cases z : xI R1 0 16 n = 0
    · rw [if_pos z, if_neg (by decide), if_neg (by decide), if_neg (by decide), if_neg (by decide), if_neg (by decide), if_neg (by decide), if_neg (by decide), if_pos rfl, if_pos z]
      exact h1.ans rfl
    · rw [if_neg z, if_neg (by decide), if_neg (by decide), if_neg (by decide), if_neg (by decide), if_neg (by decide), if_neg (by decide), if_neg (by decide), if_pos rfl, if_neg z]
      exact h1.ans rfl
  by_cases c8 : a2 = 8
  · subst c8
    rw [if_neg (by decide), if_neg (by decide), if_neg (by decide), if_neg (by decide), if_neg (by decide), if_neg (by decide), if_neg (by decide), if_neg (by decide), if_neg (by decide), if_neg (by decide), if_neg (by decide), if_neg (by decide), if_neg (by decide), if_neg (by decide), if_neg (by decide), if_neg (by decide), if_neg (by decide), if_neg (by decide), if_pos rfl]
    exact h1.ans (q.g_out hn')
  by_cases c9 : a2 = 9
  · subst c9
    rw [if_neg (by decide), if_pos (by decide), if_neg (by decide), if_pos rfl, if_neg (by decide), if_neg (by decide), if_neg (by decide), if_neg (by decide), if_neg (by decide), if_neg (by decide), if_neg (by decide), if_neg (by decide), if_neg (by decide), if_pos rfl]
    exact h1.ans (q.g_f0 hn')
  by_cases c10 : a2 = 10
  · subst c10
    rw [if_neg (by decide), if_pos (by decide), if_neg (by decide), if_neg (by decide), if_pos rfl, if_neg (by decide), if_neg (by decide), if_neg (by decide), if_neg (by decide), if_neg (by decide), if_neg (by decide), if_neg (by decide), if_neg (by decide), if_neg (by decide), if_neg (by decide), if_pos rfl]
    exact h1.ans (q.g_b0 hn')
  by_cases c11 : a2 = 11
  · subst c11
    rw [if_neg (by decide), if_pos (by decide), if_neg (by decide), if_neg (by decide), if_neg (by decide), if_pos rfl, if_neg (by decide), if_neg (by decide), if_neg (by decide), if_neg (by decide), if_neg (by decide), if_neg (by decide), if_neg (by decide), if_neg (by decide), if_neg (by decide), if_neg (by decide), if_neg (by decide), if_pos rfl]
    exact h1.ans (q.g_f1 hn')
  by_cases c12 : a2 = 12
  · subst c12
    rw [if_neg (by decide), if_pos (by decide), if_neg (by decide), if_neg (by decide), if_neg (by decide), if_neg (by decide), if_pos rfl, if_neg (by decide), if_neg (by decide), if_neg (by decide), if_neg (by decide), if_neg (by decide), if_neg (by decide), if_neg (by decide), if_neg (by decide), if_neg (by decide), if_neg (by decide), if_neg (by decide), if_neg (by decide), if_pos rfl]
    exact h1.ans (q.g_b1 hn')
  by_cases c13 : a2 = 13
  · subst c13
    rw [if_neg (by decide), if_pos (by decide), if_neg (by decide), if_neg (by decide), if_neg (by decide), if_neg (by decide), if_neg (by decide), if_pos rfl, if_pos rfl, if_neg (by decide), if_neg (by decide), if_neg (by decide), if_neg (by decide), if_neg (by decide), if_neg (by decide), if_neg (by decide), if_neg (by decide), if_neg (by decide), if_neg (by decide), if_neg (by decide), if_neg (by decide), if_neg (by decide), if_pos rfl]
    exact h1.ans (q.g_c0 hn')
  by_cases c14 : a2 = 14
  · subst c14
    rw [if_neg (by decide), if_pos (by decide), if_neg (by decide), if_neg (by decide), if_neg (by decide), if_neg (by decide), if_neg (by decide), if_neg (by decide), if_pos rfl, if_neg (by decide), if_neg (by decide), if_neg (by decide), if_neg (by decide), if_neg (by decide), if_neg (by decide), if_neg (by decide), if_neg (by decide), if_neg (by decide), if_neg (by decide), if_neg (by decide), if_neg (by decide), if_neg (by decide), if_neg (by decide), if_neg (by decide), if_pos rfl]
    exact h1.ans (q.g_c1 hn')
  by_cases c15 : a2 = 15
  · subst c15
    rw [if_neg (by decide), if_pos (by decide), if_neg (by decide), if_neg (by decide), if_neg (by decide), if_neg (by decide), if_neg (by decide), if_neg (by decide), if_neg (by decide), if_pos rfl, if_neg (by decide), if_neg (by decide), if_neg (by decide), if_neg (by decide), if_neg (by decide), if_neg (by decide), if_neg (by decide), if_neg (by decide), if_neg (by decide), if_neg (by decide), if_neg (by decide), if_neg (by decide), if_neg (by decide), if_neg (by decide), if_neg (by decide), if_pos rfl]
    exact h1.ans (q.g_L hn')
  by_cases c16 : a2 = 16
  · subst c16
    rw [if_neg (by decide), if_pos (by decide), if_neg (by decide), if_neg (by decide), if_neg (by decide), if_neg (by decide), if_neg (by decide), if_neg (by decide), if_neg (by decide), if_neg (by decide), if_pos rfl, if_neg (by decide), if_neg (by decide), if_neg (by decide), if_neg (by decide), if_neg (by decide), if_neg (by decide), if_neg (by decide), if_neg (by decide), if_neg (by decide), if_neg (by decide), if_neg (by decide), if_neg (by decide), if_neg (by decide), if_neg (by decide), if_neg (by decide), if_neg (by decide), if_pos rfl]
    exact h1.ans (q.g_tim hn')
  by_cases c17 : a2 = 17
  · subst c17
    rw [if_neg (by decide), if_pos (by decide), if_neg (by decide), if_neg (by decide), if_neg (by decide), if_neg (by decide), if_neg (by decide), if_neg (by decide), if_neg (by decide), if_neg (by decide), if_neg (by decide), if_pos rfl]
    rcases q.g_shelf hn' with ⟨s1, s2⟩ | ⟨s1, s2⟩
    · rw [s1, if_neg (by decide), if_neg (by decide), if_neg (by decide), if_neg (by decide), if_neg (by decide), if_neg (by decide), if_neg (by decide), if_neg (by decide), if_neg (by decide), if_neg (by decide), if_neg (by decide), if_neg (by decide), if_neg (by decide), if_neg (by decide), if_neg (by decide), if_neg (by decide), if_neg (by decide), if_neg (by decide), if_pos rfl, s2, if_neg (by decide)]
      exact h1.ans rfl
    · rw [s1, if_pos rfl, if_neg (by decide), if_neg (by decide), if_neg (by decide), if_neg (by decide), if_neg (by decide), if_neg (by decide), if_neg (by decide), if_neg (by decide), if_neg (by decide), if_neg (by decide), if_neg (by decide), if_neg (by decide), if_neg (by decide), if_neg (by decide), if_neg (by decide), if_neg (by decide), if_neg (by decide), if_pos rfl, s2, if_pos rfl]
      exact h1.ans rfl
  by_cases c18 : a2 = 18
  · subst c18
    rw [if_neg (by decide), if_pos (by decide), if_pos rfl]
    rw [show xI S n 0 3 = xI R1 0 52 n from hl.2.2.1.1]
    by_cases z : xI R1 0 52 n = 0
    · rw [if_pos z, if_neg (by decide), if_neg (by decide), if_neg (by decide), if_neg (by decide), if_neg (by decide), if_neg (by decide), if_neg (by decide), if_neg (by decide), if_neg (by decide), if_neg (by decide), if_neg (by decide), if_neg (by decide), if_neg (by decide), if_neg (by decide), if_neg (by decide), if_neg (by decide), if_neg (by decide), if_neg (by decide), if_pos rfl, if_pos z]
      exact h1.ans rfl
    · rw [if_neg z, if_neg (by decide), if_neg (by decide), if_neg (by decide), if_neg (by decide), if_neg (by decide), if_neg (by decide), if_neg (by decide), if_neg (by decide), if_neg (by decide), if_neg (by decide), if_neg (by decide), if_neg (by decide), if_neg (by decide), if_neg (by decide), if_neg (by decide), if_neg (by decide), if_neg (by decide), if_neg (by decide), if_pos rfl, if_neg z]
      exact h1.ans rfl
  by_cases c19 : a2 = 19
  · subst c19
    rw [if_neg (by decide), if_pos (by decide), if_neg (by decide), if_neg (by decide), if_neg (by decide), if_neg (by decide), if_neg (by decide), if_neg (by decide), if_neg (by decide), if_neg (by decide), if_neg (by decide), if_neg (by decide), if_pos rfl, if_neg (by decide), if_neg (by decide), if_neg (by decide), if_neg (by decide), if_neg (by decide), if_neg (by decide), if_neg (by decide), if_neg (by decide), if_neg (by decide), if_neg (by decide), if_neg (by decide), if_neg (by decide), if_neg (by decide), if_neg (by decide), if_neg (by decide), if_neg (by decide), if_neg (by decide), if_neg (by decide), if_neg (by decide), if_pos rfl]
    exact h1.ans (q.g_exe hn')
  by_cases c20 : a2 = 20
  · subst c20
    rw [if_neg (by decide), if_pos (by decide), if_neg (by decide), if_neg (by decide), if_neg (by decide), if_neg (by decide), if_neg (by decide), if_neg (by decide), if_neg (by decide), if_neg (by decide), if_neg (by decide), if_neg (by decide), if_neg (by decide), if_pos rfl, if_neg (by decide), if_neg (by decide), if_neg (by decide), if_neg (by decide), if_neg (by decide), if_neg (by decide), if_neg (by decide), if_neg (by decide), if_neg (by decide), if_neg (by decide), if_neg (by decide), if_neg (by decide), if_neg (by decide), if_neg (by decide), if_neg (by decide), if_neg (by decide), if_neg (by decide), if_neg (by decide), if_neg (by decide), if_neg (by decide), if_pos rfl]
    exact h1.ans (q.g_busy hn')
  simp only [c0, c1, c2, c3, c4, c5, c6, c7, c8, c9, c10, c11, c12, c13, c14, c15, c16, c17, c18, c19, c20, if_false, Option.bind_some]
  by_cases d1 : a2 < 0
  · rw [if_pos d1]
    exact h1.ans rfl
  rw [if_neg d1]
  by_cases d2 : 8 < a2
  · rw [if_pos d2]
    exact h1.ans rfl
  obtain ⟨j, hj, e⟩ := nI_of2 (n := 8) (M := 8) (by decide) d1 (Int32.not_lt.mp d2)
  have hj2 : j = 0 ∨ j = 1 ∨ j = 2 ∨ j = 3 ∨ j = 4 ∨ j = 5 ∨ j = 6 ∨ j = 7 ∨ j = 8 := by omega
  rcases hj2 with rfl | rfl | rfl | rfl | rfl | rfl | rfl | rfl | rfl
  · exact absurd e c0
  · exact absurd e c1
  · exact absurd e c2
  · exact absurd e c3
  · exact absurd e c4
  · exact absurd e c5
  · exact absurd e c6
  · exact absurd e c7
  · exact absurd e c8
theorem q_link {M D : Nat} {S R : xS} (h : WR M D S R) (a1 a2 a3 : Int32) : P2 (c11_link M S a1 a2 a3) (r_link R a1 a2 a3) (QA M D) := by
  have h1 := h.thr
  unfold c11_link r_link
  refine P2.xr ?_
  generalize sI R 0 0 0 0 = R1 at h1 ⊢
  rcases lnk_cases h1 a1 a2 with ⟨x1, x2⟩ | ⟨n, k, hn, hk, e1, e2, x1, x2⟩
  · rw [x1, x2]
    exact h1.ans rfl
  subst e1
  subst e2
  rw [x1, x2]
  dsimp only [Option.bind_some, xcs]
  rw [gqp ⟨hn, by omega, by omega⟩, if_neg n10]
  obtain ⟨N, eN, hs, q⟩ := id h1
  have hN := q.1
  have ee : (4 : Int32) * nI n + nI k = nI (4 * n + k) := by rw [p4, nI_add]
  simp only [ee, gd_nI (show 4 * n + k < 33 by omega) (show 33 < 2 ^ 31 by decide), nI_clamp (show 4 * n + k < 2 ^ 31 by omega)]
  have hl := (q.lx.1 n (by omega)).2.1 k hk
  have hw := q.lx.2.2.1 n k (Or.inl ⟨by omega, hk⟩)
  obtain ⟨l1, ⟨l2, l3, l4, l5, l6, l7⟩, _⟩ := hl
  obtain ⟨e1, e2, e3, e4, e5, e6, e7, _, _, _, _, _, hp⟩ := l1
  unfold c4_fact
  by_cases c0 : a3 = 0
  · rw [if_pos c0, if_pos c0]
    exact h1.ans l3
  rw [if_neg c0, if_neg c0]
  by_cases c1 : a3 = 1
  · rw [if_pos c1, if_pos c1]
    exact h1.ans l5
  rw [if_neg c1, if_neg c1]
  by_cases c2 : a3 = 2
  · rw [if_pos c2, if_pos c2]
    exact h1.ans l6
  rw [if_neg c2, if_neg c2]
  by_cases c3 : a3 = 3
  · rw [if_pos c3, if_pos c3, show xI S n (12 + k) 11 = xI R1 0 51 (4 * n + k) from l7]
    by_cases cc : xI R1 0 51 (4 * n + k) = -1
    · rw [if_pos cc, if_pos cc]
      exact h1.ans rfl
    · rw [if_neg cc, if_neg cc]
      exact h1.ans rfl
  rw [if_neg c3, if_neg c3]
  by_cases c4 : a3 = 4
  · rw [if_pos c4, if_pos c4, show xI S n (12 + k + 4) 4 = xI R1 0 37 (4 * n + k) from by rw [show 12 + k + 4 = 16 + k by omega]; exact e2]
    rcases hp with ⟨p1, p2, p3⟩ | ⟨z, u, w, hz, hu, hw2, p1, p2, p3, p4⟩
    · rw [if_pos (by rw [show xI R1 0 36 (4 * n + k) = 0 from p1]; decide)]
      exact h1.ans p2
    · rw [if_neg (by rw [show xI R1 0 36 (4 * n + k) = nI z from p1]; exact nI_nle (by omega) (by omega))]
      exact h1.ans rfl
  rw [if_neg c4, if_neg c4]
  by_cases c5 : a3 = 5
  · rw [if_pos c5, if_pos c5]
    refine h1.ans ?_
    rw [show 12 + k + 4 = 16 + k by omega]
    exact e6
  rw [if_neg c5, if_neg c5]
  by_cases c6 : a3 = 6
  · rw [if_pos c6, if_pos c6, show 12 + k + 4 = 16 + k by omega]
    rcases hw with ⟨w1, w2, w3⟩ | ⟨n', k', w1, w2, w3, w4⟩
    · rw [if_pos (show xI R1 0 33 (4 * n + k) = -1 from w2)]
      exact h1.ans w3
    · have w3 : xI R1 0 33 (4 * n + k) = nI (4 * n' + k') := w3
      have b' : 4 * n' + k' ≤ 32 := by rcases w1 with w | w <;> omega
      rw [w3, if_neg (nIm1 (by omega))]
      rcases w1 with ⟨v1, v2⟩ | ⟨v1, v2⟩
      · rw [if_neg (fun z => by have := (nI_eq (a := 4 * n' + k') (b := 32) (by omega) (by decide)).mp z; omega)]
        refine h1.ans (w4.trans ?_)
        rw [show nI (4 * n' + k') / 4 = nI ((4 * n' + k') / 4) from pk_div (d := 4) (by omega) (by decide) (by decide), show (4 * n' + k') / 4 = n' by omega]
      · subst v1; subst v2
        rw [if_pos (show nI (4 * 8 + 0) = 32 from rfl)]
        exact h1.ans w4
  rw [if_neg c6, if_neg c6]
  exact h1.ans rfl
theorem q_out {M D : Nat} {S R : xS} (h : WR M D S R) (a1 : Int32) : P2 (c11_out M S a1) (r_out_ R a1) (QA M D) := by
  have h1 := h.thr
  unfold c11_out r_out_ c3_keptAt
  refine P2.xr ?_
  generalize sI R 0 0 0 0 = R1 at h1 ⊢
  by_cases c : a1 < 0
  · rw [if_pos c, if_pos c]
    exact h1.ans rfl
  rw [if_neg c, if_neg c]
  obtain ⟨j, hj, e⟩ := nI_of c
  subst e
  obtain ⟨N, eN, hs, q⟩ := id h1
  obtain ⟨_, f, m, cc, g1, g2, g3, g4, g5, g6, g7, g8, g9, g10, g11, g12, g13⟩ := q.lx.2.1
  rw [g6, g10]
  by_cases c2 : j < cc
  · rw [if_pos (nI_lt c2 (by omega)), if_neg (nI_ge c2 (by omega)), gd_nI (show j < 4096 by omega) (by decide), nI_clamp (show j < 2 ^ 31 by omega)]
    rw [c5_byteAt_h 4 S (show j < 4096 by omega)]
    refine h1.ans ?_
    rw [g13 j (by omega)]
    exact (pk_and _ 8 (by decide)).symm
  · rw [if_neg (nI_nlt (by omega) (by omega)), if_pos (nI_le (by omega) (by omega))]
    exact h1.ans rfl
theorem in_mem {a : Int32} (h1 : ¬ a < 32768) (h2 : ¬ (36864 : Int32) ≤ a) : ∃ x, x < 4096 ∧ a = nI (32768 + x) := by
  have h0 : ¬ a < 0 := fun z => h1 (Int32.lt_trans z (by decide))
  obtain ⟨m, hm, e⟩ := nI_of h0
  subst e
  have c1 : ¬ m < 32768 := fun z => h1 (nI_lt (b := 32768) z (by decide))
  have c2 : ¬ 36864 ≤ m := fun z => h2 (nI_le (a := 36864) z hm)
  exact ⟨m - 32768, by omega, by rw [show 32768 + (m - 32768) = m by omega]⟩
theorem q_peek {M D : Nat} {S R : xS} (h : WR M D S R) (a1 a2 : Int32) : P2 (c11_peek M S a1 a2) (r_peek R a1 a2) (QA M D) := by
  have h1 := h.thr
  unfold c11_peek r_peek
  refine P2.xr ?_
  generalize sI R 0 0 0 0 = R1 at h1 ⊢
  rcases node_cases h1 a1 with ⟨x1, x2⟩ | ⟨n, hn, e, x1, x2⟩
  · rw [x1, x2]
    exact h1.ans rfl
  subst e
  rw [x1, x2]
  dsimp only [Option.bind_some, xcs]
  rw [gqp ⟨hn, rfl⟩, if_neg n10]
  unfold c11_isInMemory
  by_cases c1 : a2 < 32768
  · rw [if_pos c1, if_pos c1]
    exact h1.ans rfl
  rw [if_neg c1, if_neg c1]
  by_cases c2 : (36864 : Int32) ≤ a2
  · rw [if_pos c2, if_pos c2]
    exact h1.ans rfl
  rw [if_neg c2, if_neg c2]
  obtain ⟨x, hx, e⟩ := in_mem c1 c2
  subst e
  dsimp only [Option.bind_some]
  obtain ⟨N, eN, hs, q⟩ := id h1
  have hN := q.1
  have ha : adr (nI (32768 + x)) = 32768 + x := adr_nI (by omega)
  have hi : inM (adr (nI (32768 + x))) := by rw [ha]; exact ⟨by omega, by omega⟩
  rw [if_neg n10, c5_byteAt_n]
  unfold cGb cTb
  rw [if_pos hi, if_pos hi, ha, show 32768 + x - 32768 = x by omega]
  rw [show (4096 : Int32) * nI n = nI (4096 * n) from pk_mul 4096 n, nI_add, show nI (4096 * n + (32768 + x)) - 32768 = nI (4096 * n + x) from by rw [show (32768 : Int32) = nI 32768 from rfl, pk_sub (by omega), show 4096 * n + (32768 + x) - 32768 = 4096 * n + x by omega]]
  rw [gd_nI (show 4096 * n + x < 32768 by omega) (by decide), nI_clamp (show 4096 * n + x < 2 ^ 31 by omega)]
  refine h1.ans ?_
  rw [q.2.2.1 n (by omega) x hx]
  exact (pk_and _ 8 (by decide)).symm
