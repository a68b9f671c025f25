/-! the reference's first state -/
theorem i_589 : ∀ (j fu i : Nat) (S : xS), i + j = 33 → j < fu → ∃ o, r_init_b589 fu (nI i) S = some o ∧ (∀ a b c, xI o a b c = if a = 0 ∧ (b = 33 ∨ b = 44 ∨ b = 47 ∨ b = 50 ∨ b = 51) ∧ i ≤ c ∧ c < 33 then -1 else xI S a b c) ∧ o.2 = S.2
  | _, 0, _, _, _, hf => absurd hf (by omega)
  | 0, fu + 1, i, S, hi, hf => by
    refine ⟨S, ?_, fun a b c => ?_, rfl⟩
    · unfold r_init_b589
      rw [if_pos (show (33 : Int32) ≤ nI i from nI_le (a := 33) (by omega) (by omega))]
    · rw [if_neg (by omega)]
  | j + 1, fu + 1, i, S, hi, hf => by
    obtain ⟨o, x1, x2, x3⟩ := i_589 j fu (i + 1) (sI (sI (sI (sI (sI S 0 33 i (-1)) 0 44 i (-1)) 0 47 i (-1)) 0 50 i (-1)) 0 51 i (-1)) (by omega) (by omega)
    refine ⟨o, ?_, fun a b c => ?_, x3⟩
    · unfold r_init_b589
      rw [if_neg (show ¬ (33 : Int32) ≤ nI i from nI_ge (b := 33) (by omega) (by decide))]
      simp only [gd_nI (show i < 33 by omega) (show 33 < 2 ^ 31 by decide), nI_clamp (show i < 2 ^ 31 by omega), nI_1]
      exact x1
    · rw [x2]
      simp only [xI_sI]
      repeat' split
      all_goals first | rfl | omega
theorem i_559 : ∀ (j fu i : Nat) (S : xS), i + j = 16 → j < fu → ∃ o, r_init_b559 fu (nI i) S = some o ∧ (∀ a b c, xI o a b c = if a = 0 ∧ (b = 33 ∨ b = 44 ∨ b = 47 ∨ b = 50 ∨ b = 51) ∧ c < 33 then -1 else if a = 0 ∧ (b = 19 ∨ b = 20) ∧ i ≤ c ∧ c < 16 then 32768 else xI S a b c) ∧ o.2 = S.2
  | _, 0, _, _, _, hf => absurd hf (by omega)
  | 0, fu + 1, i, S, hi, hf => by
    obtain ⟨o, x1, x2, x3⟩ := i_589 33 100000 0 S (by omega) (by omega)
    refine ⟨o, ?_, fun a b c => ?_, x3⟩
    · unfold r_init_b559
      rw [if_pos (show (16 : Int32) ≤ nI i from nI_le (a := 16) (by omega) (by omega))]
      rw [nI_0'] at x1
      exact x1
    · rw [x2]
      repeat' split
      all_goals first | rfl | omega
  | j + 1, fu + 1, i, S, hi, hf => by
    obtain ⟨o, x1, x2, x3⟩ := i_559 j fu (i + 1) (sI (sI S 0 19 i 32768) 0 20 i 32768) (by omega) (by omega)
    refine ⟨o, ?_, fun a b c => ?_, x3⟩
    · unfold r_init_b559
      rw [if_neg (show ¬ (16 : Int32) ≤ nI i from nI_ge (b := 16) (by omega) (by decide))]
      simp only [gd_nI (show i < 16 by omega) (show 16 < 2 ^ 31 by decide), nI_clamp (show i < 2 ^ 31 by omega), nI_1]
      exact x1
    · rw [x2]
      simp only [xI_sI]
      repeat' split
      all_goals first | rfl | omega
theorem i_520 {K : Int32 → xS → Option xS} {n : Nat} (hn : n < 8) : ∀ (j fu i : Nat) (S : xS), i + j = 18 → j < fu → ∃ S', r_init_b520 K fu (nI n) (nI (32768 + 2 * i)) S = K (nI (n + 1)) S' ∧ (∀ a b c, xI S' a b c = if a = 0 ∧ b = 4 ∧ 4096 * n + 2 * i < c ∧ c < 4096 * n + 36 ∧ c % 2 = 1 then -128 else xI S a b c) ∧ S'.2 = S.2
  | _, 0, _, _, _, hf => absurd hf (by omega)
  | 0, fu + 1, i, S, hi, hf => by
    refine ⟨S, ?_, fun a b c => ?_, rfl⟩
    · unfold r_init_b520
      rw [if_pos (show (32804 : Int32) ≤ nI (32768 + 2 * i) from nI_le (a := 32804) (by omega) (by omega)), nI_1]
    · rw [if_neg (by omega)]
  | j + 1, fu + 1, i, S, hi, hf => by
    obtain ⟨o, x1, x2, x3⟩ := i_520 (K := K) hn j fu (i + 1) (sI S 0 4 (4096 * n + 2 * i + 1) (-128)) (by omega) (by omega)
    refine ⟨o, ?_, fun a b c => ?_, x3⟩
    · unfold r_init_b520
      rw [if_neg (show ¬ (32804 : Int32) ≤ nI (32768 + 2 * i) from nI_ge (b := 32804) (by omega) (by decide))]
      have ei : (4096 : Int32) * nI n + nI (32768 + 2 * i) - 32768 + 1 = nI (4096 * n + 2 * i + 1) := by
        rw [show (4096 : Int32) * nI n = nI (4096 * n) from pk_mul 4096 n, nI_add, show (32768 : Int32) = nI 32768 from rfl, pk_sub (by omega), nI_1]
        exact congrArg nI (by omega)
      rw [ei, gd_nI (show 4096 * n + 2 * i + 1 < 32768 by omega) (by decide), nI_clamp (show 4096 * n + 2 * i + 1 < 2 ^ 31 by omega), show vp_nar .byte (-128 : Int32) = -128 from rfl, show nI (32768 + 2 * i) + 2 = nI (32768 + 2 * (i + 1)) from nI_add (32768 + 2 * i) 2]
      exact x1
    · rw [x2]
      simp only [xI_sI]
      repeat' split
      all_goals first | rfl | omega
theorem i_483 : ∀ (j fu n : Nat) (S : xS), n + j = 8 → j < fu → ∃ o, r_init_b483 fu (nI n) S = some o ∧ (∀ a b c, xI o a b c = if a = 0 ∧ (b = 33 ∨ b = 44 ∨ b = 47 ∨ b = 50 ∨ b = 51) ∧ c < 33 then -1 else if a = 0 ∧ (b = 19 ∨ b = 20) ∧ c < 16 then 32768 else if a = 0 ∧ b = 11 ∧ n ≤ c ∧ c < 8 then 2 else if a = 0 ∧ b = 52 ∧ n ≤ c ∧ c < 8 then 1 else if a = 0 ∧ (b = 53 ∨ b = 54) ∧ n ≤ c ∧ c < 8 then -1 else if a = 0 ∧ b = 4 ∧ 4096 * n ≤ c ∧ c < 32768 ∧ c % 4096 < 36 ∧ c % 2 = 1 then -128 else xI S a b c) ∧ o.2 = S.2
  | _, 0, _, _, _, hf => absurd hf (by omega)
  | 0, fu + 1, n, S, hi, hf => by
    obtain ⟨o, x1, x2, x3⟩ := i_559 16 100000 0 S (by omega) (by omega)
    refine ⟨o, ?_, fun a b c => ?_, x3⟩
    · unfold r_init_b483
      rw [if_pos (show (8 : Int32) ≤ nI n from nI_le (a := 8) (by omega) (by omega))]
      rw [nI_0'] at x1
      exact x1
    · rw [x2]
      repeat' split
      all_goals first | rfl | omega
  | j + 1, fu + 1, n, S, hi, hf => by
    have h8 : n < 8 := by omega
    obtain ⟨S', y1, y2, y3⟩ := i_520 (K := r_init_b483 fu) h8 18 100000 0 (sI (sI (sI (sI S 0 11 n 2) 0 52 n 1) 0 53 n (-1)) 0 54 n (-1)) (by omega) (by omega)
    obtain ⟨o, x1, x2, x3⟩ := i_483 j fu (n + 1) S' (by omega) (by omega)
    refine ⟨o, ?_, fun a b c => ?_, x3.trans y3⟩
    · unfold r_init_b483
      rw [if_neg (show ¬ (8 : Int32) ≤ nI n from nI_ge (b := 8) (by omega) (by decide))]
      simp only [gI h8, cl8 h8, nar1, xnm]
      rw [show nI (32768 + 2 * 0) = 32768 from rfl] at y1
      rw [y1]
      exact x1
    · rw [x2, y2]
      simp only [xI_sI]
      repeat' split
      all_goals first | rfl | omega
