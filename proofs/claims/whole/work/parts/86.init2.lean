/-! the reference's first state, whole -/
theorem xnm_eq {α : Type} (S : xS) (f : xS → Option α) : xnm S f = f S := rfl
theorem i_num {v : Int32} {N : Nat} (e : cNum v = nI N) (S : xS) : r_init_b456 v S = r_init_b478 (nI N) S := by
  rw [← e]
  unfold r_init_b456 cNum
  by_cases c1 : (1 : Int32) ≤ v
  · rw [if_pos c1]
    by_cases c2 : v ≤ 8
    · rw [if_pos c2]
      by_cases c3 : v < 8
      · rw [if_pos c3]
        by_cases c4 : 1 < v
        · rw [if_pos c4]
        · rw [if_neg c4, Int32.le_antisymm (Int32.not_lt.mp c4) c1]
      · rw [if_neg c3, if_pos (by decide), Int32.le_antisymm c2 (Int32.not_lt.mp c3)]
    · rw [if_neg c2, if_neg (fun z => c2 (Int32.le_of_lt z)), if_pos (by decide)]
  · have c2 : v < 1 := Int32.not_le.mp c1
    have c3 : v < 8 := Int32.lt_trans c2 (by decide)
    rw [if_neg c1, if_pos c3, if_neg (fun z => absurd (Int32.lt_trans z c2) (by decide))]
theorem r_init {v : Int32} {N : Nat} (hN : N ≤ 8) (e : cNum v = nI N) : ∃ o, r_init_b456 v xS0 = some o ∧ (∀ b c, xI o 0 b c = if (b = 33 ∨ b = 44 ∨ b = 47 ∨ b = 50 ∨ b = 51) ∧ c < 33 then -1 else if (b = 19 ∨ b = 20) ∧ c < 16 then 32768 else if b = 11 ∧ c < 8 then 2 else if b = 52 ∧ c < 8 then 1 else if (b = 53 ∨ b = 54) ∧ c < 8 then -1 else if b = 4 ∧ c < 32768 ∧ c % 4096 < 36 ∧ c % 2 = 1 then -128 else if b = 0 ∧ c = 1 then nI N else 0) := by
  obtain ⟨o, x1, x2, x3⟩ := i_483 8 100000 0 (sI xS0 0 0 1 (nI N)) (by omega) (by omega)
  rw [nI_0'] at x1
  refine ⟨o, ?_, fun b c => ?_⟩
  · rw [i_num e]
    unfold r_init_b478
    rw [xnm_eq, x1]
  · rw [x2, xI_sI]
    repeat' split
    all_goals first | rfl | omega
