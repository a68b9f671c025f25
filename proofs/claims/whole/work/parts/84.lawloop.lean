/-! the law's loop -/
theorem law_sub {L i : Nat} (hL : L ≤ 2561) (hi : i ≤ 3000) : (Int32.ofNat L) - (5 : Int32) < nI i ↔ L < i + 5 := by
  have h1 := pk_sub_toInt (a := L) (b := 5) (by omega) (by decide)
  have h2 := nI_toInt (n := i) (by omega)
  rw [Int32.lt_iff_toInt_lt]
  show (nI L - nI 5).toInt < _ ↔ _
  rw [h1, h2]
  omega
theorem nI_5 (i : Nat) : nI i + (5 : Int32) = nI (i + 5) := nI_add i 5
theorem law_all {xs : Nat → Int32} {L N : Nat} (hL : L ≤ 2561) : ∀ (j i D : Nat) (Sc Sr : xS), WR N D Sc Sr → L < i + 5 + 5 * j → i ≤ L → D + 100000 * j < 1073741824 → lawL xs L N (j + 1) (nI i) Sc Sr = some 1
  | j, i, D, Sc, Sr, h, hj, hi, hD => by
    have hD2 : 1 ≤ j → D + 100000 < 1073741824 := fun z => by omega
    unfold lawL
    by_cases c : L < i + 5
    · rw [if_pos ((law_sub hL (by omega)).mpr c)]
    rw [if_neg (fun z => c ((law_sub hL (by omega)).mp z))]
    obtain ⟨j, rfl⟩ : ∃ k, j = k + 1 := ⟨j - 1, by omega⟩
    have ih : ∀ Sc Sr : xS, WR N (D + 100000) Sc Sr → lawL xs L N (j + 1) (nI i + 5) Sc Sr = some 1 := by
      intro Sc Sr h
      rw [nI_5]
      exact law_all hL j (i + 5) (D + 100000) Sc Sr h (by omega) (by omega) (by omega)
    have g0 : ∀ k : Option Int32, gd (nI i) L k = k := fun k => gd_nI (by omega) (by omega)
    have g1 : ∀ k : Option Int32, gd (nI i + 1) L k = k := fun k => by rw [show nI i + 1 = nI (i + 1) from nI_add i 1]; exact gd_nI (by omega) (by omega)
    have g2 : ∀ k : Option Int32, gd (nI i + 2) L k = k := fun k => by rw [show nI i + 2 = nI (i + 2) from nI_add i 2]; exact gd_nI (by omega) (by omega)
    have g3 : ∀ k : Option Int32, gd (nI i + 3) L k = k := fun k => by rw [show nI i + 3 = nI (i + 3) from nI_add i 3]; exact gd_nI (by omega) (by omega)
    have g4 : ∀ k : Option Int32, gd (nI i + 4) L k = k := fun k => by rw [show nI i + 4 = nI (i + 4) from nI_add i 4]; exact gd_nI (by omega) (by omega)
    rw [g0]
    by_cases c0 : xs (nI i).toNatClampNeg &&& 15 = 0
    · rw [if_pos c0]
      obtain ⟨⟨r, Sc1⟩, ⟨r', Sr1⟩, e1, e2, q1, q2⟩ := q_wire h (xs ((nI i + (1 : Int32))).toNatClampNeg) (xs ((nI i + (2 : Int32))).toNatClampNeg) (xs ((nI i + (3 : Int32))).toNatClampNeg) (xs ((nI i + (4 : Int32))).toNatClampNeg)
      rw [g1, g2, g3, g4, e1]
      dsimp only [Option.bind_some]
      rw [g1, g2, g3, g4, e2]
      dsimp only [Option.bind_some]
      rw [if_pos (show r = r' from q1)]
      exact ih _ _ (WR.le q2 (by omega))
    rw [if_neg c0]
    by_cases c1 : xs (nI i).toNatClampNeg &&& 15 = 1
    · rw [if_pos c1]
      obtain ⟨⟨r, Sc1⟩, ⟨r', Sr1⟩, e1, e2, q1, q2⟩ := q_send h ((jlshl ((xs ((nI i + (1 : Int32))).toNatClampNeg).toInt64) (32 : Int32)) ||| (((xs ((nI i + (2 : Int32))).toNatClampNeg).toInt64) &&& (4294967295 : Int64))) (xs ((nI i + (3 : Int32))).toNatClampNeg)
      rw [g1, g2, g3, e1]
      dsimp only [Option.bind_some]
      rw [g1, g2, g3, e2]
      dsimp only [Option.bind_some]
      rw [if_pos (show r = r' from q1)]
      exact ih _ _ (WR.le q2 (by omega))
    rw [if_neg c1]
    by_cases c2 : xs (nI i).toNatClampNeg &&& 15 = 2
    · rw [if_pos c2]
      obtain ⟨⟨r, Sc1⟩, ⟨r', Sr1⟩, e1, e2, q1, q2⟩ := q_put h (xs ((nI i + (1 : Int32))).toNatClampNeg) (xs ((nI i + (2 : Int32))).toNatClampNeg) ((jlshl ((xs ((nI i + (3 : Int32))).toNatClampNeg).toInt64) (32 : Int32)) ||| (((xs ((nI i + (4 : Int32))).toNatClampNeg).toInt64) &&& (4294967295 : Int64)))
      rw [g1, g2, g3, g4, e1]
      dsimp only [Option.bind_some]
      rw [g1, g2, g3, g4, e2]
      dsimp only [Option.bind_some]
      rw [if_pos (show r = r' from q1)]
      exact ih _ _ (WR.le q2 (by omega))
    rw [if_neg c2]
    by_cases c3 : xs (nI i).toNatClampNeg &&& 15 = 3
    · rw [if_pos c3]
      obtain ⟨⟨r, Sc1⟩, ⟨r', Sr1⟩, e1, e2, q1, q2⟩ := q_start h (xs ((nI i + (1 : Int32))).toNatClampNeg) (xs ((nI i + (2 : Int32))).toNatClampNeg) (xs ((nI i + (3 : Int32))).toNatClampNeg) (xs ((nI i + (4 : Int32))).toNatClampNeg)
      rw [g1, g2, g3, g4, e1]
      dsimp only [Option.bind_some]
      rw [g1, g2, g3, g4, e2]
      dsimp only [Option.bind_some]
      rw [if_pos (show r = r' from q1)]
      exact ih _ _ (WR.le q2 (by omega))
    rw [if_neg c3]
    by_cases c4 : xs (nI i).toNatClampNeg &&& 15 = 4
    · rw [if_pos c4]
      obtain ⟨⟨r, Sc1⟩, ⟨r', Sr1⟩, e1, e2, q1, q2⟩ := q_run h (hD2 (Nat.succ_le_succ (Nat.zero_le j))) (xs ((nI i + (1 : Int32))).toNatClampNeg)
      rw [g1, e1]
      dsimp only [Option.bind_some]
      rw [g1, e2]
      dsimp only [Option.bind_some]
      rw [if_pos (show r = r' from q1)]
      exact ih _ _ (q2)
    rw [if_neg c4]
    by_cases c5 : xs (nI i).toNatClampNeg &&& 15 = 5
    · rw [if_pos c5]
      obtain ⟨⟨r, Sc1⟩, ⟨r', Sr1⟩, e1, e2, q1, q2⟩ := q_register h (xs ((nI i + (1 : Int32))).toNatClampNeg) (xs ((nI i + (2 : Int32))).toNatClampNeg)
      rw [g1, g2, e1]
      dsimp only [Option.bind_some]
      rw [g1, g2, e2]
      dsimp only [Option.bind_some]
      rw [if_pos (show r = r' from q1)]
      exact ih _ _ (WR.le q2 (by omega))
    rw [if_neg c5]
    by_cases c6 : xs (nI i).toNatClampNeg &&& 15 = 6
    · rw [if_pos c6]
      obtain ⟨⟨r, Sc1⟩, ⟨r', Sr1⟩, e1, e2, q1, q2⟩ := q_peek h (xs ((nI i + (1 : Int32))).toNatClampNeg) (xs ((nI i + (2 : Int32))).toNatClampNeg)
      rw [g1, g2, e1]
      dsimp only [Option.bind_some]
      rw [g1, g2, e2]
      dsimp only [Option.bind_some]
      rw [if_pos (show r = r' from q1)]
      exact ih _ _ (WR.le q2 (by omega))
    rw [if_neg c6]
    by_cases c7 : xs (nI i).toNatClampNeg &&& 15 = 7
    · rw [if_pos c7]
      obtain ⟨⟨r, Sc1⟩, ⟨r', Sr1⟩, e1, e2, q1, q2⟩ := q_link h (xs ((nI i + (1 : Int32))).toNatClampNeg) (xs ((nI i + (2 : Int32))).toNatClampNeg) (xs ((nI i + (3 : Int32))).toNatClampNeg)
      rw [g1, g2, g3, e1]
      dsimp only [Option.bind_some]
      rw [g1, g2, g3, e2]
      dsimp only [Option.bind_some]
      rw [if_pos (show r = r' from q1)]
      exact ih _ _ (WR.le q2 (by omega))
    rw [if_neg c7]
    by_cases c8 : xs (nI i).toNatClampNeg &&& 15 = 8
    · rw [if_pos c8]
      obtain ⟨⟨r, Sc1⟩, ⟨r', Sr1⟩, e1, e2, q1, q2⟩ := q_out h (xs ((nI i + (1 : Int32))).toNatClampNeg)
      rw [g1, e1]
      dsimp only [Option.bind_some]
      rw [g1, e2]
      dsimp only [Option.bind_some]
      rw [if_pos (show r = r' from q1)]
      exact ih _ _ (WR.le q2 (by omega))
    rw [if_neg c8]
    exact ih _ _ (h.le (by omega))
