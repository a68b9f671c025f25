/-! the first states are alike -/
def mS : Nat → xS
  | 0 => xS0
  | i + 1 => cSW (mS i) 0 1 (2 * i) 32768
theorem d5_c5 (S : xS) (a v : Int32) : d5_setWord S a v = c5_setWord 0 0 S a v := rfl
theorem mS_d {i : Nat} (hi : i < 100) : d5_setWord (mS i) (nI (32768 + 2 * i)) 32768 = some (mS (i + 1)) := by
  have ha : adw (nI (32768 + 2 * i)) = 32768 + 2 * i := by
    have h := adr_nI (A := 32768 + 2 * i) (by omega)
    unfold adr at h
    unfold adw adr
    rw [h]
    omega
  rw [d5_c5, c5_setWord_eq, ha, if_pos ⟨by omega, by omega⟩, show 32768 + 2 * i - 32768 = 2 * i by omega]
  rfl
theorem mS_I : ∀ (i : Nat), xI (mS i) = xI xS0
  | 0 => rfl
  | i + 1 => by
    have h := mS_I i
    exact h
theorem mS_B : ∀ (i x : Nat), cB (mS i) 0 1 x = if x < 2 * i ∧ x % 2 = 1 then 128 else 0
  | 0, x => by
    rw [if_neg (by omega)]
    unfold cB mS lB
    show (0 : Int64).toBitVec.toNat / _ % 256 = 0
    rw [show (0 : Int64).toBitVec.toNat = 0 from rfl, Nat.zero_div]
  | i + 1, x => by
    unfold mS
    rw [cB_cSW _ _ _ _ _ (by omega), mS_B i x, show (32768 : Int32).toBitVec.toNat = 32768 from rfl]
    repeat' split
    all_goals first | rfl | omega
theorem mS_chain : mChain (mS 18) := ⟨mS 1, mS 2, mS 3, mS 4, mS 5, mS 6, mS 7, mS 8, mS 9, mS 10, mS 11, mS 12, mS 13, mS 14, mS 15, mS 16, mS 17, mS_d (i := 0) (by decide), mS_d (i := 1) (by decide), mS_d (i := 2) (by decide), mS_d (i := 3) (by decide), mS_d (i := 4) (by decide), mS_d (i := 5) (by decide), mS_d (i := 6) (by decide), mS_d (i := 7) (by decide), mS_d (i := 8) (by decide), mS_d (i := 9) (by decide), mS_d (i := 10) (by decide), mS_d (i := 11) (by decide), mS_d (i := 12) (by decide), mS_d (i := 13) (by decide), mS_d (i := 14) (by decide), mS_d (i := 15) (by decide), mS_d (i := 16) (by decide), mS_d (i := 17) (by decide)⟩
