/-! numbers: masks, bytes of a long -/
theorem n_tb_65534 (i : Nat) : (65534 : Nat).testBit i = (decide (1 ≤ i) && decide (i < 16)) := by
  by_cases h : i < 16
  · have : ∀ i, i < 16 → (65534 : Nat).testBit i = (decide (1 ≤ i) && decide (i < 16)) := by decide
    exact this i h
  · rw [Nat.testBit_lt_two_pow (by exact Nat.lt_of_lt_of_le (by decide : 65534 < 2 ^ 16) (Nat.pow_le_pow_right (by decide) (by omega)))]
    simp [h]
theorem n_and_65534 (a : Nat) : a &&& 65534 = a % 65536 / 2 * 2 := by
  rw [show a % 65536 / 2 * 2 = ((a % 2 ^ 16) >>> 1) <<< 1 by simp [Nat.shiftRight_eq_div_pow, Nat.shiftLeft_eq]]
  apply Nat.eq_of_testBit_eq
  intro i
  rw [Nat.testBit_and, n_tb_65534, Nat.testBit_shiftLeft, Nat.testBit_shiftRight, Nat.testBit_mod_two_pow]
  by_cases h1 : 1 ≤ i
  · rw [show 1 + (i - 1) = i by omega]
    by_cases h2 : i < 16 <;> simp [h1, h2]
  · simp [h1]
theorem i_and_nat (x : Int32) (m : Nat) (hm : m < 2 ^ 31) : x &&& nI m = nI (x.toBitVec.toNat &&& m) := by
  apply Int32.toBitVec_inj.mp
  apply BitVec.eq_of_toNat_eq
  rw [Int32.toBitVec_and, BitVec.toNat_and, pk_tn (by omega), pk_tn (Nat.lt_of_le_of_lt Nat.and_le_right (by omega))]
theorem i_65535 (x : Int32) : x &&& (65535 : Int32) = nI (x.toBitVec.toNat % 65536) := pk_and x 16 (by decide)
theorem i_65534 (x : Int32) : x &&& (65534 : Int32) = nI (x.toBitVec.toNat % 65536 / 2 * 2) := by
  rw [show (65534 : Int32) = nI 65534 from rfl, i_and_nat x 65534 (by decide), n_and_65534]
/-- byte k of a long -/
def lB (y : Int64) (k : Nat) : Nat := y.toBitVec.toNat / 2 ^ (8 * k) % 256
theorem lB_lt (y : Int64) (k : Nat) : lB y k < 256 := Nat.mod_lt _ (by decide)
theorem lB_bits (y : Int64) (k i : Nat) (hi : i < 8) : (lB y k).testBit i = y.toBitVec.getLsbD (8 * k + i) := by
  unfold lB
  rw [show (256 : Nat) = 2 ^ 8 from rfl, Nat.testBit_mod_two_pow, ← Nat.shiftRight_eq_div_pow, Nat.testBit_shiftRight]
  simp [hi, BitVec.getLsbD]
theorem byte_ext {a b : Nat} (ha : a < 256) (hb : b < 256) (h : ∀ i, i < 8 → a.testBit i = b.testBit i) : a = b := by
  apply Nat.eq_of_testBit_eq
  intro i
  by_cases hi : i < 8
  · exact h i hi
  · have h2 : 256 ≤ 2 ^ i := Nat.le_trans (by decide : 256 ≤ 2 ^ 8) (Nat.pow_le_pow_right (by decide) (by omega))
    rw [Nat.testBit_lt_two_pow (by omega), Nat.testBit_lt_two_pow (by omega)]
theorem sh_63 (s : Nat) (hs : s < 64) : (((nI s).toInt64 &&& 63).toBitVec.smod 64).toNat = s := by
  have : ∀ s, s < 64 → (((nI s).toInt64 &&& 63).toBitVec.smod 64).toNat = s := by decide +kernel
  exact this s hs
theorem jlshl_bv (x : Int64) (s : Nat) (hs : s < 64) : (jlshl x (nI s)).toBitVec = x.toBitVec <<< s := by
  unfold jlshl
  rw [Int64.toBitVec_shiftLeft, BitVec.shiftLeft_eq', sh_63 s hs]
theorem ush_63 (s : Nat) (hs : s < 64) : (((nI s).toInt64.toUInt64 &&& Int64.toUInt64 63).toBitVec % 64).toNat = s := by
  have : ∀ s, s < 64 → (((nI s).toInt64.toUInt64 &&& Int64.toUInt64 63).toBitVec % 64).toNat = s := by decide +kernel
  exact this s hs
theorem lush_bv (x : Int64) (s : Nat) (hs : s < 64) : (lush x (nI s)).toBitVec = x.toBitVec >>> s := by
  unfold lush
  show (x.toUInt64 >>> ((nI s).toInt64.toUInt64 &&& Int64.toUInt64 63)).toBitVec = _
  rw [UInt64.toBitVec_shiftRight, BitVec.ushiftRight_eq', ush_63 s hs]
  rfl
theorem l_m1 (p : Nat) : (-1 : Int64).toBitVec.getLsbD p = decide (p < 64) := by
  rw [show (-1 : Int64).toBitVec = BitVec.allOnes 64 from rfl, BitVec.getLsbD_allOnes]
theorem l_fld (y v msk : Int64) (w s p : Nat) (hs : s + w ≤ 64) (hw : 0 < w) (hp : p < 64) (hm : ∀ i, msk.toBitVec.getLsbD i = decide (i < w)) : ((y &&& ((jlshl msk (nI s)) ^^^ (-1 : Int64))) ||| (jlshl (v &&& msk) (nI s))).toBitVec.getLsbD p = if s ≤ p ∧ p < s + w then v.toBitVec.getLsbD (p - s) else y.toBitVec.getLsbD p := by
  rw [Int64.toBitVec_or, Int64.toBitVec_and, Int64.toBitVec_xor, jlshl_bv _ _ (by omega), jlshl_bv _ _ (by omega), Int64.toBitVec_and]
  rw [BitVec.getLsbD_or, BitVec.getLsbD_and, BitVec.getLsbD_xor, BitVec.getLsbD_shiftLeft, BitVec.getLsbD_shiftLeft, BitVec.getLsbD_and, hm, l_m1]
  by_cases h1 : p < s
  · simp [h1, hp, Nat.not_le.mpr h1]
  · by_cases h2 : p < s + w
    · have h3 : p - s < w := by omega
      have h4 : s ≤ p := by omega
      simp [h1, h2, h3, h4, hp]
    · have h3 : ¬ p - s < w := by omega
      simp [h1, h2, h3, hp]
theorem m_255 (i : Nat) : (255 : Int64).toBitVec.getLsbD i = decide (i < 8) := by
  rw [show (255 : Int64).toBitVec = 255#64 from rfl]
  by_cases h : i < 64
  · have : ∀ i, i < 64 → (255#64).getLsbD i = decide (i < 8) := by decide
    exact this i h
  · rw [BitVec.getLsbD_of_ge _ _ (by omega)]
    simp; omega
theorem m_65535 (i : Nat) : (65535 : Int64).toBitVec.getLsbD i = decide (i < 16) := by
  rw [show (65535 : Int64).toBitVec = 65535#64 from rfl]
  by_cases h : i < 64
  · have : ∀ i, i < 64 → (65535#64).getLsbD i = decide (i < 16) := by decide
    exact this i h
  · rw [BitVec.getLsbD_of_ge _ _ (by omega)]
    simp; omega
/-- a byte of a long, set -/
theorem lB_set8 (y v : Int64) (m k : Nat) (hm : m < 8) (hk : k < 8) : lB ((y &&& ((jlshl 255 (nI (8 * m))) ^^^ (-1 : Int64))) ||| (jlshl (v &&& 255) (nI (8 * m)))) k = if k = m then lB v 0 else lB y k := by
  apply byte_ext (lB_lt _ _) (by split <;> exact lB_lt _ _)
  intro i hi
  rw [lB_bits _ _ _ hi, l_fld y v 255 8 (8 * m) (8 * k + i) (by omega) (by decide) (by omega) m_255]
  by_cases h : k = m
  · subst h
    rw [if_pos (by omega), if_pos rfl, lB_bits _ _ _ hi]
    congr 1
    omega
  · rw [if_neg (by omega), if_neg h, lB_bits _ _ _ hi]
/-- a word of a long, set -/
theorem lB_set16 (y v : Int64) (m k : Nat) (hm : m + 1 < 8) (hk : k < 8) : lB ((y &&& ((jlshl 65535 (nI (8 * m))) ^^^ (-1 : Int64))) ||| (jlshl (v &&& 65535) (nI (8 * m)))) k = if k = m then lB v 0 else if k = m + 1 then lB v 1 else lB y k := by
  apply byte_ext (lB_lt _ _) (by split; exact lB_lt _ _; split <;> exact lB_lt _ _)
  intro i hi
  rw [lB_bits _ _ _ hi, l_fld y v 65535 16 (8 * m) (8 * k + i) (by omega) (by decide) (by omega) m_65535]
  by_cases h : k = m
  · subst h
    rw [if_pos (by omega), if_pos rfl, lB_bits _ _ _ hi]
    congr 1
    omega
  · by_cases h2 : k = m + 1
    · subst h2
      rw [if_pos (by omega), if_neg h, if_pos rfl, lB_bits _ _ _ hi]
      congr 1
      omega
    · rw [if_neg (by omega), if_neg h, if_neg h2, lB_bits _ _ _ hi]
