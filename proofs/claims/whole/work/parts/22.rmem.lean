/-! the reference's memory by bytes; what writing does to bytes, on both sides -/
def rB (R : xS) (n x : Nat) : Nat := (xI R 0 4 (4096 * n + x)).toBitVec.toNat % 256
theorem rB_lt (R : xS) (n x : Nat) : rB R n x < 256 := Nat.mod_lt _ (by decide)
def rSB (R : xS) (n o : Nat) (v : Int32) : xS := sI R 0 4 (4096 * n + o) v.toInt8.toInt32
theorem r_ix {n A : Nat} (hn : n < 8) (h1 : 32768 ≤ A) (h2 : A < 65536) : ((4096 : Int32) * nI n + nI A) - (32768 : Int32) = nI (4096 * n + (A - 32768)) := by
  rw [show (4096 : Int32) = nI 4096 from rfl, pk_mul, nI_add, show (32768 : Int32) = nI 32768 from rfl, pk_sub (by omega)]
  rw [show 4096 * n + A - 32768 = 4096 * n + (A - 32768) by omega]
theorem lt32768 {A : Nat} (h : A < 65536) : nI A < (32768 : Int32) ↔ A < 32768 := nI_ltI (a := A) (b := 32768) (by omega) (by decide)
theorem lt36864 {A : Nat} (h : A < 65536) : nI A < (36864 : Int32) ↔ A < 36864 := nI_ltI (a := A) (b := 36864) (by omega) (by decide)
theorem r_byteAt_eq (R : xS) {n : Nat} (hn : n < 8) (a : Int32) : r_byteAt R (nI n) a = some (if 32768 ≤ adr a ∧ adr a < 36864 then (nI (rB R n (adr a - 32768)), R) else (0, sI R 0 18 n 1)) := by
  unfold r_byteAt
  rw [i_65535, show a.toBitVec.toNat % 65536 = adr a from rfl]
  have hA := adr_lt a
  generalize adr a = A at hA ⊢
  rw [gd_nI hn (by decide), nI_clamp (by omega)]
  by_cases h1 : A < 32768
  · rw [if_pos ((lt32768 hA).mpr h1), if_neg (by omega)]
    rfl
  · rw [if_neg (fun h => h1 ((lt32768 hA).mp h))]
    by_cases h2 : A < 36864
    · rw [if_pos ((lt36864 hA).mpr h2), if_pos (by omega), r_ix hn (by omega) hA, gd_nI (by omega) (by decide), nI_clamp (by omega), pk_and _ 8 (by decide)]
      rfl
    · rw [if_neg (fun h => h2 ((lt36864 hA).mp h)), if_neg (by omega)]
      rfl
theorem r_byteTo_eq (R : xS) {n : Nat} (hn : n < 8) (a v : Int32) : r_byteTo R (nI n) a v = some (if 32768 ≤ adr a ∧ adr a < 36864 then rSB R n (adr a - 32768) v else sI R 0 18 n 1) := by
  unfold r_byteTo
  rw [i_65535, show a.toBitVec.toNat % 65536 = adr a from rfl]
  have hA := adr_lt a
  generalize adr a = A at hA ⊢
  rw [gd_nI hn (by decide), nI_clamp (by omega)]
  by_cases h1 : A < 32768
  · rw [if_pos ((lt32768 hA).mpr h1), if_neg (by omega)]
    rfl
  · rw [if_neg (fun h => h1 ((lt32768 hA).mp h))]
    by_cases h2 : A < 36864
    · rw [if_pos ((lt36864 hA).mpr h2), if_pos (by omega), r_ix hn (by omega) hA, gd_nI (by omega) (by decide), nI_clamp (by omega), pk_vb]
      rfl
    · rw [if_neg (fun h => h2 ((lt36864 hA).mp h)), if_neg (by omega)]
      rfl
theorem adr_nI {A : Nat} (h : A < 65536) : adr (nI A) = A := by
  unfold adr
  rw [pk_tn (by omega)]
  omega
theorem upd_idem (f : Nat → Int32) (k : Nat) (v w : Int32) : upd (upd f k v) k w = upd f k w := by
  funext j
  unfold upd
  by_cases h : j = k <;> simp [h]
theorem sI_idem (S : xS) (n j k : Nat) (v w : Int32) : sI (sI S n j k v) n j k w = sI S n j k w := by
  unfold sI
  refine Prod.ext ?_ rfl
  funext a b
  by_cases h : a = n ∧ b = j
  · simp [h, upd_idem]
  · simp [h]
theorem or_bytes {a b : Nat} (ha : a < 256) (hb : b < 256) : (nI a <<< ((8 : Int32) &&& 31)) ||| nI b = nI (b + 256 * a) := by
  rw [pk_shlN _ 8 (by decide) (by omega)]
  apply Int32.toBitVec_inj.mp
  apply BitVec.eq_of_toNat_eq
  rw [Int32.toBitVec_or, BitVec.toNat_or, pk_tn (by omega), pk_tn (by omega), pk_tn (by omega)]
  rw [show a * 2 ^ 8 = a <<< 8 by rw [Nat.shiftLeft_eq], ← Nat.shiftLeft_add_eq_or_of_lt (by exact hb), Nat.shiftLeft_eq]
  omega
theorem r_word_eq (R : xS) {n : Nat} (hn : n < 8) (a : Int32) : r_word R (nI n) a = some (if 32768 ≤ adw a ∧ adw a < 36864 then (nI (rB R n (adw a - 32768) + 256 * rB R n (adw a - 32768 + 1)), R) else (0, sI R 0 18 n 1)) := by
  unfold r_word
  rw [i_65534, show a.toBitVec.toNat % 65536 / 2 * 2 = adw a from rfl]
  have hA : adw a < 65536 ∧ adw a % 2 = 0 := by have := adr_lt a; unfold adw; omega
  generalize adw a = A at hA ⊢
  rw [r_byteAt_eq R hn, adr_nI hA.1, Option.bind_some]
  by_cases h : 32768 ≤ A ∧ A < 36864
  · rw [if_pos h, if_pos h]
    show (r_byteAt R (nI n) (nI A + 1)).bind _ = _
    rw [nI_1, r_byteAt_eq R hn, adr_nI (by omega), if_pos (by omega), Option.bind_some]
    show some (nI (rB R n (A + 1 - 32768)) <<< ((8 : Int32) &&& 31) ||| nI (rB R n (A - 32768)), R) = _
    rw [or_bytes (rB_lt R n _) (rB_lt R n _), show A + 1 - 32768 = A - 32768 + 1 by omega]
  · rw [if_neg h, if_neg h]
    show (r_byteAt (sI R 0 18 n 1) (nI n) (nI A + 1)).bind _ = _
    rw [nI_1, r_byteAt_eq _ hn, adr_nI (by omega), if_neg (by omega), Option.bind_some]
    show some ((0 : Int32) <<< ((8 : Int32) &&& 31) ||| 0, sI (sI R 0 18 n 1) 0 18 n 1) = _
    rw [sI_idem]
    rfl
theorem r_wordTo_eq (R : xS) {n : Nat} (hn : n < 8) (a v : Int32) : r_wordTo R (nI n) a v = some (if 32768 ≤ adw a ∧ adw a < 36864 then rSB (rSB R n (adw a - 32768) v) n (adw a - 32768 + 1) (v >>> ((8 : Int32) &&& 31)) else sI R 0 18 n 1) := by
  unfold r_wordTo
  rw [i_65534, show a.toBitVec.toNat % 65536 / 2 * 2 = adw a from rfl]
  have hA : adw a < 65536 ∧ adw a % 2 = 0 := by have := adr_lt a; unfold adw; omega
  generalize adw a = A at hA ⊢
  rw [r_byteTo_eq R hn, adr_nI hA.1, Option.bind_some]
  by_cases h : 32768 ≤ A ∧ A < 36864
  · rw [if_pos h, if_pos h, nI_1, r_byteTo_eq _ hn, adr_nI (by omega), if_pos (by omega), Option.bind_some, show A + 1 - 32768 = A - 32768 + 1 by omega]
  · rw [if_neg h, if_neg h, nI_1, r_byteTo_eq _ hn, adr_nI (by omega), if_neg (by omega), Option.bind_some, sI_idem]
-- bytes behind a write
theorem lB_i64 (v : Int32) (k : Nat) (hk : k < 4) : lB v.toInt64 k = v.toBitVec.toNat / 2 ^ (8 * k) % 256 := by
  apply byte_ext (lB_lt _ _) (Nat.mod_lt _ (by decide))
  intro i hi
  rw [lB_bits _ _ _ hi, Int32.toBitVec_toInt64, BitVec.getLsbD_signExtend, show (256 : Nat) = 2 ^ 8 from rfl, Nat.testBit_mod_two_pow, ← Nat.shiftRight_eq_div_pow, Nat.testBit_shiftRight]
  have h1 : 8 * k + i < 64 := by omega
  have h2 : 8 * k + i < 32 := by omega
  simp [h1, h2, hi, BitVec.getLsbD]
theorem i8_byte (v : Int32) : v.toInt8.toInt32.toBitVec.toNat % 256 = v.toBitVec.toNat % 256 := by
  apply byte_ext (Nat.mod_lt _ (by decide)) (Nat.mod_lt _ (by decide))
  intro i hi
  rw [show (256 : Nat) = 2 ^ 8 from rfl, Nat.testBit_mod_two_pow, Nat.testBit_mod_two_pow, Int8.toBitVec_toInt32, Int32.toBitVec_toInt8]
  have h1 : i < 32 := by omega
  have e : (BitVec.signExtend 32 (BitVec.signExtend 8 v.toBitVec)).getLsbD i = v.toBitVec.getLsbD i := by
    rw [BitVec.getLsbD_signExtend, BitVec.getLsbD_signExtend]
    simp [h1, hi]
  simp only [BitVec.getLsbD] at e
  simp [hi, e]
theorem shr8_byte (v : Int32) : (v >>> ((8 : Int32) &&& 31)).toBitVec.toNat % 256 = v.toBitVec.toNat / 256 % 256 := by
  apply byte_ext (Nat.mod_lt _ (by decide)) (Nat.mod_lt _ (by decide))
  intro i hi
  rw [show v.toBitVec.toNat / 256 % 256 = v.toBitVec.toNat / 2 ^ 8 % 2 ^ 8 from rfl, show (256 : Nat) = 2 ^ 8 from rfl, Nat.testBit_mod_two_pow, Nat.testBit_mod_two_pow, ← Nat.shiftRight_eq_div_pow, Nat.testBit_shiftRight]
  have e : (v >>> ((8 : Int32) &&& 31)).toBitVec.getLsbD i = v.toBitVec.getLsbD (8 + i) := by
    rw [Int32.toBitVec_shiftRight, show (((8 : Int32) &&& 31).toBitVec.smod 32) = 8#32 from by decide, BitVec.sshiftRight_eq', BitVec.getLsbD_sshiftRight]
    have h1 : i < 32 := by omega
    have h2 : 8 + i < 32 := by omega
    simp [h1, h2]
  simp only [BitVec.getLsbD] at e
  rw [e]
