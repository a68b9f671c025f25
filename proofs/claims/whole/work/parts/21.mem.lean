/-! the class's memory, by bytes -/
def adr (a : Int32) : Nat := a.toBitVec.toNat % 65536
theorem adr_lt (a : Int32) : adr a < 65536 := Nat.mod_lt _ (by decide)
/-- byte x of the memory whose longs are cell j -/
def cB (S : xS) (n j x : Nat) : Nat := lB (xJ S n j (x / 8)) (x % 8)
theorem gd_nI {α : Type} {i n : Nat} {k : Option α} (h : i < n) (hn : n < 2 ^ 31) : gd (nI i) n k = k := by
  unfold gd
  rw [if_pos ⟨nI_pos (by omega), by rw [nI_clamp (by omega)]; exact h⟩]
theorem lush_nat (y : Int64) (m : Nat) (hm : m < 8) : ((lush y (nI (8 * m))).toInt32).toBitVec.toNat = y.toBitVec.toNat / 2 ^ (8 * m) % 2 ^ 32 := by
  rw [Int64.toBitVec_toInt32, BitVec.signExtend_eq_setWidth_of_le _ (by decide), BitVec.toNat_setWidth, lush_bv _ _ (by omega), BitVec.toNat_ushiftRight, Nat.shiftRight_eq_div_pow]
theorem lush_byte (y : Int64) (m : Nat) (hm : m < 8) : (lush y (nI (8 * m))).toInt32 &&& (255 : Int32) = nI (lB y m) := by
  rw [pk_and _ 8 (by decide), lush_nat y m hm]
  unfold lB
  congr 1
  omega
theorem lush_word (y : Int64) (m : Nat) (hm : m + 1 < 8) : (lush y (nI (8 * m))).toInt32 &&& (65535 : Int32) = nI (lB y m + 256 * lB y (m + 1)) := by
  rw [pk_and _ 16 (by decide), lush_nat y m (by omega)]
  unfold lB
  rw [show 2 ^ (8 * (m + 1)) = 2 ^ (8 * m) * 256 by rw [show 8 * (m + 1) = 8 * m + 8 by omega, Nat.pow_add], ← Nat.div_div_eq_div_mul]
  congr 1
  omega
/-- an address's place: below, in, beyond the memory -/
theorem off_neg {A : Nat} (h : A < 32768) : nI A - (32768 : Int32) < 0 := pk_sneg (a := A) (b := 32768) (by decide) h
theorem off_pos {A : Nat} (h : 32768 ≤ A) : nI A - (32768 : Int32) = nI (A - 32768) := pk_sub (a := A) (b := 32768) h
theorem lt4096 {o : Nat} (h : o < 65536) : nI o < (4096 : Int32) ↔ o < 4096 := nI_ltI (a := o) (b := 4096) (by omega) (by decide)
theorem sh3 {o : Nat} (h : o < 65536) : nI o >>> ((3 : Int32) &&& 31) = nI (o / 8) := pk_shrN (by omega) _ 3 (by decide)
theorem sh7 {o : Nat} (h : o < 65536) : (nI o &&& (7 : Int32)) <<< ((3 : Int32) &&& 31) = nI (8 * (o % 8)) := by
  rw [pk_andN (by omega) 3 (by decide), pk_shlN _ 3 (by decide) (by omega)]
  congr 1
  omega
theorem c5_byteAt_eq (n j : Nat) (S : xS) (a : Int32) : c5_byteAt n j S a = some (if 32768 ≤ adr a ∧ adr a < 36864 then (nI (cB S n (j + 1) (adr a - 32768)), S) else (0, sI S n j 1 1)) := by
  unfold c5_byteAt
  rw [i_65535, show a.toBitVec.toNat % 65536 = adr a from rfl]
  have hA := adr_lt a
  generalize adr a = A at hA ⊢
  by_cases h1 : A < 32768
  · rw [if_pos (off_neg h1), if_neg (by omega)]
    rfl
  · rw [off_pos (by omega), if_neg (nI_pos (by omega))]
    by_cases h2 : A - 32768 < 4096
    · rw [if_pos ((lt4096 (by omega)).mpr h2), if_pos (by omega), sh3 (by omega), sh7 (by omega), gd_nI (by omega) (by decide), nI_clamp (by omega), lush_byte _ _ (by omega)]
      rfl
    · rw [if_neg (fun h => h2 ((lt4096 (by omega)).mp h)), if_neg (by omega)]
      rfl
/-- an address of a word -/
def adw (a : Int32) : Nat := adr a / 2 * 2
theorem c5_wordAt_eq (n j : Nat) (S : xS) (a : Int32) : c5_wordAt n j S a = some (if 32768 ≤ adw a ∧ adw a < 36864 then (nI (cB S n (j + 1) (adw a - 32768) + 256 * cB S n (j + 1) (adw a - 32768 + 1)), S) else (0, sI S n j 1 1)) := by
  unfold c5_wordAt
  rw [i_65534, show a.toBitVec.toNat % 65536 / 2 * 2 = adw a from rfl]
  have hA : adw a < 65536 ∧ adw a % 2 = 0 := by have := adr_lt a; unfold adw; omega
  generalize adw a = A at hA ⊢
  by_cases h1 : A < 32768
  · rw [if_pos (off_neg h1), if_neg (by omega)]
    rfl
  · rw [off_pos (by omega), if_neg (nI_pos (by omega))]
    by_cases h2 : A - 32768 < 4096
    · rw [if_pos ((lt4096 (by omega)).mpr h2), if_pos (by omega), sh3 (by omega), sh7 (by omega), gd_nI (by omega) (by decide), nI_clamp (by omega), lush_word _ _ (by omega)]
      unfold cB
      rw [show (A - 32768 + 1) / 8 = (A - 32768) / 8 by omega, show (A - 32768 + 1) % 8 = (A - 32768) % 8 + 1 by omega]
    · rw [if_neg (fun h => h2 ((lt4096 (by omega)).mp h)), if_neg (by omega)]
      rfl
/-- a byte, a word written -/
def cSB (S : xS) (n j o : Nat) (v : Int32) : xS := sJ S n j (o / 8) (((xJ S n j (o / 8)) &&& ((jlshl 255 (nI (8 * (o % 8)))) ^^^ (-1 : Int64))) ||| (jlshl (v.toInt64 &&& 255) (nI (8 * (o % 8)))))
def cSW (S : xS) (n j o : Nat) (v : Int32) : xS := sJ S n j (o / 8) (((xJ S n j (o / 8)) &&& ((jlshl 65535 (nI (8 * (o % 8)))) ^^^ (-1 : Int64))) ||| (jlshl (v.toInt64 &&& 65535) (nI (8 * (o % 8)))))
theorem c5_setByte_eq (n j : Nat) (S : xS) (a v : Int32) : c5_setByte n j S a v = some (if 32768 ≤ adr a ∧ adr a < 36864 then cSB S n (j + 1) (adr a - 32768) v else sI S n j 1 1) := by
  unfold c5_setByte
  rw [i_65535, show a.toBitVec.toNat % 65536 = adr a from rfl]
  have hA := adr_lt a
  generalize adr a = A at hA ⊢
  by_cases h1 : A < 32768
  · rw [if_pos (off_neg h1), if_neg (by omega)]
    rfl
  · rw [off_pos (by omega), if_neg (nI_pos (by omega))]
    by_cases h2 : A - 32768 < 4096
    · rw [if_pos ((lt4096 (by omega)).mpr h2), if_pos (by omega), sh3 (by omega), sh7 (by omega), gd_nI (by omega) (by decide), gd_nI (by omega) (by decide), nI_clamp (by omega)]
      rfl
    · rw [if_neg (fun h => h2 ((lt4096 (by omega)).mp h)), if_neg (by omega)]
      rfl
theorem c5_setWord_eq (n j : Nat) (S : xS) (a v : Int32) : c5_setWord n j S a v = some (if 32768 ≤ adw a ∧ adw a < 36864 then cSW S n (j + 1) (adw a - 32768) v else sI S n j 1 1) := by
  unfold c5_setWord
  rw [i_65534, show a.toBitVec.toNat % 65536 / 2 * 2 = adw a from rfl]
  have hA : adw a < 65536 ∧ adw a % 2 = 0 := by have := adr_lt a; unfold adw; omega
  generalize adw a = A at hA ⊢
  by_cases h1 : A < 32768
  · rw [if_pos (off_neg h1), if_neg (by omega)]
    rfl
  · rw [off_pos (by omega), if_neg (nI_pos (by omega))]
    by_cases h2 : A - 32768 < 4096
    · rw [if_pos ((lt4096 (by omega)).mpr h2), if_pos (by omega), sh3 (by omega), sh7 (by omega), gd_nI (by omega) (by decide), gd_nI (by omega) (by decide), nI_clamp (by omega)]
      rfl
    · rw [if_neg (fun h => h2 ((lt4096 (by omega)).mp h)), if_neg (by omega)]
      rfl
