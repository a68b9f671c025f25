/-! signed words -/
theorem toInt_cases (a : Int32) : a.toInt = (a.toBitVec.toNat : Int) ∨ a.toInt = (a.toBitVec.toNat : Int) - 4294967296 := by
  have h : a.toInt = a.toBitVec.toInt := rfl
  rw [h, BitVec.toInt_eq_toNat_cond]
  split
  · exact Or.inl rfl
  · exact Or.inr rfl
theorem sg_int (a : Int32) : (a.toInt16.toInt32).toInt = if adr a ≤ 32767 then (adr a : Int) else (adr a : Int) - 65536 := by
  rw [Int16.toInt_toInt32, Int32.toInt_toInt16, Int.bmod_def]
  have h := toInt_cases a
  unfold adr
  omega
theorem le32767 {A : Nat} (h : A < 65536) : nI A ≤ (32767 : Int32) ↔ A ≤ 32767 := nI_leI (a := A) (b := 32767) (by omega) (by decide)
/-- a word as a signed number -/
def sg (a : Int32) : Int32 := a.toInt16.toInt32
theorem r_signed_n (a : Int32) : r_signed a = some (sg a) := by
  have hA := adr_lt a
  have h := sg_int a
  unfold r_signed sg
  rw [i_65535, show a.toBitVec.toNat % 65536 = adr a from rfl]
  by_cases e : adr a ≤ 32767
  · rw [if_pos ((le32767 hA).mpr e)]
    rw [if_pos e] at h
    refine congrArg some (Int32.toInt_inj.mp ?_)
    rw [h, nI_toInt (by omega)]
  · rw [if_neg (fun z => e ((le32767 hA).mp z))]
    rw [if_neg e] at h
    refine congrArg some (Int32.toInt_inj.mp ?_)
    rw [h]
    exact pk_sub_toInt (a := adr a) (b := 65536) (by omega) (by decide)
theorem c11_signed_n (a : Int32) : c11_signed a = some (sg a) := rfl
