/-! bytes behind a write -/
theorem xI_sJ (S : xS) (n j k : Nat) (v : Int64) (a b : Nat) : xI (sJ S n j k v) a b = xI S a b := rfl
theorem xE_sJ (S : xS) (n j k : Nat) (v : Int64) (a b : Nat) : xE (sJ S n j k v) a b = xE S a b := rfl
theorem xJ_sI (S : xS) (n j k : Nat) (v : Int32) (a b : Nat) : xJ (sI S n j k v) a b = xJ S a b := rfl
theorem xE_sI (S : xS) (n j k : Nat) (v : Int32) (a b : Nat) : xE (sI S n j k v) a b = xE S a b := rfl
theorem xI_cSB (S : xS) (n j o : Nat) (v : Int32) (a b : Nat) : xI (cSB S n j o v) a b = xI S a b := rfl
theorem xI_cSW (S : xS) (n j o : Nat) (v : Int32) (a b : Nat) : xI (cSW S n j o v) a b = xI S a b := rfl
theorem xE_cSB (S : xS) (n j o : Nat) (v : Int32) (a b : Nat) : xE (cSB S n j o v) a b = xE S a b := rfl
theorem xE_cSW (S : xS) (n j o : Nat) (v : Int32) (a b : Nat) : xE (cSW S n j o v) a b = xE S a b := rfl
theorem cB_sI (S : xS) (n j k : Nat) (v : Int32) (a b x : Nat) : cB (sI S n j k v) a b x = cB S a b x := rfl
theorem xI_sI (S : xS) (n j k : Nat) (v : Int32) (a b c : Nat) : xI (sI S n j k v) a b c = if a = n ∧ b = j ∧ c = k then v else xI S a b c := by
  by_cases h : a = n ∧ b = j
  · obtain ⟨rfl, rfl⟩ := h
    rw [sI_at]
    unfold upd
    by_cases h2 : c = k <;> simp [h2]
  · rw [sI_off _ _ _ _ _ h]
    by_cases h2 : a = n ∧ b = j ∧ c = k
    · exact absurd ⟨h2.1, h2.2.1⟩ h
    · rw [if_neg h2]
theorem xJ_sJ (S : xS) (n j k : Nat) (v : Int64) (a b c : Nat) : xJ (sJ S n j k v) a b c = if a = n ∧ b = j ∧ c = k then v else xJ S a b c := by
  by_cases h : a = n ∧ b = j
  · obtain ⟨rfl, rfl⟩ := h
    rw [sJ_at]
    unfold vp_updL
    by_cases h2 : c = k <;> simp [h2]
  · rw [sJ_off _ _ _ _ _ h]
    by_cases h2 : a = n ∧ b = j ∧ c = k
    · exact absurd ⟨h2.1, h2.2.1⟩ h
    · rw [if_neg h2]
theorem cB_cSB (S : xS) (n j o : Nat) (v : Int32) (a b x : Nat) : cB (cSB S n j o v) a b x = if a = n ∧ b = j ∧ x = o then v.toBitVec.toNat % 256 else cB S a b x := by
  unfold cB cSB
  rw [xJ_sJ]
  by_cases h : a = n ∧ b = j ∧ x / 8 = o / 8
  · obtain ⟨rfl, rfl, h3⟩ := h
    rw [if_pos ⟨rfl, rfl, h3⟩, lB_set8 _ _ _ _ (by omega) (by omega), h3, lB_i64 v 0 (by decide)]
    by_cases h4 : x = o
    · subst h4
      simp
    · rw [if_neg (by omega), if_neg (fun z => h4 z.2.2)]
  · rw [if_neg h, if_neg (fun z => h ⟨z.1, z.2.1, by rw [z.2.2]⟩)]
theorem cB_cSW (S : xS) (n j o : Nat) (v : Int32) (ho : o % 2 = 0) (a b x : Nat) : cB (cSW S n j o v) a b x = if a = n ∧ b = j ∧ x = o then v.toBitVec.toNat % 256 else if a = n ∧ b = j ∧ x = o + 1 then v.toBitVec.toNat / 256 % 256 else cB S a b x := by
  unfold cB cSW
  rw [xJ_sJ]
  by_cases h : a = n ∧ b = j ∧ x / 8 = o / 8
  · obtain ⟨rfl, rfl, h3⟩ := h
    rw [if_pos ⟨rfl, rfl, h3⟩, lB_set16 _ _ _ _ (by omega) (by omega), h3, lB_i64 v 0 (by decide), lB_i64 v 1 (by decide)]
    by_cases h4 : x = o
    · subst h4
      simp
    · by_cases h5 : x = o + 1
      · subst h5
        rw [if_neg (by omega), if_pos (by omega), if_neg (fun z => h4 z.2.2), if_pos ⟨rfl, rfl, rfl⟩]
      · rw [if_neg (by omega), if_neg (by omega), if_neg (fun z => h4 z.2.2), if_neg (fun z => h5 z.2.2)]
  · rw [if_neg h, if_neg (fun z => h ⟨z.1, z.2.1, by rw [z.2.2]⟩), if_neg (fun z => h ⟨z.1, z.2.1, by omega⟩)]
theorem rB_rSB (R : xS) (n o : Nat) (v : Int32) (ho : o < 4096) (a x : Nat) (hx : x < 4096) : rB (rSB R n o v) a x = if a = n ∧ x = o then v.toBitVec.toNat % 256 else rB R a x := by
  unfold rB rSB
  rw [xI_sI]
  by_cases h : a = n ∧ x = o
  · obtain ⟨rfl, rfl⟩ := h
    rw [if_pos ⟨rfl, rfl, rfl⟩, if_pos ⟨rfl, rfl⟩, i8_byte]
  · rw [if_neg (fun z => h (by omega)), if_neg h]
theorem rB_sI (R : xS) (j k : Nat) (v : Int32) (hj : j ≠ 4) (a x : Nat) : rB (sI R 0 j k v) a x = rB R a x := by
  unfold rB
  rw [xI_sI, if_neg (fun z => hj z.2.1.symm)]
theorem xI_rSB (R : xS) (n o : Nat) (v : Int32) (b c : Nat) (hb : b ≠ 4) : xI (rSB R n o v) 0 b c = xI R 0 b c := by
  unfold rSB
  rw [xI_sI, if_neg (fun z => hb z.2.1)]
