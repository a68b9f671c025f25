/-! the rest of the relation speaks of a view: what the processor's own steps don't touch -/
abbrev useC (n j _k : Nat) : Prop := 8 ≤ n ∨ j = 0 ∨ 9 ≤ j
abbrev useR (j : Nat) : Prop := j = 0 ∨ j = 31 ∨ j = 32 ∨ 33 ≤ j
def vS (S : xS) : xS := (fun n j k => if useC n j k then S.1 n j k else 0, fun n j k => if 8 ≤ n then S.2.1 n j k else 0, S.2.2)
def vR (R : xS) : xS := (fun n j k => if n = 0 ∧ useR j then R.1 n j k else 0, fun _ _ _ => 0, fun _ _ => none)
theorem vS_I {S : xS} {n j k : Nat} (h : useC n j k) : xI (vS S) n j k = xI S n j k := by
  unfold xI vS
  exact if_pos h
theorem vR_I {R : xS} {j k : Nat} (h : useR j) : xI (vR R) 0 j k = xI R 0 j k := by
  unfold xI vR
  exact if_pos ⟨rfl, h⟩
theorem vS_E (S : xS) (n j : Nat) : xE (vS S) n j = xE S n j := rfl
theorem vS_J {S : xS} {n j k : Nat} (h : 8 ≤ n) : xJ (vS S) n j k = xJ S n j k := by
  unfold xJ vS
  exact if_pos h
theorem vS_sI {S : xS} {n j k : Nat} (h : ¬ useC n j k) (v : Int32) : vS (sI S n j k v) = vS S := by
  unfold vS
  refine Prod.ext ?_ rfl
  funext a b c
  show (if useC a b c then xI (sI S n j k v) a b c else 0) = if useC a b c then xI S a b c else 0
  rw [xI_sI]
  by_cases e : a = n ∧ b = j ∧ c = k
  · obtain ⟨rfl, rfl, rfl⟩ := e
    rw [if_neg h, if_neg h]
  · rw [if_neg e]
theorem vR_sI {R : xS} {j k : Nat} (h : ¬ useR j) (v : Int32) : vR (sI R 0 j k v) = vR R := by
  unfold vR
  refine Prod.ext ?_ rfl
  funext a b c
  show (if a = 0 ∧ useR b then xI (sI R 0 j k v) a b c else 0) = if a = 0 ∧ useR b then xI R a b c else 0
  rw [xI_sI]
  by_cases e : a = 0 ∧ b = j ∧ c = k
  · obtain ⟨rfl, rfl, rfl⟩ := e
    rw [if_neg (fun z => h z.2), if_neg (fun z => h z.2)]
  · rw [if_neg e]
theorem vS_sJ {S : xS} {n j k : Nat} (h : n < 8) (v : Int64) : vS (sJ S n j k v) = vS S := by
  unfold vS
  refine Prod.ext rfl (Prod.ext ?_ rfl)
  funext a b c
  show (if 8 ≤ a then xJ (sJ S n j k v) a b c else 0) = if 8 ≤ a then xJ S a b c else 0
  rw [xJ_sJ]
  by_cases e : a = n ∧ b = j ∧ c = k
  · obtain ⟨rfl, rfl, rfl⟩ := e
    rw [if_neg (by omega), if_neg (by omega)]
  · rw [if_neg e]
theorem vS_cPb {S : xS} {n : Nat} (h : n < 8) (a v : Int32) : vS (cPb S n a v) = vS S := by
  unfold cPb
  by_cases e : inM (adr a)
  · rw [if_pos e]; exact vS_sJ h _
  · rw [if_neg e]; exact vS_sI (by omega) _
theorem vS_cPw {S : xS} {n : Nat} (h : n < 8) (a v : Int32) : vS (cPw S n a v) = vS S := by
  unfold cPw
  by_cases e : inM (adw a)
  · rw [if_pos e]; exact vS_sJ h _
  · rw [if_neg e]; exact vS_sI (by omega) _
theorem vS_cTb {S : xS} {n : Nat} (h : n < 8) (a : Int32) : vS (cTb S n a) = vS S := by
  unfold cTb
  by_cases e : inM (adr a)
  · rw [if_pos e]
  · rw [if_neg e]; exact vS_sI (by omega) _
theorem vS_cTw {S : xS} {n : Nat} (h : n < 8) (a : Int32) : vS (cTw S n a) = vS S := by
  unfold cTw
  by_cases e : inM (adw a)
  · rw [if_pos e]
  · rw [if_neg e]; exact vS_sI (by omega) _
theorem vR_rPb {R : xS} {n : Nat} (a v : Int32) : vR (rPb R n a v) = vR R := by
  unfold rPb rSB
  by_cases e : inM (adr a)
  · rw [if_pos e]; exact vR_sI (by decide) _
  · rw [if_neg e]; exact vR_sI (by decide) _
theorem vR_rPw {R : xS} {n : Nat} (a v : Int32) : vR (rPw R n a v) = vR R := by
  unfold rPw rSB
  by_cases e : inM (adw a)
  · rw [if_pos e, vR_sI (by decide), vR_sI (by decide)]
  · rw [if_neg e]; exact vR_sI (by decide) _
theorem vR_rUb {R : xS} {n : Nat} (a : Int32) : vR (rUb R n a) = vR R := by
  unfold rUb
  by_cases e : inM (adr a)
  · rw [if_pos e]
  · rw [if_neg e]; exact vR_sI (by decide) _
theorem vR_rUw {R : xS} {n : Nat} (a : Int32) : vR (rUw R n a) = vR R := by
  unfold rUw
  by_cases e : inM (adw a)
  · rw [if_pos e]
  · rw [if_neg e]; exact vR_sI (by decide) _
