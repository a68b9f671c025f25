/-! what the operations need -/
theorem r_fails_0 (R : xS) (a : Int32) : r_fails R a 0 = some (1, R) := by unfold r_fails; rw [if_pos rfl]
theorem r_fails_1 (R : xS) {n : Nat} (hn : n < 8) : r_fails R (nI n) 1 = some (1, sI R 0 16 n 1) := by
  unfold r_fails
  rw [if_neg (by decide), gI hn, cl8 hn]
  rfl
theorem c7_failIf_0 (n : Nat) (S : xS) : c7_failIf n S 0 = some S := by unfold c7_failIf; rw [if_pos rfl]
theorem c7_failIf_1 (n : Nat) (S : xS) : c7_failIf n S 1 = some (sI S n 1 6 1) := by unfold c7_failIf; rw [if_neg (by decide)]; rfl
theorem ix20 (n : Nat) : (2 : Int32) * nI n = nI (2 * n) := pk_mul 2 n
theorem ix21 (n : Nat) : nI (2 * n) + (1 : Int32) = nI (2 * n + 1) := nI_1 (2 * n)
theorem gQ0 {α : Type} {n : Nat} {k : Option α} (hn : n < 8) : gd (nI (2 * n)) 16 k = k := gd_nI (by omega) (by decide)
theorem gQ1 {α : Type} {n : Nat} {k : Option α} (hn : n < 8) : gd (nI (2 * n + 1)) 16 k = k := gd_nI (by omega) (by decide)
theorem clQ0 {n : Nat} (hn : n < 8) : (nI (2 * n)).toNatClampNeg = 2 * n := nI_clamp (by omega)
theorem clQ1 {n : Nat} (hn : n < 8) : (nI (2 * n + 1)).toNatClampNeg = 2 * n + 1 := nI_clamp (by omega)
theorem sI_id (S : xS) (n j k : Nat) : sI S n j k (xI S n j k) = S := by
  have e : ∀ a b c, xI (sI S n j k (xI S n j k)) a b c = xI S a b c := by
    intro a b c
    rw [xI_sI]
    by_cases h : a = n ∧ b = j ∧ c = k
    · obtain ⟨rfl, rfl, rfl⟩ := h
      rw [if_pos ⟨rfl, rfl, rfl⟩]
    · rw [if_neg h]
  exact Prod.ext (funext fun a => funext fun b => funext fun c => e a b c) rfl
theorem w_not {v : Int32} (h : v &&& 65535 = v) : (65535 - v) &&& 65535 = 65535 - v := by
  obtain ⟨k, hk, rfl⟩ := w16_nat h
  rw [show (65535 : Int32) = nI 65535 from rfl, pk_sub (by omega)]
  exact w16_nI (by omega)
theorem lt_le (x : Int32) (k : Nat) (hk : k < 2 ^ 31 - 1) : x < nI (k + 1) ↔ x ≤ nI k := by
  rw [Int32.lt_iff_toInt_lt, Int32.le_iff_toInt_le, nI_toInt (by omega), nI_toInt (by omega)]
  omega
theorem lt16 (x : Int32) : x < (16 : Int32) ↔ x ≤ (15 : Int32) := lt_le x 15 (by decide)
theorem lt32 (x : Int32) : x < (32 : Int32) ↔ x ≤ (31 : Int32) := lt_le x 31 (by decide)
theorem ev_add8 {w : Int32} (h : w &&& 65534 = w) : (w + 8) &&& 65534 = (w + 8) &&& 65535 := by
  obtain ⟨k, hk, rfl⟩ := w14_nat h
  rw [show (8 : Int32) = nI 8 from rfl, nI_add, i_65534, i_65535, pk_tn (by omega)]
  congr 1
  omega
theorem ev_sub8 {w : Int32} (h : w &&& 65534 = w) : (w - 8) &&& 65534 = (w - 8) &&& 65535 := by
  obtain ⟨k, hk, rfl⟩ := w14_nat h
  rw [i_65534, i_65535, Int32.toBitVec_sub, BitVec.toNat_sub, pk_tn (by omega), show (8 : Int32).toBitVec.toNat = 8 from rfl]
  congr 1
  omega
theorem iush_lt {b s : Nat} (hb : b < 2 ^ 31) (hs : s < 32) : iush (nI b) (nI s) = nI b >>> (nI s &&& 31) := by
  have e1 : ∀ s, s < 32 → (((nI s).toUInt32 &&& Int32.toUInt32 31).toBitVec % 32).toNat = s := by decide
  have e2 : ∀ s, s < 32 → ((nI s &&& 31).toBitVec.smod 32).toNat = s := by decide
  unfold iush
  rw [pk_ushrN (by omega) _ s (e1 s hs), pk_shrN hb _ s (e2 s hs)]
theorem REL.rC {X : xS → xS → Prop} {N : xN} {S R : xS} (h : REL E0 X N S R) {n : Nat} (hn : inN n N) {v : Int32} (e : v = xI R 0 7 n) (hw : v &&& 65535 = v) : REL E0 X N (sI S n 4 2 v) R := by
  have h1 := h.s_C hn e (by rw [← e]; exact hw)
  rw [sI_id] at h1
  exact h1
theorem REL.err {E : Nat → Nat → Prop} {X : xS → xS → Prop} {N : xN} {S R : xS} (h : REL E X N S R) {n : Nat} (hn : inN n N) : REL E X N (sI S n 1 6 1) (sI R 0 16 n 1) := h.s_err hn rfl (Or.inr rfl)
theorem one0 : ((1 : Int32) = 0) = False := eq_false (by decide)
