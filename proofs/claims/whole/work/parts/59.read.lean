/-! bits that are read -/
/-- only what an end has read was changed -/
def RB (D : Nat) (s r s' r' : xS) (n j e : Nat) : Prop := (∀ a b, ¬ (a = n ∧ b = j) → xI s' a b = xI s a b) ∧ s'.2 = s.2 ∧ xI s' n j 1 = xI s n j 1 ∧ (∀ jj ee, ¬ (ee = e ∧ (jj = 38 ∨ jj = 39)) → xI r' 0 jj ee = xI r 0 jj ee) ∧ EPp D (xI s' n j) (rr r' e)
theorem read_cases {D : Nat} {E : Nat → Nat → Prop} {N : xN} {S R s r : xS} (hx : REL E (XV s r) N S R) {n j e : Nat} (hj : 16 ≤ j) (he : e ≤ 32) (hE : EPp D (xI s n j) (rr r e)) (M : Nat) {t : Nat} (ht : t < 2) :
    (∃ S' R' s' r', c2_readNextBit_b18 M n j (nI t) S = some (-1, S') ∧ r_reads R (nI e) (nI t) = some R' ∧ REL E (XV s' r') N S' R' ∧ RB D s r s' r' n j e)
    ∨ (c2_readNextBit_b18 M n j (nI t) S = (c2_endOfAcknowledgement n j (sI S n j 8 0)).bind (fun (r_12, S12) => some (r_12, S12)) ∧ r_reads R (nI e) (nI t) = (r_acknowledged (sI R 0 38 e 0) (nI e)).bind (fun S11 => some S11))
    ∨ (∃ b, b < 256 ∧ xI r 0 39 e = nI b ∧ c2_readNextBit_b18 M n j (nI t) S = some (nI b, sI S n j 8 0) ∧ r_reads R (nI e) (nI t) = (r_comes (sI R 0 38 e 0) (nI e) (nI b)).bind (fun S5 => some S5)) := by
  obtain ⟨b3, b4, b5, b6, b7, b8, b9, w1, w8, ⟨m, hm, em⟩, ⟨b, hb, eb⟩, w7, wp⟩ := hE
  have em' : xI r 0 38 e = nI m := em
  have eb' : xI r 0 39 e = nI b := eb
  have c8 : xI S n j 8 = nI m := by rw [hx.c_eq (by omega)]; exact b8.trans em
  have c9 : xI S n j 9 = nI b := by rw [hx.c_eq (by omega)]; exact b9.trans eb
  have r8 : xI R 0 38 e = nI m := by rw [hx.r_eq (by omega)]; exact em
  have r9 : xI R 0 39 e = nI b := by rw [hx.r_eq (by omega)]; exact eb
  have ht1 : t ≤ 10 := by omega
  unfold c2_readNextBit_b18 r_reads
  simp only [g33x he, nI_clamp (show e < 2 ^ 31 by omega)]
  rw [c8, r8]
  by_cases m0 : m = 0
  · rw [if_pos (by rw [m0]; rfl), if_pos (by rw [m0]; rfl)]
    have h2 := (((hx.cv (n := n) (j := j) (k := 8) (by omega) (nI t)).cv (n := n) (j := j) (k := 9) (by omega) 0).rv (j := 38) (k := e) (by omega) (nI t)).rv (j := 39) (k := e) (by omega) 0
    refine Or.inl ⟨_, _, _, _, rfl, rfl, h2, ?_, rfl, ?_, ?_, ?_⟩
    · intro a b hab
      simp (disch := omega) only [xI_fn_ne]
    · simp (disch := omega) only [xI_ne]
    · intro jj ee hh
      simp (disch := omega) only [xI_ne]
    · unfold EPp
      simp (disch := omega) only [rr, xI_ne, xI_eq]
      exact ⟨b3, b4, b5, b6, b7, trivial, trivial, w1, w8, ⟨t, ht1, rfl⟩, ⟨0, by decide, rfl⟩, w7, wp⟩
  have n0 : ¬ nI m = 0 := nI_ne0 (by omega) (by omega)
  rw [if_neg n0, if_neg n0]
  by_cases m1 : m = 1
  · have e1 : nI m = 1 := by rw [m1]; rfl
    rw [if_pos e1, if_pos e1]
    by_cases t0 : t = 0
    · have te : nI t = 0 := by rw [t0]; rfl
      rw [if_pos te, if_pos te]
      unfold r_reads_b47
      simp only [g33x he, nI_clamp (show e < 2 ^ 31 by omega)]
      refine Or.inr (Or.inl ⟨rfl, ?_⟩)
      show (if nI t = 0 then _ else _) = _
      rw [if_pos te]
    · have te : ¬ nI t = 0 := nI_ne0 (by omega) (by omega)
      rw [if_neg te, if_neg te]
      unfold r_reads_b47 c2_readNextBit_b60 c2_readNextBit_b94
      simp only [g33x he, nI_clamp (show e < 2 ^ 31 by omega)]
      rw [c8, e1, if_pos (by decide), show (1 : Int32) + 1 = 2 from by decide]
      have h2 := (hx.cv (n := n) (j := j) (k := 8) (by omega) 2).rv (j := 38) (k := e) (by omega) 2
      refine Or.inl ⟨sI S n j 8 2, sI R 0 38 e 2, _, _, ?_, ?_, h2, ?_, rfl, ?_, ?_, ?_⟩
      · show (if (11 : Int32) ≤ xI (sI S n j 8 2) n j 8 then _ else _) = _
        rw [xI_eq, if_neg (by decide)]
      · show (if nI t = 0 then _ else _) = _
        rw [if_neg te]
      · intro a b hab
        simp (disch := omega) only [xI_fn_ne]
      · simp (disch := omega) only [xI_ne]
      · intro jj ee hh
        simp (disch := omega) only [xI_ne]
      · unfold EPp
        simp (disch := omega) only [rr, xI_ne, xI_eq]
        exact ⟨b3, b4, b5, b6, b7, trivial, b9, w1, w8, ⟨2, by decide, rfl⟩, ⟨b, hb, eb⟩, w7, wp⟩
  have n1 : ¬ nI m = 1 := fun z => m1 ((nI_eq (b := 1) (by omega) (by decide)).mp z)
  rw [if_neg n1, if_neg n1]
  unfold c2_readNextBit_b60 c2_readNextBit_b94
  rw [c8, if_neg (show ¬ nI m < (2 : Int32) from nI_nlt (b := 2) (by omega) (by omega))]
  by_cases m10 : m = 10
  · have l10 : (10 : Int32) ≤ nI m := nI_le (a := 10) (by omega) (by omega)
    rw [if_pos l10, if_pos l10]
    have e11 : nI m + 1 = 11 := by rw [m10]; rfl
    refine Or.inr (Or.inr ⟨b, hb, eb, ?_, ?_⟩)
    · rw [e11]
      show (if (11 : Int32) ≤ xI (sI S n j 8 11) n j 8 then _ else _) = _
      rw [xI_eq, if_pos (by decide)]
      show some (xI (sI (sI S n j 8 11) n j 8 0) n j 9, sI (sI S n j 8 11) n j 8 0) = _
      rw [sI_idem, xI_ne _ _ (by omega), c9]
    · show (r_comes (sI R 0 38 e 0) (nI e) (xI (sI R 0 38 e 0) 0 39 e)).bind _ = _
      rw [xI_ne _ _ (by omega), r9]
  · have l10 : ¬ (10 : Int32) ≤ nI m := nI_ge (b := 10) (by omega) (by decide)
    rw [if_neg l10, if_neg l10]
    have ev : nI b ||| (nI t <<< ((nI m - 2) &&& 31)) = nI (b ||| t * 2 ^ (m - 2)) := by
      rw [show nI m - 2 = nI (m - 2) from pk_sub (b := 2) (by omega)]
      have hp : 2 ^ (m - 2) ≤ 2 ^ 7 := Nat.pow_le_pow_right (by decide) (by omega)
      have ht2 : t * 2 ^ (m - 2) ≤ 1 * 2 ^ 7 := Nat.mul_le_mul (by omega) hp
      have ho : b ||| t * 2 ^ (m - 2) < 2 ^ 8 := Nat.or_lt_two_pow hb (by omega)
      rw [pk_shlN _ (m - 2) (sh32 (m - 2) (by omega)) (by omega)]
      refine i_ext (by omega) ?_
      rw [Int32.toBitVec_or, BitVec.toNat_or, pk_tn (by omega), pk_tn (by omega)]
    have hv : b ||| t * 2 ^ (m - 2) < 256 := by
      have hp : 2 ^ (m - 2) ≤ 2 ^ 7 := Nat.pow_le_pow_right (by decide) (by omega)
      have ht2 : t * 2 ^ (m - 2) ≤ 1 * 2 ^ 7 := Nat.mul_le_mul (by omega) hp
      have : b ||| t * 2 ^ (m - 2) < 2 ^ 8 := Nat.or_lt_two_pow hb (by omega)
      omega
    rw [c9, r9, ev]
    have h2 := (((hx.cv (n := n) (j := j) (k := 9) (by omega) (nI (b ||| t * 2 ^ (m - 2)))).cv (n := n) (j := j) (k := 8) (by omega) (nI (m + 1))).rv (j := 39) (k := e) (by omega) (nI (b ||| t * 2 ^ (m - 2)))).rv (j := 38) (k := e) (by omega) (nI (m + 1))
    refine Or.inl ⟨_, _, _, _, ?_, ?_, h2, ?_, rfl, ?_, ?_, ?_⟩
    · simp only [xnm]
      simp (disch := omega) only [xI_ne, xI_eq]
      rw [c8, nI_1, if_neg (show ¬ (11 : Int32) ≤ nI (m + 1) from nI_ge (b := 11) (by omega) (by decide))]
    · simp only [xnm]
      simp (disch := omega) only [xI_ne, xI_eq]
      rw [r8, nI_1]
    · intro a b hab
      simp (disch := omega) only [xI_fn_ne]
    · simp (disch := omega) only [xI_ne]
    · intro jj ee hh
      simp (disch := omega) only [xI_ne]
    · unfold EPp
      simp (disch := omega) only [rr, xI_ne, xI_eq]
      exact ⟨b3, b4, b5, b6, b7, trivial, trivial, w1, w8, ⟨m + 1, by omega, rfl⟩, ⟨_, hv, rfl⟩, w7, wp⟩
/-- what an end hears -/
theorem heard {D : Nat} {N : xN} {S R : xS} (h : LX D N S R) (hN : N.1 ≤ 8) {n k : Nat} (hok : endOk N.1 n k) : ∃ t, t < 2 ∧ c2_readNextBit N.1 n (16 + k) S = c2_readNextBit_b18 N.1 n (16 + k) (nI t) S ∧ ((xI R 0 33 (4 * n + k) = -1 ∧ t = 0) ∨ ∃ f, f ≤ 32 ∧ xI R 0 33 (4 * n + k) = nI f ∧ xI R 0 34 f = nI t) := by
  obtain ⟨a1, a2, a3, a4⟩ := h
  unfold c2_readNextBit
  rcases a3 n k hok with ⟨b1, b2, b3⟩ | ⟨n', k', b0, b1, b2, b3⟩
  · refine ⟨0, by decide, ?_, Or.inl ⟨b2, rfl⟩⟩
    rw [b1]; rfl
  · have hE : EPp D (xI S n' (16 + k')) (rr R (4 * n' + k')) := by
      rcases b0 with ⟨c1, c2⟩ | ⟨c1, c2⟩
      · exact ((a1 n' c1).2.1 k' c2).1
      · subst c1; subst c2; exact a2.1
    obtain ⟨d1, d2, d3, d4, d5, d6, d7, d8, d9⟩ := hE
    have hf : 4 * n' + k' ≤ 32 := by rcases b0 with ⟨c1, c2⟩ | ⟨c1, c2⟩ <;> omega
    have hg : ∀ {α : Type} (x : Option α), gq ((n' < N.1 ∧ 16 ≤ 16 + k' ∧ 16 + k' < 20) ∨ (n' = 8 ∧ 16 + k' = 16)) x = x := by
      intro α x
      exact if_pos (by rcases b0 with ⟨c1, c2⟩ | ⟨c1, c2⟩ <;> omega)
    have key : ∀ t, rr R (4 * n' + k') 1 = nI t → xcs (xE S n (16 + k)) (c2_readNextBit_b18 N.1 n (16 + k) 0 S) (fun n_1 j_1 => gq ((n_1 < N.1 ∧ 16 ≤ j_1 ∧ j_1 < 20) ∨ (n_1 = 8 ∧ j_1 = 16)) (c2_readNextBit_b18 N.1 n (16 + k) (xI S n_1 j_1 5) S)) = c2_readNextBit_b18 N.1 n (16 + k) (nI t) S := by
      intro t ht
      rw [b1]
      show gq ((n' < N.1 ∧ 16 ≤ 16 + k' ∧ 16 + k' < 20) ∨ (n' = 8 ∧ 16 + k' = 16)) (c2_readNextBit_b18 N.1 n (16 + k) (xI S n' (16 + k') 5) S) = _
      rw [hg, d3, ht]
    rcases d8 with e | e
    · exact ⟨0, by decide, key 0 e, Or.inr ⟨4 * n' + k', hf, b2, e⟩⟩
    · exact ⟨1, by decide, key 1 e, Or.inr ⟨4 * n' + k', hf, b2, e⟩⟩
