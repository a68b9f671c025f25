/-! double words -/
theorem lN_tn {k : Nat} (h : k < 2 ^ 64) : (lN k).toBitVec.toNat = k := Nat.mod_eq_of_lt h
theorem l_ext {x : Int64} {k : Nat} (hk : k < 2 ^ 64) (h : x.toBitVec.toNat = k) : x = lN k := by
  apply Int64.toBitVec_inj.mp
  apply BitVec.eq_of_toNat_eq
  rw [h, lN_tn hk]
theorem i_ext {x : Int32} {k : Nat} (hk : k < 2 ^ 32) (h : x.toBitVec.toNat = k) : x = nI k := by
  apply Int32.toBitVec_inj.mp
  apply BitVec.eq_of_toNat_eq
  rw [h, pk_tn hk]
theorem jlshl_N {k s : Nat} (hs : s < 64) (h : k * 2 ^ s < 2 ^ 64) : jlshl (lN k) (nI s) = lN (k * 2 ^ s) := by
  have hk : k < 2 ^ 64 := Nat.lt_of_le_of_lt (Nat.le_mul_of_pos_right k (Nat.two_pow_pos s)) h
  refine l_ext h ?_
  rw [jlshl_bv _ _ hs, BitVec.toNat_shiftLeft, lN_tn hk, Nat.shiftLeft_eq, Nat.mod_eq_of_lt h]
theorem jlshl1 {k : Nat} (h : k < 2 ^ 32) : jlshl (lN k) (1 : Int32) = lN (k * 2) := jlshl_N (k := k) (s := 1) (by decide) (by rw [Nat.pow_one]; omega)
theorem jlshl16 {k : Nat} (h : k < 65536) : jlshl (lN k) (16 : Int32) = lN (k * 65536) := jlshl_N (k := k) (s := 16) (by decide) (by rw [show (2 : Nat) ^ 16 = 65536 from rfl]; omega)
theorem ishl1 {k : Nat} (h : k < 2 ^ 31) : nI k <<< (1 : Int32) = nI (k * 2) := pk_shlN (n := k) _ 1 (by decide) (by rw [Nat.pow_one]; omega)
theorem jlshr_N {k s : Nat} (hs : s < 64) (hk : k < 2 ^ 63) : jlshr (lN k) (nI s) = lN (k / 2 ^ s) := by
  have h2 : k / 2 ^ s ≤ k := Nat.div_le_self _ _
  unfold jlshr
  apply Int64.toInt_inj.mp
  show ((lN k).toBitVec.sshiftRight (((nI s).toInt64 &&& 63).toBitVec.smod 64).toNat).toInt = _
  rw [sh_63 s hs, BitVec.toInt_sshiftRight, pk_lT (by omega)]
  show (lN k).toInt >>> s = _
  rw [pk_lT hk, Int.shiftRight_eq_div_pow]
  rfl
theorem l_or16 {c b : Nat} (hc : c < 65536) (hb : b < 65536) : lN (c * 65536) ||| lN b = lN (c * 65536 + b) := by
  refine l_ext (by omega) ?_
  rw [Int64.toBitVec_or, BitVec.toNat_or, lN_tn (by omega), lN_tn (by omega)]
  have := Nat.two_pow_add_eq_or_of_lt (i := 16) (b := b) (by omega) c
  rw [Nat.mul_comm] at this
  exact this.symm
theorem i_or16 {c b : Nat} (hc : c < 65536) (hb : b < 65536) : (nI c <<< ((16 : Int32) &&& 31)) ||| nI b = nI (c * 65536 + b) := by
  refine i_ext (by omega) ?_
  rw [Int32.toBitVec_or, BitVec.toNat_or, pk_shl _ _ 16 (by decide), pk_tn (by omega), pk_tn (by omega), Nat.mod_eq_of_lt (by omega)]
  have := Nat.two_pow_add_eq_or_of_lt (i := 16) (b := b) (by omega) c
  rw [Nat.mul_comm] at this
  exact this.symm
theorem l_lo {k : Nat} (h : k < 2 ^ 63) : (lN k &&& (65535 : Int64)).toInt32 = nI (k % 65536) := by
  have : lN k &&& (65535 : Int64) = lN (k % 65536) := by
    refine l_ext (by omega) ?_
    rw [Int64.toBitVec_and, BitVec.toNat_and, lN_tn (by omega), show (65535 : Int64).toBitVec.toNat = 2 ^ 16 - 1 from rfl, Nat.and_two_pow_sub_one_eq_mod]
  rw [this, lN_i]
theorem l_hi {k : Nat} (h : k < 2 ^ 63) : (jlshr (lN k) (16 : Int32) &&& (65535 : Int64)).toInt32 = nI (k / 65536 % 65536) := by
  rw [show (16 : Int32) = nI 16 from rfl, jlshr_N (by decide) h]
  exact l_lo (Nat.lt_of_le_of_lt (Nat.div_le_self _ _) h)
theorem i_hi {w : Int32} : iush w (16 : Int32) = nI (w.toBitVec.toNat / 65536) := by
  have := tn_lt w
  refine i_ext (by omega) ?_
  unfold iush
  exact pk_ushr w 16 16 (by decide)
/-- setDouble and pair -/
theorem p_pair {X : xS → xS → Prop} {N : xN} {S R : xS} (h : REL E0 X N S R) {n : Nat} (hn : inN n N) {w : Int32} {k : Nat} (hk : k < 2 ^ 63) (hw : w.toBitVec.toNat = k % 2 ^ 32) : P2 (c7_setDouble n S w) (r_pair R (nI n) (lN k)) (Q1 E0 X N) := by
  have h8 := h.le8 hn
  unfold c7_setDouble r_pair
  rw [gI h8, cl8 h8, l_lo hk, l_hi hk, i_hi, hw, i_65535, hw]
  refine P2.xl (P2.xr ?_)
  rw [gI h8]
  have e1 : k % 2 ^ 32 % 65536 = k % 65536 := by omega
  have e2 : k % 2 ^ 32 / 65536 = k / 65536 % 65536 := by omega
  rw [e1, e2]
  exact P2.ret ⟨rfl, (h.s_A hn rfl (w16_nI (by omega))).s_B hn rfl (w16_nI (by omega))⟩
theorem sI_comm (S : xS) {n j k n' j' k' : Nat} (v w : Int32) (h : ¬ (n = n' ∧ j = j' ∧ k = k')) : sI (sI S n j k v) n' j' k' w = sI (sI S n' j' k' w) n j k v := by
  have e : ∀ a b c, xI (sI (sI S n j k v) n' j' k' w) a b c = xI (sI (sI S n' j' k' w) n j k v) a b c := by
    intro a b c
    rw [xI_sI, xI_sI, xI_sI, xI_sI]
    by_cases h1 : a = n' ∧ b = j' ∧ c = k'
    · rw [if_pos h1, if_neg (fun z => h ⟨by omega, by omega, by omega⟩), if_pos h1]
    · rw [if_neg h1, if_neg h1]
  exact Prod.ext (funext fun a => funext fun b => funext fun c => e a b c) rfl
theorem nI_neg {k : Nat} (h : k < 2 ^ 32) : nI k < 0 ↔ 2 ^ 31 ≤ k := by
  have hc := toInt_cases (nI k)
  rw [pk_tn h] at hc
  have h1 := Int32.le_toInt (nI k)
  have h2 := Int32.toInt_lt (nI k)
  rw [Int32.lt_iff_toInt_lt, show (0 : Int32).toInt = 0 from rfl]
  omega
theorem cmp_bit31 {k : Nat} (h : k < 2 ^ 32) : lg_cmp (jlshr (lN k) (31 : Int32) &&& (1 : Int64)) (0 : Int64) = 0 ↔ k < 2 ^ 31 := by
  have e : jlshr (lN k) (31 : Int32) &&& (1 : Int64) = lN (k / 2 ^ 31) := by
    rw [show (31 : Int32) = nI 31 from rfl, jlshr_N (by decide) (by omega)]
    refine l_ext (by omega) ?_
    rw [Int64.toBitVec_and, BitVec.toNat_and, lN_tn (by omega), show (1 : Int64).toBitVec.toNat = 2 ^ 1 - 1 from rfl, Nat.and_two_pow_sub_one_eq_mod]
    omega
  rw [e]
  rcases (show k / 2 ^ 31 = 0 ∨ k / 2 ^ 31 = 1 by omega) with e2 | e2
  · rw [e2]
    exact ⟨fun _ => by omega, fun _ => by decide⟩
  · rw [e2]
    exact ⟨fun z => absurd z (by decide), fun _ => by omega⟩
theorem p_norm_end {X : xS → xS → Prop} {N : xN} {S R : xS} (h : REL E0 X N S R) {n : Nat} (hn : inN n N) {k m : Nat} (hk : k < 2 ^ 32) (hm : m ≤ 32) : P2 (c7_normalise_b24 n (nI k) (nI m) S) (r_norm_b37 (nI n) (lN k) (nI m) R) (Q1 E0 X N) := by
  have h8 := h.le8 hn
  have h1 := h.s_C hn (v := nI m) rfl (w16_nI (by omega))
  obtain ⟨S', R', e1, e2, e3, h2⟩ := p_pair h1 hn (w := nI k) (k := k) (by omega) (by rw [pk_tn hk, Nat.mod_eq_of_lt hk])
  obtain ⟨r1, r2⟩ := R'
  cases e3
  unfold c7_normalise_b24 r_norm_b37
  rw [gI h8, cl8 h8]
  refine P2.xr ?_
  rw [e2]
  refine P2.r rfl (P2.z (Or.inr rfl) ?_)
  refine ⟨S', (1, r2), ?_, rfl, rfl, h2⟩
  rw [← e1]
  unfold c7_setDouble
  show some (sI (sI (sI S n 4 0 _) n 4 1 _) n 4 2 (nI m)) = some (sI (sI (sI S n 4 2 (nI m)) n 4 0 _) n 4 1 _)
  rw [sI_comm _ _ _ (by omega : ¬ (n = n ∧ 4 = 4 ∧ 1 = 2)), sI_comm S _ _ (by omega : ¬ (n = n ∧ 4 = 4 ∧ 0 = 2))]
theorem norm_loop {X : xS → xS → Prop} {N : xN} {n : Nat} (hn : inN n N) {S R : xS} (h : REL E0 X N S R) : ∀ (j fu m k : Nat), m + j = 32 → j < fu → k < 2 ^ 32 → P2 (c7_normalise_b4 n fu (nI k) (nI m) S) (r_norm_b6 fu (nI n) (lN k) (nI m) R) (Q1 E0 X N)
  | 0, 0, _, _, _, hf, _ => absurd hf (by decide)
  | 0, fu + 1, m, k, hm, hf, hk => by
    unfold c7_normalise_b4 r_norm_b6
    have e : (32 : Int32) ≤ nI m := nI_le (a := 32) (by omega) (by omega)
    rw [if_pos e, if_pos e]
    exact p_norm_end h hn hk (by omega)
  | j + 1, 0, _, _, _, hf, _ => absurd hf (by omega)
  | j + 1, fu + 1, m, k, hm, hf, hk => by
    unfold c7_normalise_b4 r_norm_b6
    have e : ¬ (32 : Int32) ≤ nI m := nI_ge (b := 32) (by omega) (by omega)
    rw [if_neg e, if_neg e]
    by_cases e2 : k < 2 ^ 31
    · rw [if_neg (fun z => absurd ((nI_neg hk).mp z) (by omega)), if_pos ((cmp_bit31 hk).mpr e2)]
      rw [show (1 : Int32) &&& 31 = 1 from by decide, jlshl1 hk, ishl1 e2, nI_1]
      exact norm_loop hn h j fu (m + 1) (k * 2) (by omega) (by omega) (by omega)
    · rw [if_pos ((nI_neg hk).mpr (by omega)), if_neg (fun z => e2 ((cmp_bit31 hk).mp z))]
      exact p_norm_end h hn hk (by omega)
theorem p_norm {X : xS → xS → Prop} {N : xN} {S R : xS} (h : REL E0 X N S R) {n : Nat} (hn : inN n N) {b a : Int32} (hb : b &&& 65535 = b) (ha : a &&& 65535 = a) : P2 (c7_normalise n S ((b <<< ((16 : Int32) &&& 31)) ||| a)) (r_norm R (nI n) ((jlshl (b.toInt64) (16 : Int32)) ||| (a.toInt64))) (Q1 E0 X N) := by
  obtain ⟨b, kb, rfl⟩ := w16_nat hb
  obtain ⟨a, ka, rfl⟩ := w16_nat ha
  unfold c7_normalise r_norm
  rw [i_or16 kb ka, nI_l (by omega), nI_l (by omega), jlshl16 kb, l_or16 kb ka]
  exact norm_loop hn h 32 100000 0 _ (by omega) (by omega) (by omega)
theorem dw_eq {c b : Int32} (hc : c &&& 65535 = c) (hb : b &&& 65535 = b) : ∃ v, v < 2 ^ 32 ∧ (c <<< ((16 : Int32) &&& 31)) ||| b = nI v ∧ (jlshl (c.toInt64) (16 : Int32)) ||| (b.toInt64) = lN v := by
  obtain ⟨c, kc, rfl⟩ := w16_nat hc
  obtain ⟨b, kb, rfl⟩ := w16_nat hb
  refine ⟨c * 65536 + b, by omega, i_or16 kc kb, ?_⟩
  rw [nI_l (by omega), nI_l (by omega), jlshl16 kc]
  exact l_or16 kc kb
theorem sh32 : ∀ s, s < 32 → ((nI s &&& 31).toBitVec.smod 32).toNat = s := by decide
theorem ush32 : ∀ s, s < 32 → (((nI s).toUInt32 &&& Int32.toUInt32 31).toBitVec % 32).toNat = s := by decide
