/-! check sums, bits -/
theorem w16_xor {x y : Int32} (hx : x &&& 65535 = x) (hy : y &&& 65535 = y) : (x ^^^ y) &&& 65535 = x ^^^ y := by
  obtain ⟨a, ha, rfl⟩ := w16_nat hx
  obtain ⟨b, hb, rfl⟩ := w16_nat hy
  have hab : a ^^^ b < 2 ^ 16 := Nat.xor_lt_two_pow ha hb
  have e : nI a ^^^ nI b = nI (a ^^^ b) := by
    refine i_ext (by omega) ?_
    rw [Int32.toBitVec_xor, BitVec.toNat_xor, pk_tn (by omega), pk_tn (by omega)]
  rw [e]
  exact w16_nI (by omega)
theorem asp (x M w : Nat) : x &&& M = (x % 2 ^ w &&& M % 2 ^ w) + 2 ^ w * (x / 2 ^ w &&& M / 2 ^ w) := by
  have h1 := Nat.div_add_mod (x &&& M) (2 ^ w)
  rw [Nat.and_div_two_pow, Nat.and_mod_two_pow] at h1
  rw [← h1, Nat.add_comm]
theorem top_bit {b : Int32} (hb : b &&& 65535 = b) : b &&& 32768 = 0 ↔ ¬ b >>> ((15 : Int32) &&& 31) = 1 := by
  obtain ⟨k, hk, rfl⟩ := w16_nat hb
  have e1 : nI k &&& 32768 = nI (k / 32768 * 32768) := by
    rw [show (32768 : Int32) = nI 32768 from rfl, i_and_nat _ _ (by decide), pk_tn (by omega)]
    congr 1
    rw [asp k 32768 15, show (32768 : Nat) % 2 ^ 15 = 0 from rfl, show (32768 : Nat) / 2 ^ 15 = 1 from rfl, Nat.and_zero, Nat.and_one_is_mod]
    omega
  have e2 : nI k >>> ((15 : Int32) &&& 31) = nI (k / 32768) := pk_shrN (by omega) _ 15 (by decide)
  rw [e1, e2]
  rcases (show k / 32768 = 0 ∨ k / 32768 = 1 by omega) with e | e <;> rw [e] <;> decide
theorem crc_loop {X : xS → xS → Prop} {N : xN} {n : Nat} (hn : inN n N) {S : xS} {m : Nat} (hm : m ≤ 16) : ∀ (j fu k : Nat) (R : xS), REL (EB E0 n) X N S R → k + j = m → j < fu → xI R 0 5 n &&& 65535 = xI R 0 5 n → xI R 0 6 n &&& 65535 = xI R 0 6 n → P2 (c7_addToCrc_b19 n fu (nI m) (xI R 0 5 n) (xI R 0 6 n) (nI k) S) (r_sums_b2 fu (nI n) (nI m) (nI k) R) (Q1 E0 X N)
  | 0, 0, _, _, _, _, hf, _, _ => absurd hf (by decide)
  | 0, fu + 1, k, R, h, hk, hf, hA, hB => by
    have h8 := h.le8 hn
    have hC : ¬ EB E0 n n 2 := fun z => z.elim id (fun q => absurd q.2 (by decide))
    unfold c7_addToCrc_b19 r_sums_b2
    have e : nI m ≤ nI k := nI_le (by omega) (by omega)
    rw [if_pos e, if_pos e]
    simp only [gI h8, cl8 h8]
    refine P2.l (c9_replaceTwo_n _ _ _) (P2.xr (P2.xr ?_))
    have h1 : REL (fun a b => a = n ∧ b = 1) X N (sI S n 4 0 (xI R 0 6 n &&& 65535)) (sI R 0 5 n (xI R 0 6 n)) := h.f_A hn (fun a b _ z => z.elim (fun q => q.elim) (fun q => by omega)) hB hB
    refine P2.ret ⟨rfl, ?_⟩
    exact h1.f_B hn (fun a b _ z => Or.inr z) (h1.g_C hn (fun z => absurd z.2 (by decide))) (h1.w_C hn (fun z => absurd z.2 (by decide)))
  | j + 1, 0, _, _, _, _, hf, _, _ => absurd hf (by omega)
  | j + 1, fu + 1, k, R, h, hk, hf, hA, hB => by
    have h8 := h.le8 hn
    have hC : ¬ EB E0 n n 2 := fun z => z.elim id (fun q => absurd q.2 (by decide))
    have gC := h.g_C hn hC
    have wC := h.w_C hn hC
    unfold c7_addToCrc_b19 r_sums_b2
    have e : ¬ nI m ≤ nI k := nI_ge (by omega) (by omega)
    rw [if_neg e, if_neg e]
    simp only [gI h8, cl8 h8]
    refine P2.xr (P2.xr ?_)
    have h1 := (h.r_B hn (eb1 E0 n) (((xI R 0 6 n <<< ((1 : Int32) &&& 31)) ||| (xI R 0 5 n >>> ((15 : Int32) &&& 31))) &&& (65535 : Int32)))
    have eA : xI (sI R 0 6 n (((xI R 0 6 n <<< ((1 : Int32) &&& 31)) ||| (xI R 0 5 n >>> ((15 : Int32) &&& 31))) &&& (65535 : Int32))) 0 5 n = xI R 0 5 n := by rw [xI_sI, if_neg (by omega)]
    rw [eA]
    have h2 := h1.r_A hn (eb0 E0 n) ((xI R 0 5 n <<< ((1 : Int32) &&& 31)) &&& (65535 : Int32))
    revert h2
    generalize e2 : sI (sI R 0 6 n (((xI R 0 6 n <<< ((1 : Int32) &&& 31)) ||| (xI R 0 5 n >>> ((15 : Int32) &&& 31))) &&& (65535 : Int32))) 0 5 n ((xI R 0 5 n <<< ((1 : Int32) &&& 31)) &&& (65535 : Int32)) = R2
    intro h2
    have f5 : xI R2 0 5 n = (xI R 0 5 n <<< ((1 : Int32) &&& 31)) &&& (65535 : Int32) := by rw [← e2, xI_sI, if_pos ⟨rfl, rfl, rfl⟩]
    have f6 : xI R2 0 6 n = ((xI R 0 6 n <<< ((1 : Int32) &&& 31)) ||| (xI R 0 5 n >>> ((15 : Int32) &&& 31))) &&& (65535 : Int32) := by rw [← e2, xI_sI, if_neg (by omega), xI_sI, if_pos ⟨rfl, rfl, rfl⟩]
    have f7 : xI R2 0 7 n = xI R 0 7 n := by rw [← e2, xI_sI, if_neg (by omega), xI_sI, if_neg (by omega)]
    refine P2.iten (top_bit hB) (fun _ _ => ?_) (fun _ _ => ?_)
    · unfold c7_addToCrc_b37 c7_addToCrc_b73 r_sums_b83
      rw [if_pos rfl, nI_1, ← f5, ← f6]
      exact crc_loop hn hm j fu (k + 1) R2 h2 (by omega) (by omega) (by rw [f5]; exact w16 _) (by rw [f6]; exact w16 _)
    · unfold c7_addToCrc_b37 c7_addToCrc_b73 r_sums_b83
      rw [if_neg (by decide), nI_1, ← f5, ← f6, gC, ← f7]
      refine P2.xr ?_
      have h3 := h2.r_B hn (eb1 E0 n) (xI R2 0 6 n ^^^ xI R2 0 7 n)
      have g5 : xI (sI R2 0 6 n (xI R2 0 6 n ^^^ xI R2 0 7 n)) 0 5 n = xI R2 0 5 n := by rw [xI_sI, if_neg (by omega)]
      have g6 : xI (sI R2 0 6 n (xI R2 0 6 n ^^^ xI R2 0 7 n)) 0 6 n = xI R2 0 6 n ^^^ xI R2 0 7 n := by rw [xI_sI, if_pos ⟨rfl, rfl, rfl⟩]
      have := crc_loop hn hm j fu (k + 1) _ h3 (by omega) (by omega) (by rw [g5, f5]; exact w16 _) (by rw [g6]; exact w16_xor (by rw [f6]; exact w16 _) (by rw [f7]; exact wC))
      rw [g5, g6] at this
      exact this
theorem p_crc {X : xS → xS → Prop} {N : xN} {S R : xS} (h : REL E0 X N S R) {n : Nat} (hn : inN n N) {m : Nat} (hm : m ≤ 16) : P2 (c7_addToCrc n S (nI m)) (r_sums R (nI n) (nI m)) (Q1 E0 X N) := by
  unfold c7_addToCrc r_sums
  rw [h.g_A hn (okE0 n).1, h.g_B hn (okE0 n).2.1]
  exact crc_loop hn hm m 100000 0 R (h.eB n) (by omega) (by omega) (h.w_A hn (okE0 n).1) (h.w_B hn (okE0 n).2.1)
def bcN (k : Nat) : Nat := (fun s1 => (fun s2 => (fun s3 => (fun s4 => (s4 + s4 / 65536) &&& 63) (s3 + s3 / 256)) ((s2 + s2 / 16) &&& 252645135)) ((s1 &&& 858993459) + ((s1 / 4) &&& 858993459))) (k - ((k / 2) &&& 1431655765))
def bS : Nat → Nat → Nat
  | 0, _ => 0
  | j + 1, x => x % 2 + bS j (x / 2)
def f1 (M x : Nat) : Nat := x - (x / 2 &&& M)
theorem f1_rec {M : Nat} (hM : M % 4 = 1) (x : Nat) : f1 M x = (x % 4 - x % 4 / 2) + 4 * f1 (M / 4) (x / 4) := by
  unfold f1
  have h := asp (x / 2) M 2
  rw [show (2 : Nat) ^ 2 = 4 from rfl, hM, Nat.and_one_is_mod, show x / 2 / 4 = x / 4 / 2 by omega, show x / 2 % 4 % 2 = x % 4 / 2 by omega] at h
  have l : x / 4 / 2 &&& M / 4 ≤ x / 4 / 2 := Nat.and_le_left
  omega
def f2 (M x : Nat) : Nat := (x &&& M) + (x / 4 &&& M)
theorem f2_rec {M : Nat} (hM : M % 16 = 3) (y q : Nat) (hq : q < 16) : f2 M (16 * y + q) = (q % 4 + q / 4) + 16 * f2 (M / 16) y := by
  unfold f2
  have h := asp (16 * y + q) M 4
  have h' := asp ((16 * y + q) / 4) M 4
  rw [show (2 : Nat) ^ 4 = 16 from rfl, hM, show (3 : Nat) = 2 ^ 2 - 1 from rfl, Nat.and_two_pow_sub_one_eq_mod] at h h'
  rw [show (16 * y + q) / 16 = y by omega, show (16 * y + q) % 16 % 2 ^ 2 = q % 4 by omega] at h
  rw [show (16 * y + q) / 4 / 16 = y / 4 by omega, show (16 * y + q) / 4 % 16 % 2 ^ 2 = q / 4 by omega] at h'
  omega
theorem bS_2 (j x : Nat) : bS (j + 2) x = (x % 4 - x % 4 / 2) + bS j (x / 4) := by
  show x % 2 + (x / 2 % 2 + bS j (x / 2 / 2)) = _
  rw [show x / 2 / 2 = x / 4 by omega]
  omega
theorem bc_one {k : Nat} (hk : k < 65536) : bcN k = bS 16 k := by
  have e1 : bcN k = (fun s2 => (fun s3 => (fun s4 => (s4 + s4 / 65536) &&& 63) (s3 + s3 / 256)) ((s2 + s2 / 16) &&& 252645135)) (f2 858993459 (f1 1431655765 k)) := rfl
  rw [e1, f1_rec (by decide) k, f1_rec (by decide) (k / 4), f1_rec (by decide) (k / 4 / 4), f1_rec (by decide) (k / 4 / 4 / 4), f1_rec (by decide) (k / 4 / 4 / 4 / 4), f1_rec (by decide) (k / 4 / 4 / 4 / 4 / 4), f1_rec (by decide) (k / 4 / 4 / 4 / 4 / 4 / 4), f1_rec (by decide) (k / 4 / 4 / 4 / 4 / 4 / 4 / 4)]
  rw [bS_2 14 k, bS_2 12 (k / 4), bS_2 10 (k / 4 / 4), bS_2 8 (k / 4 / 4 / 4), bS_2 6 (k / 4 / 4 / 4 / 4), bS_2 4 (k / 4 / 4 / 4 / 4 / 4), bS_2 2 (k / 4 / 4 / 4 / 4 / 4 / 4), bS_2 0 (k / 4 / 4 / 4 / 4 / 4 / 4 / 4)]
  rw [show k / 4 / 4 / 4 / 4 / 4 / 4 / 4 / 4 = 0 by omega]
  have b0 : k % 4 - k % 4 / 2 ≤ 2 := by omega
  have b1 : k / 4 % 4 - k / 4 % 4 / 2 ≤ 2 := by omega
  have b2 : k / 4 / 4 % 4 - k / 4 / 4 % 4 / 2 ≤ 2 := by omega
  have b3 : k / 4 / 4 / 4 % 4 - k / 4 / 4 / 4 % 4 / 2 ≤ 2 := by omega
  have b4 : k / 4 / 4 / 4 / 4 % 4 - k / 4 / 4 / 4 / 4 % 4 / 2 ≤ 2 := by omega
  have b5 : k / 4 / 4 / 4 / 4 / 4 % 4 - k / 4 / 4 / 4 / 4 / 4 % 4 / 2 ≤ 2 := by omega
  have b6 : k / 4 / 4 / 4 / 4 / 4 / 4 % 4 - k / 4 / 4 / 4 / 4 / 4 / 4 % 4 / 2 ≤ 2 := by omega
  have b7 : k / 4 / 4 / 4 / 4 / 4 / 4 / 4 % 4 - k / 4 / 4 / 4 / 4 / 4 / 4 / 4 % 4 / 2 ≤ 2 := by omega
  revert b0 b1 b2 b3 b4 b5 b6 b7
  generalize k % 4 - k % 4 / 2 = c0
  generalize k / 4 % 4 - k / 4 % 4 / 2 = c1
  generalize k / 4 / 4 % 4 - k / 4 / 4 % 4 / 2 = c2
  generalize k / 4 / 4 / 4 % 4 - k / 4 / 4 / 4 % 4 / 2 = c3
  generalize k / 4 / 4 / 4 / 4 % 4 - k / 4 / 4 / 4 / 4 % 4 / 2 = c4
  generalize k / 4 / 4 / 4 / 4 / 4 % 4 - k / 4 / 4 / 4 / 4 / 4 % 4 / 2 = c5
  generalize k / 4 / 4 / 4 / 4 / 4 / 4 % 4 - k / 4 / 4 / 4 / 4 / 4 / 4 % 4 / 2 = c6
  generalize k / 4 / 4 / 4 / 4 / 4 / 4 / 4 % 4 - k / 4 / 4 / 4 / 4 / 4 / 4 / 4 % 4 / 2 = c7
  intro b0 b1 b2 b3 b4 b5 b6 b7
  have z1 : ∀ M, f1 M 0 = 0 := fun M => Nat.zero_sub _
  have z2 : ∀ M, f2 M 0 = 0 := fun M => by unfold f2; rw [Nat.zero_div, Nat.zero_and]
  rw [z1]
  rw [show c0 + 4 * (c1 + 4 * (c2 + 4 * (c3 + 4 * (c4 + 4 * (c5 + 4 * (c6 + 4 * (c7 + 4 * 0))))))) = 16 * (16 * (16 * (16 * 0 + (c6 + 4 * c7)) + (c4 + 4 * c5)) + (c2 + 4 * c3)) + (c0 + 4 * c1) by omega]
  rw [f2_rec (by decide) _ _ (by omega), f2_rec (by decide) _ _ (by omega), f2_rec (by decide) _ _ (by omega), f2_rec (by decide) _ _ (by omega), z2]
  rw [show (c0 + 4 * c1) % 4 + (c0 + 4 * c1) / 4 = c0 + c1 by omega, show (c2 + 4 * c3) % 4 + (c2 + 4 * c3) / 4 = c2 + c3 by omega, show (c4 + 4 * c5) % 4 + (c4 + 4 * c5) / 4 = c4 + c5 by omega, show (c6 + 4 * c7) % 4 + (c6 + 4 * c7) / 4 = c6 + c7 by omega]
  show _ = c0 + (c1 + (c2 + (c3 + (c4 + (c5 + (c6 + (c7 + 0)))))))
  have d0 : c0 + c1 ≤ 4 := by omega
  have d1 : c2 + c3 ≤ 4 := by omega
  have d2 : c4 + c5 ≤ 4 := by omega
  have d3 : c6 + c7 ≤ 4 := by omega
  rw [show c0 + (c1 + (c2 + (c3 + (c4 + (c5 + (c6 + (c7 + 0))))))) = (c0 + c1) + (c2 + c3) + ((c4 + c5) + (c6 + c7)) by omega]
  revert d0 d1 d2 d3
  generalize c0 + c1 = d0
  generalize c2 + c3 = d1
  generalize c4 + c5 = d2
  generalize c6 + c7 = d3
  intro l0 l1 l2 l3
  clear b0 b1 b2 b3 b4 b5 b6 b7 e1
  have q : (d0 + 16 * (d1 + 16 * (d2 + 16 * (d3 + 16 * 0)))) / 16 = d1 + 16 * d2 + 256 * d3 := by omega
  have e3 : ((d0 + 16 * (d1 + 16 * (d2 + 16 * (d3 + 16 * 0)))) + (d0 + 16 * (d1 + 16 * (d2 + 16 * (d3 + 16 * 0)))) / 16) &&& 252645135 = (d0 + d1) + 256 * (d2 + d3) := by
    rw [q, show (d0 + 16 * (d1 + 16 * (d2 + 16 * (d3 + 16 * 0)))) + (d1 + 16 * d2 + 256 * d3) = 256 * (16 * d3 + (d2 + d3)) + (16 * (d1 + d2) + (d0 + d1)) by omega]
    have h1 : (256 * (16 * d3 + (d2 + d3)) + (16 * (d1 + d2) + (d0 + d1))) % 256 = 16 * (d1 + d2) + (d0 + d1) := by omega
    have h2 : (256 * (16 * d3 + (d2 + d3)) + (16 * (d1 + d2) + (d0 + d1))) / 256 = 16 * d3 + (d2 + d3) := by omega
    rw [asp _ 252645135 8, show (2 : Nat) ^ 8 = 256 from rfl, show (252645135 : Nat) % 256 = 2 ^ 4 - 1 from rfl, show (252645135 : Nat) / 256 = 986895 from rfl, Nat.and_two_pow_sub_one_eq_mod, h1, h2]
    rw [asp _ 986895 8, show (2 : Nat) ^ 8 = 256 from rfl, show (986895 : Nat) % 256 = 2 ^ 4 - 1 from rfl, Nat.and_two_pow_sub_one_eq_mod]
    rw [show (16 * d3 + (d2 + d3)) / 256 = 0 by omega, Nat.zero_and]
    have h3 : (16 * (d1 + d2) + (d0 + d1)) % 2 ^ 4 = d0 + d1 := by omega
    have h4 : (16 * d3 + (d2 + d3)) % 256 % 2 ^ 4 = d2 + d3 := by omega
    rw [h3, h4, Nat.mul_zero, Nat.add_zero]
  show (fun s3 => (fun s4 => (s4 + s4 / 65536) &&& 63) (s3 + s3 / 256)) (((d0 + 16 * (d1 + 16 * (d2 + 16 * (d3 + 16 * 0)))) + (d0 + 16 * (d1 + 16 * (d2 + 16 * (d3 + 16 * 0)))) / 16) &&& 252645135) = _
  rw [e3]
  have e4 : (d0 + d1 + 256 * (d2 + d3)) + (d0 + d1 + 256 * (d2 + d3)) / 256 = d0 + d1 + 256 * (d2 + d3) + (d2 + d3) := by omega
  show (fun s4 => (s4 + s4 / 65536) &&& 63) ((d0 + d1 + 256 * (d2 + d3)) + (d0 + d1 + 256 * (d2 + d3)) / 256) = _
  rw [e4]
  show ((d0 + d1 + 256 * (d2 + d3) + (d2 + d3)) + (d0 + d1 + 256 * (d2 + d3) + (d2 + d3)) / 65536) &&& 63 = _
  rw [show (d0 + d1 + 256 * (d2 + d3) + (d2 + d3)) / 65536 = 0 by omega, show (63 : Nat) = 2 ^ 6 - 1 from rfl, Nat.and_two_pow_sub_one_eq_mod]
  omega
theorem iushN {k s : Nat} (hk : k < 2 ^ 32) (hs : s < 32) : iush (nI k) (nI s) = nI (k / 2 ^ s) := by
  unfold iush
  exact pk_ushrN hk _ s (ush32 s hs)
theorem andN {k m : Nat} (hk : k < 2 ^ 32) (hm : m < 2 ^ 31) : nI k &&& nI m = nI (k &&& m) := by rw [i_and_nat _ _ hm, pk_tn hk]
theorem bc_eq {k : Nat} (hk : k < 65536) : j6_bitCount_0f7a4 (nI k) = some (nI (bcN k)) := by
  unfold j6_bitCount_0f7a4 bcN
  have l1 : (k / 2) &&& 1431655765 ≤ k / 2 := Nat.and_le_left
  rw [show (1431655765 : Int32) = nI 1431655765 from rfl, show (858993459 : Int32) = nI 858993459 from rfl, show (252645135 : Int32) = nI 252645135 from rfl, show (63 : Int32) = nI 63 from rfl, show (1 : Int32) = nI 1 from rfl, show (2 : Int32) = nI 2 from rfl, show (4 : Int32) = nI 4 from rfl, show (8 : Int32) = nI 8 from rfl, show (16 : Int32) = nI 16 from rfl]
  rw [iushN (by omega) (by decide), show k / 2 ^ 1 = k / 2 from rfl, andN (by omega) (by decide), pk_sub (by omega)]
  have b1 : k - ((k / 2) &&& 1431655765) < 65536 := by omega
  generalize k - ((k / 2) &&& 1431655765) = s1 at b1
  have l2 : s1 &&& 858993459 ≤ s1 := Nat.and_le_left
  have l3 : (s1 / 4) &&& 858993459 ≤ s1 / 4 := Nat.and_le_left
  rw [andN (by omega) (by decide), iushN (by omega) (by decide), show s1 / 2 ^ 2 = s1 / 4 from rfl, andN (by omega) (by decide), nI_add]
  have b2 : (s1 &&& 858993459) + ((s1 / 4) &&& 858993459) < 131072 := by omega
  show _ = some (nI ((fun s2 => (fun s3 => (fun s4 => (s4 + s4 / 65536) &&& 63) (s3 + s3 / 256)) ((s2 + s2 / 16) &&& 252645135)) ((s1 &&& 858993459) + ((s1 / 4) &&& 858993459))))
  generalize (s1 &&& 858993459) + ((s1 / 4) &&& 858993459) = s2 at b2
  have l4 : (s2 + s2 / 16) &&& 252645135 ≤ s2 + s2 / 16 := Nat.and_le_left
  rw [iushN (by omega) (by decide), show s2 / 2 ^ 4 = s2 / 16 from rfl, nI_add, andN (by omega) (by decide)]
  have b3 : (s2 + s2 / 16) &&& 252645135 < 262144 := by omega
  show _ = some (nI ((fun s3 => (fun s4 => (s4 + s4 / 65536) &&& 63) (s3 + s3 / 256)) ((s2 + s2 / 16) &&& 252645135)))
  generalize (s2 + s2 / 16) &&& 252645135 = s3 at b3
  rw [iushN (by omega) (by decide), show s3 / 2 ^ 8 = s3 / 256 from rfl, nI_add]
  show _ = some (nI ((fun s4 => (s4 + s4 / 65536) &&& 63) (s3 + s3 / 256)))
  have b4 : s3 + s3 / 256 < 524288 := by omega
  generalize s3 + s3 / 256 = s4 at b4
  rw [iushN (by omega) (by decide), show s4 / 2 ^ 16 = s4 / 65536 from rfl, nI_add, andN (by omega) (by decide)]
theorem bS_le : ∀ j x, bS j x ≤ j
  | 0, _ => Nat.le_refl 0
  | j + 1, x => by
    have h := bS_le j (x / 2)
    show x % 2 + bS j (x / 2) ≤ j + 1
    omega
theorem bits_loop {x : Nat} (hx : x < 65536) : ∀ (j fu k m : Nat), k + j = 16 → j < fu → m ≤ k → r_bits_b4 fu (nI x) (nI m) (nI k) = some (nI (m + bS j (x / 2 ^ k)))
  | 0, 0, _, _, _, hf, _ => absurd hf (by decide)
  | 0, fu + 1, k, m, hk, hf, hb => by
    unfold r_bits_b4
    rw [show k = 16 by omega, if_pos (by decide)]
    rfl
  | j + 1, 0, _, _, _, hf, _ => absurd hf (by omega)
  | j + 1, fu + 1, k, m, hk, hf, hb => by
    unfold r_bits_b4
    rw [if_neg (show ¬ (16 : Int32) ≤ nI k from nI_ge (b := 16) (by omega) (by decide)), pk_shrN (by omega) _ k (sh32 k (by omega)), pk_and _ 1 (by decide), pk_tn (Nat.lt_of_le_of_lt (Nat.div_le_self _ _) (by omega)), nI_add, nI_1]
    have hm : x / 2 ^ k % 2 < 2 := Nat.mod_lt _ (by decide)
    rw [bits_loop hx j fu (k + 1) _ (by omega) (by omega) (by omega)]
    show some (nI (m + x / 2 ^ k % 2 ^ 1 + bS j (x / 2 ^ (k + 1)))) = some (nI (m + (x / 2 ^ k % 2 + bS j (x / 2 ^ k / 2))))
    rw [Nat.div_div_eq_div_mul, ← Nat.pow_succ, Nat.pow_one, Nat.add_assoc]
theorem r_bits_n {x : Nat} (hx : x < 65536) : r_bits (nI x) = some (nI (bcN x)) := by
  rw [bc_one hx]
  have h := bits_loop hx 16 100000 0 0 (by decide) (by decide) (by decide)
  rw [Nat.pow_zero, Nat.div_one, Nat.zero_add] at h
  exact h
