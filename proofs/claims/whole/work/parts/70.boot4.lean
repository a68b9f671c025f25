/-! booting: POKE and PEEK -/
theorem or_sh {x m v : Nat} (hm : m < 4) (hx : x < 2 ^ (8 * m)) (hv : v < 256) : nI x ||| (nI v <<< ((8 : Int32) * nI m &&& 31)) = nI (x + v * 2 ^ (8 * m)) := by
  have hp : 2 ^ (8 * m) ≤ 2 ^ 24 := Nat.pow_le_pow_right (by decide) (by omega)
  have h1 : v * 2 ^ (8 * m) ≤ 255 * 2 ^ (8 * m) := Nat.mul_le_mul_right _ (by omega)
  have h2 : x + v * 2 ^ (8 * m) < 2 ^ 32 := by omega
  rw [show (8 : Int32) = nI 8 from rfl, pk_mul, pk_shlN _ (8 * m) (sh32 (8 * m) (by omega)) (by omega)]
  refine i_ext h2 ?_
  rw [Int32.toBitVec_or, BitVec.toNat_or, pk_tn (by omega), pk_tn (by omega), Nat.or_comm]
  have := Nat.two_pow_add_eq_or_of_lt (i := 8 * m) (b := x) hx v
  rw [Nat.mul_comm v, ← this]
  omega
/-- one byte more of a POKE or PEEK: b7, q4, q5 behind it -/
theorem ga_step {b q : Nat → Int32} {m v : Nat} (hm : m < 4) (hv : v < 256) (h : GAp b q m) : ∃ a w, a < 2 ^ (8 * min (m + 1) 2) ∧ w < 2 ^ (8 * (m + 1 - 2)) ∧ a < 65536 ∧ w < 65536 ∧ b 7 ||| (nI v <<< ((8 : Int32) * nI m &&& 31)) = nI (a + 65536 * w) ∧ ((m < 2 ∧ q 4 ||| (nI v <<< ((8 : Int32) * nI m &&& 31)) = nI a ∧ q 5 = nI w) ∨ (2 ≤ m ∧ q 4 = nI a ∧ q 5 ||| (nI v <<< ((8 : Int32) * (nI m - 2) &&& 31)) = nI w)) := by
  obtain ⟨a, w, ha, hw, e4, e5, e7⟩ := h
  rw [e4, e5, e7]
  rcases (show m = 0 ∨ m = 1 ∨ m = 2 ∨ m = 3 by omega) with e | e | e | e <;> subst e
  · have ha : a < 1 := ha
    have hw : w < 1 := hw
    refine ⟨a + v * 2 ^ (8 * 0), w, by show _ < 256; omega, by show _ < 1; omega, by omega, by omega, ?_, Or.inl ⟨by decide, or_sh (by decide) ha hv, rfl⟩⟩
    rw [or_sh (m := 0) (by decide) (by show _ < 1; omega) hv]
    congr 1
    omega
  · have ha : a < 256 := ha
    have hw : w < 1 := hw
    refine ⟨a + v * 2 ^ (8 * 1), w, by show _ < 65536; omega, by show _ < 1; omega, by omega, by omega, ?_, Or.inl ⟨by decide, or_sh (by decide) ha hv, rfl⟩⟩
    rw [or_sh (m := 1) (by decide) (by show _ < 256; omega) hv]
    congr 1
    omega
  · have ha : a < 65536 := ha
    have hw : w < 1 := hw
    refine ⟨a, w + v * 2 ^ (8 * 0), by show _ < 65536; omega, by show _ < 256; omega, by omega, by omega, ?_, Or.inr ⟨by decide, rfl, ?_⟩⟩
    · rw [or_sh (m := 2) (by decide) (by show _ < 65536; omega) hv]
      congr 1
      omega
    · rw [show nI 2 - 2 = nI 0 from by decide]
      exact or_sh (m := 0) (by decide) hw hv
  · have ha : a < 65536 := ha
    have hw : w < 256 := hw
    refine ⟨a, w + v * 2 ^ (8 * 1), by show _ < 65536; omega, by show _ < 65536; omega, by omega, by omega, ?_, Or.inr ⟨by decide, rfl, ?_⟩⟩
    · rw [or_sh (m := 3) (by decide) (by show _ < 16777216; omega) hv]
      congr 1
      omega
    · rw [show nI 3 - 2 = nI 1 from by decide]
      exact or_sh (m := 1) (by decide) hw hv
/-- the byte of a POKE or PEEK is added, on the reference's side -/
def rGa (R : xS) (n m : Nat) (v : Int32) : xS := if m < 2 then sI R 0 56 n (xI R 0 56 n ||| (v <<< ((8 : Int32) * nI m &&& 31))) else sI R 0 57 n (xI R 0 57 n ||| (v <<< ((8 : Int32) * (nI m - 2) &&& 31)))
theorem xI_rGa (R : xS) (n m : Nat) (v : Int32) {j e : Nat} (h : ¬ (e = n ∧ (j = 56 ∨ j = 57))) : xI (rGa R n m v) 0 j e = xI R 0 j e := by
  unfold rGa
  by_cases c : m < 2
  · rw [if_pos c, xI_ne _ _ (by omega)]
  · rw [if_neg c, xI_ne _ _ (by omega)]
theorem REL.rga {E : Nat → Nat → Prop} {N : xN} {S R s r : xS} (h : REL E (XV s r) N S R) (n m : Nat) (v : Int32) : REL E (XV s (rGa r n m v)) N S (rGa R n m v) := by
  have e1 : xI R 0 56 n = xI r 0 56 n := h.r_eq (by omega)
  have e2 : xI R 0 57 n = xI r 0 57 n := h.r_eq (by omega)
  unfold rGa
  rw [e1, e2]
  by_cases c : m < 2
  · rw [if_pos c, if_pos c]; exact h.rv (by omega) _
  · rw [if_neg c, if_neg c]; exact h.rv (by omega) _
theorem iush16 {a w : Nat} (ha : a < 65536) (hw : w < 65536) : iush (nI (a + 65536 * w)) 16 = nI w := by
  rw [i_hi, pk_tn (by omega)]
  congr 1
  omega
theorem lo16 {a w : Nat} (ha : a < 65536) (hw : w < 65536) : nI (a + 65536 * w) &&& 65535 = nI a := by
  rw [i_65535, pk_tn (by omega)]
  congr 1
  omega
theorem rGa_q {r : xS} {n m v a w : Nat} (h : (m < 2 ∧ xI r 0 56 n ||| (nI v <<< ((8 : Int32) * nI m &&& 31)) = nI a ∧ xI r 0 57 n = nI w) ∨ (2 ≤ m ∧ xI r 0 56 n = nI a ∧ xI r 0 57 n ||| (nI v <<< ((8 : Int32) * (nI m - 2) &&& 31)) = nI w)) : xI (rGa r n m (nI v)) 0 56 n = nI a ∧ xI (rGa r n m (nI v)) 0 57 n = nI w := by
  unfold rGa
  rcases h with ⟨c, h1, h2⟩ | ⟨c, h1, h2⟩
  · rw [if_pos c, xI_eq, xI_ne _ _ (by omega)]
    exact ⟨h1, h2⟩
  · rw [if_neg (by omega), xI_ne _ _ (by omega), xI_eq]
    exact ⟨h1, h2⟩
theorem p_obey_poke {N : xN} {D : Nat} {s0 r0 s r S R : xS} (hl : LX D N s0 r0) (hx : REL E0 (XV s r) N S R) {n k : Nat} (hn : n < N.1) (hz : N.2 n) (hk : k < 4) (hF : freeL D s0 r0 n)
    (g1 : ∀ a b, ¬ (a = n ∧ b = 0) → xI s a b = xI s0 a b) (g2 : s.2 = s0.2) (g3 : ∀ j e, ¬ (e = n ∧ 53 ≤ j ∧ j ≤ 57) → xI r 0 j e = xI r0 0 j e)
    {m : Nat} (hm : m < 4) (b3 : xI s n 0 3 = 1) (b4 : xI s n 0 4 = nI k) (b5 : xI s n 0 5 = 0) (b6 : xI s n 0 6 = nI m) (b8 : xI s n 0 8 = 0) (q0 : rb r n 0 = 1) (q1 : rb r n 1 = nI k) (q2 : rb r n 2 = 0) (q3 : rb r n 3 = nI m) (hg : GAp (xI s n 0) (rb r n) m) {v : Nat} (hv : v < 256) (o : Int32) (ho : o = xI r0 0 40 (4 * n + k)) :
    P2 (c6_obey n (12 + k) (sI (sI S n (16 + k) 6 (o + 1)) n (12 + k) 10 (-1)) (nI v)) (r_boot_b252 (nI n) (nI (4 * n + k)) (nI m) (rGa (sI (sI (sI R 0 50 (4 * n + k) (-1)) 0 40 (4 * n + k) (o + 1)) 0 55 n (nI m + 1)) n m (nI v))) (RN (D + 1) N n) := by
  have h8 : n < 8 := Nat.lt_of_lt_of_le hn hx.1
  have eo : xI s0 n (16 + k) 6 = o := by rw [ho]; exact (hF k hk (xI s n 0) (rb r n)).1.2.2.2.1
  have hi : idle R n := hx.2.1.1 n hn hz
  have hin := in_less (N := N) hn
  obtain ⟨a, w, ha, hw, ha6, hw6, e7, e45⟩ := ga_step hm hv hg
  have h1 := (((((hx.less n).cv (n := n) (j := 16 + k) (k := 6) (by omega) (o + 1)).cv (n := n) (j := 12 + k) (k := 10) (by omega) (-1)).rv (j := 50) (k := 4 * n + k) (by omega) (-1)).rv (j := 40) (k := 4 * n + k) (by omega) (o + 1)).rv (j := 55) (k := n) (by omega) (nI (m + 1))
  have h2 := ((h1.rga n m (nI v)).cv (n := n) (j := 0) (k := 7) (by omega) (nI (a + 65536 * w))).cv (n := n) (j := 0) (k := 6) (by omega) (nI (m + 1))
  have k5 : xI (sI (sI S n (16 + k) 6 (o + 1)) n (12 + k) 10 (-1)) n 0 5 = 0 := by
    rw [xI_ne _ _ (by omega), xI_ne _ _ (by omega), hx.c_eq (by omega), b5]
  have k6 : xI (sI (sI S n (16 + k) 6 (o + 1)) n (12 + k) 10 (-1)) n 0 6 = nI m := by
    rw [xI_ne _ _ (by omega), xI_ne _ _ (by omega), hx.c_eq (by omega), b6]
  have k7 : xI (sI (sI S n (16 + k) 6 (o + 1)) n (12 + k) 10 (-1)) n 0 7 ||| (nI v <<< ((8 : Int32) * nI m &&& 31)) = nI (a + 65536 * w) := by
    rw [xI_ne _ _ (by omega), xI_ne _ _ (by omega), hx.c_eq (by omega)]
    exact e7
  have qq := rGa_q (r := sI (sI (sI r 0 50 (4 * n + k) (-1)) 0 40 (4 * n + k) (o + 1)) 0 55 n (nI (m + 1))) (n := n) (m := m) (v := v) (a := a) (w := w) (by
    simp (disch := omega) only [xI_ne]
    exact e45)
  have hidle : idle (rGa (sI (sI (sI R 0 50 (4 * n + k) (-1)) 0 40 (4 * n + k) (o + 1)) 0 55 n (nI (m + 1))) n m (nI v)) n := by
    refine idle_frm hi (fun j kk hj => ?_)
    rw [xI_rGa _ _ _ _ (by omega), xI_ne _ _ (by omega), xI_ne _ _ (by omega), xI_ne _ _ (by omega)]
  have r54 : xI (rGa (sI (sI (sI R 0 50 (4 * n + k) (-1)) 0 40 (4 * n + k) (o + 1)) 0 55 n (nI (m + 1))) n m (nI v)) 0 54 n = 0 := by
    rw [xI_rGa _ _ _ _ (by omega), xI_ne _ _ (by omega), xI_ne _ _ (by omega), xI_ne _ _ (by omega), hx.r_eq (by omega)]
    exact q2
  unfold c6_obey
  rw [k5, nI_1]
  refine P2.nl (by decide) (P2.pl rfl ?_)
  unfold c6_obey_b29
  rw [k6, k7]
  refine P2.xl ?_
  unfold c6_obey_b68
  have j6 : xI (sI (sI (sI S n (16 + k) 6 (o + 1)) n (12 + k) 10 (-1)) n 0 7 (nI (a + 65536 * w))) n 0 6 = nI m := by rw [xI_ne _ _ (by omega)]; exact k6
  rw [j6, nI_1]
  refine P2.xl ?_
  have i5 : xI (sI (sI (sI (sI S n (16 + k) 6 (o + 1)) n (12 + k) 10 (-1)) n 0 7 (nI (a + 65536 * w))) n 0 6 (nI (m + 1))) n 0 5 = 0 := by rw [xI_ne _ _ (by omega), xI_ne _ _ (by omega)]; exact k5
  have i6 : xI (sI (sI (sI (sI S n (16 + k) 6 (o + 1)) n (12 + k) 10 (-1)) n 0 7 (nI (a + 65536 * w))) n 0 6 (nI (m + 1))) n 0 6 = nI (m + 1) := xI_eq _ _ _ _ _
  have i7 : xI (sI (sI (sI (sI S n (16 + k) 6 (o + 1)) n (12 + k) 10 (-1)) n 0 7 (nI (a + 65536 * w))) n 0 6 (nI (m + 1))) n 0 7 = nI (a + 65536 * w) := by rw [xI_ne _ _ (by omega), xI_eq]
  have f3 : ∀ j e, ¬ ((e = 4 * n + k ∧ (j = 40 ∨ j = 50)) ∨ (e = n ∧ 52 ≤ j ∧ j ≤ 57)) → xI (rGa (sI (sI (sI r 0 50 (4 * n + k) (-1)) 0 40 (4 * n + k) (o + 1)) 0 55 n (nI (m + 1))) n m (nI v)) 0 j e = xI r0 0 j e := by
    intro j e he
    rw [xI_rGa _ _ _ _ (by omega), xI_ne _ _ (by omega), xI_ne _ _ (by omega), xI_ne _ _ (by omega)]
    exact g3 j e (by omega)
  have q56 : xI (rGa (sI (sI (sI r 0 50 (4 * n + k) (-1)) 0 40 (4 * n + k) (o + 1)) 0 55 n (nI (m + 1))) n m (nI v)) 0 56 n = nI a := qq.1
  have f50 : xI (rGa (sI (sI (sI r 0 50 (4 * n + k) (-1)) 0 40 (4 * n + k) (o + 1)) 0 55 n (nI (m + 1))) n m (nI v)) 0 50 (4 * n + k) = -1 := by
    rw [xI_rGa _ _ _ _ (by omega), xI_ne _ _ (by omega), xI_ne _ _ (by omega), xI_eq]
  have f40 : xI (rGa (sI (sI (sI r 0 50 (4 * n + k) (-1)) 0 40 (4 * n + k) (o + 1)) 0 55 n (nI (m + 1))) n m (nI v)) 0 40 (4 * n + k) = o + 1 := by
    rw [xI_rGa _ _ _ _ (by omega), xI_ne _ _ (by omega), xI_eq]
  have f52 : xI (rGa (sI (sI (sI r 0 50 (4 * n + k) (-1)) 0 40 (4 * n + k) (o + 1)) 0 55 n (nI (m + 1))) n m (nI v)) 0 52 n = 1 := by
    rw [xI_rGa _ _ _ _ (by omega), xI_ne _ _ (by omega), xI_ne _ _ (by omega), xI_ne _ _ (by omega)]; exact q0
  have f53 : xI (rGa (sI (sI (sI r 0 50 (4 * n + k) (-1)) 0 40 (4 * n + k) (o + 1)) 0 55 n (nI (m + 1))) n m (nI v)) 0 53 n = nI k := by
    rw [xI_rGa _ _ _ _ (by omega), xI_ne _ _ (by omega), xI_ne _ _ (by omega), xI_ne _ _ (by omega)]; exact q1
  have f54 : xI (rGa (sI (sI (sI r 0 50 (4 * n + k) (-1)) 0 40 (4 * n + k) (o + 1)) 0 55 n (nI (m + 1))) n m (nI v)) 0 54 n = 0 := by
    rw [xI_rGa _ _ _ _ (by omega), xI_ne _ _ (by omega), xI_ne _ _ (by omega), xI_ne _ _ (by omega)]; exact q2
  have f55 : xI (rGa (sI (sI (sI r 0 50 (4 * n + k) (-1)) 0 40 (4 * n + k) (o + 1)) 0 55 n (nI (m + 1))) n m (nI v)) 0 55 n = nI (m + 1) := by
    rw [xI_rGa _ _ _ _ (by omega), xI_eq]
  have q57 := qq.2
  clear k5 k6 k7 j6 h1 qq
  revert h2 hidle r54 i5 i6 i7 f3 q56 f50 f40 f52 f53 f54 f55 q57
  generalize sI (sI (sI (sI S n (16 + k) 6 (o + 1)) n (12 + k) 10 (-1)) n 0 7 (nI (a + 65536 * w))) n 0 6 (nI (m + 1)) = S2
  generalize rGa (sI (sI (sI R 0 50 (4 * n + k) (-1)) 0 40 (4 * n + k) (o + 1)) 0 55 n (nI (m + 1))) n m (nI v) = R2
  generalize rGa (sI (sI (sI r 0 50 (4 * n + k) (-1)) 0 40 (4 * n + k) (o + 1)) 0 55 n (nI (m + 1))) n m (nI v) = r2
  intro h2 hidle r54 i5 i6 i7 f3 q56 f50 f40 f52 f53 f54 f55 q57
  unfold r_boot_b252
  simp only [gI h8, cl8 h8]
  rw [i5, i6, r54]
  refine P2.pl rfl (P2.pr rfl ?_)
  by_cases m3 : m = 3
  · subst m3
    refine P2.pl rfl (P2.pr rfl ?_)
    rw [i7, lo16 ha6 hw6, iush16 ha6 hw6]
    have r56 : xI R2 0 56 n = nI a := by rw [h2.r_eq (by omega)]; exact q56
    have r57 : xI R2 0 57 n = nI w := by rw [h2.r_eq (by omega)]; exact q57
    rw [r56, r57]
    refine P2.l (c5_setWord_n _ _ _ _) (P2.r (r_wordTo_n _ h8 _ _) ?_)
    have h3 := ((((((h2.pw hin (a := nI a) (v := nI w) rfl rfl).cv (n := n) (j := 0) (k := 4) (by omega) (-1)).cv (n := n) (j := 0) (k := 5) (by omega) (-1)).cv (n := n) (j := 0) (k := 6) (by omega) 0).cv (n := n) (j := 0) (k := 7) (by omega) 0).cv (n := n) (j := 0) (k := 8) (by omega) 0).rv (j := 53) (k := n) (by omega) (-1) |>.rv (j := 54) (k := n) (by omega) (-1)
    refine P2.xr (P2.xr ?_)
    unfold r_boot_b298
    simp only [gI h8, cl8 h8]
    refine P2.nr (by rw [xI_eq]; decide) (P2.l rfl (P2.ret ?_))
    have hid3 : idle (sI (sI (rPw R2 n (nI a) (nI w)) 0 53 n (-1)) 0 54 n (-1)) n := by
      refine idle_frm hidle (fun j kk hj => ?_)
      rw [xI_ne _ _ (by omega), xI_ne _ _ (by omega), xI_rPw _ _ _ _ _ _ (by omega) (by omega)]
    refine ⟨strongN N n, rfl, fun m z => z.1, fun z => z.2 rfl, ((h3.back hid3).reN (N' := strongN N n) rfl (fun m _ z => z.1)).un ?_⟩
    refine boot_close hl hx.1 rfl hn hk hF (fun m hm hne => sN_zz N h8 m (by have := hx.1; omega) hne) (fun a b hab => ?_) ?_ (fun i hi => ?_) ?_ (fun i hi => ?_) ?_ (fun j e he => ?_) ?_ ?_ ?_ ?_
    · simp (disch := omega) only [xI_fn_ne]
      exact g1 a b (by omega)
    · exact g2
    · simp (disch := omega) only [xI_ne]
      rw [g1 n (12 + k) (by omega)]
    · simp (disch := omega) only [xI_ne, xI_eq]
    · simp (disch := omega) only [xI_ne]
      rw [g1 n (16 + k) (by omega)]
    · simp (disch := omega) only [xI_ne, xI_eq]
      rw [eo]
    · rw [xI_ne _ _ (by omega), xI_ne _ _ (by omega)]
      exact f3 j e he
    · rw [xI_ne _ _ (by omega), xI_ne _ _ (by omega)]; exact f50
    · rw [xI_ne _ _ (by omega), xI_ne _ _ (by omega), f40, ho]
    · unfold rb
      rw [xI_ne _ _ (by omega), xI_ne _ _ (by omega)]
      exact ⟨fun _ => f52, fun _ => ⟨hz, by omega⟩⟩
    · refine ⟨?_, Or.inr ⟨?_, Or.inl ⟨?_, ?_, ?_, ?_, ?_, ?_, ?_⟩⟩⟩
      · unfold rb
        simp (disch := omega) only [xI_ne]
        exact b3.trans f52.symm
      · unfold rb
        simp (disch := omega) only [xI_ne]
        exact f52
      · simp (disch := omega) only [xI_ne, xI_eq]
      · simp (disch := omega) only [xI_ne, xI_eq]
      · simp (disch := omega) only [xI_ne, xI_eq]
      · simp (disch := omega) only [xI_ne, xI_eq]
      · simp (disch := omega) only [xI_ne, xI_eq]
      · simp (disch := omega) only [rb, xI_ne, xI_eq]
      · simp (disch := omega) only [rb, xI_ne, xI_eq]
  · have n4 : ¬ nI (m + 1) = (4 : Int32) := fun z => absurd ((nI_eq (b := 4) (by omega) (by decide)).mp z) (by omega)
    have n3 : ¬ nI m = (3 : Int32) := fun z => absurd ((nI_eq (b := 3) (by omega) (by decide)).mp z) m3
    refine P2.nl n4 (P2.nr n3 ?_)
    unfold c6_obey_b124 c6_obey_b166 r_boot_b298
    simp only [gI h8, cl8 h8]
    rw [i5, r54]
    refine P2.nl (by decide) (P2.pl (by decide) (P2.nr (by decide) (P2.ret ?_)))
    refine ⟨strongN N n, rfl, fun m z => z.1, fun z => z.2 rfl, ((h2.back hidle).reN (N' := strongN N n) rfl (fun m _ z => z.1)).un ?_⟩
    refine boot_close hl hx.1 rfl hn hk hF (fun m hm hne => sN_zz N h8 m (by have := hx.1; omega) hne) (fun a b hab => ?_) ?_ (fun i hi => ?_) ?_ (fun i hi => ?_) ?_ f3 f50 ?_ ?_ ?_
    · simp (disch := omega) only [xI_fn_ne]
      exact g1 a b (by omega)
    · exact g2
    · simp (disch := omega) only [xI_ne]
      rw [g1 n (12 + k) (by omega)]
    · simp (disch := omega) only [xI_ne, xI_eq]
    · simp (disch := omega) only [xI_ne]
      rw [g1 n (16 + k) (by omega)]
    · simp (disch := omega) only [xI_ne, xI_eq]
      rw [eo]
    · rw [f40, ho]
    · exact ⟨fun _ => f52, fun _ => ⟨hz, by omega⟩⟩
    · refine ⟨?_, Or.inr ⟨f52, Or.inr (Or.inl ⟨k, 0, m + 1, hk, by decide, ?_, f53, ?_, ?_, f54, ?_, f55, Or.inr (Or.inl ⟨rfl, by omega, a, w, ha, hw, q56, q57, ?_⟩)⟩)⟩⟩
      · simp (disch := omega) only [xI_ne]; exact b3.trans f52.symm
      · simp (disch := omega) only [xI_ne]; exact b4
      · simp (disch := omega) only [xI_ne]; exact b8
      · simp (disch := omega) only [xI_ne]; exact b5
      · simp (disch := omega) only [xI_ne, xI_eq]
      · simp (disch := omega) only [xI_ne, xI_eq]
