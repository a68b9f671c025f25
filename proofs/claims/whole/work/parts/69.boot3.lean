/-! booting: code that is loaded -/
theorem so6 (R : xS) (k : Nat) (v : Int32) {j k' : Nat} (w : Int32) (h : j < 6) : sI (sI R 0 6 k v) 0 j k' w = sI (sI R 0 j k' w) 0 6 k v := sI_comm R v w (by omega)
theorem so7 (R : xS) (k : Nat) (v : Int32) {j k' : Nat} (w : Int32) (h : j < 7) : sI (sI R 0 7 k v) 0 j k' w = sI (sI R 0 j k' w) 0 7 k v := sI_comm R v w (by omega)
theorem so8 (R : xS) (k : Nat) (v : Int32) {j k' : Nat} (w : Int32) (h : j < 8) : sI (sI R 0 8 k v) 0 j k' w = sI (sI R 0 j k' w) 0 8 k v := sI_comm R v w (by omega)
theorem so9 (R : xS) (k : Nat) (v : Int32) {j k' : Nat} (w : Int32) (h : j < 9) : sI (sI R 0 9 k v) 0 j k' w = sI (sI R 0 j k' w) 0 9 k v := sI_comm R v w (by omega)
theorem so10 (R : xS) (k : Nat) (v : Int32) {j k' : Nat} (w : Int32) (h : j < 10) : sI (sI R 0 10 k v) 0 j k' w = sI (sI R 0 j k' w) 0 10 k v := sI_comm R v w (by omega)
theorem so11 (R : xS) (k : Nat) (v : Int32) {j k' : Nat} (w : Int32) (h : j < 11) : sI (sI R 0 11 k v) 0 j k' w = sI (sI R 0 j k' w) 0 11 k v := sI_comm R v w (by omega)
theorem so12 (R : xS) (k : Nat) (v : Int32) {j k' : Nat} (w : Int32) (h : j < 12) : sI (sI R 0 12 k v) 0 j k' w = sI (sI R 0 j k' w) 0 12 k v := sI_comm R v w (by omega)
theorem so_id (R : xS) (j k : Nat) (v w : Int32) : sI (sI R 0 j k v) 0 j k w = sI R 0 j k w := sI_idem R 0 j k v w
/-- a process begins: launch and setStack, begins -/
theorem REL.launch {X : xS → xS → Prop} {N : xN} {S R : xS} (h : REL E0 X N S R) {n : Nat} (hn : inN n N) {i w p a b c : Int32} (hi : i &&& 65535 = i) (hp : p = 0 ∨ p = 1 ∨ p = 2) (ha : a &&& 65535 = a) (hb : b &&& 65535 = b) (hc : c &&& 65535 = c) : REL E0 X N (sI (sI (sI (sI (sI (sI (sI (sI S n 4 4 i) n 4 5 (w &&& 65534)) n 4 6 p) n 4 3 0) n 4 7 0) n 4 0 a) n 4 1 b) n 4 2 c) (sI (sI (sI (sI (sI (sI (sI (sI R 0 11 n p) 0 9 n i) 0 10 n (w &&& 65534)) 0 5 n a) 0 6 n b) 0 7 n c) 0 8 n 0) 0 12 n 0) := by
  have h1 := (((((((h.s_I hn (v := i) rfl hi).s_W hn (v := w &&& 65534) rfl (w14 w)).s_P hn (v := p) rfl hp).s_O hn (v := 0) rfl).s_L hn (v := 0) rfl).s_A hn (v := a) rfl ha).s_B hn (v := b) rfl hb).s_C hn (v := c) rfl hc
  simp (disch := omega) only [so6, so7, so8, so9, so10, so11, so12] at h1 ⊢
  exact h1
theorem cst0 (S : xS) (n : Nat) (a b c a' b' c' : Int32) : sI (sI (sI (sI (sI (sI S n 4 0 a') n 4 1 b') n 4 2 c') n 4 0 a) n 4 1 b) n 4 2 c = sI (sI (sI S n 4 0 a) n 4 1 b) n 4 2 c := by
  rw [sI_comm (sI (sI S n 4 0 a') n 4 1 b') c' a (by omega), sI_comm (sI S n 4 0 a') b' a (by omega), sI_idem]
  rw [sI_comm (sI (sI S n 4 0 a) n 4 1 b') c' b (by omega), sI_idem, sI_idem]
theorem p_obey_load {N : xN} {D : Nat} {s0 r0 s r S R : xS} (hl : LX D N s0 r0) (hx : REL E0 (XV s r) N S R) {n k : Nat} (hn : n < N.1) (hz : N.2 n) (hk : k < 4) (hF : freeL D s0 r0 n)
    (g1 : ∀ a b, ¬ (a = n ∧ b = 0) → xI s a b = xI s0 a b) (g2 : s.2 = s0.2) (g3 : ∀ j e, ¬ (e = n ∧ 53 ≤ j ∧ j ≤ 57) → xI r 0 j e = xI r0 0 j e)
    {c m : Nat} (hc2 : 2 ≤ c) (hc : c < 256) (hm : m < c)
    (b3 : xI s n 0 3 = 1) (b4 : xI s n 0 4 = nI k) (b5 : xI s n 0 5 = nI c) (b6 : xI s n 0 6 = nI m) (b7 : xI s n 0 7 = 0) (b8 : xI s n 0 8 = 0) (q0 : rb r n 0 = 1) (q1 : rb r n 1 = nI k) (q2 : rb r n 2 = nI c) (q3 : rb r n 3 = nI m) {v : Nat} (hv : v < 256) (o : Int32) (ho : o = xI r0 0 40 (4 * n + k)) :
    P2 (c6_obey n (12 + k) (sI (sI S n (16 + k) 6 (o + 1)) n (12 + k) 10 (-1)) (nI v)) ((r_byteTo (sI (sI (sI R 0 50 (4 * n + k) (-1)) 0 40 (4 * n + k) (o + 1)) 0 55 n (nI m + 1)) (nI n) ((32804 : Int32) + nI m) (nI v)).bind (fun S24 => (if (xI S24 0 55 n) = (xI S24 0 54 n) then ((r_begins S24 (nI n) (nI (4 * n + k))).bind (fun S26 => some S26)) else (some S24)))) (RN (D + 1) N n) := by
  have h8 : n < 8 := Nat.lt_of_lt_of_le hn hx.1
  have eo : xI s0 n (16 + k) 6 = o := by rw [ho]; exact (hF k hk (xI s n 0) (rb r n)).1.2.2.2.1
  have hi : idle R n := hx.2.1.1 n hn hz
  have hin := in_less (N := N) hn
  have r54 : xI R 0 54 n = nI c := by rw [hx.r_eq (by omega)]; exact q2
  have ne : ∀ d : Nat, d < 2 ^ 31 → c ≠ d → ¬ nI c = nI d := fun d hd h z => h ((nI_eq (by omega) hd).mp z)
  have h1 := ((((hx.less n).cv (n := n) (j := 16 + k) (k := 6) (by omega) (o + 1)).cv (n := n) (j := 12 + k) (k := 10) (by omega) (-1)).rv (j := 50) (k := 4 * n + k) (by omega) (-1)).rv (j := 40) (k := 4 * n + k) (by omega) (o + 1)
  have h2 := (h1.rv (j := 55) (k := n) (by omega) (nI (m + 1))).pb hin (a := 32804 + nI m) (v := nI v) rfl rfl
  have k5 : xI (sI (sI S n (16 + k) 6 (o + 1)) n (12 + k) 10 (-1)) n 0 5 = nI c := by
    rw [xI_ne _ _ (by omega), xI_ne _ _ (by omega), hx.c_eq (by omega), b5]
  have k6 : xI (sI (sI S n (16 + k) 6 (o + 1)) n (12 + k) 10 (-1)) n 0 6 = nI m := by
    rw [xI_ne _ _ (by omega), xI_ne _ _ (by omega), hx.c_eq (by omega), b6]
  have k4 : xI (sI (sI S n (16 + k) 6 (o + 1)) n (12 + k) 10 (-1)) n 0 4 = nI k := by
    rw [xI_ne _ _ (by omega), xI_ne _ _ (by omega), hx.c_eq (by omega), b4]
  have r55 : xI (rPb (sI (sI (sI R 0 50 (4 * n + k) (-1)) 0 40 (4 * n + k) (o + 1)) 0 55 n (nI (m + 1))) n (32804 + nI m) (nI v)) 0 55 n = nI (m + 1) := by
    rw [xI_rPb _ _ _ _ _ _ (by decide) (by decide), xI_eq]
  have r54' : xI (rPb (sI (sI (sI R 0 50 (4 * n + k) (-1)) 0 40 (4 * n + k) (o + 1)) 0 55 n (nI (m + 1))) n (32804 + nI m) (nI v)) 0 54 n = nI c := by
    rw [xI_rPb _ _ _ _ _ _ (by decide) (by decide), xI_ne _ _ (by omega), xI_ne _ _ (by omega), xI_ne _ _ (by omega), r54]
  have hidle : idle (rPb (sI (sI (sI R 0 50 (4 * n + k) (-1)) 0 40 (4 * n + k) (o + 1)) 0 55 n (nI (m + 1))) n (32804 + nI m) (nI v)) n := by
    refine idle_frm hi (fun j kk hj => ?_)
    rw [xI_rPb _ _ _ _ _ _ (by omega) (by omega), xI_ne _ _ (by omega), xI_ne _ _ (by omega), xI_ne _ _ (by omega)]
  unfold c6_obey
  rw [k5, nI_1, k6]
  refine P2.nl (ne_m1 (w16_nI (by omega))) (P2.nl (ne 0 (by decide) (by omega)) (P2.nl (ne 1 (by decide) (by omega)) ?_))
  refine P2.l (c5_setByte_n _ _ _ _) (P2.r (r_byteTo_n _ h8 _ _) ?_)
  have j5 : xI (cPb (sI (sI S n (16 + k) 6 (o + 1)) n (12 + k) 10 (-1)) n (32804 + nI m) (nI v)) n 0 5 = nI c := by rw [xI_cPb _ _ _ _ _ _ _ (by decide)]; exact k5
  have j6 : xI (cPb (sI (sI S n (16 + k) 6 (o + 1)) n (12 + k) 10 (-1)) n (32804 + nI m) (nI v)) n 0 6 = nI m := by rw [xI_cPb _ _ _ _ _ _ _ (by decide)]; exact k6
  have j4 : xI (cPb (sI (sI S n (16 + k) 6 (o + 1)) n (12 + k) 10 (-1)) n (32804 + nI m) (nI v)) n 0 4 = nI k := by rw [xI_cPb _ _ _ _ _ _ _ (by decide)]; exact k4
  clear k4 k5 k6 h1
  revert h2 j4 j5 j6 r55 r54' hidle
  generalize cPb (sI (sI S n (16 + k) 6 (o + 1)) n (12 + k) 10 (-1)) n (32804 + nI m) (nI v) = S1
  generalize rPb (sI (sI (sI R 0 50 (4 * n + k) (-1)) 0 40 (4 * n + k) (o + 1)) 0 55 n (nI (m + 1))) n (32804 + nI m) (nI v) = R1
  intro h1 r55 r54 hidle j5 j6 j4
  unfold c6_obey_b68 c6_obey_b124 c6_obey_b166
  rw [j6, nI_1, r55, r54]
  have h2 := h1.cv (n := n) (j := 0) (k := 6) (by omega) (nI (m + 1))
  have i5 : xI (sI S1 n 0 6 (nI (m + 1))) n 0 5 = nI c := by rw [xI_ne _ _ (by omega)]; exact j5
  have i4 : xI (sI S1 n 0 6 (nI (m + 1))) n 0 4 = nI k := by rw [xI_ne _ _ (by omega)]; exact j4
  have i6 : xI (sI S1 n 0 6 (nI (m + 1))) n 0 6 = nI (m + 1) := xI_eq _ _ _ _ _
  refine P2.xl ?_
  revert h2 i4 i5 i6
  generalize sI S1 n 0 6 (nI (m + 1)) = S2
  intro h2 i5 i4 i6
  rw [i5, i6]
  refine P2.nl (ne 0 (by decide) (by omega)) (P2.nl (ne 1 (by decide) (by omega)) (P2.nl (show ¬ nI c ≤ (1 : Int32) from nI_ge (a := 1) (by omega) (by omega)) ?_))
  by_cases e : m + 1 = c
  · have ee : nI (m + 1) = nI c := by rw [e]
    rw [if_pos ee, if_pos ee]
    have h3 := (h2.cv (n := n) (j := 0) (k := 3) (by omega) 0).rv (j := 52) (k := n) (by omega) 0
    have wk : (32776 : Int32) + 2 * nI k &&& 65535 = 32776 + 2 * nI k := by
      rw [show (32776 : Int32) = nI 32776 from rfl, show (2 : Int32) = nI 2 from rfl, pk_mul, nI_add]
      exact w16_nI (by omega)
    have h4 := h3.launch hin (i := 32804) (w := 32804 + nI c + 1) (p := 1) (a := 32768) (b := 32769) (c := 32776 + 2 * nI k) (by decide) (Or.inr (Or.inl rfl)) (by decide) (by decide) wk
    have hcl : (c6_launch n S2 (32804 : Int32) (((32804 : Int32) + nI c) + (1 : Int32)) (1 : Int32)).bind (fun S9 => (c9_setStack n 4 S9 (32768 : Int32) (32769 : Int32) ((32776 : Int32) + ((2 : Int32) * (xI S9 n 0 4)))).bind (fun S10 => some S10)) = some (sI (sI (sI (sI (sI (sI (sI (sI (sI S2 n 0 3 0) n 4 4 32804) n 4 5 ((32804 + nI c + 1) &&& 65534)) n 4 6 1) n 4 3 0) n 4 7 0) n 4 0 32768) n 4 1 32769) n 4 2 (32776 + 2 * nI k)) := by
      show some (sI (sI (sI (sI (sI (sI (sI (sI (sI (sI (sI (sI S2 n 0 3 0) n 4 4 32804) n 4 5 ((32804 + nI c + 1) &&& 65534)) n 4 6 1) n 4 3 0) n 4 7 0) n 4 0 0) n 4 1 0) n 4 2 0) n 4 0 32768) n 4 1 32769) n 4 2 (32776 + 2 * xI (sI (sI (sI (sI (sI (sI (sI (sI (sI S2 n 0 3 0) n 4 4 32804) n 4 5 ((32804 + nI c + 1) &&& 65534)) n 4 6 1) n 4 3 0) n 4 7 0) n 4 0 0) n 4 1 0) n 4 2 0) n 0 4)) = _
      simp (disch := omega) only [xI_ne]
      rw [i4, cst0]
    have hrm : jrem (nI (4 * n + k)) 4 = nI k := by
      unfold jrem
      rw [show (4 : Int32) = nI 4 from rfl, pk_rem (by omega) (by decide) (by decide)]
      congr 1
      omega
    have hrl : (r_begins R1 (nI n) (nI (4 * n + k))).bind (fun S26 => some S26) = some (sI (sI (sI (sI (sI (sI (sI (sI (sI R1 0 52 n 0) 0 11 n 1) 0 9 n 32804) 0 10 n ((32804 + nI c + 1) &&& 65534)) 0 5 n 32768) 0 6 n 32769) 0 7 n (32776 + 2 * nI k)) 0 8 n 0) 0 12 n 0) := by
      unfold r_begins
      simp only [gI h8, cl8 h8, nar0, hrm]
      have e54 : xI (sI (sI (sI R1 0 52 n 0) 0 11 n 1) 0 9 n 32804) 0 54 n = nI c := by
        rw [xI_ne _ _ (by omega), xI_ne _ _ (by omega), xI_ne _ _ (by omega), r54]
      show some (sI (sI (sI (sI (sI (sI (sI (sI (sI R1 0 52 n 0) 0 11 n 1) 0 9 n 32804) 0 10 n ((32804 + xI (sI (sI (sI R1 0 52 n 0) 0 11 n 1) 0 9 n 32804) 0 54 n + 1) &&& 65534)) 0 5 n 32768) 0 6 n 32769) 0 7 n (32776 + 2 * nI k)) 0 8 n 0) 0 12 n 0) = _
      rw [e54]
    rw [hcl, hrl]
    refine P2.ret ⟨goN N n, rfl, fun m z => z.1, fun z => z.2.2 rfl, (h4.reN (N' := goN N n) rfl (fun m _ z => ⟨z.1, z.2.1⟩)).un ?_⟩
    refine boot_close hl hx.1 rfl hn hk hF (fun m hm hne => gN_zz N h8 m (by have := hx.1; omega) hne) (fun a b hab => ?_) ?_ (fun i hi => ?_) ?_ (fun i hi => ?_) ?_ (fun j e he => ?_) ?_ ?_ ?_ ?_
    · simp (disch := omega) only [xI_fn_ne]
      exact g1 a b (by omega)
    · exact g2
    · simp (disch := omega) only [xI_ne]
      rw [g1 n (12 + k) (by omega)]
    · simp (disch := omega) only [xI_ne, xI_eq]
    · simp (disch := omega) only [xI_ne]
      rw [g1 n (16 + k) (by omega)]
    · simp (disch := omega) only [xI_ne, xI_eq]
      rw [eo]
    · by_cases c : e = n ∧ 52 ≤ j ∧ j ≤ 57
      · exact absurd (Or.inr ⟨c.1, by omega, c.2.2⟩) he
      · simp (disch := omega) only [xI_ne]
        exact g3 j e (by omega)
    · simp (disch := omega) only [xI_ne, xI_eq]
    · simp (disch := omega) only [xI_ne, xI_eq]
      rw [ho]
    · simp (disch := omega) only [rb, xI_eq]
      exact ⟨fun z => absurd rfl z.2.1, fun z => absurd z (by decide)⟩
    · refine ⟨?_, Or.inl ?_⟩
      · simp (disch := omega) only [rb, xI_eq]
      · simp (disch := omega) only [rb, xI_eq]
  · have ee : ¬ nI (m + 1) = nI c := fun z => e ((nI_eq (by omega) (by omega)).mp z)
    rw [if_neg ee, if_neg ee]
    refine P2.ret ?_
    refine ⟨strongN N n, rfl, fun m z => z.1, fun z => z.2 rfl, ((h2.back hidle).reN (N' := strongN N n) rfl (fun m _ z => z.1)).un ?_⟩
    refine boot_close hl hx.1 rfl hn hk hF (fun m hm hne => sN_zz N h8 m (by have := hx.1; omega) hne) (fun a b hab => ?_) ?_ (fun i hi => ?_) ?_ (fun i hi => ?_) ?_ (fun j e he => ?_) ?_ ?_ ?_ ?_
    · simp (disch := omega) only [xI_fn_ne]
      exact g1 a b (by omega)
    · exact g2
    · simp (disch := omega) only [xI_ne]
      rw [g1 n (12 + k) (by omega)]
    · simp (disch := omega) only [xI_ne, xI_eq]
    · simp (disch := omega) only [xI_ne]
      rw [g1 n (16 + k) (by omega)]
    · simp (disch := omega) only [xI_ne, xI_eq]
      rw [eo]
    · by_cases c : e = n ∧ 53 ≤ j ∧ j ≤ 57
      · exact absurd (Or.inr ⟨c.1, by omega, c.2.2⟩) he
      · simp (disch := omega) only [xI_ne]
        exact g3 j e c
    · simp (disch := omega) only [xI_ne, xI_eq]
    · simp (disch := omega) only [xI_ne, xI_eq]
      rw [ho]
    · simp (disch := omega) only [rb, xI_ne]
      exact ⟨fun _ => q0, fun _ => ⟨hz, by omega⟩⟩
    · refine ⟨?_, Or.inr ⟨?_, Or.inr (Or.inl ⟨k, c, m + 1, hk, hc, ?_, ?_, ?_, ?_, ?_, ?_, ?_, Or.inl ⟨hc2, by omega, ?_⟩⟩)⟩⟩
      · simp (disch := omega) only [rb, xI_ne]; exact b3.trans q0.symm
      · simp (disch := omega) only [rb, xI_ne]; exact q0
      · simp (disch := omega) only [xI_ne]; exact b4
      · simp (disch := omega) only [rb, xI_ne]; exact q1
      · simp (disch := omega) only [xI_ne]; exact b8
      · simp (disch := omega) only [xI_ne]; exact b5
      · simp (disch := omega) only [rb, xI_ne]; exact q2
      · simp (disch := omega) only [xI_ne, xI_eq]
      · simp (disch := omega) only [rb, xI_ne, xI_eq]
      · simp (disch := omega) only [xI_ne]; exact b7
