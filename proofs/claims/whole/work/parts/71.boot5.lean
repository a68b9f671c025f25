/-! booting: PEEK -/
/-- the answer to a PEEK begins -/
theorem boot_peek {N : xN} {D : Nat} {s r s' r' : xS} (hl : LX D N s r) (hN : N.1 ≤ 8) {n k : Nat} (hn : n < N.1) (hz0 : N.2 n) (hk : k < 4) (hF : freeL D s r n) {x : Nat} (hx : x < 65536) (h45 : xI r 0 45 (4 * n + k) = 0) (h44 : xI r 0 44 (4 * n + k) = -1) (f1 : ∀ a b, ¬ (a = n ∧ (b = 0 ∨ b = 12 + k ∨ b = 16 + k)) → xI s' a b = xI s a b) (f2 : s'.2 = s.2) (fl : ∀ i, i ≠ 10 → i ≠ 5 → i ≠ 3 → xI s' n (12 + k) i = xI s n (12 + k) i) (fl10 : xI s' n (12 + k) 10 = -1) (fl5 : xI s' n (12 + k) 5 = nI x) (fl3 : xI s' n (12 + k) 3 = 2) (fe : ∀ i, i ≠ 6 → xI s' n (16 + k) i = xI s n (16 + k) i) (fe6 : xI s' n (16 + k) 6 = xI s n (16 + k) 6 + 1) (f3 : ∀ j e, ¬ ((e = 4 * n + k ∧ (j = 40 ∨ j = 50 ∨ j = 43 ∨ j = 45 ∨ j = 46)) ∨ (e = n ∧ 52 ≤ j ∧ j ≤ 57)) → xI r' 0 j e = xI r 0 j e) (f50 : xI r' 0 50 (4 * n + k) = -1) (f40 : xI r' 0 40 (4 * n + k) = xI r 0 40 (4 * n + k) + 1) (f43 : xI r' 0 43 (4 * n + k) = 1) (f45 : xI r' 0 45 (4 * n + k) = 2) (f46 : xI r' 0 46 (4 * n + k) = nI x) (q0 : rb r' n 0 = 1) (b3 : xI s' n 0 3 = 1) (b4 : xI s' n 0 4 = nI k) (b5 : xI s' n 0 5 = 1) (b8 : xI s' n 0 8 = 1) (q1 : rb r' n 1 = nI k) (q2 : rb r' n 2 = 1) : LX (D + 1) (strongN N n) s' r' := by
  have h8 : n < 8 := Nat.lt_of_lt_of_le hn hN
  refine hl.node2 (N' := strongN N n) (Nat.le_succ D) hN rfl hn (fun m hm hne => sN_zz N h8 m (by omega) hne) (fun a b hab => f1 a b (by omega)) f2 (fun j e he => f3 j e (by omega)) (fun k' hk' => ?_) ⟨fun _ => q0, fun _ => ⟨hz0, by omega⟩⟩ (fun k' hk' => ?_) ?_
  · by_cases e : k' = k
    · subst e; exact fe 1 (by decide)
    · rw [f1 n (16 + k') (by omega)]
  · by_cases e : k' = k
    · subst e
      obtain ⟨o1, ⟨o2, o3, o4, o5, o6, o7⟩, o8, o9, o10, o11, o12, o13⟩ := hF k' hk (xI s' n 0) (rb r' n)
      have er : ∀ i, i ≠ 7 → i ≠ 17 → i ≠ 10 → i ≠ 12 → i ≠ 13 → i ≤ 18 → rr r' (4 * n + k') i = rr r (4 * n + k') i := fun i h1 h2 h3 h4 h5 h6 => f3 _ _ (by omega)
      refine ⟨?_, ⟨?_, ?_, ?_, ?_, ?_, ?_⟩, ?_, ?_, ?_, ?_, ?_, ?_⟩
      · refine o1.c6 ⟨fe 2 (by decide), fe 3 (by decide), fe 4 (by decide), fe 5 (by decide), fe 7 (by decide), fe 8 (by decide), fe 9 (by decide)⟩ ⟨er 1 (by decide) (by decide) (by decide) (by decide) (by decide) (by decide), er 2 (by decide) (by decide) (by decide) (by decide) (by decide) (by decide), er 3 (by decide) (by decide) (by decide) (by decide) (by decide) (by decide), er 4 (by decide) (by decide) (by decide) (by decide) (by decide) (by decide), er 5 (by decide) (by decide) (by decide) (by decide) (by decide) (by decide), er 6 (by decide) (by decide) (by decide) (by decide) (by decide) (by decide), er 8 (by decide) (by decide) (by decide) (by decide) (by decide) (by decide)⟩ ?_ ?_
        · rw [fe6, show rr r' (4 * n + k') 7 = xI r 0 40 (4 * n + k') + 1 from f40, show xI s n (16 + k') 6 = xI r 0 40 (4 * n + k') from o1.2.2.2.1]
        · obtain ⟨d, hd, ed⟩ := o1.bd
          exact ⟨d + 1, by omega, by rw [show rr r' (4 * n + k') 7 = xI r 0 40 (4 * n + k') + 1 from f40]; exact (congrArg (· + 1) ed).trans (nI_1 d)⟩
      · rw [fl 2 (by decide) (by decide) (by decide), er 11 (by decide) (by decide) (by decide) (by decide) (by decide) (by decide)]; exact o2
      · rw [fl3]; exact f45.symm
      · rw [fl 7 (by decide) (by decide) (by decide), er 14 (by decide) (by decide) (by decide) (by decide) (by decide) (by decide)]; exact o4
      · rw [fl 8 (by decide) (by decide) (by decide), er 15 (by decide) (by decide) (by decide) (by decide) (by decide) (by decide)]; exact o5
      · rw [fl10]; exact f50.symm
      · rw [fl 11 (by decide) (by decide) (by decide), er 18 (by decide) (by decide) (by decide) (by decide) (by decide) (by decide)]; exact o7
      · rw [fl 6 (by decide) (by decide) (by decide), er 8 (by decide) (by decide) (by decide) (by decide) (by decide) (by decide), er 9 (by decide) (by decide) (by decide) (by decide) (by decide) (by decide)]; exact o8
      · exact Or.inl f50
      · rw [er 18 (by decide) (by decide) (by decide) (by decide) (by decide) (by decide)]; exact o10
      · exact o11.c (fl 9 (by decide) (by decide) (by decide)) ⟨er 14 (by decide) (by decide) (by decide) (by decide) (by decide) (by decide), er 15 (by decide) (by decide) (by decide) (by decide) (by decide) (by decide), er 16 (by decide) (by decide) (by decide) (by decide) (by decide) (by decide)⟩
      · refine Or.inr (Or.inr ⟨?_, f43, ⟨x, hx, f46, Or.inl ⟨f45, fl5⟩⟩, q0, b4, b5, b8, q1, q2⟩)
        rw [er 11 (by decide) (by decide) (by decide) (by decide) (by decide) (by decide)]
        exact h44
      · rw [er 14 (by decide) (by decide) (by decide) (by decide) (by decide) (by decide), er 18 (by decide) (by decide) (by decide) (by decide) (by decide) (by decide)]; exact o13
    · rw [f1 n (12 + k') (by omega), f1 n (16 + k') (by omega)]
      have h1 := (hF k' hk' (xI s' n 0) (rb r' n)).cr (r' := rr r' (4 * n + k')) (fun i hi => f3 _ _ (by omega))
      exact ⟨h1.1.mono (Nat.le_succ D), h1.2⟩
  · refine ⟨b3.trans q0.symm, Or.inr ⟨q0, Or.inr (Or.inr ⟨k, hk, b4, b5, b8, Or.inl ⟨q1, q2, ?_⟩⟩)⟩⟩
    show ¬ xI s' n (12 + k) 3 = 0
    rw [fl3]
    decide
theorem p_obey_peek {N : xN} {D : Nat} {s0 r0 s r S R : xS} (hl : LX D N s0 r0) (hx : REL E0 (XV s r) N S R) {n k : Nat} (hn : n < N.1) (hz : N.2 n) (hk : k < 4) (hF : freeL D s0 r0 n)
    (g1 : ∀ a b, ¬ (a = n ∧ b = 0) → xI s a b = xI s0 a b) (g2 : s.2 = s0.2) (g3 : ∀ j e, ¬ (e = n ∧ 53 ≤ j ∧ j ≤ 57) → xI r 0 j e = xI r0 0 j e)
    {m : Nat} (hm2 : m < 2) (b3 : xI s n 0 3 = 1) (b4 : xI s n 0 4 = nI k) (b5 : xI s n 0 5 = 1) (b6 : xI s n 0 6 = nI m) (b8 : xI s n 0 8 = 0) (q0 : rb r n 0 = 1) (q1 : rb r n 1 = nI k) (q2 : rb r n 2 = 1) (q3 : rb r n 3 = nI m) (hg : GAp (xI s n 0) (rb r n) m) {v : Nat} (hv : v < 256) (o : Int32) (ho : o = xI r0 0 40 (4 * n + k)) :
    P2 (c6_obey n (12 + k) (sI (sI S n (16 + k) 6 (o + 1)) n (12 + k) 10 (-1)) (nI v)) (r_boot_b252 (nI n) (nI (4 * n + k)) (nI m) (rGa (sI (sI (sI R 0 50 (4 * n + k) (-1)) 0 40 (4 * n + k) (o + 1)) 0 55 n (nI m + 1)) n m (nI v))) (RN (D + 1) N n) := by
  have h8 : n < 8 := Nat.lt_of_lt_of_le hn hx.1
  have hm : m < 4 := by omega
  have eo : xI s0 n (16 + k) 6 = o := by rw [ho]; exact (hF k hk (xI s n 0) (rb r n)).1.2.2.2.1
  have hi : idle R n := hx.2.1.1 n hn hz
  have hin := in_less (N := N) hn
  obtain ⟨a, w, ha, hw, ha6, hw6, e7, e45⟩ := ga_step hm hv hg
  have h1 := (((((hx.less n).cv (n := n) (j := 16 + k) (k := 6) (by omega) (o + 1)).cv (n := n) (j := 12 + k) (k := 10) (by omega) (-1)).rv (j := 50) (k := 4 * n + k) (by omega) (-1)).rv (j := 40) (k := 4 * n + k) (by omega) (o + 1)).rv (j := 55) (k := n) (by omega) (nI (m + 1))
  have h2 := ((h1.rga n m (nI v)).cv (n := n) (j := 0) (k := 7) (by omega) (nI (a + 65536 * w))).cv (n := n) (j := 0) (k := 6) (by omega) (nI (m + 1))
  have k5 : xI (sI (sI S n (16 + k) 6 (o + 1)) n (12 + k) 10 (-1)) n 0 5 = 1 := by
    rw [xI_ne _ _ (by omega), xI_ne _ _ (by omega), hx.c_eq (by omega), b5]
  have k6 : xI (sI (sI S n (16 + k) 6 (o + 1)) n (12 + k) 10 (-1)) n 0 6 = nI m := by
    rw [xI_ne _ _ (by omega), xI_ne _ _ (by omega), hx.c_eq (by omega), b6]
  have k7 : xI (sI (sI S n (16 + k) 6 (o + 1)) n (12 + k) 10 (-1)) n 0 7 ||| (nI v <<< ((8 : Int32) * nI m &&& 31)) = nI (a + 65536 * w) := by
    rw [xI_ne _ _ (by omega), xI_ne _ _ (by omega), hx.c_eq (by omega)]
    exact e7
  have qq := rGa_q (r := sI (sI (sI r 0 50 (4 * n + k) (-1)) 0 40 (4 * n + k) (o + 1)) 0 55 n (nI (m + 1))) (n := n) (m := m) (v := v) (a := a) (w := w) (by
    simp (disch := omega) only [xI_ne]
    exact e45)
  have hidle : idle (rGa (sI (sI (sI R 0 50 (4 * n + k) (-1)) 0 40 (4 * n + k) (o + 1)) 0 55 n (nI (m + 1))) n m (nI v)) n := by
    refine idle_frm hi (fun j kk hj => ?_)
    rw [xI_rGa _ _ _ _ (by omega), xI_ne _ _ (by omega), xI_ne _ _ (by omega), xI_ne _ _ (by omega)]
  have r54 : xI (rGa (sI (sI (sI R 0 50 (4 * n + k) (-1)) 0 40 (4 * n + k) (o + 1)) 0 55 n (nI (m + 1))) n m (nI v)) 0 54 n = 1 := by
    rw [xI_rGa _ _ _ _ (by omega), xI_ne _ _ (by omega), xI_ne _ _ (by omega), xI_ne _ _ (by omega), hx.r_eq (by omega)]
    exact q2
  unfold c6_obey
  rw [k5, nI_1]
  refine P2.nl (by decide) (P2.nl n10 (P2.pl rfl ?_))
  unfold c6_obey_b29
  rw [k6, k7]
  refine P2.xl ?_
  unfold c6_obey_b68
  have j6 : xI (sI (sI (sI S n (16 + k) 6 (o + 1)) n (12 + k) 10 (-1)) n 0 7 (nI (a + 65536 * w))) n 0 6 = nI m := by rw [xI_ne _ _ (by omega)]; exact k6
  rw [j6, nI_1]
  refine P2.xl ?_
  have i5 : xI (sI (sI (sI (sI S n (16 + k) 6 (o + 1)) n (12 + k) 10 (-1)) n 0 7 (nI (a + 65536 * w))) n 0 6 (nI (m + 1))) n 0 5 = 1 := by rw [xI_ne _ _ (by omega), xI_ne _ _ (by omega)]; exact k5
  have i6 : xI (sI (sI (sI (sI S n (16 + k) 6 (o + 1)) n (12 + k) 10 (-1)) n 0 7 (nI (a + 65536 * w))) n 0 6 (nI (m + 1))) n 0 6 = nI (m + 1) := xI_eq _ _ _ _ _
  have i7 : xI (sI (sI (sI (sI S n (16 + k) 6 (o + 1)) n (12 + k) 10 (-1)) n 0 7 (nI (a + 65536 * w))) n 0 6 (nI (m + 1))) n 0 7 = nI (a + 65536 * w) := by rw [xI_ne _ _ (by omega), xI_eq]
  have f3 : ∀ j e, ¬ ((e = 4 * n + k ∧ (j = 40 ∨ j = 50)) ∨ (e = n ∧ 52 ≤ j ∧ j ≤ 57)) → xI (rGa (sI (sI (sI r 0 50 (4 * n + k) (-1)) 0 40 (4 * n + k) (o + 1)) 0 55 n (nI (m + 1))) n m (nI v)) 0 j e = xI r0 0 j e := by
    intro j e he
    rw [xI_rGa _ _ _ _ (by omega), xI_ne _ _ (by omega), xI_ne _ _ (by omega), xI_ne _ _ (by omega)]
    exact g3 j e (by omega)
  have q56 : xI (rGa (sI (sI (sI r 0 50 (4 * n + k) (-1)) 0 40 (4 * n + k) (o + 1)) 0 55 n (nI (m + 1))) n m (nI v)) 0 56 n = nI a := qq.1
  have f50 : xI (rGa (sI (sI (sI r 0 50 (4 * n + k) (-1)) 0 40 (4 * n + k) (o + 1)) 0 55 n (nI (m + 1))) n m (nI v)) 0 50 (4 * n + k) = -1 := by
    rw [xI_rGa _ _ _ _ (by omega), xI_ne _ _ (by omega), xI_ne _ _ (by omega), xI_eq]
  have f40 : xI (rGa (sI (sI (sI r 0 50 (4 * n + k) (-1)) 0 40 (4 * n + k) (o + 1)) 0 55 n (nI (m + 1))) n m (nI v)) 0 40 (4 * n + k) = o + 1 := by
    rw [xI_rGa _ _ _ _ (by omega), xI_ne _ _ (by omega), xI_eq]
  have f52 : xI (rGa (sI (sI (sI r 0 50 (4 * n + k) (-1)) 0 40 (4 * n + k) (o + 1)) 0 55 n (nI (m + 1))) n m (nI v)) 0 52 n = 1 := by
    rw [xI_rGa _ _ _ _ (by omega), xI_ne _ _ (by omega), xI_ne _ _ (by omega), xI_ne _ _ (by omega)]; exact q0
  have f53 : xI (rGa (sI (sI (sI r 0 50 (4 * n + k) (-1)) 0 40 (4 * n + k) (o + 1)) 0 55 n (nI (m + 1))) n m (nI v)) 0 53 n = nI k := by
    rw [xI_rGa _ _ _ _ (by omega), xI_ne _ _ (by omega), xI_ne _ _ (by omega), xI_ne _ _ (by omega)]; exact q1
  have f54 : xI (rGa (sI (sI (sI r 0 50 (4 * n + k) (-1)) 0 40 (4 * n + k) (o + 1)) 0 55 n (nI (m + 1))) n m (nI v)) 0 54 n = 1 := by
    rw [xI_rGa _ _ _ _ (by omega), xI_ne _ _ (by omega), xI_ne _ _ (by omega), xI_ne _ _ (by omega)]; exact q2
  have f55 : xI (rGa (sI (sI (sI r 0 50 (4 * n + k) (-1)) 0 40 (4 * n + k) (o + 1)) 0 55 n (nI (m + 1))) n m (nI v)) 0 55 n = nI (m + 1) := by
    rw [xI_rGa _ _ _ _ (by omega), xI_eq]
  have q57 := qq.2
  clear k5 k6 k7 j6 h1 qq
  revert h2 hidle r54 i5 i6 i7 f3 q56 f50 f40 f52 f53 f54 f55 q57
  generalize sI (sI (sI (sI S n (16 + k) 6 (o + 1)) n (12 + k) 10 (-1)) n 0 7 (nI (a + 65536 * w))) n 0 6 (nI (m + 1)) = S2
  generalize rGa (sI (sI (sI R 0 50 (4 * n + k) (-1)) 0 40 (4 * n + k) (o + 1)) 0 55 n (nI (m + 1))) n m (nI v) = R2
  generalize rGa (sI (sI (sI r 0 50 (4 * n + k) (-1)) 0 40 (4 * n + k) (o + 1)) 0 55 n (nI (m + 1))) n m (nI v) = r2
  intro h2 hidle r54 i5 i6 i7 f3 q56 f50 f40 f52 f53 f54 f55 q57
  unfold r_boot_b252 r_boot_b298 c6_obey_b124
  simp only [gI h8, cl8 h8]
  rw [i5, i6, r54]
  refine P2.nl n10 (P2.pl rfl (P2.nr n10 (P2.pr rfl ?_)))
  by_cases m1 : m = 1
  · subst m1
    refine P2.pl rfl (P2.pr rfl ?_)
    have w0 : w = 0 := by
      have hw : w < 1 := hw
      omega
    subst w0
    rw [Nat.mul_zero, Nat.add_zero] at i7
    rw [i7]
    have he33 : 4 * n + k ≤ 32 := by omega
    simp only [g33x he33, nI_clamp (show 4 * n + k < 2 ^ 31 by omega), nar1]
    have r56 : xI (sI R2 0 43 (4 * n + k) 1) 0 56 n = nI a := by rw [xI_ne _ _ (by omega), h2.r_eq (by omega)]; exact q56
    refine P2.l (c5_wordAt_n _ _ _) (P2.xr ?_)
    rw [r56]
    refine P2.r (r_word_n _ h8 _) (P2.xr (P2.xr ?_))
    have h3 := h2.rv (j := 43) (k := 4 * n + k) (by omega) 1
    rw [h3.gw hin rfl]
    obtain ⟨x, hx6, ex⟩ := w16_nat (w16_rGw (sI R2 0 43 (4 * n + k) 1) n (nI a))
    rw [ex]
    have h4 := (((((h3.tw hin (a := nI a) rfl).cv (n := n) (j := 12 + k) (k := 5) (by omega) (nI x)).cv (n := n) (j := 12 + k) (k := 3) (by omega) 2).cv (n := n) (j := 0) (k := 8) (by omega) 1).rv (j := 46) (k := 4 * n + k) (by omega) (nI x)).rv (j := 45) (k := 4 * n + k) (by omega) 2
    refine P2.l rfl (P2.xl (P2.ret ?_))
    have hid3 : idle (sI (sI (rUw (sI R2 0 43 (4 * n + k) 1) n (nI a)) 0 46 (4 * n + k) (nI x)) 0 45 (4 * n + k) 2) n := by
      refine idle_frm hidle (fun j kk hj => ?_)
      rw [xI_ne _ _ (by omega), xI_ne _ _ (by omega), xI_rUw _ _ _ _ _ (by omega), xI_ne _ _ (by omega)]
    have hidl := (hF k hk (xI s n 0) (rb r n)).2.2.2.2.2.2.1
    have hou := (hF k hk (fun _ => 0) (fun _ => 1)).2.2.2.2.2.2.1
    have hou2 : xI r0 0 44 (4 * n + k) = -1 ∧ xI r0 0 45 (4 * n + k) = 0 := by
      rcases hou with z | z | z
      · exact ⟨z.1, z.2.1⟩
      · exact absurd z.2.2.2.2.2 (by decide)
      · exact absurd z.2.2.2.2.2.1 (by decide)
    refine ⟨strongN N n, rfl, fun m z => z.1, fun z => z.2 rfl, ((h4.back hid3).reN (N' := strongN N n) rfl (fun m _ z => z.1)).un ?_⟩
    refine boot_peek hl hx.1 hn hz hk hF hx6 hou2.2 hou2.1 (fun a b hab => ?_) ?_ (fun i hi h2 h3 => ?_) ?_ ?_ ?_ (fun i hi => ?_) ?_ (fun j e he => ?_) ?_ ?_ ?_ ?_ ?_ ?_ ?_ ?_ ?_ ?_ ?_ ?_
    · simp (disch := omega) only [xI_fn_ne]
      exact g1 a b (by omega)
    · exact g2
    · simp (disch := omega) only [xI_ne]
      rw [g1 n (12 + k) (by omega)]
    · simp (disch := omega) only [xI_ne, xI_eq]
    · simp (disch := omega) only [xI_ne, xI_eq]
    · simp (disch := omega) only [xI_ne, xI_eq]
    · simp (disch := omega) only [xI_ne]
      rw [g1 n (16 + k) (by omega)]
    · simp (disch := omega) only [xI_ne, xI_eq]
      rw [eo]
    · simp (disch := omega) only [xI_ne]
      exact f3 j e (by omega)
    · simp (disch := omega) only [xI_ne]; exact f50
    · simp (disch := omega) only [xI_ne]
      rw [f40, ho]
    · simp (disch := omega) only [xI_ne, xI_eq]
    · simp (disch := omega) only [xI_ne, xI_eq]
    · simp (disch := omega) only [xI_ne, xI_eq]
    · simp (disch := omega) only [rb, xI_ne]; exact f52
    · simp (disch := omega) only [xI_ne]; exact b3
    · simp (disch := omega) only [xI_ne]; exact b4
    · simp (disch := omega) only [xI_ne]; exact b5
    · simp (disch := omega) only [xI_ne, xI_eq]
    · simp (disch := omega) only [rb, xI_ne]; exact f53
    · simp (disch := omega) only [rb, xI_ne]; exact f54
  · have n4 : ¬ nI (m + 1) = (2 : Int32) := fun z => absurd ((nI_eq (b := 2) (by omega) (by decide)).mp z) (by omega)
    have n3 : ¬ nI m = (1 : Int32) := fun z => absurd ((nI_eq (b := 1) (by omega) (by decide)).mp z) m1
    refine P2.nl n4 (P2.nr n3 ?_)
    unfold c6_obey_b166
    rw [i5]
    refine P2.pl (by decide) (P2.ret ?_)
    refine ⟨strongN N n, rfl, fun m z => z.1, fun z => z.2 rfl, ((h2.back hidle).reN (N' := strongN N n) rfl (fun m _ z => z.1)).un ?_⟩
    refine boot_close hl hx.1 rfl hn hk hF (fun m hm hne => sN_zz N h8 m (by have := hx.1; omega) hne) (fun a b hab => ?_) ?_ (fun i hi => ?_) ?_ (fun i hi => ?_) ?_ f3 f50 ?_ ?_ ?_
    · simp (disch := omega) only [xI_fn_ne]
      exact g1 a b (by omega)
    · exact g2
    · simp (disch := omega) only [xI_ne]
      rw [g1 n (12 + k) (by omega)]
    · simp (disch := omega) only [xI_ne, xI_eq]
    · simp (disch := omega) only [xI_ne]
      rw [g1 n (16 + k) (by omega)]
    · simp (disch := omega) only [xI_ne, xI_eq]
      rw [eo]
    · rw [f40, ho]
    · exact ⟨fun _ => f52, fun _ => ⟨hz, by omega⟩⟩
    · refine ⟨?_, Or.inr ⟨f52, Or.inr (Or.inl ⟨k, 1, m + 1, hk, by decide, ?_, f53, ?_, ?_, f54, ?_, f55, Or.inr (Or.inr ⟨rfl, by omega, a, w, ha, hw, q56, q57, ?_⟩)⟩)⟩⟩
      · simp (disch := omega) only [xI_ne]; exact b3.trans f52.symm
      · simp (disch := omega) only [xI_ne]; exact b4
      · simp (disch := omega) only [xI_ne]; exact b8
      · simp (disch := omega) only [xI_ne]; exact b5
      · simp (disch := omega) only [xI_ne, xI_eq]
      · simp (disch := omega) only [xI_ne, xI_eq]
