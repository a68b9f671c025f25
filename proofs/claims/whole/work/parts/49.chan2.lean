/-! input from a link -/
theorem add1_16 (a : Int32) : (a + 1) &&& 65535 = ((a &&& 65535) + 1) &&& 65535 := m16_add (w16 a).symm rfl
theorem cPb_adr (S : xS) (n : Nat) {a b : Int32} (v : Int32) (h : a &&& 65535 = b &&& 65535) : cPb S n a v = cPb S n b v := by
  unfold cPb
  rw [(m16_iff a b).mp h]
theorem c4_beginReceiving_n (n j : Nat) (S : xS) (a b c : Int32) : c4_beginReceiving n j S a b c = some (sI (sI (sI S n j 7 a) n j 8 b) n j 9 c) := rfl
theorem c4_releaseKept_n (n j : Nat) (S : xS) : c4_releaseKept n j S = some (xI S n j 10, sI S n j 10 (-1)) := rfl
/-- what a byte leaves that is given to one who waits -/
def cDel (S : xS) (n k : Nat) (p v o c : Int32) : xS := sI (sI (sI (cPb S n p v) n (16 + k) 6 (o + 1)) n (12 + k) 9 (p + 1)) n (12 + k) 8 (c - 1)
theorem c4_deliver_n (n k : Nat) (S : xS) (v : Int32) : c4_deliver n (12 + k) S v = if xI S n (12 + k) 8 - 1 = 0 then some (sI (cDel S n k (xI S n (12 + k) 9) v (xI S n (16 + k) 6) (xI S n (12 + k) 8)) n (12 + k) 7 (-1)) else some (cDel S n k (xI S n (12 + k) 9) v (xI S n (16 + k) 6) (xI S n (12 + k) 8)) := by
  unfold c4_deliver cDel
  rw [c5_setByte_n, Option.bind_some, show 12 + k + 4 = 16 + k by omega]
  simp only [xnm]
  simp (disch := omega) only [xI_ne, xI_eq, xI_cPb]
/-- the new state of a link whose input was given to a process -/
theorem lk_in1 {N : xN} {D : Nat} {s r : xS} (hl : LX D N s r) (hN : N.1 ≤ 8) {n k : Nat} (hn : inN n N) (hk : k < 4) {ow cnt pl : Int32} (ho : ow &&& 65535 = ow) {m : Nat} (hm1 : 1 ≤ m) (hm2 : m ≤ 4096) (em : cnt = nI m) (hw : pl &&& 65535 = pl) : LX D N (sI (sI (sI s n (12 + k) 7 ow) n (12 + k) 8 cnt) n (12 + k) 9 pl) (sI (sI (sI r 0 47 (4 * n + k) ow) 0 48 (4 * n + k) cnt) 0 49 (4 * n + k) pl) := by
  have nk := hl.1 n hn.1
  have q0 := nk.q0 hn.2
  obtain ⟨o1, ⟨o2, o3, o4, o5, o6, o7⟩, o8, o9, o10, o11, o12, o13⟩ := nk.2.1 k hk
  refine hl.link (Nat.le_refl D) hn.1 hk (fun a b hab => ?_) rfl (fun j e he => ?_) ?_ hN ⟨?_, ⟨?_, ?_, ?_, ?_, ?_, ?_⟩, ?_, ?_, ?_, ?_, ?_, ?_⟩ (Or.inr q0)
  · rw [xI_fn_ne _ _ (by omega), xI_fn_ne _ _ (by omega), xI_fn_ne _ _ (by omega)]
  · simp (disch := omega) only [xI_ne]
  · simp (disch := omega) only [xI_ne]
  · refine o1.c7 ?_ ?_ <;> simp (disch := omega) only [rr, xI_ne, xI_eq, and_self]
  · simp (disch := omega) only [rr, xI_ne, xI_eq]; exact o2
  · simp (disch := omega) only [rr, xI_ne, xI_eq]; exact o3
  · simp (disch := omega) only [rr, xI_ne, xI_eq]
  · simp (disch := omega) only [rr, xI_ne, xI_eq]
  · simp (disch := omega) only [rr, xI_ne, xI_eq]; exact o6
  · simp (disch := omega) only [rr, xI_ne, xI_eq]; exact o7
  · simp (disch := omega) only [rr, xI_ne, xI_eq]; exact o8
  · simp (disch := omega) only [rr, xI_ne, xI_eq]; exact o9
  · simp (disch := omega) only [rr, xI_ne, xI_eq]; exact o10
  · refine Or.inr ?_
    simp (disch := omega) only [rr, xI_ne, xI_eq]
    exact ⟨ho, ⟨m, hm1, hm2, em⟩, hw⟩
  · refine o12.c ?_ ?_ <;> simp (disch := omega) only [rr, xI_ne, xI_eq, and_self]
  · intro z
    exact absurd z (by rw [q0]; decide)
/-- .. and one byte was kept already: it is all that is asked for -/
theorem lk_in2 {N : xN} {D : Nat} {s r : xS} (hl : LX D N s r) (hN : N.1 ≤ 8) {n k : Nat} (hn : inN n N) (hk : k < 4) (ow pl : Int32) (c1 : xI r 0 47 (4 * n + k) = -1) {o : Int32} (eo : o = xI r 0 40 (4 * n + k)) : LX (D + 1) N (sI (sI (sI (sI (sI (sI (sI (sI s n (12 + k) 7 ow) n (12 + k) 8 1) n (12 + k) 9 pl) n (12 + k) 10 (-1)) n (16 + k) 6 (o + 1)) n (12 + k) 9 (pl + 1)) n (12 + k) 8 0) n (12 + k) 7 (-1)) (sI (sI r 0 50 (4 * n + k) (-1)) 0 40 (4 * n + k) (o + 1)) := by
  have nk := hl.1 n hn.1
  have q0 := nk.q0 hn.2
  obtain ⟨o1, ⟨o2, o3, o4, o5, o6, o7⟩, o8, o9, o10, o11, o12, o13⟩ := nk.2.1 k hk
  have c15 : xI r 0 48 (4 * n + k) = 0 := by
    rcases o11 with z | z
    · exact z.2
    · exact absurd c1 (ne_m1 z.1)
  refine hl.link (Nat.le_succ D) hn.1 hk (fun a b hab => ?_) rfl (fun j e he => ?_) ?_ hN ⟨?_, ⟨?_, ?_, ?_, ?_, ?_, ?_⟩, ?_, ?_, ?_, ?_, ?_, ?_⟩ (Or.inr q0)
  · rw [xI_fn_ne _ _ (by omega), xI_fn_ne _ _ (by omega), xI_fn_ne _ _ (by omega), xI_fn_ne _ _ (by omega), xI_fn_ne _ _ (by omega), xI_fn_ne _ _ (by omega), xI_fn_ne _ _ (by omega), xI_fn_ne _ _ (by omega)]
  · simp (disch := omega) only [xI_ne]
  · simp (disch := omega) only [xI_ne]
  · refine o1.c6 ?_ ?_ ?_ ?_ <;> simp (disch := omega) only [rr, xI_ne, xI_eq, and_self]
    obtain ⟨d, hd, ed⟩ := o1.bd
    exact ⟨d + 1, by omega, by rw [eo]; exact (congrArg (· + 1) ed).trans (nI_1 d)⟩
  · simp (disch := omega) only [rr, xI_ne, xI_eq]; exact o2
  · simp (disch := omega) only [rr, xI_ne, xI_eq]; exact o3
  · simp (disch := omega) only [rr, xI_ne, xI_eq]; exact c1.symm
  · simp (disch := omega) only [rr, xI_ne, xI_eq]; exact c15.symm
  · simp (disch := omega) only [rr, xI_ne, xI_eq]
  · simp (disch := omega) only [rr, xI_ne, xI_eq]; exact o7
  · simp (disch := omega) only [rr, xI_ne, xI_eq]; exact o8
  · refine Or.inl ?_
    simp (disch := omega) only [rr, xI_ne, xI_eq]
  · simp (disch := omega) only [rr, xI_ne, xI_eq]; exact o10
  · refine Or.inl ?_
    simp (disch := omega) only [rr, xI_ne, xI_eq]
    exact ⟨c1, c15⟩
  · refine o12.c ?_ ?_ <;> simp (disch := omega) only [rr, xI_ne, xI_eq, and_self]
  · intro z
    exact absurd z (by rw [q0]; decide)
/-- .. and more is asked for -/
theorem lk_in3 {N : xN} {D : Nat} {s r : xS} (hl : LX D N s r) (hN : N.1 ≤ 8) {n k : Nat} (hn : inN n N) (hk : k < 4) {ow cnt cnt' pl : Int32} (ho : ow &&& 65535 = ow) {m : Nat} (hm1 : 1 ≤ m) (hm2 : m ≤ 4096) (em : cnt' = nI m) {o : Int32} (eo : o = xI r 0 40 (4 * n + k)) : LX (D + 1) N (sI (sI (sI (sI (sI (sI (sI s n (12 + k) 7 ow) n (12 + k) 8 cnt) n (12 + k) 9 pl) n (12 + k) 10 (-1)) n (16 + k) 6 (o + 1)) n (12 + k) 9 (pl + 1)) n (12 + k) 8 cnt') (sI (sI (sI (sI (sI r 0 50 (4 * n + k) (-1)) 0 40 (4 * n + k) (o + 1)) 0 47 (4 * n + k) ow) 0 48 (4 * n + k) cnt') 0 49 (4 * n + k) ((pl + 1) &&& 65535)) := by
  have nk := hl.1 n hn.1
  have q0 := nk.q0 hn.2
  obtain ⟨o1, ⟨o2, o3, o4, o5, o6, o7⟩, o8, o9, o10, o11, o12, o13⟩ := nk.2.1 k hk
  refine hl.link (Nat.le_succ D) hn.1 hk (fun a b hab => ?_) rfl (fun j e he => ?_) ?_ hN ⟨?_, ⟨?_, ?_, ?_, ?_, ?_, ?_⟩, ?_, ?_, ?_, ?_, ?_, ?_⟩ (Or.inr q0)
  · rw [xI_fn_ne _ _ (by omega), xI_fn_ne _ _ (by omega), xI_fn_ne _ _ (by omega), xI_fn_ne _ _ (by omega), xI_fn_ne _ _ (by omega), xI_fn_ne _ _ (by omega), xI_fn_ne _ _ (by omega)]
  · simp (disch := omega) only [xI_ne]
  · simp (disch := omega) only [xI_ne]
  · refine o1.c6 ?_ ?_ ?_ ?_ <;> simp (disch := omega) only [rr, xI_ne, xI_eq, and_self]
    obtain ⟨d, hd, ed⟩ := o1.bd
    exact ⟨d + 1, by omega, by rw [eo]; exact (congrArg (· + 1) ed).trans (nI_1 d)⟩
  · simp (disch := omega) only [rr, xI_ne, xI_eq]; exact o2
  · simp (disch := omega) only [rr, xI_ne, xI_eq]; exact o3
  · simp (disch := omega) only [rr, xI_ne, xI_eq]
  · simp (disch := omega) only [rr, xI_ne, xI_eq]
  · simp (disch := omega) only [rr, xI_ne, xI_eq]
  · simp (disch := omega) only [rr, xI_ne, xI_eq]; exact o7
  · simp (disch := omega) only [rr, xI_ne, xI_eq]; exact o8
  · refine Or.inl ?_
    simp (disch := omega) only [rr, xI_ne, xI_eq]
  · simp (disch := omega) only [rr, xI_ne, xI_eq]; exact o10
  · refine Or.inr ?_
    simp (disch := omega) only [rr, xI_ne, xI_eq]
    exact ⟨ho, ⟨m, hm1, hm2, em⟩, trivial⟩
  · refine o12.c ?_ ?_ <;> simp (disch := omega) only [rr, xI_ne, xI_eq, and_self]
  · intro z
    exact absurd z (by rw [q0]; decide)
