/-! an acknowledgement counts -/
theorem lk_ack1 {D : Nat} {N : xN} {s r : xS} (hl : LX D N s r) (hN : N.1 ≤ 8) {n k : Nat} (hn : n < N.1) (hk : k < 4) (q0 : rb r n 0 = 0) {a b : Int32} (h44 : xI r 0 44 (4 * n + k) &&& 65535 = xI r 0 44 (4 * n + k)) (h43 : xI r 0 43 (4 * n + k) = 0) (h5 : xI s n (12 + k) 5 = -1) {m : Nat} (hm : 1 ≤ m) (hm2 : m ≤ 4096) (hab : a &&& 65535 = b) : LX D N (sI (sI s n (12 + k) 3 (nI m)) n (12 + k) 4 a) (sI (sI r 0 45 (4 * n + k) (nI m)) 0 46 (4 * n + k) b) := by
  obtain ⟨o1, ⟨o2, o3, o4, o5, o6, o7⟩, o8, o9, o10, o11, o12, o13⟩ := (hl.1 n hn).2.1 k hk
  refine hl.link (Nat.le_refl D) hn hk (fun a b hab => ?_) rfl (fun j e he => ?_) ?_ hN ⟨?_, ⟨?_, ?_, ?_, ?_, ?_, ?_⟩, ?_, ?_, ?_, ?_, ?_, ?_⟩ (Or.inr q0)
  · rw [xI_fn_ne _ _ (by omega), xI_fn_ne _ _ (by omega)]
  · simp (disch := omega) only [xI_ne]
  · simp (disch := omega) only [xI_ne]
  · refine o1.c7 ?_ ?_ <;> simp (disch := omega) only [rr, xI_ne, xI_eq, and_self]
  · simp (disch := omega) only [rr, xI_ne, xI_eq]; exact o2
  · simp (disch := omega) only [rr, xI_ne, xI_eq]
  · simp (disch := omega) only [rr, xI_ne, xI_eq]; exact o4
  · simp (disch := omega) only [rr, xI_ne, xI_eq]; exact o5
  · simp (disch := omega) only [rr, xI_ne, xI_eq]; exact o6
  · simp (disch := omega) only [rr, xI_ne, xI_eq]; exact o7
  · simp (disch := omega) only [rr, xI_ne, xI_eq]; exact o8
  · simp (disch := omega) only [rr, xI_ne, xI_eq]; exact o9
  · simp (disch := omega) only [rr, xI_ne, xI_eq]; exact o10
  · refine o11.c ?_ ?_ <;> simp (disch := omega) only [rr, xI_ne, xI_eq, and_self]
  · refine Or.inr (Or.inl ?_)
    simp (disch := omega) only [rr, xI_ne, xI_eq]
    exact ⟨h44, ⟨m, hm, hm2, rfl⟩, h43, h5, hab, q0⟩
  · simp (disch := omega) only [rr, xI_ne]; exact o13
theorem lk_ack2 {D : Nat} {N : xN} {s r : xS} (hl : LX D N s r) (hN : N.1 ≤ 8) {n k : Nat} (hn : n < N.1) (hk : k < 4) (q0 : rb r n 0 = 0) (a b : Int32) (h43 : xI r 0 43 (4 * n + k) = 0) (h41 : xI r 0 41 (4 * n + k) = 0) : LX D N (sI (sI (sI (sI s n (12 + k) 3 0) n (12 + k) 4 a) n (12 + k) 2 (-1)) n (12 + k) 5 (-1)) (sI (sI (sI r 0 45 (4 * n + k) 0) 0 46 (4 * n + k) b) 0 44 (4 * n + k) (-1)) := by
  obtain ⟨o1, ⟨o2, o3, o4, o5, o6, o7⟩, o8, o9, o10, o11, o12, o13⟩ := (hl.1 n hn).2.1 k hk
  refine hl.link (Nat.le_refl D) hn hk (fun a b hab => ?_) rfl (fun j e he => ?_) ?_ hN ⟨?_, ⟨?_, ?_, ?_, ?_, ?_, ?_⟩, ?_, ?_, ?_, ?_, ?_, ?_⟩ (Or.inr q0)
  · rw [xI_fn_ne _ _ (by omega), xI_fn_ne _ _ (by omega), xI_fn_ne _ _ (by omega), xI_fn_ne _ _ (by omega)]
  · simp (disch := omega) only [xI_ne]
  · simp (disch := omega) only [xI_ne]
  · refine o1.c7 ?_ ?_ <;> simp (disch := omega) only [rr, xI_ne, xI_eq, and_self]
  · simp (disch := omega) only [rr, xI_ne, xI_eq]
  · simp (disch := omega) only [rr, xI_ne, xI_eq]
  · simp (disch := omega) only [rr, xI_ne, xI_eq]; exact o4
  · simp (disch := omega) only [rr, xI_ne, xI_eq]; exact o5
  · simp (disch := omega) only [rr, xI_ne, xI_eq]; exact o6
  · simp (disch := omega) only [rr, xI_ne, xI_eq]; exact o7
  · simp (disch := omega) only [rr, xI_ne, xI_eq]; exact o8
  · simp (disch := omega) only [rr, xI_ne, xI_eq]; exact o9
  · simp (disch := omega) only [rr, xI_ne, xI_eq]; exact o10
  · refine o11.c ?_ ?_ <;> simp (disch := omega) only [rr, xI_ne, xI_eq, and_self]
  · refine Or.inl ?_
    simp (disch := omega) only [rr, xI_ne, xI_eq]
    exact ⟨trivial, trivial, h43, trivial, fun z => absurd z.1 (by rw [h41]; decide)⟩
  · simp (disch := omega) only [rr, xI_ne]; exact o13
/-- the first byte of the answer to a PEEK is acknowledged -/
theorem lk_ack3 {D : Nat} {N : xN} {s r : xS} (hl : LX D N s r) (hN : N.1 ≤ 8) {n k : Nat} (hn : n < N.1) (hk : k < 4) (a : Int32) {w : Nat} (hw : w < 65536) (h44 : xI r 0 44 (4 * n + k) = -1) (h43 : xI r 0 43 (4 * n + k) = 1) (h46 : xI r 0 46 (4 * n + k) = nI w) (h45 : xI r 0 45 (4 * n + k) = 2) (hq : rb r n 0 = 1 ∧ xI s n 0 4 = nI k ∧ xI s n 0 5 = 1 ∧ xI s n 0 8 = 1 ∧ rb r n 1 = nI k ∧ rb r n 2 = 1) : LX D N (sI (sI (sI s n (12 + k) 3 1) n (12 + k) 4 a) n (12 + k) 5 (nI (w / 256))) (sI r 0 45 (4 * n + k) 1) := by
  obtain ⟨o1, ⟨o2, o3, o4, o5, o6, o7⟩, o8, o9, o10, o11, o12, o13⟩ := (hl.1 n hn).2.1 k hk
  refine hl.link (Nat.le_refl D) hn hk (fun a b hab => ?_) rfl (fun j e he => ?_) ?_ hN ⟨?_, ⟨?_, ?_, ?_, ?_, ?_, ?_⟩, ?_, ?_, ?_, ?_, ?_, ?_⟩ (Or.inl ?_)
  · rw [xI_fn_ne _ _ (by omega), xI_fn_ne _ _ (by omega), xI_fn_ne _ _ (by omega)]
  · simp (disch := omega) only [xI_ne]
  · simp (disch := omega) only [xI_ne]
  · refine o1.c7 ?_ ?_ <;> simp (disch := omega) only [rr, xI_ne, xI_eq, and_self]
  · simp (disch := omega) only [rr, xI_ne, xI_eq]; exact o2
  · simp (disch := omega) only [rr, xI_ne, xI_eq]
  · simp (disch := omega) only [rr, xI_ne, xI_eq]; exact o4
  · simp (disch := omega) only [rr, xI_ne, xI_eq]; exact o5
  · simp (disch := omega) only [rr, xI_ne, xI_eq]; exact o6
  · simp (disch := omega) only [rr, xI_ne, xI_eq]; exact o7
  · simp (disch := omega) only [rr, xI_ne, xI_eq]; exact o8
  · simp (disch := omega) only [rr, xI_ne, xI_eq]; exact o9
  · simp (disch := omega) only [rr, xI_ne, xI_eq]; exact o10
  · refine o11.c ?_ ?_ <;> simp (disch := omega) only [rr, xI_ne, xI_eq, and_self]
  · refine Or.inr (Or.inr ?_)
    simp (disch := omega) only [rr, xI_ne, xI_eq]
    exact ⟨h44, h43, ⟨w, hw, h46, Or.inr ⟨trivial, rfl⟩⟩, hq⟩
  · simp (disch := omega) only [rr, xI_ne]; exact o13
  · simp (disch := omega) only [xI_ne, xI_eq]
    have e : xI s n (12 + k) 3 = 2 := o3.trans h45
    rw [e]
    exact ⟨fun z => absurd z (by decide), fun z => absurd z (by decide)⟩
/-- .. and the second -/
theorem lk_ack4 {D : Nat} {N : xN} {s r : xS} (hl : LX D N s r) (hN : N.1 ≤ 8) {n k : Nat} (hn : n < N.1) (hw : N.2 (8 + n)) (hk : k < 4) (a c : Int32) (h44 : xI r 0 44 (4 * n + k) = -1) (h41 : xI r 0 41 (4 * n + k) = 0) (hq : rb r n 0 = 1 ∧ xI s n 0 4 = nI k ∧ xI s n 0 5 = 1 ∧ xI s n 0 8 = 1 ∧ rb r n 1 = nI k ∧ rb r n 2 = 1) : LX D N (sI (sI (sI (sI (sI s n (12 + k) 3 0) n (12 + k) 4 a) n (12 + k) 5 c) n (12 + k) 2 (-1)) n (12 + k) 5 (-1)) (sI (sI (sI (sI r 0 45 (4 * n + k) 0) 0 43 (4 * n + k) 0) 0 53 n (-1)) 0 54 n (-1)) := by
  have nk := hl.1 n hn
  have hk8 : ∀ k', k' < 4 → k' ≠ k → LKp D (xI s n (12 + k')) (xI s n (16 + k')) (rr r (4 * n + k')) (xI s n 0) (rb (sI (sI r 0 53 n (-1)) 0 54 n (-1)) n) k' := by
    intro k' hk' hne
    obtain ⟨o1, o2, o8, o9, o10, o11, o12, o13⟩ := nk.2.1 k' hk'
    have e0 : rb (sI (sI r 0 53 n (-1)) 0 54 n (-1)) n 0 = rb r n 0 := by
      unfold rb
      rw [xI_ne _ _ (by omega), xI_ne _ _ (by omega)]
    refine ⟨o1, o2, o8, o9, o10, o11, ?_, by rw [e0]; exact o13⟩
    rcases o12 with o | o | o
    · exact Or.inl o
    · exact absurd o.2.2.2.2.2 (by rw [hq.1]; decide)
    · have h1 : xI s n 0 4 = nI k' := o.2.2.2.2.1
      rw [hq.2.1] at h1
      exact absurd ((nI_eq (by omega) (by omega)).mp h1).symm hne
  refine hl.node (Nat.le_refl D) hN hn (fun a b hab => ?_) rfl (fun j e he => ?_) (fun k' hk' => ?_) ?_ (fun k' hk' => ?_) ?_
  · rw [xI_fn_ne _ _ (by omega), xI_fn_ne _ _ (by omega), xI_fn_ne _ _ (by omega), xI_fn_ne _ _ (by omega), xI_fn_ne _ _ (by omega)]
  · simp (disch := omega) only [xI_ne]
  · simp (disch := omega) only [xI_ne]
  · unfold rb
    simp (disch := omega) only [xI_ne]
    exact nk.1
  · by_cases e : k' = k
    · subst e
      obtain ⟨o1, ⟨o2, o3, o4, o5, o6, o7⟩, o8, o9, o10, o11, o12, o13⟩ := nk.2.1 k' hk'
      refine ⟨?_, ⟨?_, ?_, ?_, ?_, ?_, ?_⟩, ?_, ?_, ?_, ?_, ?_, ?_⟩
      · refine o1.c7 ?_ ?_ <;> simp (disch := omega) only [rr, xI_ne, xI_eq, and_self]
      · simp (disch := omega) only [rr, xI_ne, xI_eq]; exact h44.symm
      · simp (disch := omega) only [rr, xI_ne, xI_eq]
      · simp (disch := omega) only [rr, xI_ne, xI_eq]; exact o4
      · simp (disch := omega) only [rr, xI_ne, xI_eq]; exact o5
      · simp (disch := omega) only [rr, xI_ne, xI_eq]; exact o6
      · simp (disch := omega) only [rr, xI_ne, xI_eq]; exact o7
      · simp (disch := omega) only [rr, xI_ne, xI_eq]; exact o8
      · simp (disch := omega) only [rr, xI_ne, xI_eq]; exact o9
      · simp (disch := omega) only [rr, xI_ne, xI_eq]; exact o10
      · refine o11.c ?_ ?_ <;> simp (disch := omega) only [rr, xI_ne, xI_eq, and_self]
      · refine Or.inl ?_
        simp (disch := omega) only [rr, xI_ne, xI_eq]
        exact ⟨h44, trivial, trivial, trivial, fun z => absurd z.1 (by rw [h41]; decide)⟩
      · simp (disch := omega) only [rr, rb, xI_ne]; exact o13
    · have h1 := hk8 k' hk' e
      have e1 : xI (sI (sI (sI (sI (sI s n (12 + k) 3 0) n (12 + k) 4 a) n (12 + k) 5 c) n (12 + k) 2 (-1)) n (12 + k) 5 (-1)) n (12 + k') = xI s n (12 + k') := by simp (disch := omega) only [xI_fn_ne]
      have e2 : xI (sI (sI (sI (sI (sI s n (12 + k) 3 0) n (12 + k) 4 a) n (12 + k) 5 c) n (12 + k) 2 (-1)) n (12 + k) 5 (-1)) n (16 + k') = xI s n (16 + k') := by simp (disch := omega) only [xI_fn_ne]
      have e3 : xI (sI (sI (sI (sI (sI s n (12 + k) 3 0) n (12 + k) 4 a) n (12 + k) 5 c) n (12 + k) 2 (-1)) n (12 + k) 5 (-1)) n 0 = xI s n 0 := by simp (disch := omega) only [xI_fn_ne]
      have e4 : rb (sI (sI (sI (sI r 0 45 (4 * n + k) 0) 0 43 (4 * n + k) 0) 0 53 n (-1)) 0 54 n (-1)) n = rb (sI (sI r 0 53 n (-1)) 0 54 n (-1)) n := by
        funext i
        unfold rb
        rw [xI_sI, xI_sI, xI_sI, xI_sI, xI_sI, xI_sI]
        by_cases c1 : 0 = 0 ∧ 52 + i = 54 ∧ n = n
        · rw [if_pos c1, if_pos c1]
        · rw [if_neg c1, if_neg c1]
          by_cases c2 : 0 = 0 ∧ 52 + i = 53 ∧ n = n
          · rw [if_pos c2, if_pos c2]
          · rw [if_neg c2, if_neg c2, if_neg (by omega), if_neg (by omega)]
      rw [e1, e2, e3, e4]
      refine h1.cr (fun i hi => ?_)
      unfold rr
      simp (disch := omega) only [xI_ne]
  · obtain ⟨b1, b2⟩ := nk.2.2.1
    refine ⟨?_, Or.inr ⟨?_, Or.inr (Or.inr ⟨k, hk, ?_, ?_, ?_, Or.inr ⟨hw, ?_, ?_, ?_⟩⟩)⟩⟩
    · simp (disch := omega) only [rb, xI_ne]; exact b1
    · simp (disch := omega) only [rb, xI_ne]; exact hq.1
    · simp (disch := omega) only [xI_ne]; exact hq.2.1
    · simp (disch := omega) only [xI_ne]; exact hq.2.2.1
    · simp (disch := omega) only [xI_ne]; exact hq.2.2.2.1
    · simp (disch := omega) only [rb, xI_ne, xI_eq]
    · simp (disch := omega) only [rb, xI_ne, xI_eq]
    · simp (disch := omega) only [xI_ne, xI_eq]
