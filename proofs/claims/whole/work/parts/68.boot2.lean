/-! booting: a byte is taken -/
def RN (D : Nat) (N : xN) (n : Nat) (o p : xS) : Prop := ∃ N' : xN, N'.1 = N.1 ∧ (∀ m, N'.2 m → N.2 m) ∧ ¬ N'.2 (8 + n) ∧ REL E0 (LX D N') N' o p
/-- links of a node that boots, whatever the boot's own ints are -/
def freeL (D : Nat) (s r : xS) (n : Nat) : Prop := ∀ k, k < 4 → ∀ b q : Nat → Int32, LKp D (xI s n (12 + k)) (xI s n (16 + k)) (rr r (4 * n + k)) b q k
/-- a byte was taken from link k -/
theorem boot_close {N N' : xN} {D : Nat} {s r s' r' : xS} (hl : LX D N s r) (hN : N.1 ≤ 8) (hN' : N'.1 = N.1) {n k : Nat} (hn : n < N.1) (hk : k < 4) (hF : freeL D s r n) (hzz : ∀ m, m < N.1 → m ≠ n → (N'.2 m ↔ N.2 m) ∧ (N'.2 (8 + m) ↔ N.2 (8 + m))) (f1 : ∀ a b, ¬ (a = n ∧ (b = 0 ∨ b = 12 + k ∨ b = 16 + k)) → xI s' a b = xI s a b) (f2 : s'.2 = s.2) (fl : ∀ i, i ≠ 10 → xI s' n (12 + k) i = xI s n (12 + k) i) (fl10 : xI s' n (12 + k) 10 = -1) (fe : ∀ i, i ≠ 6 → xI s' n (16 + k) i = xI s n (16 + k) i) (fe6 : xI s' n (16 + k) 6 = xI s n (16 + k) 6 + 1) (f3 : ∀ j e, ¬ ((e = 4 * n + k ∧ (j = 40 ∨ j = 50)) ∨ (e = n ∧ 52 ≤ j ∧ j ≤ 57)) → xI r' 0 j e = xI r 0 j e) (f50 : xI r' 0 50 (4 * n + k) = -1) (f40 : xI r' 0 40 (4 * n + k) = xI r 0 40 (4 * n + k) + 1) (hz : N'.2 n ↔ rb r' n 0 = 1) (hB : BTp (N'.2 (8 + n)) (xI s' n 0) (rb r' n) (fun k => xI s n (12 + k) 3)) : LX (D + 1) N' s' r' := by
  refine hl.node2 (Nat.le_succ D) hN hN' hn hzz (fun a b hab => f1 a b (by omega)) f2 (fun j e he => f3 j e (by omega)) (fun k' hk' => ?_) hz (fun k' hk' => ?_) ?_
  · by_cases e : k' = k
    · subst e; exact fe 1 (by decide)
    · rw [f1 n (16 + k') (by omega)]
  · by_cases e : k' = k
    · subst e
      obtain ⟨o1, ⟨o2, o3, o4, o5, o6, o7⟩, o8, o9, o10, o11, o12, o13⟩ := hF k' hk (xI s' n 0) (rb r' n)
      have er : ∀ i, i ≠ 7 → i ≠ 17 → i ≤ 18 → rr r' (4 * n + k') i = rr r (4 * n + k') i := fun i h1 h2 h3 => f3 _ _ (by omega)
      refine ⟨?_, ⟨?_, ?_, ?_, ?_, ?_, ?_⟩, ?_, ?_, ?_, ?_, ?_, ?_⟩
      · refine o1.c6 ⟨fe 2 (by decide), fe 3 (by decide), fe 4 (by decide), fe 5 (by decide), fe 7 (by decide), fe 8 (by decide), fe 9 (by decide)⟩ ⟨er 1 (by decide) (by decide) (by decide), er 2 (by decide) (by decide) (by decide), er 3 (by decide) (by decide) (by decide), er 4 (by decide) (by decide) (by decide), er 5 (by decide) (by decide) (by decide), er 6 (by decide) (by decide) (by decide), er 8 (by decide) (by decide) (by decide)⟩ ?_ ?_
        · rw [fe6, show rr r' (4 * n + k') 7 = xI r 0 40 (4 * n + k') + 1 from f40, show xI s n (16 + k') 6 = xI r 0 40 (4 * n + k') from o1.2.2.2.1]
        · obtain ⟨d, hd, ed⟩ := o1.bd
          exact ⟨d + 1, by omega, by rw [show rr r' (4 * n + k') 7 = xI r 0 40 (4 * n + k') + 1 from f40]; exact (congrArg (· + 1) ed).trans (nI_1 d)⟩
      · rw [fl 2 (by decide), er 11 (by decide) (by decide) (by decide)]; exact o2
      · rw [fl 3 (by decide), er 12 (by decide) (by decide) (by decide)]; exact o3
      · rw [fl 7 (by decide), er 14 (by decide) (by decide) (by decide)]; exact o4
      · rw [fl 8 (by decide), er 15 (by decide) (by decide) (by decide)]; exact o5
      · rw [fl10]; exact f50.symm
      · rw [fl 11 (by decide), er 18 (by decide) (by decide) (by decide)]; exact o7
      · rw [fl 6 (by decide), er 8 (by decide) (by decide) (by decide), er 9 (by decide) (by decide) (by decide)]; exact o8
      · exact Or.inl f50
      · rw [er 18 (by decide) (by decide) (by decide)]; exact o10
      · exact o11.c (fl 9 (by decide)) ⟨er 14 (by decide) (by decide) (by decide), er 15 (by decide) (by decide) (by decide), er 16 (by decide) (by decide) (by decide)⟩
      · exact o12.c ⟨fl 4 (by decide), fl 5 (by decide)⟩ ⟨er 8 (by decide) (by decide) (by decide), er 9 (by decide) (by decide) (by decide), er 10 (by decide) (by decide) (by decide), er 11 (by decide) (by decide) (by decide), er 12 (by decide) (by decide) (by decide), er 13 (by decide) (by decide) (by decide)⟩
      · rw [er 14 (by decide) (by decide) (by decide), er 18 (by decide) (by decide) (by decide)]; exact o13
    · rw [f1 n (12 + k') (by omega), f1 n (16 + k') (by omega)]
      have h1 := (hF k' hk' (xI s' n 0) (rb r' n)).cr (r' := rr r' (4 * n + k')) (fun i hi => f3 _ _ (by omega))
      exact ⟨h1.1.mono (Nat.le_succ D), h1.2⟩
  · have e2 : (fun k' => xI s' n (12 + k') 3) = fun k' => xI s n (12 + k') 3 := funext fun k' => by
      by_cases e : k' = k
      · subst e; exact fl 3 (by decide)
      · by_cases e3 : k' = k + 4
        · subst e3
          rw [show 12 + (k + 4) = 16 + k by omega]
          exact fe 3 (by decide)
        · rw [f1 n (12 + k') (by omega)]
    rw [e2]
    exact hB
theorem sN_zz (N : xN) {n : Nat} (hn : n < 8) (m : Nat) (hm : m < 8) (hne : m ≠ n) : ((strongN N n).2 m ↔ N.2 m) ∧ ((strongN N n).2 (8 + m) ↔ N.2 (8 + m)) := ⟨⟨fun z => z.1, fun z => ⟨z, by omega⟩⟩, ⟨fun z => z.1, fun z => ⟨z, by omega⟩⟩⟩
theorem gN_zz (N : xN) {n : Nat} (hn : n < 8) (m : Nat) (hm : m < 8) (hne : m ≠ n) : ((goN N n).2 m ↔ N.2 m) ∧ ((goN N n).2 (8 + m) ↔ N.2 (8 + m)) := ⟨⟨fun z => z.1, fun z => ⟨z, by omega, by omega⟩⟩, ⟨fun z => z.1, fun z => ⟨z, by omega, by omega⟩⟩⟩
/-- the state in which a byte v of link k is obeyed: b, q before it -/
theorem sN_n (N : xN) {n : Nat} (hn : n < 8) : (strongN N n).2 n ↔ N.2 n := ⟨fun z => z.1, fun z => ⟨z, by omega⟩⟩
/-- the first byte: a command -/
theorem p_obey_first {N : xN} {D : Nat} {s0 r0 s r S R : xS} (hl : LX D N s0 r0) (hx : REL E0 (XV s r) N S R) {n k : Nat} (hn : n < N.1) (hz : N.2 n) (hk : k < 4) (hF : freeL D s0 r0 n)
    (g1 : ∀ a b, ¬ (a = n ∧ b = 0) → xI s a b = xI s0 a b) (g2 : s.2 = s0.2) (g3 : ∀ j e, ¬ (e = n ∧ 53 ≤ j ∧ j ≤ 57) → xI r 0 j e = xI r0 0 j e)
    (b3 : xI s n 0 3 = 1) (b4 : xI s n 0 4 = nI k) (b5 : xI s n 0 5 = -1) (b6 : xI s n 0 6 = 0) (b7 : xI s n 0 7 = 0) (b8 : xI s n 0 8 = 0) (q0 : rb r n 0 = 1) (q1 : rb r n 1 = nI k) (q2 : rb r n 2 = -1) {v : Nat} (hv : v < 256) (o : Int32) (ho : o = xI r0 0 40 (4 * n + k)) :
    P2 (c6_obey n (12 + k) (sI (sI S n (16 + k) 6 (o + 1)) n (12 + k) 10 (-1)) (nI v)) (xnm (sI (sI (sI R 0 50 (4 * n + k) (-1)) 0 40 (4 * n + k) (o + 1)) 0 54 n (nI v)) (fun S27 => xnm (sI S27 0 55 n (0 : Int32)) (fun S28 => xnm (sI S28 0 56 n (0 : Int32)) (fun S29 => xnm (sI S29 0 57 n (0 : Int32)) (fun S30 => some S30))))) (RN (D + 1) N n) := by
  have h8 : n < 8 := Nat.lt_of_lt_of_le hn hx.1
  have eo : xI s0 n (16 + k) 6 = o := by rw [ho]; exact (hF k hk (xI s n 0) (rb r n)).1.2.2.2.1
  unfold c6_obey
  refine P2.pl ?_ (P2.xl (P2.xr (P2.xr (P2.xr (P2.xr (P2.ret ?_))))))
  · simp (disch := omega) only [xI_ne]
    rw [hx.c_eq (by omega)]
    exact b5
  have h1 := (((((((hx.cv (n := n) (j := 16 + k) (k := 6) (by omega) (o + 1)).cv (n := n) (j := 12 + k) (k := 10) (by omega) (-1)).cv (n := n) (j := 0) (k := 5) (by omega) (nI v)).rv (j := 50) (k := 4 * n + k) (by omega) (-1)).rv (j := 40) (k := 4 * n + k) (by omega) (o + 1)).rv (j := 54) (k := n) (by omega) (nI v)).rv (j := 55) (k := n) (by omega) 0 |>.rv (j := 56) (k := n) (by omega) 0).rv (j := 57) (k := n) (by omega) 0
  refine ⟨strongN N n, rfl, fun m z => z.1, fun z => z.2 rfl, (h1.reN (N' := strongN N n) rfl (fun m _ z => z.1)).un ?_⟩
  refine boot_close hl hx.1 rfl hn hk hF (fun m hm hne => sN_zz N h8 m (by have := hx.1; omega) hne) (fun a b hab => ?_) ?_ (fun i hi => ?_) ?_ (fun i hi => ?_) ?_ (fun j e he => ?_) ?_ ?_ ?_ ?_
  · simp (disch := omega) only [xI_fn_ne]
    exact g1 a b (by omega)
  · exact g2
  · simp (disch := omega) only [xI_ne]
    rw [g1 n (12 + k) (by omega)]
  · simp (disch := omega) only [xI_ne, xI_eq]
  · simp (disch := omega) only [xI_ne]
    rw [g1 n (16 + k) (by omega)]
  · simp (disch := omega) only [xI_ne, xI_eq]
    rw [eo]
  · by_cases c : e = n ∧ 53 ≤ j ∧ j ≤ 57
    · exact absurd (Or.inr ⟨c.1, by omega, c.2.2⟩) he
    · simp (disch := omega) only [xI_ne]
      exact g3 j e c
  · simp (disch := omega) only [xI_ne, xI_eq]
  · simp (disch := omega) only [xI_ne, xI_eq]
    rw [ho]
  · simp (disch := omega) only [rb, xI_ne]
    exact ⟨fun _ => q0, fun _ => ⟨hz, by omega⟩⟩
  · refine ⟨?_, Or.inr ⟨?_, Or.inr (Or.inl ⟨k, v, 0, hk, hv, ?_, ?_, ?_, ?_, ?_, ?_, ?_, ?_⟩)⟩⟩
    · simp (disch := omega) only [rb, xI_ne]; exact b3.trans q0.symm
    · simp (disch := omega) only [rb, xI_ne]; exact q0
    · simp (disch := omega) only [xI_ne]; exact b4
    · simp (disch := omega) only [rb, xI_ne]; exact q1
    · simp (disch := omega) only [xI_ne]; exact b8
    · simp (disch := omega) only [xI_ne, xI_eq]
    · simp (disch := omega) only [rb, xI_ne, xI_eq]
    · simp (disch := omega) only [xI_ne]; exact b6
    · simp (disch := omega) only [rb, xI_ne, xI_eq]; rfl
    · have hg : GAp (xI (sI (sI (sI s n (16 + k) 6 (o + 1)) n (12 + k) 10 (-1)) n 0 5 (nI v)) n 0) (rb (sI (sI (sI (sI (sI (sI r 0 50 (4 * n + k) (-1)) 0 40 (4 * n + k) (o + 1)) 0 54 n (nI v)) 0 55 n 0) 0 56 n 0) 0 57 n 0) n) 0 := by
        refine ⟨0, 0, by decide, by decide, ?_, ?_, ?_⟩
        · simp (disch := omega) only [rb, xI_ne, xI_eq]; rfl
        · simp (disch := omega) only [rb, xI_ne, xI_eq]; rfl
        · simp (disch := omega) only [xI_ne]; exact b7
      rcases (show 2 ≤ v ∨ v = 0 ∨ v = 1 by omega) with e | e | e
      · refine Or.inl ⟨e, by omega, ?_⟩
        simp (disch := omega) only [xI_ne]; exact b7
      · exact Or.inr (Or.inl ⟨e, by decide, hg⟩)
      · exact Or.inr (Or.inr ⟨e, by decide, hg⟩)
