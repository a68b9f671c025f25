/-! the first states are related; the law, whole -/
def rF (N b c : Nat) : Int32 := if (b = 33 ∨ b = 44 ∨ b = 47 ∨ b = 50 ∨ b = 51) ∧ c < 33 then -1 else if (b = 19 ∨ b = 20) ∧ c < 16 then 32768 else if b = 11 ∧ c < 8 then 2 else if b = 52 ∧ c < 8 then 1 else if (b = 53 ∨ b = 54) ∧ c < 8 then -1 else if b = 4 ∧ c < 32768 ∧ c % 4096 < 36 ∧ c % 2 = 1 then -128 else if b = 0 ∧ c = 1 then nI N else 0
theorem rF_0 {N b c : Nat} (h : (b ≠ 0 ∧ b ≠ 4 ∧ b ≠ 11 ∧ b ≠ 19 ∧ b ≠ 20 ∧ b ≠ 33 ∧ b ≠ 44 ∧ b ≠ 47 ∧ b ≠ 50 ∧ b ≠ 51 ∧ b ≠ 52 ∧ b ≠ 53 ∧ b ≠ 54) ∨ (b = 0 ∧ c ≠ 1)) : rF N b c = 0 := by
  unfold rF
  rw [if_neg (by omega), if_neg (by omega), if_neg (by omega), if_neg (by omega), if_neg (by omega), if_neg (by omega), if_neg (by omega)]
theorem rF_n {N b c : Nat} (h : b = 33 ∨ b = 44 ∨ b = 47 ∨ b = 50 ∨ b = 51) (hc : c < 33) : rF N b c = -1 := by
  unfold rF
  rw [if_pos ⟨h, hc⟩]
theorem rF_q {N b c : Nat} (h : b = 19 ∨ b = 20) (hc : c < 16) : rF N b c = 32768 := by
  unfold rF
  rw [if_neg (by omega), if_pos ⟨h, hc⟩]
theorem rF_11 {N c : Nat} (hc : c < 8) : rF N 11 c = 2 := by
  unfold rF
  rw [if_neg (by omega), if_neg (by omega), if_pos ⟨rfl, hc⟩]
theorem rF_52 {N c : Nat} (hc : c < 8) : rF N 52 c = 1 := by
  unfold rF
  rw [if_neg (by omega), if_neg (by omega), if_neg (by omega), if_pos ⟨rfl, hc⟩]
theorem rF_53 {N b c : Nat} (h : b = 53 ∨ b = 54) (hc : c < 8) : rF N b c = -1 := by
  unfold rF
  rw [if_neg (by omega), if_neg (by omega), if_neg (by omega), if_neg (by omega), if_pos ⟨h, hc⟩]
theorem rF_m {N c : Nat} (h : c < 32768) : (rF N 4 c).toBitVec.toNat % 256 = if c % 4096 < 36 ∧ c % 2 = 1 then 128 else 0 := by
  unfold rF
  rw [if_neg (by omega), if_neg (by omega), if_neg (by omega), if_neg (by omega), if_neg (by omega)]
  by_cases e : c % 4096 < 36 ∧ c % 2 = 1
  · rw [if_pos ⟨rfl, h, e⟩, if_pos e]
    rfl
  · rw [if_neg (fun z => e z.2.2), if_neg (by omega), if_neg e]
    rfl
theorem rF_N (N : Nat) : rF N 0 1 = nI N := by
  unfold rF
  rw [if_neg (by omega), if_neg (by omega), if_neg (by omega), if_neg (by omega), if_neg (by omega), if_neg (by omega), if_pos ⟨rfl, rfl⟩]
theorem EP_first {D : Nat} {e r : Nat → Int32} (he : e 2 = 0 ∧ e 3 = 0 ∧ e 4 = 0 ∧ e 5 = 0 ∧ e 6 = 0 ∧ e 7 = 0 ∧ e 8 = 0 ∧ e 9 = 0) (hr : ∀ i, 1 ≤ i → i ≤ 10 → r i = 0) : EPp D e r := by
  obtain ⟨e2, e3, e4, e5, e6, e7, e8, e9⟩ := he
  have r1 := hr 1 (by decide) (by decide)
  have r3 := hr 3 (by decide) (by decide)
  have r4 := hr 4 (by decide) (by decide)
  have r5 := hr 5 (by decide) (by decide)
  have r6 := hr 6 (by decide) (by decide)
  have r7 := hr 7 (by decide) (by decide)
  have r8 := hr 8 (by decide) (by decide)
  exact ⟨e3.trans r3.symm, e4.trans r4.symm, e5.trans r1.symm, e6.trans r7.symm, e7.trans r8.symm, e8.trans r5.symm, e9.trans r6.symm, Or.inl r1, Or.inl r8, ⟨0, by decide, r5.trans nI_0'.symm⟩, ⟨0, by decide, r6.trans nI_0'.symm⟩, ⟨0, Nat.zero_le _, r7.trans nI_0'.symm⟩, Or.inl ⟨r3, r4, e2⟩⟩
theorem LK_first {D : Nat} {l e r b q : Nat → Int32} {k : Nat} (hl : l 2 = -1 ∧ l 3 = 0 ∧ l 5 = -1 ∧ l 6 = 0 ∧ l 7 = -1 ∧ l 8 = 0 ∧ l 10 = -1 ∧ l 11 = -1) (he : e 2 = 0 ∧ e 3 = 0 ∧ e 4 = 0 ∧ e 5 = 0 ∧ e 6 = 0 ∧ e 7 = 0 ∧ e 8 = 0 ∧ e 9 = 0) (hr : ∀ i, 1 ≤ i → i ≤ 10 → r i = 0) (hr2 : r 11 = -1 ∧ r 12 = 0 ∧ r 14 = -1 ∧ r 15 = 0 ∧ r 17 = -1 ∧ r 18 = -1) : LKp D l e r b q k := by
  obtain ⟨l2, l3, l5, l6, l7, l8, l10, l11⟩ := hl
  obtain ⟨r11, r12, r14, r15, r17, r18⟩ := hr2
  have r8 := hr 8 (by decide) (by decide)
  have r10 := hr 10 (by decide) (by decide)
  exact ⟨EP_first he hr, ⟨l2.trans r11.symm, l3.trans r12.symm, l7.trans r14.symm, l8.trans r15.symm, l10.trans r17.symm, l11.trans r18.symm⟩, Or.inr ⟨l6, Or.inl r8⟩, Or.inl r17, Or.inl r18, Or.inl ⟨r14, r15⟩, Or.inl ⟨r11, r12, r10, l5, fun z => absurd (r8.symm.trans z.1) (by decide)⟩, fun _ => ⟨r14, r18⟩⟩
theorem first_l {k : Nat} (hk : k < 4) : cI0 0 (12 + k) 2 = -1 ∧ cI0 0 (12 + k) 3 = 0 ∧ cI0 0 (12 + k) 5 = -1 ∧ cI0 0 (12 + k) 6 = 0 ∧ cI0 0 (12 + k) 7 = -1 ∧ cI0 0 (12 + k) 8 = 0 ∧ cI0 0 (12 + k) 10 = -1 ∧ cI0 0 (12 + k) 11 = -1 := by
  rcases (show k = 0 ∨ k = 1 ∨ k = 2 ∨ k = 3 by omega) with rfl | rfl | rfl | rfl <;> exact ⟨rfl, rfl, rfl, rfl, rfl, rfl, rfl, rfl⟩
theorem first_e {k : Nat} (hk : k < 4) : cI0 0 (16 + k) 1 = -1 ∧ cI0 0 (16 + k) 2 = 0 ∧ cI0 0 (16 + k) 3 = 0 ∧ cI0 0 (16 + k) 4 = 0 ∧ cI0 0 (16 + k) 5 = 0 ∧ cI0 0 (16 + k) 6 = 0 ∧ cI0 0 (16 + k) 7 = 0 ∧ cI0 0 (16 + k) 8 = 0 ∧ cI0 0 (16 + k) 9 = 0 := by
  rcases (show k = 0 ∨ k = 1 ∨ k = 2 ∨ k = 3 by omega) with rfl | rfl | rfl | rfl <;> exact ⟨rfl, rfl, rfl, rfl, rfl, rfl, rfl, rfl, rfl⟩
/-- the nodes boot, all of them -/
def N0 (N : Nat) : xN := (N, fun m => m < 8)
theorem first_RS {N : Nat} (hN : N ≤ 8) {f : Nat → Int64} {o : xS} (hx : ∀ b c, xI o 0 b c = rF N b c) : RS (N0 N) E0 (cS0 0 f) o := by
  refine ⟨fun n hn _ => ?_, fun n hn t ht => Or.inr ?_, fun n hn _ => Or.inl (by rw [cS0_I (show n < 8 from Nat.lt_of_lt_of_le hn hN)]; rfl)⟩
  · have hn2 : n < N := hn
    exact ⟨(hx _ _).trans (rF_11 (by omega)), (hx _ _).trans (rF_q (Or.inl rfl) (by omega)), (hx _ _).trans (rF_q (Or.inl rfl) (by omega)), (hx _ _).trans (rF_0 (by omega)), (hx _ _).trans (rF_0 (by omega))⟩
  have hn2 : n < N := hn
  have hn8 : n < 8 := by omega
  rw [cS0_I hn8, hx]
  unfold tB at ht
  rcases List.mem_cons.mp ht with rfl | ht
  · show rg (rc 5) (cI0 0 4 0) (rF N 5 (1 * n + 0))
    rw [rF_0 (by omega)]
    exact ⟨rfl, rfl⟩
  rcases List.mem_cons.mp ht with rfl | ht
  · show rg (rc 6) (cI0 0 4 1) (rF N 6 (1 * n + 0))
    rw [rF_0 (by omega)]
    exact ⟨rfl, rfl⟩
  rcases List.mem_cons.mp ht with rfl | ht
  · show rg (rc 7) (cI0 0 4 2) (rF N 7 (1 * n + 0))
    rw [rF_0 (by omega)]
    exact ⟨rfl, rfl⟩
  rcases List.mem_cons.mp ht with rfl | ht
  · show rg (rc 8) (cI0 0 4 3) (rF N 8 (1 * n + 0))
    rw [rF_0 (by omega)]
    exact (rfl : _ = _)
  rcases List.mem_cons.mp ht with rfl | ht
  · show rg (rc 9) (cI0 0 4 4) (rF N 9 (1 * n + 0))
    rw [rF_0 (by omega)]
    exact ⟨rfl, rfl⟩
  rcases List.mem_cons.mp ht with rfl | ht
  · show rg (rc 10) (cI0 0 4 5) (rF N 10 (1 * n + 0))
    rw [rF_0 (by omega)]
    exact ⟨rfl, rfl⟩
  rcases List.mem_cons.mp ht with rfl | ht
  · show rg (rc 11) (cI0 0 4 6) (rF N 11 (1 * n + 0))
    rw [rF_11 (by omega)]
    exact ⟨rfl, Or.inr (Or.inr rfl)⟩
  rcases List.mem_cons.mp ht with rfl | ht
  · show rg (rc 12) (cI0 0 4 7) (rF N 12 (1 * n + 0))
    rw [rF_0 (by omega)]
    exact (rfl : _ = _)
  rcases List.mem_cons.mp ht with rfl | ht
  · show rg (rc 13) (cI0 0 1 8) (rF N 13 (1 * n + 0))
    rw [rF_0 (by omega)]
    exact (rfl : _ = _)
  rcases List.mem_cons.mp ht with rfl | ht
  · show rg (rc 14) (cI0 0 1 9) (rF N 14 (1 * n + 0))
    rw [rF_0 (by omega)]
    exact (rfl : _ = _)
  rcases List.mem_cons.mp ht with rfl | ht
  · show rg (rc 15) (cI0 0 1 10) (rF N 15 (1 * n + 0))
    rw [rF_0 (by omega)]
    exact (rfl : _ = _)
  rcases List.mem_cons.mp ht with rfl | ht
  · show rg (rc 16) (cI0 0 1 6) (rF N 16 (1 * n + 0))
    rw [rF_0 (by omega)]
    exact ⟨rfl, Or.inl rfl⟩
  rcases List.mem_cons.mp ht with rfl | ht
  · show rg (rc 17) (cI0 0 1 7) (rF N 17 (1 * n + 0))
    rw [rF_0 (by omega)]
    exact ⟨rfl, Or.inl rfl⟩
  rcases List.mem_cons.mp ht with rfl | ht
  · show rg (rc 18) (cI0 0 2 1) (rF N 18 (1 * n + 0))
    rw [rF_0 (by omega)]
    exact ⟨Or.inl rfl, Or.inl rfl, fun _ => rfl⟩
  rcases List.mem_cons.mp ht with rfl | ht
  · show rg (rc 19) (cI0 0 6 0) (rF N 19 (2 * n + 0))
    rw [rF_q (Or.inl rfl) (by omega)]
    exact (rfl : _ = _)
  rcases List.mem_cons.mp ht with rfl | ht
  · show rg (rc 19) (cI0 0 7 0) (rF N 19 (2 * n + 1))
    rw [rF_q (Or.inl rfl) (by omega)]
    exact (rfl : _ = _)
  rcases List.mem_cons.mp ht with rfl | ht
  · show rg (rc 20) (cI0 0 6 1) (rF N 20 (2 * n + 0))
    rw [rF_q (Or.inr rfl) (by omega)]
    exact (rfl : _ = _)
  rcases List.mem_cons.mp ht with rfl | ht
  · show rg (rc 20) (cI0 0 7 1) (rF N 20 (2 * n + 1))
    rw [rF_q (Or.inr rfl) (by omega)]
    exact (rfl : _ = _)
  rcases List.mem_cons.mp ht with rfl | ht
  · show rg (rc 21) (cI0 0 8 3) (rF N 21 (2 * n + 0))
    rw [rF_0 (by omega)]
    exact (rfl : _ = _)
  rcases List.mem_cons.mp ht with rfl | ht
  · show rg (rc 21) (cI0 0 8 4) (rF N 21 (2 * n + 1))
    rw [rF_0 (by omega)]
    exact (rfl : _ = _)
  rcases List.mem_cons.mp ht with rfl | ht
  · show rg (rc 30) (cI0 0 8 2) (rF N 30 (1 * n + 0))
    rw [rF_0 (by omega)]
    exact ⟨rfl, 0, by decide, nI_0'.symm⟩
  rcases List.mem_cons.mp ht with rfl | ht
  · show rg (rc 23) (cI0 0 5 0) (rF N 23 (1 * n + 0))
    rw [rF_0 (by omega)]
    exact ⟨rfl, rfl⟩
  rcases List.mem_cons.mp ht with rfl | ht
  · show rg (rc 24) (cI0 0 5 1) (rF N 24 (1 * n + 0))
    rw [rF_0 (by omega)]
    exact ⟨rfl, rfl⟩
  rcases List.mem_cons.mp ht with rfl | ht
  · show rg (rc 25) (cI0 0 5 2) (rF N 25 (1 * n + 0))
    rw [rF_0 (by omega)]
    exact ⟨rfl, rfl⟩
  rcases List.mem_cons.mp ht with rfl | ht
  · show rg (rc 26) (cI0 0 5 3) (rF N 26 (1 * n + 0))
    rw [rF_0 (by omega)]
    exact (rfl : _ = _)
  rcases List.mem_cons.mp ht with rfl | ht
  · show rg (rc 27) (cI0 0 5 4) (rF N 27 (1 * n + 0))
    rw [rF_0 (by omega)]
    exact ⟨rfl, rfl⟩
  rcases List.mem_cons.mp ht with rfl | ht
  · show rg (rc 28) (cI0 0 5 5) (rF N 28 (1 * n + 0))
    rw [rF_0 (by omega)]
    exact ⟨rfl, rfl⟩
  rcases List.mem_cons.mp ht with rfl | ht
  · show rg (rc 29) (cI0 0 5 7) (rF N 29 (1 * n + 0))
    rw [rF_0 (by omega)]
    exact (rfl : _ = _)
  rcases List.mem_cons.mp ht with rfl | ht
  · show rg (rc 22) (cI0 0 5 6) (rF N 22 (1 * n + 0))
    rw [rF_0 (by omega)]
    exact Or.inr ⟨rfl, rfl⟩
  exact absurd ht List.not_mem_nil
theorem first_RM {N : Nat} (hN : N ≤ 8) {f : Nat → Int64} (hf : ∀ x, lB (f (x / 8)) (x % 8) = if x < 2 * 18 ∧ x % 2 = 1 then 128 else 0) {o : xS} (hx : ∀ b c, xI o 0 b c = rF N b c) : RM N (cS0 0 f) o := by
  intro n hn x hx4
  have e1 : cB (cS0 0 f) n 3 x = lB (f (x / 8)) (x % 8) := by
    unfold cB
    rw [cS0_J (by omega)]
    rfl
  rw [e1, hf]
  unfold rB
  rw [hx, rF_m (by omega)]
  by_cases e : x < 2 * 18 ∧ x % 2 = 1
  · rw [if_pos e, if_pos (by omega)]
  · rw [if_neg e, if_neg (by omega)]
theorem first_LX {N : Nat} (hN : N ≤ 8) {f : Nat → Int64} {o : xS} (hx : ∀ b c, xI o 0 b c = rF N b c) : LX 0 (N0 N) (cS0 0 f) o := by
  have z0 : ∀ e i, 1 ≤ i → i ≤ 10 → rr o e i = 0 := fun e i h1 h2 => (hx _ _).trans (rF_0 (by omega))
  have b0 : ∀ j k, (j = 16 ∧ k = 1) ∨ xI (cS0 0 f) 8 j k = 0 := fun j k => by
    by_cases e : j = 16 ∧ k = 1
    · exact Or.inl e
    · refine Or.inr ?_
      show (if 8 < 8 then cI0 0 j k else if 8 = 8 ∧ j = 16 ∧ k = 1 then (-1 : Int32) else 0) = 0
      rw [if_neg (by omega), if_neg (fun z => e z.2)]
  have b1 : ∀ j k, ¬ (j = 16 ∧ k = 1) → xI (cS0 0 f) 8 j k = 0 := fun j k h => (b0 j k).resolve_left h
  have b2 : ∀ j x, cB (cS0 0 f) 8 j x = 0 := fun j x => by
    have e : xJ (cS0 0 f) 8 j (x / 8) = 0 := by
      show (if 8 < 8 then cJ0 f j (x / 8) else (0 : Int64)) = 0
      rw [if_neg (by omega)]
    unfold cB lB
    rw [e, show (0 : Int64).toBitVec.toNat = 0 from rfl, Nat.zero_div]
  refine ⟨fun n hn => ?_, ?_, ?_, ?_⟩
  · have hn2 : n < N := hn
    have hn8 : n < 8 := by omega
    refine ⟨⟨fun _ => (hx _ _).trans (rF_52 hn8), fun _ => hn8⟩, fun k hk => ?_, ?_, fun t ht => ?_⟩
    · rw [cS0_I hn8, cS0_I hn8]
      exact LK_first (first_l hk) (first_e hk).2 (z0 _) ⟨(hx _ _).trans (rF_n (by omega) (by omega)), (hx _ _).trans (rF_0 (by omega)), (hx _ _).trans (rF_n (by omega) (by omega)), (hx _ _).trans (rF_0 (by omega)), (hx _ _).trans (rF_n (by omega) (by omega)), (hx _ _).trans (rF_n (by omega) (by omega))⟩
    · rw [cS0_I hn8]
      have q0 : rb o n 0 = 1 := (hx _ _).trans (rF_52 hn8)
      have q1 : rb o n 1 = -1 := (hx _ _).trans (rF_53 (by omega) hn8)
      have q2 : rb o n 2 = -1 := (hx _ _).trans (rF_53 (by omega) hn8)
      refine ⟨?_, Or.inr ⟨q0, Or.inl ⟨?_, ?_, ?_, ?_, ?_, q1, q2⟩⟩⟩
      · rw [q0]; rfl
      · rfl
      · rfl
      · rfl
      · rfl
      · rfl
    · rw [cS0_I hn8, cS0_I hn8, hx, hx, rF_0 (by omega), rF_0 (by omega)]
      exact ⟨rfl, rfl⟩
  · refine ⟨EP_first ⟨b1 _ _ (by omega), b1 _ _ (by omega), b1 _ _ (by omega), b1 _ _ (by omega), b1 _ _ (by omega), b1 _ _ (by omega), b1 _ _ (by omega), b1 _ _ (by omega)⟩ (z0 _), 0, 0, 0, by decide, by decide, by decide, ?_⟩
    rw [nI_0', b1 0 2 (by omega), b1 0 3 (by omega), b1 0 5 (by omega), hx, hx, hx, rF_0 (by omega), rF_0 (by omega), rF_0 (by omega)]
    refine ⟨rfl, rfl, rfl, (hx _ _).trans (rF_0 (by omega)), rfl, rfl, rfl, fun z => absurd ((z0 32 8 (by decide) (by decide)).symm.trans z) (by decide), fun x _ => ?_, fun x _ => ?_⟩
    · rw [b2, hx, rF_0 (by omega)]; rfl
    · rw [b2, hx, rF_0 (by omega)]; rfl
  · intro n k h
    have hb : (n < N ∧ k < 4) ∨ (n = 8 ∧ k = 0) := h
    refine Or.inl ⟨rfl, (hx _ _).trans (rF_n (Or.inl rfl) (by omega)), ?_⟩
    rcases hb with h | h
    · rw [cS0_I (by omega)]
      exact (first_e h.2).1
    · obtain ⟨rfl, rfl⟩ := h
      rfl
  · exact ⟨((hx _ _).trans (rF_0 (by omega))).symm, (hx _ _).trans (rF_N N)⟩
theorem first_WR {N : Nat} (hN : N ≤ 8) {f : Nat → Int64} (hf : ∀ x, lB (f (x / 8)) (x % 8) = if x < 2 * 18 ∧ x % 2 = 1 then 128 else 0) {o : xS} (hx : ∀ b c, xI o 0 b c = rF N b c) : WR N 0 (cS0 0 f) o := by
  refine ⟨N0 N, rfl, fun m _ z => ?_, hN, first_RS hN hx, first_RM hN hf hx, ?_⟩
  · have z2 : 8 + m < 8 := z
    omega
  · rw [LX_v]
    exact first_LX hN hx
theorem lawMath_ok : lawMath := by
  intro xs L N hL h1 h8 e
  obtain ⟨o, x1, x2⟩ := r_init h8 e
  refine ⟨mS 18, o, 512 + 1, mS_chain, x1, ?_⟩
  have e0 : xI (mS 18) 0 0 1 = 0 := by
    rw [mS_I]
    rfl
  rw [e0]
  have hw : WR N 0 (cS0 0 (xJ (mS 18) 0 1)) o := first_WR h8 (fun x => mS_B 18 x) (fun b c => x2 b c)
  have e1 : nI 1 = 1 := rfl
  by_cases c : 1 ≤ L
  · have h := law_all (xs := xs) hL 512 1 0 _ _ hw (by omega) c (by omega)
    rw [e1] at h
    exact h
  · have h := (law_sub hL (i := 1) (by omega)).mpr (by omega)
    rw [e1] at h
    unfold lawL
    rw [if_pos h]
