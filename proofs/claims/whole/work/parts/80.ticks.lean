/-! a tick, whole -/
theorem tick_tail {M : Nat} {N : xN} (hM : N.1 = M) {D : Nat} {S2 R2 : xS} (h2 : REL E0 (LX D N) N S2 R2) {K : Int32 → Int32 → xS → Option (Int32 × xS)} {v1 v2 : Int32} : ∃ S' R' N', N'.1 = M ∧ strongA N' ∧ REL E0 (LX (D + M + M) N') N' S' R' ∧ c11_run_b46 M K 100000 v1 v2 (nI M) 0 S2 = K v1 (v2 + 1) S' ∧ r_tick_b135 100000 0 R2 = some R' := by
  have hN := h2.1
  obtain ⟨T, hT, ht⟩ : ∃ T, T < 2 ^ 32 ∧ xI R2 0 0 2 = nI T := ⟨(xI R2 0 0 2).toBitVec.toNat, (xI R2 0 0 2).toBitVec.isLt, (nI_tn _).symm⟩
  obtain ⟨S3, R3, N3, y1, y2, y3, y4, y5⟩ := node_loop (M := M) (K := K) (v1 := v1) (v2 := v2) hT M 100000 0 D N S2 R2 hM h2 ht (fun m hm => absurd hm (by omega)) (by omega) (by omega)
  have ok : OKa M R2 := by rw [← hM]; exact h2.okn
  have hm : xI R2 0 0 1 = nI M := by rw [← hM]; exact h2.num
  have w := tick_ref (by omega) hT ok hm ht y5
  obtain ⟨S4, R4, u1, u2, u3⟩ := turns_loop (K := K) (v1 := v1) (v2 := v2) N3.1 100000 100000 0 _ S3 R3 y3 (by omega) (by omega) (by omega)
  rw [y1, nI_0'] at u2
  rw [nI_0'] at u3 y4
  rw [y1] at u1
  exact ⟨S4, R4, N3, y1, y2, u1, by rw [y4, u2], by rw [w, u3]⟩
/-- what a tick does from before the ends hear -/
def QT (M D : Nat) (K : Int32 → Int32 → xS → Option (Int32 × xS)) (v1 v2 : Int32) (o p : xS) : Prop := ∃ S' N', N'.1 = M ∧ strongA N' ∧ REL E0 (LX D N') N' S' p ∧ c11_run_b46 M K 100000 v1 v2 (nI M) 0 o = K v1 (v2 + 1) S'
theorem tick_take {N : xN} (hw : ∀ m, m < N.1 → N.2 (8 + m)) {D : Nat} {K : Int32 → Int32 → xS → Option (Int32 × xS)} {v1 v2 : Int32} {S R : xS} (h : REL E0 (LX D N) N S R) : P2 (c11_passBits_b83 N.1 100000 (nI N.1) 0 S) (r_tick_b54 100000 0 R) (QT N.1 (D + 100) K v1 v2) := by
  have hN := h.1
  have q := take_out hw (d := D) (Q := QT N.1 (D + 100) K v1 v2) (fu := 99999 - 4 * N.1) (fun S2 R2 h2 => by
    obtain ⟨S', R', N', x1, x2, x3, x4, x5⟩ := tick_tail (K := K) (v1 := v1) (v2 := v2) rfl h2
    exact ⟨S2, R', rfl, x5, S', N', x1, x2, x3.mono_D (by omega), x4⟩) N.1 100000 0 S R (by rw [Nat.mul_zero, Nat.add_zero]; exact h) (by omega) (by omega)
  rw [show 99999 - 4 * N.1 + 1 + 4 * N.1 = 100000 by omega, Nat.mul_zero, nI_0'] at q
  exact q
theorem tick_put {N : xN} (hw : ∀ m, m < N.1 → N.2 (8 + m)) {D : Nat} (hD : D < 1073741824) {K : Int32 → Int32 → xS → Option (Int32 × xS)} {v1 v2 : Int32} {S R : xS} (h : REL E0 (LX D N) N S R) : P2 (c11_passBits_b10 N.1 100000 (nI N.1) 0 S) (r_tick_b12 100000 0 R) (QT N.1 (D + 100) K v1 v2) := by
  have hN := h.1
  have q := put_out hD (Q := QT N.1 (D + 100) K v1 v2) (fu := 99999 - 4 * N.1) (fun S2 R2 h2 => tick_take hw h2) N.1 100000 0 S R h (by omega) (by omega)
  rw [show 99999 - 4 * N.1 + 1 + 4 * N.1 = 100000 by omega, Nat.mul_zero, nI_0'] at q
  exact q
theorem p_tick {M : Nat} {N : xN} (hM : N.1 = M) {D : Nat} {S R : xS} (h : REL E0 (LX D N) N S R) (hD : D < 1073741824) (K : Int32 → Int32 → xS → Option (Int32 × xS)) (v1 v2 : Int32) : ∃ S' R' N', N'.1 = M ∧ strongA N' ∧ REL E0 (LX (D + 100) N') N' S' R' ∧ (xnm (sI S 9 0 2 (xI S 9 0 2 + 1)) (fun S4 => (c11_passBits M S4).bind (fun S5 => c11_run_b46 M K 100000 v1 v2 (nI M) 0 S5))) = K v1 (v2 + 1) S' ∧ r_tick R = some R' := by
  have hN := h.1
  have q := tick_put (N := weakN N) (fun m hm => Or.inr (by omega)) hD (K := K) (v1 := v1) (v2 := v2) h.tick.weak
  rw [show (weakN N).1 = M from hM] at q
  obtain ⟨S5, R5, x1, x2, S6, N6, q1, q2, q3, q4⟩ := q
  refine ⟨S6, R5, N6, q1, q2, q3, ?_, x2⟩
  unfold xnm c11_passBits
  dsimp only
  rw [show Int32.ofNat M = nI M from rfl, x1, Option.bind_some]
  exact q4
theorem run_loop {M : Nat} {v1 : Nat} (hv : v1 ≤ 1000) : ∀ (j fu i D : Nat) (N : xN) (S R : xS), N.1 = M → strongA N → REL E0 (LX D N) N S R → D + 100 * j < 1073741824 → i + j = v1 → j < fu → ∃ S' R' N', N'.1 = M ∧ strongA N' ∧ REL E0 (LX (D + 100 * j) N') N' S' R' ∧ c11_run_b15 M fu (nI v1) (nI i) S = some (xI S' 9 0 2, S') ∧ r_run_b20 fu (nI v1) (nI i) R = some (xI S' 9 0 2, R')
  | _, 0, _, _, _, _, _, _, _, _, _, _, hg => absurd hg (by omega)
  | 0, fu + 1, i, D, N, S, R, hM, hs, h, hD, hi, hf => by
    refine ⟨S, R, N, hM, hs, h, ?_, ?_⟩
    · unfold c11_run_b15
      rw [if_pos (nI_le (by omega) (by omega))]
    · unfold r_run_b20
      rw [if_pos (nI_le (by omega) (by omega)), h.lx.2.2.2.1]
  | j + 1, fu + 1, i, D, N, S, R, hM, hs, h, hD, hi, hf => by
    obtain ⟨S1, R1, N1, x1, x2, x3, x4, x5⟩ := p_tick hM h (by omega) (c11_run_b15 M fu) (nI v1) (nI i)
    obtain ⟨S2, R2, N2, y1, y2, y3, y4, y5⟩ := run_loop hv j fu (i + 1) (D + 100) N1 S1 R1 x1 x2 x3 (by omega) (by omega) (by omega)
    refine ⟨S2, R2, N2, y1, y2, ?_, ?_, ?_⟩
    · rw [show D + 100 * (j + 1) = D + 100 + 100 * j by omega]
      exact y3
    · unfold c11_run_b15
      rw [if_neg (nI_ge (by omega) (by omega))]
      rw [nI_1] at x4
      exact x4.trans y4
    · unfold r_run_b20
      rw [if_neg (nI_ge (by omega) (by omega)), x5, Option.bind_some, nI_1]
      exact y5
