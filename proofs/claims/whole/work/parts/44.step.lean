/-! a step of the processor -/
theorem p_disp {X Y : xS → xS → Prop} {N : xN} {S R : xS} (h : REL E0 X N S R) {n : Nat} (hn : inN n N) (hp : xI R 0 11 n = 0 ∨ xI R 0 11 n = 1) (ho : opsOk X Y N n) (hxy : subX X Y N) (v : Int32) {m : Nat} (hm : m < 16) : P2 (if (8 : Int32) ≤ (nI m) then (if (15 : Int32) ≤ (nI m) then ((c7_isOperationDone n S (xI S n 4 3)).bind (fun (r_8, S8) => if r_8 = 0 then ((c1_stopWith n S8 (1 : Int32)).bind (fun S10 => c7_execute_b149 n v S10)) else (xnm (sI S8 n 4 3 (0 : Int32)) (fun S16 => c7_execute_b149 n v S16)))) else ((c7_doHighFunction n S (nI m)).bind (fun S17 => c7_execute_b149 n v S17))) else ((c7_doLowFunction n S (nI m)).bind (fun S18 => c7_execute_b149 n v S18))) (if (nI m) = (15 : Int32) then ((r_operates R (nI n) (xI R 0 8 n)).bind (fun (r_18, S18) => if r_18 = 0 then ((r_stop S18 (nI n) (1 : Int32)).bind (fun S20 => r_step_b188 (nI n) v S20)) else (xnm (sI S18 0 8 n (0 : Int32)) (fun S21 => r_step_b188 (nI n) v S21)))) else ((r_direct R (nI n) (nI m) (xI R 0 8 n)).bind (fun S7 => if (nI m) = (2 : Int32) then (r_step_b187 (nI n) v (((xI S7 0 8 n) <<< ((4 : Int32) &&& 31)) &&& (65535 : Int32)) (nI n) S7) else (if (nI m) = (6 : Int32) then (r_step_b187 (nI n) v ((((65535 : Int32) - (xI S7 0 8 n)) <<< ((4 : Int32) &&& 31)) &&& (65535 : Int32)) (nI n) S7) else (r_step_b187 (nI n) v (0 : Int32) (nI n) S7))))) (REL E0 Y N) := by
  have h8 := h.le8 hn
  rcases (show m = 0 ∨ m = 1 ∨ m = 2 ∨ m = 3 ∨ m = 4 ∨ m = 5 ∨ m = 6 ∨ m = 7 ∨ m = 8 ∨ m = 9 ∨ m = 10 ∨ m = 11 ∨ m = 12 ∨ m = 13 ∨ m = 14 ∨ m = 15 by omega) with rfl | rfl | rfl | rfl | rfl | rfl | rfl | rfl | rfl | rfl | rfl | rfl | rfl | rfl | rfl | rfl
  · refine P2.nl (by decide) ?_
    refine P2.nr (by decide) ?_
    refine P2.bind (d_0 h hn) (fun o p q => ?_)
    refine P2.nr (by decide) (P2.nr (by decide) ?_)
    unfold r_step_b187
    rw [gI h8, cl8 h8]
    exact P2.mono (p_end (REL.unO hn q) hn v) hxy
  · refine P2.nl (by decide) ?_
    refine P2.nr (by decide) ?_
    refine P2.bind (d_1 h hn) (fun o p q => ?_)
    refine P2.nr (by decide) (P2.nr (by decide) ?_)
    unfold r_step_b187
    rw [gI h8, cl8 h8]
    exact P2.mono (p_end (REL.unO hn q) hn v) hxy
  · refine P2.nl (by decide) ?_
    refine P2.nr (by decide) ?_
    rw [show nI 2 = 2 from rfl, c7_low_2, r_direct_2, h.g_O hn (fun z => z)]
    refine P2.r rfl (P2.pr rfl ?_)
    exact P2.mono (p_disp_o h hn v _) hxy
  · refine P2.nl (by decide) ?_
    refine P2.nr (by decide) ?_
    refine P2.bind (d_3 h hn) (fun o p q => ?_)
    refine P2.nr (by decide) (P2.nr (by decide) ?_)
    unfold r_step_b187
    rw [gI h8, cl8 h8]
    exact P2.mono (p_end (REL.unO hn q) hn v) hxy
  · refine P2.nl (by decide) ?_
    refine P2.nr (by decide) ?_
    refine P2.bind (d_4 h hn) (fun o p q => ?_)
    refine P2.nr (by decide) (P2.nr (by decide) ?_)
    unfold r_step_b187
    rw [gI h8, cl8 h8]
    exact P2.mono (p_end (REL.unO hn q) hn v) hxy
  · refine P2.nl (by decide) ?_
    refine P2.nr (by decide) ?_
    refine P2.bind (d_5 h hn) (fun o p q => ?_)
    refine P2.nr (by decide) (P2.nr (by decide) ?_)
    unfold r_step_b187
    rw [gI h8, cl8 h8]
    exact P2.mono (p_end (REL.unO hn q) hn v) hxy
  · refine P2.nl (by decide) ?_
    refine P2.nr (by decide) ?_
    rw [show nI 6 = 6 from rfl, c7_low_6, r_direct_6, h.g_O hn (fun z => z)]
    refine P2.r rfl (P2.nr (by decide) (P2.pr rfl ?_))
    exact P2.mono (p_disp_o h hn v _) hxy
  · refine P2.nl (by decide) ?_
    refine P2.nr (by decide) ?_
    refine P2.bind (d_7 h hn) (fun o p q => ?_)
    refine P2.nr (by decide) (P2.nr (by decide) ?_)
    unfold r_step_b187
    rw [gI h8, cl8 h8]
    exact P2.mono (p_end (REL.unO hn q) hn v) hxy
  · refine P2.pl (by decide) (P2.nl (by decide) ?_)
    refine P2.nr (by decide) ?_
    refine P2.bind (d_8 h hn) (fun o p q => ?_)
    refine P2.nr (by decide) (P2.nr (by decide) ?_)
    unfold r_step_b187
    rw [gI h8, cl8 h8]
    exact P2.mono (p_end (REL.unO hn q) hn v) hxy
  · refine P2.pl (by decide) (P2.nl (by decide) ?_)
    refine P2.nr (by decide) ?_
    refine P2.bind (d_9 h hn) (fun o p q => ?_)
    refine P2.nr (by decide) (P2.nr (by decide) ?_)
    unfold r_step_b187
    rw [gI h8, cl8 h8]
    exact P2.mono (p_end (REL.unO hn q) hn v) hxy
  · refine P2.pl (by decide) (P2.nl (by decide) ?_)
    refine P2.nr (by decide) ?_
    refine P2.bind (d_10 h hn) (fun o p q => ?_)
    refine P2.nr (by decide) (P2.nr (by decide) ?_)
    unfold r_step_b187
    rw [gI h8, cl8 h8]
    exact P2.mono (p_end (REL.unO hn q) hn v) hxy
  · refine P2.pl (by decide) (P2.nl (by decide) ?_)
    refine P2.nr (by decide) ?_
    refine P2.bind (d_11 h hn) (fun o p q => ?_)
    refine P2.nr (by decide) (P2.nr (by decide) ?_)
    unfold r_step_b187
    rw [gI h8, cl8 h8]
    exact P2.mono (p_end (REL.unO hn q) hn v) hxy
  · refine P2.pl (by decide) (P2.nl (by decide) ?_)
    refine P2.nr (by decide) ?_
    refine P2.bind (d_12 h hn) (fun o p q => ?_)
    refine P2.nr (by decide) (P2.nr (by decide) ?_)
    unfold r_step_b187
    rw [gI h8, cl8 h8]
    exact P2.mono (p_end (REL.unO hn q) hn v) hxy
  · refine P2.pl (by decide) (P2.nl (by decide) ?_)
    refine P2.nr (by decide) ?_
    refine P2.bind (d_13 h hn) (fun o p q => ?_)
    refine P2.nr (by decide) (P2.nr (by decide) ?_)
    unfold r_step_b187
    rw [gI h8, cl8 h8]
    exact P2.mono (p_end (REL.unO hn q) hn v) hxy
  · refine P2.pl (by decide) (P2.nl (by decide) ?_)
    refine P2.nr (by decide) ?_
    refine P2.bind (d_14 h hn) (fun o p q => ?_)
    refine P2.nr (by decide) (P2.nr (by decide) ?_)
    unfold r_step_b187
    rw [gI h8, cl8 h8]
    exact P2.mono (p_end (REL.unO hn q) hn v) hxy
  · refine P2.pl (by decide) (P2.pl (by decide) (P2.pr (by decide) ?_))
    rw [h.g_O hn (fun z => z)]
    refine P2.bind (ho S R (xI R 0 8 n) h hp) (fun o p q => ?_)
    obtain ⟨o1, o2⟩ := o
    obtain ⟨p1, p2⟩ := p
    obtain ⟨q1, q2, q3⟩ := q
    have q2 : o1 = p1 := q2
    have q1 : o1 = 0 ∨ o1 = 1 := q1
    subst q2
    refine P2.ite Iff.rfl (fun _ _ => ?_) (fun _ _ => ?_)
    · refine P2.l (c1_stopWith_n _ _ _) (P2.r (r_stop_n _ h8 _) ?_)
      exact p_end (q3.stop hn 1) hn v
    · refine P2.xl (P2.xr ?_)
      exact p_end (q3.s_O hn rfl) hn v
theorem p_step {X Y : xS → xS → Prop} {N : xN} {S R : xS} (h : REL E0 X N S R) {n : Nat} (hn : inN n N) (hp : xI R 0 11 n = 0 ∨ xI R 0 11 n = 1) (ho : opsOk X Y N n) (hxy : subX X Y N) : P2 (c7_execute n S) (r_step R (nI n)) (REL E0 Y N) := by
  have h8 := h.le8 hn
  unfold c7_execute r_step c7_execute_b68 r_step_b62
  simp only [gI h8, cl8 h8]
  refine P2.l (c5_byteAt_n _ _ _) (P2.r (r_byteAt_n _ h8 _) ?_)
  have h1 := h.tb hn (h.g_I hn)
  have hw : xI S n 1 6 = xI (rUb R n (xI R 0 9 n)) 0 16 n := by rw [h.g_err hn, xI_rUb _ _ _ _ _ (by decide)]
  have hp1 : xI (rUb R n (xI R 0 9 n)) 0 11 n = 0 ∨ xI (rUb R n (xI R 0 9 n)) 0 11 n = 1 := by rw [xI_rUb _ _ _ _ _ (by decide)]; exact hp
  obtain ⟨k, hk, ek⟩ := rGb_nat R n (xI R 0 9 n)
  have hg := h.gb hn (h.g_I hn)
  rw [ek] at hg
  rw [hg, ek, hw]
  revert h1 hp1
  clear hw hg ek
  generalize cTb S n (xI S n 4 4) = S1
  generalize rUb R n (xI R 0 9 n) = R1
  intro h1 hp1
  have ef : nI k >>> ((4 : Int32) &&& 31) = nI (k / 16) := pk_shrN (by omega) _ 4 (by decide)
  rw [ef]
  refine P2.l rfl (P2.xl (P2.xr (P2.xr ?_)))
  simp (disch := omega) only [xI_ne]
  rw [h1.g_P hn]
  refine P2.ite Iff.rfl (fun e _ => ?_) (fun e _ => ?_)
  · refine P2.xl (P2.xl (P2.xr (P2.xr ?_)))
    simp (disch := omega) only [xI_ne]
    have h2 := (((h1.s_I hn (v := (xI S1 n 4 4 + 1) &&& 65535) (w := (xI R1 0 9 n + 1) &&& 65535) (by rw [h1.g_I hn]) (w16 _)).s_exe hn (v := xI S1 n 1 10 + 1) (w := xI R1 0 15 n + 1) (by rw [h1.g_exe hn])).s_L hn (v := xI S1 n 4 7 + 1) (w := xI R1 0 12 n + 1) (by rw [h1.g_L hn])).s_O hn (v := xI S1 n 4 3 ||| (nI k &&& 15)) (w := xI R1 0 8 n ||| (nI k &&& 15)) (by rw [h1.g_O hn (fun z => z)])
    have e2 : sI (sI (sI (sI R1 0 9 n ((xI R1 0 9 n + 1) &&& 65535)) 0 15 n (xI R1 0 15 n + 1)) 0 12 n (xI R1 0 12 n + 1)) 0 8 n (xI R1 0 8 n ||| (nI k &&& 15)) = sI (sI (sI (sI R1 0 9 n ((xI R1 0 9 n + 1) &&& 65535)) 0 8 n (xI R1 0 8 n ||| (nI k &&& 15))) 0 12 n (xI R1 0 12 n + 1)) 0 15 n (xI R1 0 15 n + 1) := by
      simp (disch := omega) only [sI_sort]
    rw [e2] at h2
    have h3 := p_disp h2 hn (by simp (disch := omega) only [xI_ne]; exact hp1) ho hxy (xI R1 0 16 n) (m := k / 16) (by omega)
    simp (disch := omega) only [xI_ne, xI_eq] at h3 ⊢
    exact h3
  · refine P2.xl (P2.xr ?_)
    simp (disch := omega) only [xI_ne]
    have h2 := ((h1.s_I hn (v := (xI S1 n 4 4 + 1) &&& 65535) (w := (xI R1 0 9 n + 1) &&& 65535) (by rw [h1.g_I hn]) (w16 _)).s_exe hn (v := xI S1 n 1 10 + 1) (w := xI R1 0 15 n + 1) (by rw [h1.g_exe hn])).s_O hn (v := xI S1 n 4 3 ||| (nI k &&& 15)) (w := xI R1 0 8 n ||| (nI k &&& 15)) (by rw [h1.g_O hn (fun z => z)])
    have e2 : sI (sI (sI R1 0 9 n ((xI R1 0 9 n + 1) &&& 65535)) 0 15 n (xI R1 0 15 n + 1)) 0 8 n (xI R1 0 8 n ||| (nI k &&& 15)) = sI (sI (sI R1 0 9 n ((xI R1 0 9 n + 1) &&& 65535)) 0 8 n (xI R1 0 8 n ||| (nI k &&& 15))) 0 15 n (xI R1 0 15 n + 1) := by
      simp (disch := omega) only [sI_sort]
    rw [e2] at h2
    have h3 := p_disp h2 hn (by simp (disch := omega) only [xI_ne]; exact hp1) ho hxy (xI R1 0 16 n) (m := k / 16) (by omega)
    simp (disch := omega) only [xI_ne, xI_eq] at h3 ⊢
    exact h3
