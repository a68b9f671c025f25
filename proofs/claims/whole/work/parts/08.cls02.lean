/-! X4_resetInput -/
def c4_resetInput (n j : Nat) (S : xS)  : Option (Int32 × xS) := xnm (sI S n j 7 (-1 : Int32)) (fun S1 => xnm (sI S1 n j 8 (0 : Int32)) (fun S2 => xnm (sI S2 n j 10 (-1 : Int32)) (fun S3 => xnm (sI S3 n j 11 (-1 : Int32)) (fun S4 => if (xI S n j 7) = (-1 : Int32) then (some ((32768 : Int32), S4)) else (some ((xI S n j 7), S4))))))
set_option maxHeartbeats 4000000 in
set_option maxRecDepth 100000 in
theorem m_c4_resetInput {l : Launch} {D : va_G} {cI cJ cL cN : ClassId} {ad : Nat → Nat → Nat} {N : Nat} (hN : N ≤ 8) (hI : xInj (cDom N) ad) {n j : Nat} (hj : isX4 N n j) {S : xS}  {o : Int32 × xS} (h : c4_resetInput n j S  = some o) : Met l yX4_resetInput (Cond.code yX4_resetInput cX4_resetInput 2 (some .int) :: xG) { frames := 0, cells := 0, slots := 0, locals := 0 } (xPc D vwCl (cTy cI cJ cL cN) cNf cNm (cDom N) ad (cDe ad N cI cJ cL cN) [.ref (ad n j)] S) (xQ D vwCl (cDom N) ad (cDe ad N cI cJ cL cN) (some (.int o.1)) o.2) 0 0 (xA (cDom N) ad) := by
  unfold c4_resetInput at h
  refine x_enter (by decide) (Nat.le_of_ble_eq_true rfl) (fun p e s m below meth c F hr hlk hK hW hS ls hl => ?_)
  have hl : lv_has ls 2 [(0, .ref (ad n j))] := hl
  have hx := F.1
  have hb := F.2.1
  refine lv_aload_n hx hb dX4_resetInput_0 rfl (lv_at hl 0 rfl) ?_
  refine x_get F hK hW xc_X4 (cd_dX4 hj) (cd_eX4 hN hj) 7 (by decide) k_2_29 (rfl) dX4_resetInput_1 ?_
  refine lv_istore_n (lv' := [(1, .int (xI S n j 7)), (0, .ref (ad n j))]) hx hb dX4_resetInput_4 rfl hl (by decide) rfl (fun ls hl => ?_)
  refine lv_aload_n hx hb dX4_resetInput_5 rfl (lv_at hl 1 rfl) ?_
  refine lv_iconst (v := (-1 : Int32)) hx hb dX4_resetInput_6 (by decide) ?_
  refine x_put F hK hI hW hS xc_X4 (cd_dX4 hj) (cd_eX4 hN hj) 7 (by decide) k_2_29 rfl (v := (-1 : Int32)) rfl rfl (fun _ _ => rfl) (fun _ _ => Nat.le_of_ble_eq_true rfl) dX4_resetInput_7 h (fun S1 H locs hW hS h => ?_)
  refine lv_aload_n hx hb dX4_resetInput_10 rfl (lv_at hl 1 rfl) ?_
  refine lv_iconst (v := (0 : Int32)) hx hb dX4_resetInput_11 (by decide) ?_
  refine x_put F hK hI hW hS xc_X4 (cd_dX4 hj) (cd_eX4 hN hj) 8 (by decide) k_2_31 rfl (v := (0 : Int32)) rfl rfl (fun _ _ => rfl) (fun _ _ => Nat.le_of_ble_eq_true rfl) dX4_resetInput_12 h (fun S2 H locs hW hS h => ?_)
  refine lv_aload_n hx hb dX4_resetInput_15 rfl (lv_at hl 1 rfl) ?_
  refine lv_iconst (v := (-1 : Int32)) hx hb dX4_resetInput_16 (by decide) ?_
  refine x_put F hK hI hW hS xc_X4 (cd_dX4 hj) (cd_eX4 hN hj) 10 (by decide) k_2_33 rfl (v := (-1 : Int32)) rfl rfl (fun _ _ => rfl) (fun _ _ => Nat.le_of_ble_eq_true rfl) dX4_resetInput_17 h (fun S3 H locs hW hS h => ?_)
  refine lv_aload_n hx hb dX4_resetInput_20 rfl (lv_at hl 1 rfl) ?_
  refine lv_iconst (v := (-1 : Int32)) hx hb dX4_resetInput_21 (by decide) ?_
  refine x_put F hK hI hW hS xc_X4 (cd_dX4 hj) (cd_eX4 hN hj) 11 (by decide) k_2_36 rfl (v := (-1 : Int32)) rfl rfl (fun _ _ => rfl) (fun _ _ => Nat.le_of_ble_eq_true rfl) dX4_resetInput_22 h (fun S4 H locs hW hS h => ?_)
  refine lv_iload_n hx hb dX4_resetInput_25 rfl (lv_at hl 0 rfl) ?_
  refine lv_iconst (v := (-1 : Int32)) hx hb dX4_resetInput_26 (by decide) ?_
  refine lv_icmp_ne (tgt := 35) hx hb dX4_resetInput_27 (by decide) (fun c_5 => ?_) (fun c_5 => ?_)
  · replace h := (if_neg c_5).symm.trans h
    refine lv_iload_n hx hb dX4_resetInput_35 rfl (lv_at hl 0 rfl) ?_
    exact x_iret F hr hlk hW hS dX4_resetInput_36 h
  replace h := (if_pos c_5).symm.trans h
  refine lv_ldc (v := (32768 : Int32)) hx hb F.2.2.2.1 (x_hts F _ k_5_0) dX4_resetInput_30 ?_
  refine lv_goto (tgt := 36) hx hb dX4_resetInput_32 (by decide) ?_
  exact x_iret F hr hlk hW hS dX4_resetInput_36 h
/-! X0_reset -/
def c0_reset (n : Nat) (S : xS)  : Option (xS) := (c0_linkOf n S ((xI S n 4 0) &&& (65534 : Int32))).bind (fun (r_1, S1) => xcs r_1 ((c5_wordAt n 2 S1 ((xI S n 4 0) &&& (65534 : Int32))).bind (fun (r_3, S3) => xnm (sI S3 n 4 0 r_3) (fun S4 => (c5_setWord n 2 S4 ((xI S n 4 0) &&& (65534 : Int32)) (32768 : Int32)).bind (fun S5 => some S5)))) (fun n_2 j_2 => gq (n = n_2 ∧ 12 ≤ j_2 ∧ j_2 < 16) (if (32776 : Int32) ≤ ((xI S n 4 0) &&& (65534 : Int32)) then ((c4_resetInput n j_2 S1 ).bind (fun (r_7, S7) => xnm (sI S7 n 4 0 r_7) (fun S8 => some S8))) else ((c4_resetOutput n j_2 S1 ).bind (fun (r_9, S9) => xnm (sI S9 n 4 0 r_9) (fun S10 => some S10))))))
set_option maxHeartbeats 4000000 in
set_option maxRecDepth 100000 in
theorem m_c0_reset {l : Launch} {D : va_G} {cI cJ cL cN : ClassId} {ad : Nat → Nat → Nat} {N : Nat} (hN : N ≤ 8) (hI : xInj (cDom N) ad) {n : Nat} (hn : n < N) {S : xS}  {o : xS} (h : c0_reset n S  = some o) : Met l yX0_reset (Cond.code yX0_reset cX0_reset 3 none :: xG) { frames := 1, cells := 0, slots := 0, locals := 26 } (xPc D vwCl (cTy cI cJ cL cN) cNf cNm (cDom N) ad (cDe ad N cI cJ cL cN) [.ref (ad n 21)] S) (xQ D vwCl (cDom N) ad (cDe ad N cI cJ cL cN) none o) 0 0 (xA (cDom N) ad) := by
  unfold c0_reset at h
  refine x_enter (by decide) (Nat.le_of_ble_eq_true rfl) (fun p e s m below meth c F hr hlk hK hW hS ls hl => ?_)
  have hl : lv_has ls 3 [(0, .ref (ad n 21))] := hl
  have hx := F.1
  have hb := F.2.1
  refine lv_aload_n hx hb dX0_reset_0 rfl (lv_at hl 0 rfl) ?_
  refine x_get F hK hW xc_X0 (cd_dX0 hn) (cd_eX0 hN hn) 1 (by decide) k_2_73 (rfl) dX0_reset_1 ?_
  refine x_getN F hK hW xc_X9 (cd_dX9 ⟨hn, Or.inl rfl⟩) (cd_eX9 hN ⟨hn, Or.inl rfl⟩) 0 (by decide) kn_1 (rfl) dX0_reset_4 ?_
  refine lv_ldc (v := (65534 : Int32)) hx hb F.2.2.2.1 (x_hts F _ k_4_190) dX0_reset_7 ?_
  refine lv_iand hx hb dX0_reset_9 ?_
  refine lv_istore_n (lv' := [(1, .int ((xI S n 4 0) &&& (65534 : Int32))), (0, .ref (ad n 21))]) hx hb dX0_reset_10 rfl hl (by decide) rfl (fun ls hl => ?_)
  refine lv_aload_n hx hb dX0_reset_11 rfl (lv_at hl 1 rfl) ?_
  refine lv_iload_n hx hb dX0_reset_12 rfl (lv_at hl 0 rfl) ?_
  refine x_cVq (As := [.int ((xI S n 4 0) &&& (65534 : Int32))]) F xG_ok hK hW hS um_X0_linkOf k_4_186 (fun _ h1 => m_c0_linkOf hN hI hn _ h1) rfl (cd_dX0 hn) (cd_eX0 hN hn) rfl rfl hl.1 rfl rfl ⟨Nat.le_of_ble_eq_true rfl, Nat.le_of_ble_eq_true rfl⟩ ⟨Nat.zero_le _, Nat.zero_le _⟩ (Nat.le_of_ble_eq_true rfl) dX0_reset_13 h (fun r_1 S1 H locs hW hS h => ?_)
  refine x_astore_nq (lv' := [(2, xRv ad r_1), (1, .int ((xI S n 4 0) &&& (65534 : Int32))), (0, .ref (ad n 21))]) hx hb dX0_reset_16 rfl hl (by decide) rfl (fun ls hl => ?_)
  refine x_aload_nq hx hb dX0_reset_17 rfl (lv_at hl 0 rfl) ?_
  rcases r_1 with _ | ⟨n_2, j_2⟩
  · replace h := xcs_n h
    have hl : lv_has ls 3 [(2, .null), (1, .int ((xI S n 4 0) &&& (65534 : Int32))), (0, .ref (ad n 21))] := hl
    refine lv_ifnonnullN hx hb dX0_reset_18 ?_
    refine lv_aload_n hx hb dX0_reset_21 rfl (lv_at hl 2 rfl) ?_
    refine x_get F hK hW xc_X0 (cd_dX0 hn) (cd_eX0 hN hn) 1 (by decide) k_2_73 (rfl) dX0_reset_22 ?_
    refine lv_aload_n hx hb dX0_reset_25 rfl (lv_at hl 2 rfl) ?_
    refine x_get F hK hW xc_X0 (cd_dX0 hn) (cd_eX0 hN hn) 2 (by decide) k_2_74 (rfl) dX0_reset_26 ?_
    refine lv_iload_n hx hb dX0_reset_29 rfl (lv_at hl 1 rfl) ?_
    refine x_cVi (As := [.int ((xI S n 4 0) &&& (65534 : Int32))]) F xG_ok hK hW hS um_X5_wordAt k_4_205 (fun _ h1 => m_c5_wordAt hN hI (is5n hn) _ h1) rfl (cd_dX5 (is5n hn)) (cd_eX5 hN (is5n hn)) rfl rfl hl.1 rfl rfl ⟨Nat.le_of_ble_eq_true rfl, Nat.le_of_ble_eq_true rfl⟩ ⟨Nat.zero_le _, Nat.zero_le _⟩ (Nat.le_of_ble_eq_true rfl) dX0_reset_30 h (fun r_3 S3 H locs hW hS h => ?_)
    refine x_putN F hK hI hW hS xc_X9 (cd_dX9 ⟨hn, Or.inl rfl⟩) (cd_eX9 hN ⟨hn, Or.inl rfl⟩) 0 (by decide) kn_1 rfl (v := r_3) rfl rfl (fun _ _ => rfl) (fun _ _ => Nat.le_of_ble_eq_true rfl) dX0_reset_33 h (fun S4 H locs hW hS h => ?_)
    refine lv_aload_n hx hb dX0_reset_36 rfl (lv_at hl 2 rfl) ?_
    refine x_get F hK hW xc_X0 (cd_dX0 hn) (cd_eX0 hN hn) 2 (by decide) k_2_74 (rfl) dX0_reset_37 ?_
    refine lv_iload_n hx hb dX0_reset_40 rfl (lv_at hl 1 rfl) ?_
    refine lv_ldc (v := (32768 : Int32)) hx hb F.2.2.2.1 (x_hts F _ k_4_191) dX0_reset_41 ?_
    refine x_cVv (As := [.int ((xI S n 4 0) &&& (65534 : Int32)), .int (32768 : Int32)]) F xG_ok hK hW hS um_X5_setWord k_4_210 (fun _ h1 => m_c5_setWord hN hI (is5n hn) _ _ h1) rfl (cd_dX5 (is5n hn)) (cd_eX5 hN (is5n hn)) rfl rfl hl.1 rfl rfl ⟨Nat.le_of_ble_eq_true rfl, Nat.le_of_ble_eq_true rfl⟩ ⟨Nat.zero_le _, Nat.zero_le _⟩ (Nat.le_of_ble_eq_true rfl) dX0_reset_43 h (fun S5 H locs hW hS h => ?_)
    refine lv_goto (tgt := 80) hx hb dX0_reset_46 (by decide) ?_
    exact x_vret F hr hlk hW hS dX0_reset_80 h
  replace h := xcs_s h
  have hg_2 := (gq_use h).1
  replace h := (gq_use h).2
  obtain ⟨he_2, -⟩ := id hg_2
  subst he_2
  have hl : lv_has ls 3 [(2, .ref (ad n j_2)), (1, .int ((xI S n 4 0) &&& (65534 : Int32))), (0, .ref (ad n 21))] := hl
  refine lv_ifnonnull (tgt := 49) hx hb dX0_reset_18 (by decide) ?_
  refine lv_iload_n hx hb dX0_reset_49 rfl (lv_at hl 1 rfl) ?_
  refine lv_ldc (v := (32776 : Int32)) hx hb F.2.2.2.1 (x_hts F _ k_4_235) dX0_reset_50 ?_
  refine lv_icmp_ge (tgt := 69) hx hb dX0_reset_52 (by decide) (fun c_6 => ?_) (fun c_6 => ?_)
  · replace h := (if_pos c_6).symm.trans h
    refine lv_aload_n hx hb dX0_reset_69 rfl (lv_at hl 2 rfl) ?_
    refine x_get F hK hW xc_X0 (cd_dX0 hn) (cd_eX0 hN hn) 1 (by decide) k_2_73 (rfl) dX0_reset_70 ?_
    refine lv_aload_n hx hb dX0_reset_73 rfl (lv_at hl 0 rfl) ?_
    refine x_cVi (As := []) F xG_ok hK hW hS um_X4_resetInput k_5_1 (fun _ h1 => m_c4_resetInput hN hI ⟨hn, hg_2.2.1, hg_2.2.2⟩  h1) rfl (cd_dX4 ⟨hn, hg_2.2.1, hg_2.2.2⟩) (cd_eX4 hN ⟨hn, hg_2.2.1, hg_2.2.2⟩) rfl rfl hl.1 rfl rfl ⟨Nat.le_of_ble_eq_true rfl, Nat.le_of_ble_eq_true rfl⟩ ⟨Nat.zero_le _, Nat.zero_le _⟩ (Nat.le_of_ble_eq_true rfl) dX0_reset_74 h (fun r_7 S7 H locs hW hS h => ?_)
    refine x_putN F hK hI hW hS xc_X9 (cd_dX9 ⟨hn, Or.inl rfl⟩) (cd_eX9 hN ⟨hn, Or.inl rfl⟩) 0 (by decide) kn_1 rfl (v := r_7) rfl rfl (fun _ _ => rfl) (fun _ _ => Nat.le_of_ble_eq_true rfl) dX0_reset_77 h (fun S8 H locs hW hS h => ?_)
    exact x_vret F hr hlk hW hS dX0_reset_80 h
  replace h := (if_neg c_6).symm.trans h
  refine lv_aload_n hx hb dX0_reset_55 rfl (lv_at hl 2 rfl) ?_
  refine x_get F hK hW xc_X0 (cd_dX0 hn) (cd_eX0 hN hn) 1 (by decide) k_2_73 (rfl) dX0_reset_56 ?_
  refine lv_aload_n hx hb dX0_reset_59 rfl (lv_at hl 0 rfl) ?_
  refine x_cVi (As := []) F xG_ok hK hW hS um_X4_resetOutput k_4_236 (fun _ h1 => m_c4_resetOutput hN hI ⟨hn, hg_2.2.1, hg_2.2.2⟩  h1) rfl (cd_dX4 ⟨hn, hg_2.2.1, hg_2.2.2⟩) (cd_eX4 hN ⟨hn, hg_2.2.1, hg_2.2.2⟩) rfl rfl hl.1 rfl rfl ⟨Nat.le_of_ble_eq_true rfl, Nat.le_of_ble_eq_true rfl⟩ ⟨Nat.zero_le _, Nat.zero_le _⟩ (Nat.le_of_ble_eq_true rfl) dX0_reset_60 h (fun r_9 S9 H locs hW hS h => ?_)
  refine x_putN F hK hI hW hS xc_X9 (cd_dX9 ⟨hn, Or.inl rfl⟩) (cd_eX9 hN ⟨hn, Or.inl rfl⟩) 0 (by decide) kn_1 rfl (v := r_9) rfl rfl (fun _ _ => rfl) (fun _ _ => Nat.le_of_ble_eq_true rfl) dX0_reset_63 h (fun S10 H locs hW hS h => ?_)
  refine lv_goto (tgt := 80) hx hb dX0_reset_66 (by decide) ?_
  exact x_vret F hr hlk hW hS dX0_reset_80 h
/-! X0_enableSkip -/
def c0_enableSkip (n : Nat) (S : xS)  : Option (xS) := if (xI S n 4 0) = 0 then (some S) else ((c1_setLocal n S (-3 : Int32) (32771 : Int32)).bind (fun S2 => some S2))
set_option maxHeartbeats 4000000 in
set_option maxRecDepth 100000 in
theorem m_c0_enableSkip {l : Launch} {D : va_G} {cI cJ cL cN : ClassId} {ad : Nat → Nat → Nat} {N : Nat} (hN : N ≤ 8) (hI : xInj (cDom N) ad) {n : Nat} (hn : n < N) {S : xS}  {o : xS} (h : c0_enableSkip n S  = some o) : Met l yX0_enableSkip (Cond.code yX0_enableSkip cX0_enableSkip 1 none :: xG) { frames := 2, cells := 0, slots := 0, locals := 48 } (xPc D vwCl (cTy cI cJ cL cN) cNf cNm (cDom N) ad (cDe ad N cI cJ cL cN) [.ref (ad n 21)] S) (xQ D vwCl (cDom N) ad (cDe ad N cI cJ cL cN) none o) 0 0 (xA (cDom N) ad) := by
  unfold c0_enableSkip at h
  refine x_enter (by decide) (Nat.le_of_ble_eq_true rfl) (fun p e s m below meth c F hr hlk hK hW hS ls hl => ?_)
  have hl : lv_has ls 1 [(0, .ref (ad n 21))] := hl
  have hx := F.1
  have hb := F.2.1
  refine lv_aload_n hx hb dX0_enableSkip_0 rfl (lv_at hl 0 rfl) ?_
  refine x_get F hK hW xc_X0 (cd_dX0 hn) (cd_eX0 hN hn) 1 (by decide) k_2_73 (rfl) dX0_enableSkip_1 ?_
  refine x_getN F hK hW xc_X9 (cd_dX9 ⟨hn, Or.inl rfl⟩) (cd_eX9 hN ⟨hn, Or.inl rfl⟩) 0 (by decide) kn_1 (rfl) dX0_enableSkip_4 ?_
  refine lv_if_eq (tgt := 21) hx hb dX0_enableSkip_7 (by decide) (fun c_1 => ?_) (fun c_1 => ?_)
  · replace h := (if_pos c_1).symm.trans h
    exact x_vret F hr hlk hW hS dX0_enableSkip_21 h
  replace h := (if_neg c_1).symm.trans h
  refine lv_aload_n hx hb dX0_enableSkip_10 rfl (lv_at hl 0 rfl) ?_
  refine x_get F hK hW xc_X0 (cd_dX0 hn) (cd_eX0 hN hn) 0 (by decide) k_2_72 (rfl) dX0_enableSkip_11 ?_
  refine lv_bipush (v := (-3 : Int32)) hx hb dX0_enableSkip_14 (by decide) ?_
  refine lv_ldc (v := (32771 : Int32)) hx hb F.2.2.2.1 (x_hts F _ k_5_57) dX0_enableSkip_16 ?_
  refine x_cVv (As := [.int (-3 : Int32), .int (32771 : Int32)]) F xG_ok hK hW hS um_X1_setLocal k_4_211 (fun _ h1 => m_c1_setLocal hN hI hn _ _ h1) rfl (cd_dX1 hn) (cd_eX1 hN hn) rfl rfl hl.1 rfl rfl ⟨Nat.le_of_ble_eq_true rfl, Nat.le_of_ble_eq_true rfl⟩ ⟨Nat.zero_le _, Nat.zero_le _⟩ (Nat.le_of_ble_eq_true rfl) dX0_enableSkip_18 h (fun S2 H locs hW hS h => ?_)
  exact x_vret F hr hlk hW hS dX0_enableSkip_21 h
/-! X0_enableLink -/
def c0_enableLink (n : Nat) (j2 : Nat) (S : xS)  : Option (xS) := if (xI S n j2 10) = (-1 : Int32) then ((c1_own n S ).bind (fun (r_2, S2) => xnm (sI S2 n j2 11 r_2) (fun S3 => some S3))) else ((c1_setLocal n S (-3 : Int32) (32771 : Int32)).bind (fun S4 => some S4))
set_option maxHeartbeats 4000000 in
set_option maxRecDepth 100000 in
theorem m_c0_enableLink {l : Launch} {D : va_G} {cI cJ cL cN : ClassId} {ad : Nat → Nat → Nat} {N : Nat} (hN : N ≤ 8) (hI : xInj (cDom N) ad) {n : Nat} (hn : n < N) {j2 : Nat} (hj2 : isX4 N n j2) {S : xS}  {o : xS} (h : c0_enableLink n j2 S  = some o) : Met l yX0_enableLink (Cond.code yX0_enableLink cX0_enableLink 2 none :: xG) { frames := 2, cells := 0, slots := 0, locals := 48 } (xPc D vwCl (cTy cI cJ cL cN) cNf cNm (cDom N) ad (cDe ad N cI cJ cL cN) [.ref (ad n 21), .ref (ad n j2)] S) (xQ D vwCl (cDom N) ad (cDe ad N cI cJ cL cN) none o) 0 0 (xA (cDom N) ad) := by
  unfold c0_enableLink at h
  refine x_enter (by decide) (Nat.le_of_ble_eq_true rfl) (fun p e s m below meth c F hr hlk hK hW hS ls hl => ?_)
  have hl : lv_has ls 2 [(0, .ref (ad n 21)), (1, .ref (ad n j2))] := hl
  have hx := F.1
  have hb := F.2.1
  refine lv_aload_n hx hb dX0_enableLink_0 rfl (lv_at hl 1 rfl) ?_
  refine x_getN F hK hW xc_X4 (cd_dX4 hj2) (cd_eX4 hN hj2) 10 (by decide) kn_54 (rfl) dX0_enableLink_1 ?_
  refine lv_iconst (v := (-1 : Int32)) hx hb dX0_enableLink_4 (by decide) ?_
  refine lv_icmp_eq (tgt := 22) hx hb dX0_enableLink_5 (by decide) (fun c_1 => ?_) (fun c_1 => ?_)
  · replace h := (if_pos c_1).symm.trans h
    refine lv_aload_n hx hb dX0_enableLink_22 rfl (lv_at hl 1 rfl) ?_
    refine lv_aload_n hx hb dX0_enableLink_23 rfl (lv_at hl 0 rfl) ?_
    refine x_get F hK hW xc_X0 (cd_dX0 hn) (cd_eX0 hN hn) 0 (by decide) k_2_72 (rfl) dX0_enableLink_24 ?_
    refine x_cVi (As := []) F xG_ok hK hW hS um_X1_own k_4_197 (fun _ h1 => m_c1_own hN hI hn  h1) rfl (cd_dX1 hn) (cd_eX1 hN hn) rfl rfl hl.1 rfl rfl ⟨Nat.le_of_ble_eq_true rfl, Nat.le_of_ble_eq_true rfl⟩ ⟨Nat.zero_le _, Nat.zero_le _⟩ (Nat.le_of_ble_eq_true rfl) dX0_enableLink_27 h (fun r_2 S2 H locs hW hS h => ?_)
    refine x_putN F hK hI hW hS xc_X4 (cd_dX4 hj2) (cd_eX4 hN hj2) 11 (by decide) kn_55 rfl (v := r_2) rfl rfl (fun _ _ => rfl) (fun _ _ => Nat.le_of_ble_eq_true rfl) dX0_enableLink_30 h (fun S3 H locs hW hS h => ?_)
    exact x_vret F hr hlk hW hS dX0_enableLink_33 h
  replace h := (if_neg c_1).symm.trans h
  refine lv_aload_n hx hb dX0_enableLink_8 rfl (lv_at hl 0 rfl) ?_
  refine x_get F hK hW xc_X0 (cd_dX0 hn) (cd_eX0 hN hn) 0 (by decide) k_2_72 (rfl) dX0_enableLink_9 ?_
  refine lv_bipush (v := (-3 : Int32)) hx hb dX0_enableLink_12 (by decide) ?_
  refine lv_ldc (v := (32771 : Int32)) hx hb F.2.2.2.1 (x_hts F _ k_5_57) dX0_enableLink_14 ?_
  refine x_cVv (As := [.int (-3 : Int32), .int (32771 : Int32)]) F xG_ok hK hW hS um_X1_setLocal k_4_211 (fun _ h1 => m_c1_setLocal hN hI hn _ _ h1) rfl (cd_dX1 hn) (cd_eX1 hN hn) rfl rfl hl.1 rfl rfl ⟨Nat.le_of_ble_eq_true rfl, Nat.le_of_ble_eq_true rfl⟩ ⟨Nat.zero_le _, Nat.zero_le _⟩ (Nat.le_of_ble_eq_true rfl) dX0_enableLink_16 h (fun S4 H locs hW hS h => ?_)
  refine lv_goto (tgt := 33) hx hb dX0_enableLink_19 (by decide) ?_
  exact x_vret F hr hlk hW hS dX0_enableLink_33 h
/-! X0_enableWord -/
def c0_enableWord (n : Nat) (S : xS) (a1 : Int32) : Option (xS) := (c5_wordAt n 2 S a1).bind (fun (r_1, S1) => if r_1 = (32768 : Int32) then ((c1_own n S1 ).bind (fun (r_6, S6) => (c5_setWord n 2 S6 a1 r_6).bind (fun S7 => some S7))) else ((c1_own n S1 ).bind (fun (r_3, S3) => if r_1 = r_3 then (some S3) else ((c1_setLocal n S3 (-3 : Int32) (32771 : Int32)).bind (fun S5 => some S5)))))
set_option maxHeartbeats 4000000 in
set_option maxRecDepth 100000 in
theorem m_c0_enableWord {l : Launch} {D : va_G} {cI cJ cL cN : ClassId} {ad : Nat → Nat → Nat} {N : Nat} (hN : N ≤ 8) (hI : xInj (cDom N) ad) {n : Nat} (hn : n < N) {S : xS} (a1 : Int32) {o : xS} (h : c0_enableWord n S a1 = some o) : Met l yX0_enableWord (Cond.code yX0_enableWord cX0_enableWord 3 none :: xG) { frames := 2, cells := 0, slots := 0, locals := 48 } (xPc D vwCl (cTy cI cJ cL cN) cNf cNm (cDom N) ad (cDe ad N cI cJ cL cN) [.ref (ad n 21), .int a1] S) (xQ D vwCl (cDom N) ad (cDe ad N cI cJ cL cN) none o) 0 0 (xA (cDom N) ad) := by
  unfold c0_enableWord at h
  refine x_enter (by decide) (Nat.le_of_ble_eq_true rfl) (fun p e s m below meth c F hr hlk hK hW hS ls hl => ?_)
  have hl : lv_has ls 3 [(0, .ref (ad n 21)), (1, .int a1)] := hl
  have hx := F.1
  have hb := F.2.1
  refine lv_aload_n hx hb dX0_enableWord_0 rfl (lv_at hl 0 rfl) ?_
  refine x_get F hK hW xc_X0 (cd_dX0 hn) (cd_eX0 hN hn) 2 (by decide) k_2_74 (rfl) dX0_enableWord_1 ?_
  refine lv_iload_n hx hb dX0_enableWord_4 rfl (lv_at hl 1 rfl) ?_
  refine x_cVi (As := [.int a1]) F xG_ok hK hW hS um_X5_wordAt k_4_205 (fun _ h1 => m_c5_wordAt hN hI (is5n hn) _ h1) rfl (cd_dX5 (is5n hn)) (cd_eX5 hN (is5n hn)) rfl rfl hl.1 rfl rfl ⟨Nat.le_of_ble_eq_true rfl, Nat.le_of_ble_eq_true rfl⟩ ⟨Nat.zero_le _, Nat.zero_le _⟩ (Nat.le_of_ble_eq_true rfl) dX0_enableWord_5 h (fun r_1 S1 H locs hW hS h => ?_)
  refine lv_istore_n (lv' := [(2, .int r_1), (0, .ref (ad n 21)), (1, .int a1)]) hx hb dX0_enableWord_8 rfl hl (by decide) rfl (fun ls hl => ?_)
  refine lv_iload_n hx hb dX0_enableWord_9 rfl (lv_at hl 0 rfl) ?_
  refine lv_ldc (v := (32768 : Int32)) hx hb F.2.2.2.1 (x_hts F _ k_4_191) dX0_enableWord_10 ?_
  refine lv_icmp_ne (tgt := 33) hx hb dX0_enableWord_12 (by decide) (fun c_2 => ?_) (fun c_2 => ?_)
  · replace h := (if_neg c_2).symm.trans h
    refine lv_iload_n hx hb dX0_enableWord_33 rfl (lv_at hl 0 rfl) ?_
    refine lv_aload_n hx hb dX0_enableWord_34 rfl (lv_at hl 1 rfl) ?_
    refine x_get F hK hW xc_X0 (cd_dX0 hn) (cd_eX0 hN hn) 0 (by decide) k_2_72 (rfl) dX0_enableWord_35 ?_
    refine x_cVi (As := []) F xG_ok hK hW hS um_X1_own k_4_197 (fun _ h1 => m_c1_own hN hI hn  h1) rfl (cd_dX1 hn) (cd_eX1 hN hn) rfl rfl hl.1 rfl rfl ⟨Nat.le_of_ble_eq_true rfl, Nat.le_of_ble_eq_true rfl⟩ ⟨Nat.zero_le _, Nat.zero_le _⟩ (Nat.le_of_ble_eq_true rfl) dX0_enableWord_38 h (fun r_3 S3 H locs hW hS h => ?_)
    refine lv_icmp_eq (tgt := 55) hx hb dX0_enableWord_41 (by decide) (fun c_4 => ?_) (fun c_4 => ?_)
    · replace h := (if_pos c_4).symm.trans h
      exact x_vret F hr hlk hW hS dX0_enableWord_55 h
    replace h := (if_neg c_4).symm.trans h
    refine lv_aload_n hx hb dX0_enableWord_44 rfl (lv_at hl 1 rfl) ?_
    refine x_get F hK hW xc_X0 (cd_dX0 hn) (cd_eX0 hN hn) 0 (by decide) k_2_72 (rfl) dX0_enableWord_45 ?_
    refine lv_bipush (v := (-3 : Int32)) hx hb dX0_enableWord_48 (by decide) ?_
    refine lv_ldc (v := (32771 : Int32)) hx hb F.2.2.2.1 (x_hts F _ k_5_57) dX0_enableWord_50 ?_
    refine x_cVv (As := [.int (-3 : Int32), .int (32771 : Int32)]) F xG_ok hK hW hS um_X1_setLocal k_4_211 (fun _ h1 => m_c1_setLocal hN hI hn _ _ h1) rfl (cd_dX1 hn) (cd_eX1 hN hn) rfl rfl hl.1 rfl rfl ⟨Nat.le_of_ble_eq_true rfl, Nat.le_of_ble_eq_true rfl⟩ ⟨Nat.zero_le _, Nat.zero_le _⟩ (Nat.le_of_ble_eq_true rfl) dX0_enableWord_52 h (fun S5 H locs hW hS h => ?_)
    exact x_vret F hr hlk hW hS dX0_enableWord_55 h
  replace h := (if_pos c_2).symm.trans h
  refine lv_aload_n hx hb dX0_enableWord_15 rfl (lv_at hl 1 rfl) ?_
  refine x_get F hK hW xc_X0 (cd_dX0 hn) (cd_eX0 hN hn) 2 (by decide) k_2_74 (rfl) dX0_enableWord_16 ?_
  refine lv_iload_n hx hb dX0_enableWord_19 rfl (lv_at hl 2 rfl) ?_
  refine lv_aload_n hx hb dX0_enableWord_20 rfl (lv_at hl 1 rfl) ?_
  refine x_get F hK hW xc_X0 (cd_dX0 hn) (cd_eX0 hN hn) 0 (by decide) k_2_72 (rfl) dX0_enableWord_21 ?_
  refine x_cVi (As := []) F xG_ok hK hW hS um_X1_own k_4_197 (fun _ h1 => m_c1_own hN hI hn  h1) rfl (cd_dX1 hn) (cd_eX1 hN hn) rfl rfl hl.1 rfl rfl ⟨Nat.le_of_ble_eq_true rfl, Nat.le_of_ble_eq_true rfl⟩ ⟨Nat.zero_le _, Nat.zero_le _⟩ (Nat.le_of_ble_eq_true rfl) dX0_enableWord_24 h (fun r_6 S6 H locs hW hS h => ?_)
  refine x_cVv (As := [.int a1, .int r_6]) F xG_ok hK hW hS um_X5_setWord k_4_210 (fun _ h1 => m_c5_setWord hN hI (is5n hn) _ _ h1) rfl (cd_dX5 (is5n hn)) (cd_eX5 hN (is5n hn)) rfl rfl hl.1 rfl rfl ⟨Nat.le_of_ble_eq_true rfl, Nat.le_of_ble_eq_true rfl⟩ ⟨Nat.zero_le _, Nat.zero_le _⟩ (Nat.le_of_ble_eq_true rfl) dX0_enableWord_27 h (fun S7 H locs hW hS h => ?_)
  refine lv_goto (tgt := 55) hx hb dX0_enableWord_30 (by decide) ?_
  exact x_vret F hr hlk hW hS dX0_enableWord_55 h
/-! X0_enableChannel -/
def c0_enableChannel (n : Nat) (S : xS)  : Option (xS) := if (xI S n 4 0) = 0 then (xnm (sI S n 4 1 (xI S n 4 2)) (fun S2 => some S2)) else ((c0_linkOf n S (xI S n 4 1)).bind (fun (r_3, S3) => xcs r_3 ((c0_enableWord n S3 (xI S3 n 4 1)).bind (fun S5 => xnm (sI S5 n 4 1 (xI S5 n 4 2)) (fun S6 => some S6))) (fun n_4 j_4 => gq (n = n_4 ∧ 12 ≤ j_4 ∧ j_4 < 16) ((c0_enableLink n j_4 S3 ).bind (fun S7 => xnm (sI S7 n 4 1 (xI S7 n 4 2)) (fun S8 => some S8))))))
set_option maxHeartbeats 4000000 in
set_option maxRecDepth 100000 in
theorem m_c0_enableChannel {l : Launch} {D : va_G} {cI cJ cL cN : ClassId} {ad : Nat → Nat → Nat} {N : Nat} (hN : N ≤ 8) (hI : xInj (cDom N) ad) {n : Nat} (hn : n < N) {S : xS}  {o : xS} (h : c0_enableChannel n S  = some o) : Met l yX0_enableChannel (Cond.code yX0_enableChannel cX0_enableChannel 2 none :: xG) { frames := 3, cells := 0, slots := 0, locals := 70 } (xPc D vwCl (cTy cI cJ cL cN) cNf cNm (cDom N) ad (cDe ad N cI cJ cL cN) [.ref (ad n 21)] S) (xQ D vwCl (cDom N) ad (cDe ad N cI cJ cL cN) none o) 0 0 (xA (cDom N) ad) := by
  unfold c0_enableChannel at h
  refine x_enter (by decide) (Nat.le_of_ble_eq_true rfl) (fun p e s m below meth c F hr hlk hK hW hS ls hl => ?_)
  have hl : lv_has ls 2 [(0, .ref (ad n 21))] := hl
  have hx := F.1
  have hb := F.2.1
  refine lv_aload_n hx hb dX0_enableChannel_0 rfl (lv_at hl 0 rfl) ?_
  refine x_get F hK hW xc_X0 (cd_dX0 hn) (cd_eX0 hN hn) 1 (by decide) k_2_73 (rfl) dX0_enableChannel_1 ?_
  refine x_getN F hK hW xc_X9 (cd_dX9 ⟨hn, Or.inl rfl⟩) (cd_eX9 hN ⟨hn, Or.inl rfl⟩) 0 (by decide) kn_1 (rfl) dX0_enableChannel_4 ?_
  refine lv_if_eq (tgt := 45) hx hb dX0_enableChannel_7 (by decide) (fun c_1 => ?_) (fun c_1 => ?_)
  · replace h := (if_pos c_1).symm.trans h
    refine lv_aload_n hx hb dX0_enableChannel_45 rfl (lv_at hl 0 rfl) ?_
    refine x_get F hK hW xc_X0 (cd_dX0 hn) (cd_eX0 hN hn) 1 (by decide) k_2_73 (rfl) dX0_enableChannel_46 ?_
    refine lv_aload_n hx hb dX0_enableChannel_49 rfl (lv_at hl 0 rfl) ?_
    refine x_get F hK hW xc_X0 (cd_dX0 hn) (cd_eX0 hN hn) 1 (by decide) k_2_73 (rfl) dX0_enableChannel_50 ?_
    refine x_getN F hK hW xc_X9 (cd_dX9 ⟨hn, Or.inl rfl⟩) (cd_eX9 hN ⟨hn, Or.inl rfl⟩) 2 (by decide) kn_7 (rfl) dX0_enableChannel_53 ?_
    refine x_putN F hK hI hW hS xc_X9 (cd_dX9 ⟨hn, Or.inl rfl⟩) (cd_eX9 hN ⟨hn, Or.inl rfl⟩) 1 (by decide) kn_4 rfl (v := (xI S n 4 2)) rfl rfl (fun _ _ => rfl) (fun _ _ => Nat.le_of_ble_eq_true rfl) dX0_enableChannel_56 h (fun S2 H locs hW hS h => ?_)
    exact x_vret F hr hlk hW hS dX0_enableChannel_59 h
  replace h := (if_neg c_1).symm.trans h
  refine lv_aload_n hx hb dX0_enableChannel_10 rfl (lv_at hl 0 rfl) ?_
  refine lv_aload_n hx hb dX0_enableChannel_11 rfl (lv_at hl 0 rfl) ?_
  refine x_get F hK hW xc_X0 (cd_dX0 hn) (cd_eX0 hN hn) 1 (by decide) k_2_73 (rfl) dX0_enableChannel_12 ?_
  refine x_getN F hK hW xc_X9 (cd_dX9 ⟨hn, Or.inl rfl⟩) (cd_eX9 hN ⟨hn, Or.inl rfl⟩) 1 (by decide) kn_4 (rfl) dX0_enableChannel_15 ?_
  refine x_cVq (As := [.int (xI S n 4 1)]) F xG_ok hK hW hS um_X0_linkOf k_4_186 (fun _ h1 => m_c0_linkOf hN hI hn _ h1) rfl (cd_dX0 hn) (cd_eX0 hN hn) rfl rfl hl.1 rfl rfl ⟨Nat.le_of_ble_eq_true rfl, Nat.le_of_ble_eq_true rfl⟩ ⟨Nat.zero_le _, Nat.zero_le _⟩ (Nat.le_of_ble_eq_true rfl) dX0_enableChannel_18 h (fun r_3 S3 H locs hW hS h => ?_)
  refine x_astore_nq (lv' := [(1, xRv ad r_3), (0, .ref (ad n 21))]) hx hb dX0_enableChannel_21 rfl hl (by decide) rfl (fun ls hl => ?_)
  refine x_aload_nq hx hb dX0_enableChannel_22 rfl (lv_at hl 0 rfl) ?_
  rcases r_3 with _ | ⟨n_4, j_4⟩
  · replace h := xcs_n h
    have hl : lv_has ls 2 [(1, .null), (0, .ref (ad n 21))] := hl
    refine lv_ifnullN (tgt := 34) hx hb dX0_enableChannel_23 (by decide) ?_
    refine lv_aload_n hx hb dX0_enableChannel_34 rfl (lv_at hl 1 rfl) ?_
    refine lv_aload_n hx hb dX0_enableChannel_35 rfl (lv_at hl 1 rfl) ?_
    refine x_get F hK hW xc_X0 (cd_dX0 hn) (cd_eX0 hN hn) 1 (by decide) k_2_73 (rfl) dX0_enableChannel_36 ?_
    refine x_getN F hK hW xc_X9 (cd_dX9 ⟨hn, Or.inl rfl⟩) (cd_eX9 hN ⟨hn, Or.inl rfl⟩) 1 (by decide) kn_4 (rfl) dX0_enableChannel_39 ?_
    refine x_cVv (As := [.int (xI S3 n 4 1)]) F xG_ok hK hW hS um_X0_enableWord k_5_70 (fun _ h1 => m_c0_enableWord hN hI hn _ h1) rfl (cd_dX0 hn) (cd_eX0 hN hn) rfl rfl hl.1 rfl rfl ⟨Nat.le_of_ble_eq_true rfl, Nat.le_of_ble_eq_true rfl⟩ ⟨Nat.zero_le _, Nat.zero_le _⟩ (Nat.le_of_ble_eq_true rfl) dX0_enableChannel_42 h (fun S5 H locs hW hS h => ?_)
    refine lv_aload_n hx hb dX0_enableChannel_45 rfl (lv_at hl 1 rfl) ?_
    refine x_get F hK hW xc_X0 (cd_dX0 hn) (cd_eX0 hN hn) 1 (by decide) k_2_73 (rfl) dX0_enableChannel_46 ?_
    refine lv_aload_n hx hb dX0_enableChannel_49 rfl (lv_at hl 1 rfl) ?_
    refine x_get F hK hW xc_X0 (cd_dX0 hn) (cd_eX0 hN hn) 1 (by decide) k_2_73 (rfl) dX0_enableChannel_50 ?_
    refine x_getN F hK hW xc_X9 (cd_dX9 ⟨hn, Or.inl rfl⟩) (cd_eX9 hN ⟨hn, Or.inl rfl⟩) 2 (by decide) kn_7 (rfl) dX0_enableChannel_53 ?_
    refine x_putN F hK hI hW hS xc_X9 (cd_dX9 ⟨hn, Or.inl rfl⟩) (cd_eX9 hN ⟨hn, Or.inl rfl⟩) 1 (by decide) kn_4 rfl (v := (xI S5 n 4 2)) rfl rfl (fun _ _ => rfl) (fun _ _ => Nat.le_of_ble_eq_true rfl) dX0_enableChannel_56 h (fun S6 H locs hW hS h => ?_)
    exact x_vret F hr hlk hW hS dX0_enableChannel_59 h
  replace h := xcs_s h
  have hg_4 := (gq_use h).1
  replace h := (gq_use h).2
  obtain ⟨he_4, -⟩ := id hg_4
  subst he_4
  have hl : lv_has ls 2 [(1, .ref (ad n j_4)), (0, .ref (ad n 21))] := hl
  refine lv_ifnull hx hb dX0_enableChannel_23 ?_
  refine lv_aload_n hx hb dX0_enableChannel_26 rfl (lv_at hl 1 rfl) ?_
  refine lv_aload_n hx hb dX0_enableChannel_27 rfl (lv_at hl 0 rfl) ?_
  refine x_cVv (As := [.ref (ad n j_4)]) F xG_ok hK hW hS um_X0_enableLink k_5_66 (fun _ h1 => m_c0_enableLink hN hI hn ⟨hn, hg_4.2.1, hg_4.2.2⟩  h1) rfl (cd_dX0 hn) (cd_eX0 hN hn) rfl rfl hl.1 rfl rfl ⟨Nat.le_of_ble_eq_true rfl, Nat.le_of_ble_eq_true rfl⟩ ⟨Nat.zero_le _, Nat.zero_le _⟩ (Nat.le_of_ble_eq_true rfl) dX0_enableChannel_28 h (fun S7 H locs hW hS h => ?_)
  refine lv_goto (tgt := 45) hx hb dX0_enableChannel_31 (by decide) ?_
  refine lv_aload_n hx hb dX0_enableChannel_45 rfl (lv_at hl 1 rfl) ?_
  refine x_get F hK hW xc_X0 (cd_dX0 hn) (cd_eX0 hN hn) 1 (by decide) k_2_73 (rfl) dX0_enableChannel_46 ?_
  refine lv_aload_n hx hb dX0_enableChannel_49 rfl (lv_at hl 1 rfl) ?_
  refine x_get F hK hW xc_X0 (cd_dX0 hn) (cd_eX0 hN hn) 1 (by decide) k_2_73 (rfl) dX0_enableChannel_50 ?_
  refine x_getN F hK hW xc_X9 (cd_dX9 ⟨hn, Or.inl rfl⟩) (cd_eX9 hN ⟨hn, Or.inl rfl⟩) 2 (by decide) kn_7 (rfl) dX0_enableChannel_53 ?_
  refine x_putN F hK hI hW hS xc_X9 (cd_dX9 ⟨hn, Or.inl rfl⟩) (cd_eX9 hN ⟨hn, Or.inl rfl⟩) 1 (by decide) kn_4 rfl (v := (xI S7 n 4 2)) rfl rfl (fun _ _ => rfl) (fun _ _ => Nat.le_of_ble_eq_true rfl) dX0_enableChannel_56 h (fun S8 H locs hW hS h => ?_)
  exact x_vret F hr hlk hW hS dX0_enableChannel_59 h
/-! X1_local -/
def c1_local (n : Nat) (S : xS) (a1 : Int32) : Option (Int32 × xS) := (c5_wordAt n 2 S ((xI S n 4 5) + ((2 : Int32) * a1))).bind (fun (r_1, S1) => some (r_1, S1))
set_option maxHeartbeats 4000000 in
set_option maxRecDepth 100000 in
theorem m_c1_local {l : Launch} {D : va_G} {cI cJ cL cN : ClassId} {ad : Nat → Nat → Nat} {N : Nat} (hN : N ≤ 8) (hI : xInj (cDom N) ad) {n : Nat} (hn : n < N) {S : xS} (a1 : Int32) {o : Int32 × xS} (h : c1_local n S a1 = some o) : Met l yX1_local (Cond.code yX1_local cX1_local 2 (some .int) :: xG) { frames := 1, cells := 0, slots := 0, locals := 22 } (xPc D vwCl (cTy cI cJ cL cN) cNf cNm (cDom N) ad (cDe ad N cI cJ cL cN) [.ref (ad n 1), .int a1] S) (xQ D vwCl (cDom N) ad (cDe ad N cI cJ cL cN) (some (.int o.1)) o.2) 0 0 (xA (cDom N) ad) := by
  unfold c1_local at h
  refine x_enter (by decide) (Nat.le_of_ble_eq_true rfl) (fun p e s m below meth c F hr hlk hK hW hS ls hl => ?_)
  have hl : lv_has ls 2 [(0, .ref (ad n 1)), (1, .int a1)] := hl
  have hx := F.1
  have hb := F.2.1
  refine lv_aload_n hx hb dX1_local_0 rfl (lv_at hl 0 rfl) ?_
  refine x_get F hK hW xc_X1 (cd_dX1 hn) (cd_eX1 hN hn) 0 (by decide) k_1_148 (rfl) dX1_local_1 ?_
  refine lv_aload_n hx hb dX1_local_4 rfl (lv_at hl 0 rfl) ?_
  refine x_get F hK hW xc_X1 (cd_dX1 hn) (cd_eX1 hN hn) 1 (by decide) k_1_156 (rfl) dX1_local_5 ?_
  refine x_getN F hK hW xc_X9 (cd_dX9 ⟨hn, Or.inl rfl⟩) (cd_eX9 hN ⟨hn, Or.inl rfl⟩) 5 (by decide) kn_14 (rfl) dX1_local_8 ?_
  refine lv_iconst (v := (2 : Int32)) hx hb dX1_local_11 (by decide) ?_
  refine lv_iload_n hx hb dX1_local_12 rfl (lv_at hl 1 rfl) ?_
  refine lv_imul hx hb dX1_local_13 ?_
  refine lv_iadd hx hb dX1_local_14 ?_
  refine x_cVi (As := [.int ((xI S n 4 5) + ((2 : Int32) * a1))]) F xG_ok hK hW hS um_X5_wordAt k_3_94 (fun _ h1 => m_c5_wordAt hN hI (is5n hn) _ h1) rfl (cd_dX5 (is5n hn)) (cd_eX5 hN (is5n hn)) rfl rfl hl.1 rfl rfl ⟨Nat.le_of_ble_eq_true rfl, Nat.le_of_ble_eq_true rfl⟩ ⟨Nat.zero_le _, Nat.zero_le _⟩ (Nat.le_of_ble_eq_true rfl) dX1_local_15 h (fun r_1 S1 H locs hW hS h => ?_)
  exact x_iret F hr hlk hW hS dX1_local_18 h
/-! X11_signed -/
def c11_signed (a1 : Int32) : Option Int32 := some (a1.toInt16.toInt32)
set_option maxHeartbeats 4000000 in
set_option maxRecDepth 100000 in
theorem m_c11_signed {l : Launch} (a1 : Int32) {o : Int32} (h : c11_signed a1 = some o) : Met l yX11_signed (Cond.code yX11_signed cX11_signed 1 (some .int) :: xG) { frames := 0, cells := 0, slots := 0, locals := 0 } (va_Pc [.int a1] (fun _ => True)) (xQs o) 0 0 (fun _ => False) := by
  unfold c11_signed at h
  refine x_sEnter (by decide) (Nat.le_of_ble_eq_true rfl) (fun p e s m below meth c F hr hlk hS ls hl => ?_)
  have hl : lv_has ls 1 [(0, .int a1)] := hl
  have hx := F.1
  have hb := F.2.1
  refine lv_iload_n hx hb dX11_signed_0 rfl (lv_at hl 0 rfl) ?_
  refine lv_i2s (v := a1.toInt16.toInt32) hx hb dX11_signed_1 rfl ?_
  exact x_siret F hr hlk hS dX11_signed_2 h
/-! X11_isLater -/
def c11_isLater (a1 : Int32) (a2 : Int32) : Option Int32 := (c11_signed (a1 - a2)).bind (fun r_1 => if r_1 ≤ 0 then (some (0 : Int32)) else (some (1 : Int32)))
set_option maxHeartbeats 4000000 in
set_option maxRecDepth 100000 in
theorem m_c11_isLater {l : Launch} (a1 : Int32) (a2 : Int32) {o : Int32} (h : c11_isLater a1 a2 = some o) : Met l yX11_isLater (Cond.code yX11_isLater cX11_isLater 2 (some .boolean) :: xG) { frames := 1, cells := 0, slots := 0, locals := 20 } (va_Pc [.int a1, .int a2] (fun _ => True)) (xQs o) 0 0 (fun _ => False) := by
  unfold c11_isLater at h
  refine x_sEnter (by decide) (Nat.le_of_ble_eq_true rfl) (fun p e s m below meth c F hr hlk hS ls hl => ?_)
  have hl : lv_has ls 2 [(0, .int a1), (1, .int a2)] := hl
  have hx := F.1
  have hb := F.2.1
  refine lv_iload_n hx hb dX11_isLater_0 rfl (lv_at hl 0 rfl) ?_
  refine lv_iload_n hx hb dX11_isLater_1 rfl (lv_at hl 1 rfl) ?_
  refine lv_isub hx hb dX11_isLater_2 ?_
  refine x_cSo (As := [.int (a1 - a2)]) F xG_ok hS um_X11_signed k_3_189 (fun _ h1 => m_c11_signed _ h1) rfl rfl hl.1 rfl rfl ⟨Nat.le_of_ble_eq_true rfl, Nat.le_of_ble_eq_true rfl⟩ ⟨Nat.zero_le _, Nat.zero_le _⟩ (Nat.le_of_ble_eq_true rfl) dX11_isLater_3 h (fun r_1 locs hS h => ?_)
  refine lv_if_le (tgt := 13) hx hb dX11_isLater_6 (by decide) (fun c_2 => ?_) (fun c_2 => ?_)
  · replace h := (if_pos c_2).symm.trans h
    refine lv_iconst (v := (0 : Int32)) hx hb dX11_isLater_13 (by decide) ?_
    exact x_szret F hr hlk hS rfl dX11_isLater_14 h
  replace h := (if_neg c_2).symm.trans h
  refine lv_iconst (v := (1 : Int32)) hx hb dX11_isLater_9 (by decide) ?_
  refine lv_goto (tgt := 14) hx hb dX11_isLater_10 (by decide) ?_
  exact x_szret F hr hlk hS rfl dX11_isLater_14 h
/-! X0_enableTime -/
def c0_enableTime (n : Nat) (S : xS)  : Option (xS) := if (xI S n 4 0) = 0 then (xnm (sI S n 4 1 (xI S n 4 2)) (fun S2 => some S2)) else ((c1_local n S (-4 : Int32)).bind (fun (r_3, S3) => if r_3 = (32770 : Int32) then ((c1_setLocal n S3 (-4 : Int32) (32769 : Int32)).bind (fun S11 => (c1_setLocal n S11 (-5 : Int32) (xI S11 n 4 1)).bind (fun S12 => xnm (sI S12 n 4 1 (xI S12 n 4 2)) (fun S13 => some S13)))) else ((c1_local n S3 (-5 : Int32)).bind (fun (r_5, S5) => (c11_isLater r_5 (xI S5 n 4 1)).bind (fun r_6 => if r_6 = 0 then (xnm (sI S5 n 4 1 (xI S5 n 4 2)) (fun S8 => some S8)) else ((c1_setLocal n S5 (-5 : Int32) (xI S5 n 4 1)).bind (fun S9 => xnm (sI S9 n 4 1 (xI S9 n 4 2)) (fun S10 => some S10))))))))
set_option maxHeartbeats 4000000 in
set_option maxRecDepth 100000 in
theorem m_c0_enableTime {l : Launch} {D : va_G} {cI cJ cL cN : ClassId} {ad : Nat → Nat → Nat} {N : Nat} (hN : N ≤ 8) (hI : xInj (cDom N) ad) {n : Nat} (hn : n < N) {S : xS}  {o : xS} (h : c0_enableTime n S  = some o) : Met l yX0_enableTime (Cond.code yX0_enableTime cX0_enableTime 1 none :: xG) { frames := 2, cells := 0, slots := 0, locals := 48 } (xPc D vwCl (cTy cI cJ cL cN) cNf cNm (cDom N) ad (cDe ad N cI cJ cL cN) [.ref (ad n 21)] S) (xQ D vwCl (cDom N) ad (cDe ad N cI cJ cL cN) none o) 0 0 (xA (cDom N) ad) := by
  unfold c0_enableTime at h
  refine x_enter (by decide) (Nat.le_of_ble_eq_true rfl) (fun p e s m below meth c F hr hlk hK hW hS ls hl => ?_)
  have hl : lv_has ls 1 [(0, .ref (ad n 21))] := hl
  have hx := F.1
  have hb := F.2.1
  refine lv_aload_n hx hb dX0_enableTime_0 rfl (lv_at hl 0 rfl) ?_
  refine x_get F hK hW xc_X0 (cd_dX0 hn) (cd_eX0 hN hn) 1 (by decide) k_2_73 (rfl) dX0_enableTime_1 ?_
  refine x_getN F hK hW xc_X9 (cd_dX9 ⟨hn, Or.inl rfl⟩) (cd_eX9 hN ⟨hn, Or.inl rfl⟩) 0 (by decide) kn_1 (rfl) dX0_enableTime_4 ?_
  refine lv_if_eq (tgt := 92) hx hb dX0_enableTime_7 (by decide) (fun c_1 => ?_) (fun c_1 => ?_)
  · replace h := (if_pos c_1).symm.trans h
    refine lv_aload_n hx hb dX0_enableTime_92 rfl (lv_at hl 0 rfl) ?_
    refine x_get F hK hW xc_X0 (cd_dX0 hn) (cd_eX0 hN hn) 1 (by decide) k_2_73 (rfl) dX0_enableTime_93 ?_
    refine lv_aload_n hx hb dX0_enableTime_96 rfl (lv_at hl 0 rfl) ?_
    refine x_get F hK hW xc_X0 (cd_dX0 hn) (cd_eX0 hN hn) 1 (by decide) k_2_73 (rfl) dX0_enableTime_97 ?_
    refine x_getN F hK hW xc_X9 (cd_dX9 ⟨hn, Or.inl rfl⟩) (cd_eX9 hN ⟨hn, Or.inl rfl⟩) 2 (by decide) kn_7 (rfl) dX0_enableTime_100 ?_
    refine x_putN F hK hI hW hS xc_X9 (cd_dX9 ⟨hn, Or.inl rfl⟩) (cd_eX9 hN ⟨hn, Or.inl rfl⟩) 1 (by decide) kn_4 rfl (v := (xI S n 4 2)) rfl rfl (fun _ _ => rfl) (fun _ _ => Nat.le_of_ble_eq_true rfl) dX0_enableTime_103 h (fun S2 H locs hW hS h => ?_)
    exact x_vret F hr hlk hW hS dX0_enableTime_106 h
  replace h := (if_neg c_1).symm.trans h
  refine lv_aload_n hx hb dX0_enableTime_10 rfl (lv_at hl 0 rfl) ?_
  refine x_get F hK hW xc_X0 (cd_dX0 hn) (cd_eX0 hN hn) 0 (by decide) k_2_72 (rfl) dX0_enableTime_11 ?_
  refine lv_bipush (v := (-4 : Int32)) hx hb dX0_enableTime_14 (by decide) ?_
  refine x_cVi (As := [.int (-4 : Int32)]) F xG_ok hK hW hS um_X1_local k_5_30 (fun _ h1 => m_c1_local hN hI hn _ h1) rfl (cd_dX1 hn) (cd_eX1 hN hn) rfl rfl hl.1 rfl rfl ⟨Nat.le_of_ble_eq_true rfl, Nat.le_of_ble_eq_true rfl⟩ ⟨Nat.zero_le _, Nat.zero_le _⟩ (Nat.le_of_ble_eq_true rfl) dX0_enableTime_16 h (fun r_3 S3 H locs hW hS h => ?_)
  refine lv_ldc (v := (32770 : Int32)) hx hb F.2.2.2.1 (x_hts F _ k_5_13) dX0_enableTime_19 ?_
  refine lv_icmp_ne (tgt := 54) hx hb dX0_enableTime_21 (by decide) (fun c_4 => ?_) (fun c_4 => ?_)
  · replace h := (if_neg c_4).symm.trans h
    refine lv_aload_n hx hb dX0_enableTime_54 rfl (lv_at hl 0 rfl) ?_
    refine x_get F hK hW xc_X0 (cd_dX0 hn) (cd_eX0 hN hn) 0 (by decide) k_2_72 (rfl) dX0_enableTime_55 ?_
    refine lv_bipush (v := (-5 : Int32)) hx hb dX0_enableTime_58 (by decide) ?_
    refine x_cVi (As := [.int (-5 : Int32)]) F xG_ok hK hW hS um_X1_local k_5_30 (fun _ h1 => m_c1_local hN hI hn _ h1) rfl (cd_dX1 hn) (cd_eX1 hN hn) rfl rfl hl.1 rfl rfl ⟨Nat.le_of_ble_eq_true rfl, Nat.le_of_ble_eq_true rfl⟩ ⟨Nat.zero_le _, Nat.zero_le _⟩ (Nat.le_of_ble_eq_true rfl) dX0_enableTime_60 h (fun r_5 S5 H locs hW hS h => ?_)
    refine lv_aload_n hx hb dX0_enableTime_63 rfl (lv_at hl 0 rfl) ?_
    refine x_get F hK hW xc_X0 (cd_dX0 hn) (cd_eX0 hN hn) 1 (by decide) k_2_73 (rfl) dX0_enableTime_64 ?_
    refine x_getN F hK hW xc_X9 (cd_dX9 ⟨hn, Or.inl rfl⟩) (cd_eX9 hN ⟨hn, Or.inl rfl⟩) 1 (by decide) kn_4 (rfl) dX0_enableTime_67 ?_
    refine x_cSNi (As := [.int r_5, .int (xI S5 n 4 1)]) F xG_ok hS hK um_X11_isLater km_11 (fun _ h1 => m_c11_isLater _ _ h1) rfl rfl hl.1 rfl rfl ⟨Nat.le_of_ble_eq_true rfl, Nat.le_of_ble_eq_true rfl⟩ ⟨Nat.zero_le _, Nat.zero_le _⟩ (Nat.le_of_ble_eq_true rfl) dX0_enableTime_70 h (fun r_6 locs hS h => ?_)
    refine lv_if_eq (tgt := 92) hx hb dX0_enableTime_73 (by decide) (fun c_7 => ?_) (fun c_7 => ?_)
    · replace h := (if_pos c_7).symm.trans h
      refine lv_aload_n hx hb dX0_enableTime_92 rfl (lv_at hl 0 rfl) ?_
      refine x_get F hK hW xc_X0 (cd_dX0 hn) (cd_eX0 hN hn) 1 (by decide) k_2_73 (rfl) dX0_enableTime_93 ?_
      refine lv_aload_n hx hb dX0_enableTime_96 rfl (lv_at hl 0 rfl) ?_
      refine x_get F hK hW xc_X0 (cd_dX0 hn) (cd_eX0 hN hn) 1 (by decide) k_2_73 (rfl) dX0_enableTime_97 ?_
      refine x_getN F hK hW xc_X9 (cd_dX9 ⟨hn, Or.inl rfl⟩) (cd_eX9 hN ⟨hn, Or.inl rfl⟩) 2 (by decide) kn_7 (rfl) dX0_enableTime_100 ?_
      refine x_putN F hK hI hW hS xc_X9 (cd_dX9 ⟨hn, Or.inl rfl⟩) (cd_eX9 hN ⟨hn, Or.inl rfl⟩) 1 (by decide) kn_4 rfl (v := (xI S5 n 4 2)) rfl rfl (fun _ _ => rfl) (fun _ _ => Nat.le_of_ble_eq_true rfl) dX0_enableTime_103 h (fun S8 H locs hW hS h => ?_)
      exact x_vret F hr hlk hW hS dX0_enableTime_106 h
    replace h := (if_neg c_7).symm.trans h
    refine lv_aload_n hx hb dX0_enableTime_76 rfl (lv_at hl 0 rfl) ?_
    refine x_get F hK hW xc_X0 (cd_dX0 hn) (cd_eX0 hN hn) 0 (by decide) k_2_72 (rfl) dX0_enableTime_77 ?_
    refine lv_bipush (v := (-5 : Int32)) hx hb dX0_enableTime_80 (by decide) ?_
    refine lv_aload_n hx hb dX0_enableTime_82 rfl (lv_at hl 0 rfl) ?_
    refine x_get F hK hW xc_X0 (cd_dX0 hn) (cd_eX0 hN hn) 1 (by decide) k_2_73 (rfl) dX0_enableTime_83 ?_
    refine x_getN F hK hW xc_X9 (cd_dX9 ⟨hn, Or.inl rfl⟩) (cd_eX9 hN ⟨hn, Or.inl rfl⟩) 1 (by decide) kn_4 (rfl) dX0_enableTime_86 ?_
    refine x_cVv (As := [.int (-5 : Int32), .int (xI S5 n 4 1)]) F xG_ok hK hW hS um_X1_setLocal k_4_211 (fun _ h1 => m_c1_setLocal hN hI hn _ _ h1) rfl (cd_dX1 hn) (cd_eX1 hN hn) rfl rfl hl.1 rfl rfl ⟨Nat.le_of_ble_eq_true rfl, Nat.le_of_ble_eq_true rfl⟩ ⟨Nat.zero_le _, Nat.zero_le _⟩ (Nat.le_of_ble_eq_true rfl) dX0_enableTime_89 h (fun S9 H locs hW hS h => ?_)
    refine lv_aload_n hx hb dX0_enableTime_92 rfl (lv_at hl 0 rfl) ?_
    refine x_get F hK hW xc_X0 (cd_dX0 hn) (cd_eX0 hN hn) 1 (by decide) k_2_73 (rfl) dX0_enableTime_93 ?_
    refine lv_aload_n hx hb dX0_enableTime_96 rfl (lv_at hl 0 rfl) ?_
    refine x_get F hK hW xc_X0 (cd_dX0 hn) (cd_eX0 hN hn) 1 (by decide) k_2_73 (rfl) dX0_enableTime_97 ?_
    refine x_getN F hK hW xc_X9 (cd_dX9 ⟨hn, Or.inl rfl⟩) (cd_eX9 hN ⟨hn, Or.inl rfl⟩) 2 (by decide) kn_7 (rfl) dX0_enableTime_100 ?_
    refine x_putN F hK hI hW hS xc_X9 (cd_dX9 ⟨hn, Or.inl rfl⟩) (cd_eX9 hN ⟨hn, Or.inl rfl⟩) 1 (by decide) kn_4 rfl (v := (xI S9 n 4 2)) rfl rfl (fun _ _ => rfl) (fun _ _ => Nat.le_of_ble_eq_true rfl) dX0_enableTime_103 h (fun S10 H locs hW hS h => ?_)
    exact x_vret F hr hlk hW hS dX0_enableTime_106 h
  replace h := (if_pos c_4).symm.trans h
  refine lv_aload_n hx hb dX0_enableTime_24 rfl (lv_at hl 0 rfl) ?_
  refine x_get F hK hW xc_X0 (cd_dX0 hn) (cd_eX0 hN hn) 0 (by decide) k_2_72 (rfl) dX0_enableTime_25 ?_
  refine lv_bipush (v := (-4 : Int32)) hx hb dX0_enableTime_28 (by decide) ?_
  refine lv_ldc (v := (32769 : Int32)) hx hb F.2.2.2.1 (x_hts F _ k_5_12) dX0_enableTime_30 ?_
  refine x_cVv (As := [.int (-4 : Int32), .int (32769 : Int32)]) F xG_ok hK hW hS um_X1_setLocal k_4_211 (fun _ h1 => m_c1_setLocal hN hI hn _ _ h1) rfl (cd_dX1 hn) (cd_eX1 hN hn) rfl rfl hl.1 rfl rfl ⟨Nat.le_of_ble_eq_true rfl, Nat.le_of_ble_eq_true rfl⟩ ⟨Nat.zero_le _, Nat.zero_le _⟩ (Nat.le_of_ble_eq_true rfl) dX0_enableTime_32 h (fun S11 H locs hW hS h => ?_)
  refine lv_aload_n hx hb dX0_enableTime_35 rfl (lv_at hl 0 rfl) ?_
  refine x_get F hK hW xc_X0 (cd_dX0 hn) (cd_eX0 hN hn) 0 (by decide) k_2_72 (rfl) dX0_enableTime_36 ?_
  refine lv_bipush (v := (-5 : Int32)) hx hb dX0_enableTime_39 (by decide) ?_
  refine lv_aload_n hx hb dX0_enableTime_41 rfl (lv_at hl 0 rfl) ?_
  refine x_get F hK hW xc_X0 (cd_dX0 hn) (cd_eX0 hN hn) 1 (by decide) k_2_73 (rfl) dX0_enableTime_42 ?_
  refine x_getN F hK hW xc_X9 (cd_dX9 ⟨hn, Or.inl rfl⟩) (cd_eX9 hN ⟨hn, Or.inl rfl⟩) 1 (by decide) kn_4 (rfl) dX0_enableTime_45 ?_
  refine x_cVv (As := [.int (-5 : Int32), .int (xI S11 n 4 1)]) F xG_ok hK hW hS um_X1_setLocal k_4_211 (fun _ h1 => m_c1_setLocal hN hI hn _ _ h1) rfl (cd_dX1 hn) (cd_eX1 hN hn) rfl rfl hl.1 rfl rfl ⟨Nat.le_of_ble_eq_true rfl, Nat.le_of_ble_eq_true rfl⟩ ⟨Nat.zero_le _, Nat.zero_le _⟩ (Nat.le_of_ble_eq_true rfl) dX0_enableTime_48 h (fun S12 H locs hW hS h => ?_)
  refine lv_goto (tgt := 92) hx hb dX0_enableTime_51 (by decide) ?_
  refine lv_aload_n hx hb dX0_enableTime_92 rfl (lv_at hl 0 rfl) ?_
  refine x_get F hK hW xc_X0 (cd_dX0 hn) (cd_eX0 hN hn) 1 (by decide) k_2_73 (rfl) dX0_enableTime_93 ?_
  refine lv_aload_n hx hb dX0_enableTime_96 rfl (lv_at hl 0 rfl) ?_
  refine x_get F hK hW xc_X0 (cd_dX0 hn) (cd_eX0 hN hn) 1 (by decide) k_2_73 (rfl) dX0_enableTime_97 ?_
  refine x_getN F hK hW xc_X9 (cd_dX9 ⟨hn, Or.inl rfl⟩) (cd_eX9 hN ⟨hn, Or.inl rfl⟩) 2 (by decide) kn_7 (rfl) dX0_enableTime_100 ?_
  refine x_putN F hK hI hW hS xc_X9 (cd_dX9 ⟨hn, Or.inl rfl⟩) (cd_eX9 hN ⟨hn, Or.inl rfl⟩) 1 (by decide) kn_4 rfl (v := (xI S12 n 4 2)) rfl rfl (fun _ _ => rfl) (fun _ _ => Nat.le_of_ble_eq_true rfl) dX0_enableTime_103 h (fun S13 H locs hW hS h => ?_)
  exact x_vret F hr hlk hW hS dX0_enableTime_106 h
/-! X0_waitForGuard -/
def c0_waitForGuard (n : Nat) (S : xS)  : Option (xS) := (c1_setLocal n S (0 : Int32) (65535 : Int32)).bind (fun S1 => (c1_local n S1 (-3 : Int32)).bind (fun (r_2, S2) => if r_2 = (32771 : Int32) then (some S2) else ((c1_setLocal n S2 (-3 : Int32) (32770 : Int32)).bind (fun S4 => (c1_leaveWaiting n S4 ).bind (fun S5 => some S5)))))
set_option maxHeartbeats 4000000 in
set_option maxRecDepth 100000 in
theorem m_c0_waitForGuard {l : Launch} {D : va_G} {cI cJ cL cN : ClassId} {ad : Nat → Nat → Nat} {N : Nat} (hN : N ≤ 8) (hI : xInj (cDom N) ad) {n : Nat} (hn : n < N) {S : xS}  {o : xS} (h : c0_waitForGuard n S  = some o) : Met l yX0_waitForGuard (Cond.code yX0_waitForGuard cX0_waitForGuard 1 none :: xG) { frames := 2, cells := 0, slots := 0, locals := 48 } (xPc D vwCl (cTy cI cJ cL cN) cNf cNm (cDom N) ad (cDe ad N cI cJ cL cN) [.ref (ad n 21)] S) (xQ D vwCl (cDom N) ad (cDe ad N cI cJ cL cN) none o) 0 0 (xA (cDom N) ad) := by
  unfold c0_waitForGuard at h
  refine x_enter (by decide) (Nat.le_of_ble_eq_true rfl) (fun p e s m below meth c F hr hlk hK hW hS ls hl => ?_)
  have hl : lv_has ls 1 [(0, .ref (ad n 21))] := hl
  have hx := F.1
  have hb := F.2.1
  refine lv_aload_n hx hb dX0_waitForGuard_0 rfl (lv_at hl 0 rfl) ?_
  refine x_get F hK hW xc_X0 (cd_dX0 hn) (cd_eX0 hN hn) 0 (by decide) k_2_72 (rfl) dX0_waitForGuard_1 ?_
  refine lv_iconst (v := (0 : Int32)) hx hb dX0_waitForGuard_4 (by decide) ?_
  refine lv_ldc (v := (65535 : Int32)) hx hb F.2.2.2.1 (x_hts F _ k_5_35) dX0_waitForGuard_5 ?_
  refine x_cVv (As := [.int (0 : Int32), .int (65535 : Int32)]) F xG_ok hK hW hS um_X1_setLocal k_4_211 (fun _ h1 => m_c1_setLocal hN hI hn _ _ h1) rfl (cd_dX1 hn) (cd_eX1 hN hn) rfl rfl hl.1 rfl rfl ⟨Nat.le_of_ble_eq_true rfl, Nat.le_of_ble_eq_true rfl⟩ ⟨Nat.zero_le _, Nat.zero_le _⟩ (Nat.le_of_ble_eq_true rfl) dX0_waitForGuard_7 h (fun S1 H locs hW hS h => ?_)
  refine lv_aload_n hx hb dX0_waitForGuard_10 rfl (lv_at hl 0 rfl) ?_
  refine x_get F hK hW xc_X0 (cd_dX0 hn) (cd_eX0 hN hn) 0 (by decide) k_2_72 (rfl) dX0_waitForGuard_11 ?_
  refine lv_bipush (v := (-3 : Int32)) hx hb dX0_waitForGuard_14 (by decide) ?_
  refine x_cVi (As := [.int (-3 : Int32)]) F xG_ok hK hW hS um_X1_local k_5_30 (fun _ h1 => m_c1_local hN hI hn _ h1) rfl (cd_dX1 hn) (cd_eX1 hN hn) rfl rfl hl.1 rfl rfl ⟨Nat.le_of_ble_eq_true rfl, Nat.le_of_ble_eq_true rfl⟩ ⟨Nat.zero_le _, Nat.zero_le _⟩ (Nat.le_of_ble_eq_true rfl) dX0_waitForGuard_16 h (fun r_2 S2 H locs hW hS h => ?_)
  refine lv_ldc (v := (32771 : Int32)) hx hb F.2.2.2.1 (x_hts F _ k_5_57) dX0_waitForGuard_19 ?_
  refine lv_icmp_eq (tgt := 42) hx hb dX0_waitForGuard_21 (by decide) (fun c_3 => ?_) (fun c_3 => ?_)
  · replace h := (if_pos c_3).symm.trans h
    exact x_vret F hr hlk hW hS dX0_waitForGuard_42 h
  replace h := (if_neg c_3).symm.trans h
  refine lv_aload_n hx hb dX0_waitForGuard_24 rfl (lv_at hl 0 rfl) ?_
  refine x_get F hK hW xc_X0 (cd_dX0 hn) (cd_eX0 hN hn) 0 (by decide) k_2_72 (rfl) dX0_waitForGuard_25 ?_
  refine lv_bipush (v := (-3 : Int32)) hx hb dX0_waitForGuard_28 (by decide) ?_
  refine lv_ldc (v := (32770 : Int32)) hx hb F.2.2.2.1 (x_hts F _ k_5_13) dX0_waitForGuard_30 ?_
  refine x_cVv (As := [.int (-3 : Int32), .int (32770 : Int32)]) F xG_ok hK hW hS um_X1_setLocal k_4_211 (fun _ h1 => m_c1_setLocal hN hI hn _ _ h1) rfl (cd_dX1 hn) (cd_eX1 hN hn) rfl rfl hl.1 rfl rfl ⟨Nat.le_of_ble_eq_true rfl, Nat.le_of_ble_eq_true rfl⟩ ⟨Nat.zero_le _, Nat.zero_le _⟩ (Nat.le_of_ble_eq_true rfl) dX0_waitForGuard_32 h (fun S4 H locs hW hS h => ?_)
  refine lv_aload_n hx hb dX0_waitForGuard_35 rfl (lv_at hl 0 rfl) ?_
  refine x_get F hK hW xc_X0 (cd_dX0 hn) (cd_eX0 hN hn) 0 (by decide) k_2_72 (rfl) dX0_waitForGuard_36 ?_
  refine x_cVv (As := []) F xG_ok hK hW hS um_X1_leaveWaiting k_4_204 (fun _ h1 => m_c1_leaveWaiting hN hI hn  h1) rfl (cd_dX1 hn) (cd_eX1 hN hn) rfl rfl hl.1 rfl rfl ⟨Nat.le_of_ble_eq_true rfl, Nat.le_of_ble_eq_true rfl⟩ ⟨Nat.zero_le _, Nat.zero_le _⟩ (Nat.le_of_ble_eq_true rfl) dX0_waitForGuard_39 h (fun S5 H locs hW hS h => ?_)
  exact x_vret F hr hlk hW hS dX0_waitForGuard_42 h
/-! X10_clockOf -/
def c10_clockOf (n : Nat) (S : xS) (a1 : Int32) : Option (Int32 × xS) := if a1 = 0 then (some ((xI S n 8 3), S)) else (some ((xI S n 8 4), S))
set_option maxHeartbeats 4000000 in
set_option maxRecDepth 100000 in
theorem m_c10_clockOf {l : Launch} {D : va_G} {cI cJ cL cN : ClassId} {ad : Nat → Nat → Nat} {N : Nat} (hN : N ≤ 8) (hI : xInj (cDom N) ad) {n : Nat} (hn : n < N) {S : xS} (a1 : Int32) {o : Int32 × xS} (h : c10_clockOf n S a1 = some o) : Met l yX10_clockOf (Cond.code yX10_clockOf cX10_clockOf 2 (some .int) :: xG) { frames := 0, cells := 0, slots := 0, locals := 0 } (xPc D vwCl (cTy cI cJ cL cN) cNf cNm (cDom N) ad (cDe ad N cI cJ cL cN) [.ref (ad n 8), .int a1] S) (xQ D vwCl (cDom N) ad (cDe ad N cI cJ cL cN) (some (.int o.1)) o.2) 0 0 (xA (cDom N) ad) := by
  unfold c10_clockOf at h
  refine x_enter (by decide) (Nat.le_of_ble_eq_true rfl) (fun p e s m below meth c F hr hlk hK hW hS ls hl => ?_)
  have hl : lv_has ls 2 [(0, .ref (ad n 8)), (1, .int a1)] := hl
  have hx := F.1
  have hb := F.2.1
  refine lv_iload_n hx hb dX10_clockOf_0 rfl (lv_at hl 1 rfl) ?_
  refine lv_if_ne (tgt := 11) hx hb dX10_clockOf_1 (by decide) (fun c_1 => ?_) (fun c_1 => ?_)
  · replace h := (if_neg c_1).symm.trans h
    refine lv_aload_n hx hb dX10_clockOf_11 rfl (lv_at hl 0 rfl) ?_
    refine x_get F hK hW xc_X10 (cd_dX10 hn) (cd_eX10 hN hn) 4 (by decide) k_1_135 (rfl) dX10_clockOf_12 ?_
    exact x_iret F hr hlk hW hS dX10_clockOf_15 h
  replace h := (if_pos c_1).symm.trans h
  refine lv_aload_n hx hb dX10_clockOf_4 rfl (lv_at hl 0 rfl) ?_
  refine x_get F hK hW xc_X10 (cd_dX10 hn) (cd_eX10 hN hn) 3 (by decide) k_1_134 (rfl) dX10_clockOf_5 ?_
  refine lv_goto (tgt := 15) hx hb dX10_clockOf_8 (by decide) ?_
  exact x_iret F hr hlk hW hS dX10_clockOf_15 h
/-! X1_clock -/
def c1_clock (n : Nat) (S : xS)  : Option (Int32 × xS) := (c10_clockOf n S (xI S n 4 6)).bind (fun (r_1, S1) => some (r_1, S1))
set_option maxHeartbeats 4000000 in
set_option maxRecDepth 100000 in
theorem m_c1_clock {l : Launch} {D : va_G} {cI cJ cL cN : ClassId} {ad : Nat → Nat → Nat} {N : Nat} (hN : N ≤ 8) (hI : xInj (cDom N) ad) {n : Nat} (hn : n < N) {S : xS}  {o : Int32 × xS} (h : c1_clock n S  = some o) : Met l yX1_clock (Cond.code yX1_clock cX1_clock 1 (some .int) :: xG) { frames := 1, cells := 0, slots := 0, locals := 21 } (xPc D vwCl (cTy cI cJ cL cN) cNf cNm (cDom N) ad (cDe ad N cI cJ cL cN) [.ref (ad n 1)] S) (xQ D vwCl (cDom N) ad (cDe ad N cI cJ cL cN) (some (.int o.1)) o.2) 0 0 (xA (cDom N) ad) := by
  unfold c1_clock at h
  refine x_enter (by decide) (Nat.le_of_ble_eq_true rfl) (fun p e s m below meth c F hr hlk hK hW hS ls hl => ?_)
  have hl : lv_has ls 1 [(0, .ref (ad n 1))] := hl
  have hx := F.1
  have hb := F.2.1
  refine lv_aload_n hx hb dX1_clock_0 rfl (lv_at hl 0 rfl) ?_
  refine x_get F hK hW xc_X1 (cd_dX1 hn) (cd_eX1 hN hn) 5 (by decide) k_1_163 (rfl) dX1_clock_1 ?_
  refine lv_aload_n hx hb dX1_clock_4 rfl (lv_at hl 0 rfl) ?_
  refine x_get F hK hW xc_X1 (cd_dX1 hn) (cd_eX1 hN hn) 1 (by decide) k_1_156 (rfl) dX1_clock_5 ?_
  refine x_getN F hK hW xc_X9 (cd_dX9 ⟨hn, Or.inl rfl⟩) (cd_eX9 hN ⟨hn, Or.inl rfl⟩) 6 (by decide) kn_16 (rfl) dX1_clock_8 ?_
  refine x_cVi (As := [.int (xI S n 4 6)]) F xG_ok hK hW hS um_X10_clockOf k_4_134 (fun _ h1 => m_c10_clockOf hN hI hn _ h1) rfl (cd_dX10 hn) (cd_eX10 hN hn) rfl rfl hl.1 rfl rfl ⟨Nat.le_of_ble_eq_true rfl, Nat.le_of_ble_eq_true rfl⟩ ⟨Nat.zero_le _, Nat.zero_le _⟩ (Nat.le_of_ble_eq_true rfl) dX1_clock_11 h (fun r_1 S1 H locs hW hS h => ?_)
  exact x_iret F hr hlk hW hS dX1_clock_14 h
/-! X10_add -/
def c10_add (n : Nat) (S : xS) (a1 : Int32) (a2 : Int32) : Option (Int32 × xS) := if (xI S n 8 2) < 0 then (some ((0 : Int32), S)) else (if (xI S n 8 2) < (64 : Int32) then (gd (xI S n 8 2) 64 (xnm (sI S n 9 ((xI S n 8 2)).toNatClampNeg a1) (fun S3 => gd (xI S3 n 8 2) 64 (xnm (sI S3 n 10 ((xI S3 n 8 2)).toNatClampNeg a2) (fun S4 => xnm (sI S4 n 8 2 ((xI S4 n 8 2) + (1 : Int32))) (fun S5 => some ((1 : Int32), S5))))))) else (some ((0 : Int32), S)))
set_option maxHeartbeats 4000000 in
set_option maxRecDepth 100000 in
theorem m_c10_add {l : Launch} {D : va_G} {cI cJ cL cN : ClassId} {ad : Nat → Nat → Nat} {N : Nat} (hN : N ≤ 8) (hI : xInj (cDom N) ad) {n : Nat} (hn : n < N) {S : xS} (a1 : Int32) (a2 : Int32) {o : Int32 × xS} (h : c10_add n S a1 a2 = some o) : Met l yX10_add (Cond.code yX10_add cX10_add 3 (some .boolean) :: xG) { frames := 0, cells := 0, slots := 0, locals := 0 } (xPc D vwCl (cTy cI cJ cL cN) cNf cNm (cDom N) ad (cDe ad N cI cJ cL cN) [.ref (ad n 8), .int a1, .int a2] S) (xQ D vwCl (cDom N) ad (cDe ad N cI cJ cL cN) (some (.int o.1)) o.2) 0 0 (xA (cDom N) ad) := by
  unfold c10_add at h
  refine x_enter (by decide) (Nat.le_of_ble_eq_true rfl) (fun p e s m below meth c F hr hlk hK hW hS ls hl => ?_)
  have hl : lv_has ls 3 [(0, .ref (ad n 8)), (1, .int a1), (2, .int a2)] := hl
  have hx := F.1
  have hb := F.2.1
  refine lv_aload_n hx hb dX10_add_0 rfl (lv_at hl 0 rfl) ?_
  refine x_get F hK hW xc_X10 (cd_dX10 hn) (cd_eX10 hN hn) 2 (by decide) k_1_132 (rfl) dX10_add_1 ?_
  refine lv_if_lt (tgt := 16) hx hb dX10_add_4 (by decide) (fun c_1 => ?_) (fun c_1 => ?_)
  · replace h := (if_pos c_1).symm.trans h
    refine lv_iconst (v := (0 : Int32)) hx hb dX10_add_16 (by decide) ?_
    exact x_zret F hr hlk hW hS rfl dX10_add_17 h
  replace h := (if_neg c_1).symm.trans h
  refine lv_aload_n hx hb dX10_add_7 rfl (lv_at hl 0 rfl) ?_
  refine x_get F hK hW xc_X10 (cd_dX10 hn) (cd_eX10 hN hn) 2 (by decide) k_1_132 (rfl) dX10_add_8 ?_
  refine lv_bipush (v := (64 : Int32)) hx hb dX10_add_11 (by decide) ?_
  refine lv_icmp_lt (tgt := 18) hx hb dX10_add_13 (by decide) (fun c_2 => ?_) (fun c_2 => ?_)
  · replace h := (if_pos c_2).symm.trans h
    refine lv_aload_n hx hb dX10_add_18 rfl (lv_at hl 0 rfl) ?_
    refine x_get F hK hW xc_X10 (cd_dX10 hn) (cd_eX10 hN hn) 0 (by decide) k_1_130 (rfl) dX10_add_19 ?_
    refine lv_aload_n hx hb dX10_add_22 rfl (lv_at hl 0 rfl) ?_
    refine x_get F hK hW xc_X10 (cd_dX10 hn) (cd_eX10 hN hn) 2 (by decide) k_1_132 (rfl) dX10_add_23 ?_
    refine lv_iload_n hx hb dX10_add_26 rfl (lv_at hl 1 rfl) ?_
    refine x_iast (t0 := 0) F hK hI hW hS (cd_dA9 hn) (cd_eA9 hN hn) rfl dX10_add_27 h (fun S3 H locs hW hS h => ?_)
    refine lv_aload_n hx hb dX10_add_28 rfl (lv_at hl 0 rfl) ?_
    refine x_get F hK hW xc_X10 (cd_dX10 hn) (cd_eX10 hN hn) 1 (by decide) k_1_131 (rfl) dX10_add_29 ?_
    refine lv_aload_n hx hb dX10_add_32 rfl (lv_at hl 0 rfl) ?_
    refine x_get F hK hW xc_X10 (cd_dX10 hn) (cd_eX10 hN hn) 2 (by decide) k_1_132 (rfl) dX10_add_33 ?_
    refine lv_iload_n hx hb dX10_add_36 rfl (lv_at hl 2 rfl) ?_
    refine x_iast (t0 := 0) F hK hI hW hS (cd_dA10 hn) (cd_eA10 hN hn) rfl dX10_add_37 h (fun S4 H locs hW hS h => ?_)
    refine lv_aload_n hx hb dX10_add_38 rfl (lv_at hl 0 rfl) ?_
    refine lv_dup hx hb dX10_add_39 rfl ?_
    refine x_get F hK hW xc_X10 (cd_dX10 hn) (cd_eX10 hN hn) 2 (by decide) k_1_132 (rfl) dX10_add_40 ?_
    refine lv_iconst (v := (1 : Int32)) hx hb dX10_add_43 (by decide) ?_
    refine lv_iadd hx hb dX10_add_44 ?_
    refine x_put F hK hI hW hS xc_X10 (cd_dX10 hn) (cd_eX10 hN hn) 2 (by decide) k_1_132 rfl (v := ((xI S4 n 8 2) + (1 : Int32))) rfl rfl (fun _ _ => rfl) (fun _ _ => Nat.le_of_ble_eq_true rfl) dX10_add_45 h (fun S5 H locs hW hS h => ?_)
    refine lv_iconst (v := (1 : Int32)) hx hb dX10_add_48 (by decide) ?_
    exact x_zret F hr hlk hW hS rfl dX10_add_49 h
  replace h := (if_neg c_2).symm.trans h
  refine lv_iconst (v := (0 : Int32)) hx hb dX10_add_16 (by decide) ?_
  exact x_zret F hr hlk hW hS rfl dX10_add_17 h
/-! X1_waitForTime -/
def c1_waitForTime (n : Nat) (S : xS) (a1 : Int32) : Option (xS) := (c1_own n S ).bind (fun (r_1, S1) => (c1_leaveWaiting n S1 ).bind (fun S2 => (c10_add n S2 r_1 a1).bind (fun (r_3, S3) => if r_3 = 0 then ((c1_stopWith n S3 (4 : Int32)).bind (fun S5 => some S5)) else (some S3))))
set_option maxHeartbeats 4000000 in
set_option maxRecDepth 100000 in
theorem m_c1_waitForTime {l : Launch} {D : va_G} {cI cJ cL cN : ClassId} {ad : Nat → Nat → Nat} {N : Nat} (hN : N ≤ 8) (hI : xInj (cDom N) ad) {n : Nat} (hn : n < N) {S : xS} (a1 : Int32) {o : xS} (h : c1_waitForTime n S a1 = some o) : Met l yX1_waitForTime (Cond.code yX1_waitForTime cX1_waitForTime 3 none :: xG) { frames := 2, cells := 0, slots := 0, locals := 46 } (xPc D vwCl (cTy cI cJ cL cN) cNf cNm (cDom N) ad (cDe ad N cI cJ cL cN) [.ref (ad n 1), .int a1] S) (xQ D vwCl (cDom N) ad (cDe ad N cI cJ cL cN) none o) 0 0 (xA (cDom N) ad) := by
  unfold c1_waitForTime at h
  refine x_enter (by decide) (Nat.le_of_ble_eq_true rfl) (fun p e s m below meth c F hr hlk hK hW hS ls hl => ?_)
  have hl : lv_has ls 3 [(0, .ref (ad n 1)), (1, .int a1)] := hl
  have hx := F.1
  have hb := F.2.1
  refine lv_aload_n hx hb dX1_waitForTime_0 rfl (lv_at hl 0 rfl) ?_
  refine x_cVi (As := []) F xG_ok hK hW hS um_X1_own k_4_6 (fun _ h1 => m_c1_own hN hI hn  h1) rfl (cd_dX1 hn) (cd_eX1 hN hn) rfl rfl hl.1 rfl rfl ⟨Nat.le_of_ble_eq_true rfl, Nat.le_of_ble_eq_true rfl⟩ ⟨Nat.zero_le _, Nat.zero_le _⟩ (Nat.le_of_ble_eq_true rfl) dX1_waitForTime_1 h (fun r_1 S1 H locs hW hS h => ?_)
  refine lv_istore_n (lv' := [(2, .int r_1), (0, .ref (ad n 1)), (1, .int a1)]) hx hb dX1_waitForTime_4 rfl hl (by decide) rfl (fun ls hl => ?_)
  refine lv_aload_n hx hb dX1_waitForTime_5 rfl (lv_at hl 1 rfl) ?_
  refine x_cVv (As := []) F xG_ok hK hW hS um_X1_leaveWaiting k_4_10 (fun _ h1 => m_c1_leaveWaiting hN hI hn  h1) rfl (cd_dX1 hn) (cd_eX1 hN hn) rfl rfl hl.1 rfl rfl ⟨Nat.le_of_ble_eq_true rfl, Nat.le_of_ble_eq_true rfl⟩ ⟨Nat.zero_le _, Nat.zero_le _⟩ (Nat.le_of_ble_eq_true rfl) dX1_waitForTime_6 h (fun S2 H locs hW hS h => ?_)
  refine lv_aload_n hx hb dX1_waitForTime_9 rfl (lv_at hl 1 rfl) ?_
  refine x_get F hK hW xc_X1 (cd_dX1 hn) (cd_eX1 hN hn) 5 (by decide) k_1_163 (rfl) dX1_waitForTime_10 ?_
  refine lv_iload_n hx hb dX1_waitForTime_13 rfl (lv_at hl 0 rfl) ?_
  refine lv_iload_n hx hb dX1_waitForTime_14 rfl (lv_at hl 2 rfl) ?_
  refine x_cVi (As := [.int r_1, .int a1]) F xG_ok hK hW hS um_X10_add k_5_18 (fun _ h1 => m_c10_add hN hI hn _ _ h1) rfl (cd_dX10 hn) (cd_eX10 hN hn) rfl rfl hl.1 rfl rfl ⟨Nat.le_of_ble_eq_true rfl, Nat.le_of_ble_eq_true rfl⟩ ⟨Nat.zero_le _, Nat.zero_le _⟩ (Nat.le_of_ble_eq_true rfl) dX1_waitForTime_15 h (fun r_3 S3 H locs hW hS h => ?_)
  refine lv_if_ne (tgt := 26) hx hb dX1_waitForTime_18 (by decide) (fun c_4 => ?_) (fun c_4 => ?_)
  · replace h := (if_neg c_4).symm.trans h
    exact x_vret F hr hlk hW hS dX1_waitForTime_26 h
  replace h := (if_pos c_4).symm.trans h
  refine lv_aload_n hx hb dX1_waitForTime_21 rfl (lv_at hl 1 rfl) ?_
  refine lv_iconst (v := (4 : Int32)) hx hb dX1_waitForTime_22 (by decide) ?_
  refine x_cVv (As := [.int (4 : Int32)]) F xG_ok hK hW hS um_X1_stopWith k_3_200 (fun _ h1 => m_c1_stopWith hN hI hn _ h1) rfl (cd_dX1 hn) (cd_eX1 hN hn) rfl rfl hl.1 rfl rfl ⟨Nat.le_of_ble_eq_true rfl, Nat.le_of_ble_eq_true rfl⟩ ⟨Nat.zero_le _, Nat.zero_le _⟩ (Nat.le_of_ble_eq_true rfl) dX1_waitForTime_23 h (fun S5 H locs hW hS h => ?_)
  exact x_vret F hr hlk hW hS dX1_waitForTime_26 h
/-! X0_waitForGuardOrTime -/
def c0_waitForGuardOrTime_b115 (n : Nat) (v1 : Int32) (S : xS) : Option (xS) := (c1_setLocal n S (-3 : Int32) (32770 : Int32)).bind (fun S7 => if v1 = 0 then ((c1_leaveWaiting n S7 ).bind (fun S9 => some S9)) else ((c1_local n S7 (-5 : Int32)).bind (fun (r_10, S10) => (c1_waitForTime n S10 r_10).bind (fun S11 => some S11))))
set_option maxHeartbeats 4000000 in
set_option maxRecDepth 100000 in
theorem m_c0_waitForGuardOrTime_b115 {l : Launch} {D : va_G} {cI cJ cL cN : ClassId} {ad : Nat → Nat → Nat} {N : Nat} (hN : N ≤ 8) (hI : xInj (cDom N) ad) {n : Nat} (hn : n < N) {p : Program} {e : Env} {s : State} {m : MethodId} {args : Array Value} {below : List Frame} {meth : Method} {c : Code} (F : CallFix p m c cX0_waitForGuardOrTime 2 s args (Cond.code yX0_waitForGuardOrTime cX0_waitForGuardOrTime 2 none :: xG) (yX0_waitForGuardOrTime).cls) (hr : meth.sig.returnType = none) (hlk : meth.locks = false) (hK : xK D vwCl (cTy cI cJ cL cN) cNf cNm s) {o : xS} (v1 : Int32) (S : xS) {H : Heap} {locs : List Loc} {ls : Array Slot} (h : c0_waitForGuardOrTime_b115 n v1 S = some o) (hW : xW D vwCl (cDom N) ad (cDe ad N cI cJ cL cN) S H) (hS : va_S (xA (cDom N) ad) s.heap H locs) (hl : lv_has ls 2 [(0, .ref (ad n 21)), (1, .int v1)]) : W p l e { frames := 3, cells := 0, slots := 0, locals := 68 } s m args below meth c H locs 0 0 (MQ below (xQ D vwCl (cDom N) ad (cDe ad N cI cJ cL cN) none o) args s 0 0 (xA (cDom N) ad)) (F0 m 115 ls []) := by
  have hx := F.1
  have hb := F.2.1
  unfold c0_waitForGuardOrTime_b115 at h
  refine lv_aload_n hx hb dX0_waitForGuardOrTime_115 rfl (lv_at hl 0 rfl) ?_
  refine x_get F hK hW xc_X0 (cd_dX0 hn) (cd_eX0 hN hn) 0 (by decide) k_2_72 (rfl) dX0_waitForGuardOrTime_116 ?_
  refine lv_bipush (v := (-3 : Int32)) hx hb dX0_waitForGuardOrTime_119 (by decide) ?_
  refine lv_ldc (v := (32770 : Int32)) hx hb F.2.2.2.1 (x_hts F _ k_5_13) dX0_waitForGuardOrTime_121 ?_
  refine x_cVv (As := [.int (-3 : Int32), .int (32770 : Int32)]) F xG_ok hK hW hS um_X1_setLocal k_4_211 (fun _ h1 => m_c1_setLocal hN hI hn _ _ h1) rfl (cd_dX1 hn) (cd_eX1 hN hn) rfl rfl hl.1 rfl rfl ⟨Nat.le_of_ble_eq_true rfl, Nat.le_of_ble_eq_true rfl⟩ ⟨Nat.zero_le _, Nat.zero_le _⟩ (Nat.le_of_ble_eq_true rfl) dX0_waitForGuardOrTime_123 h (fun S7 H locs hW hS h => ?_)
  refine lv_iload_n hx hb dX0_waitForGuardOrTime_126 rfl (lv_at hl 1 rfl) ?_
  refine lv_if_eq (tgt := 149) hx hb dX0_waitForGuardOrTime_127 (by decide) (fun c_8 => ?_) (fun c_8 => ?_)
  · replace h := (if_pos c_8).symm.trans h
    refine lv_aload_n hx hb dX0_waitForGuardOrTime_149 rfl (lv_at hl 0 rfl) ?_
    refine x_get F hK hW xc_X0 (cd_dX0 hn) (cd_eX0 hN hn) 0 (by decide) k_2_72 (rfl) dX0_waitForGuardOrTime_150 ?_
    refine x_cVv (As := []) F xG_ok hK hW hS um_X1_leaveWaiting k_4_204 (fun _ h1 => m_c1_leaveWaiting hN hI hn  h1) rfl (cd_dX1 hn) (cd_eX1 hN hn) rfl rfl hl.1 rfl rfl ⟨Nat.le_of_ble_eq_true rfl, Nat.le_of_ble_eq_true rfl⟩ ⟨Nat.zero_le _, Nat.zero_le _⟩ (Nat.le_of_ble_eq_true rfl) dX0_waitForGuardOrTime_153 h (fun S9 H locs hW hS h => ?_)
    exact x_vret F hr hlk hW hS dX0_waitForGuardOrTime_156 h
  replace h := (if_neg c_8).symm.trans h
  refine lv_aload_n hx hb dX0_waitForGuardOrTime_130 rfl (lv_at hl 0 rfl) ?_
  refine x_get F hK hW xc_X0 (cd_dX0 hn) (cd_eX0 hN hn) 0 (by decide) k_2_72 (rfl) dX0_waitForGuardOrTime_131 ?_
  refine lv_aload_n hx hb dX0_waitForGuardOrTime_134 rfl (lv_at hl 0 rfl) ?_
  refine x_get F hK hW xc_X0 (cd_dX0 hn) (cd_eX0 hN hn) 0 (by decide) k_2_72 (rfl) dX0_waitForGuardOrTime_135 ?_
  refine lv_bipush (v := (-5 : Int32)) hx hb dX0_waitForGuardOrTime_138 (by decide) ?_
  refine x_cVi (As := [.int (-5 : Int32)]) F xG_ok hK hW hS um_X1_local k_5_30 (fun _ h1 => m_c1_local hN hI hn _ h1) rfl (cd_dX1 hn) (cd_eX1 hN hn) rfl rfl hl.1 rfl rfl ⟨Nat.le_of_ble_eq_true rfl, Nat.le_of_ble_eq_true rfl⟩ ⟨Nat.zero_le _, Nat.zero_le _⟩ (Nat.le_of_ble_eq_true rfl) dX0_waitForGuardOrTime_140 h (fun r_10 S10 H locs hW hS h => ?_)
  refine x_cVv (As := [.int r_10]) F xG_ok hK hW hS um_X1_waitForTime k_5_14 (fun _ h1 => m_c1_waitForTime hN hI hn _ h1) rfl (cd_dX1 hn) (cd_eX1 hN hn) rfl rfl hl.1 rfl rfl ⟨Nat.le_of_ble_eq_true rfl, Nat.le_of_ble_eq_true rfl⟩ ⟨Nat.zero_le _, Nat.zero_le _⟩ (Nat.le_of_ble_eq_true rfl) dX0_waitForGuardOrTime_143 h (fun S11 H locs hW hS h => ?_)
  refine lv_goto (tgt := 156) hx hb dX0_waitForGuardOrTime_146 (by decide) ?_
  exact x_vret F hr hlk hW hS dX0_waitForGuardOrTime_156 h
def c0_waitForGuardOrTime_b60 (n : Nat) (t0 : Int32) (S : xS) : Option (xS) := if t0 = 0 then (c0_waitForGuardOrTime_b115 n t0 S) else ((c1_clock n S ).bind (fun (r_12, S12) => (c1_local n S12 (-5 : Int32)).bind (fun (r_13, S13) => (c11_isLater r_12 r_13).bind (fun r_14 => if r_14 = 0 then (c0_waitForGuardOrTime_b115 n t0 S13) else ((c1_setLocal n S13 (-3 : Int32) (32771 : Int32)).bind (fun S16 => (c1_clock n S16 ).bind (fun (r_17, S17) => (c1_setLocal n S17 (-5 : Int32) r_17).bind (fun S18 => some S18))))))))
set_option maxHeartbeats 4000000 in
set_option maxRecDepth 100000 in
theorem m_c0_waitForGuardOrTime_b60 {l : Launch} {D : va_G} {cI cJ cL cN : ClassId} {ad : Nat → Nat → Nat} {N : Nat} (hN : N ≤ 8) (hI : xInj (cDom N) ad) {n : Nat} (hn : n < N) {p : Program} {e : Env} {s : State} {m : MethodId} {args : Array Value} {below : List Frame} {meth : Method} {c : Code} (F : CallFix p m c cX0_waitForGuardOrTime 2 s args (Cond.code yX0_waitForGuardOrTime cX0_waitForGuardOrTime 2 none :: xG) (yX0_waitForGuardOrTime).cls) (hr : meth.sig.returnType = none) (hlk : meth.locks = false) (hK : xK D vwCl (cTy cI cJ cL cN) cNf cNm s) {o : xS} (t0 : Int32) (S : xS) {H : Heap} {locs : List Loc} {ls : Array Slot} (h : c0_waitForGuardOrTime_b60 n t0 S = some o) (hW : xW D vwCl (cDom N) ad (cDe ad N cI cJ cL cN) S H) (hS : va_S (xA (cDom N) ad) s.heap H locs) (hl : lv_has ls 2 [(0, .ref (ad n 21))]) : W p l e { frames := 3, cells := 0, slots := 0, locals := 68 } s m args below meth c H locs 0 0 (MQ below (xQ D vwCl (cDom N) ad (cDe ad N cI cJ cL cN) none o) args s 0 0 (xA (cDom N) ad)) (F0 m 60 ls [.int t0]) := by
  have hx := F.1
  have hb := F.2.1
  unfold c0_waitForGuardOrTime_b60 at h
  refine lv_istore_n (lv' := [(1, .int t0), (0, .ref (ad n 21))]) hx hb dX0_waitForGuardOrTime_60 rfl hl (by decide) rfl (fun ls hl => ?_)
  refine lv_iload_n hx hb dX0_waitForGuardOrTime_61 rfl (lv_at hl 0 rfl) ?_
  refine lv_if_eq (tgt := 115) hx hb dX0_waitForGuardOrTime_62 (by decide) (fun c_6 => ?_) (fun c_6 => ?_)
  · replace h := (if_pos c_6).symm.trans h
    exact m_c0_waitForGuardOrTime_b115 hN hI hn F hr hlk hK _ _ h hW hS (lv_sub hl [1, 0] rfl)
  replace h := (if_neg c_6).symm.trans h
  refine lv_aload_n hx hb dX0_waitForGuardOrTime_65 rfl (lv_at hl 1 rfl) ?_
  refine x_get F hK hW xc_X0 (cd_dX0 hn) (cd_eX0 hN hn) 0 (by decide) k_2_72 (rfl) dX0_waitForGuardOrTime_66 ?_
  refine x_cVi (As := []) F xG_ok hK hW hS um_X1_clock k_5_10 (fun _ h1 => m_c1_clock hN hI hn  h1) rfl (cd_dX1 hn) (cd_eX1 hN hn) rfl rfl hl.1 rfl rfl ⟨Nat.le_of_ble_eq_true rfl, Nat.le_of_ble_eq_true rfl⟩ ⟨Nat.zero_le _, Nat.zero_le _⟩ (Nat.le_of_ble_eq_true rfl) dX0_waitForGuardOrTime_69 h (fun r_12 S12 H locs hW hS h => ?_)
  refine lv_aload_n hx hb dX0_waitForGuardOrTime_72 rfl (lv_at hl 1 rfl) ?_
  refine x_get F hK hW xc_X0 (cd_dX0 hn) (cd_eX0 hN hn) 0 (by decide) k_2_72 (rfl) dX0_waitForGuardOrTime_73 ?_
  refine lv_bipush (v := (-5 : Int32)) hx hb dX0_waitForGuardOrTime_76 (by decide) ?_
  refine x_cVi (As := [.int (-5 : Int32)]) F xG_ok hK hW hS um_X1_local k_5_30 (fun _ h1 => m_c1_local hN hI hn _ h1) rfl (cd_dX1 hn) (cd_eX1 hN hn) rfl rfl hl.1 rfl rfl ⟨Nat.le_of_ble_eq_true rfl, Nat.le_of_ble_eq_true rfl⟩ ⟨Nat.zero_le _, Nat.zero_le _⟩ (Nat.le_of_ble_eq_true rfl) dX0_waitForGuardOrTime_78 h (fun r_13 S13 H locs hW hS h => ?_)
  refine x_cSNi (As := [.int r_12, .int r_13]) F xG_ok hS hK um_X11_isLater km_11 (fun _ h1 => m_c11_isLater _ _ h1) rfl rfl hl.1 rfl rfl ⟨Nat.le_of_ble_eq_true rfl, Nat.le_of_ble_eq_true rfl⟩ ⟨Nat.zero_le _, Nat.zero_le _⟩ (Nat.le_of_ble_eq_true rfl) dX0_waitForGuardOrTime_81 h (fun r_14 locs hS h => ?_)
  refine lv_if_eq (tgt := 115) hx hb dX0_waitForGuardOrTime_84 (by decide) (fun c_15 => ?_) (fun c_15 => ?_)
  · replace h := (if_pos c_15).symm.trans h
    exact m_c0_waitForGuardOrTime_b115 hN hI hn F hr hlk hK _ _ h hW hS (lv_sub hl [1, 0] rfl)
  replace h := (if_neg c_15).symm.trans h
  refine lv_aload_n hx hb dX0_waitForGuardOrTime_87 rfl (lv_at hl 1 rfl) ?_
  refine x_get F hK hW xc_X0 (cd_dX0 hn) (cd_eX0 hN hn) 0 (by decide) k_2_72 (rfl) dX0_waitForGuardOrTime_88 ?_
  refine lv_bipush (v := (-3 : Int32)) hx hb dX0_waitForGuardOrTime_91 (by decide) ?_
  refine lv_ldc (v := (32771 : Int32)) hx hb F.2.2.2.1 (x_hts F _ k_5_57) dX0_waitForGuardOrTime_93 ?_
  refine x_cVv (As := [.int (-3 : Int32), .int (32771 : Int32)]) F xG_ok hK hW hS um_X1_setLocal k_4_211 (fun _ h1 => m_c1_setLocal hN hI hn _ _ h1) rfl (cd_dX1 hn) (cd_eX1 hN hn) rfl rfl hl.1 rfl rfl ⟨Nat.le_of_ble_eq_true rfl, Nat.le_of_ble_eq_true rfl⟩ ⟨Nat.zero_le _, Nat.zero_le _⟩ (Nat.le_of_ble_eq_true rfl) dX0_waitForGuardOrTime_95 h (fun S16 H locs hW hS h => ?_)
  refine lv_aload_n hx hb dX0_waitForGuardOrTime_98 rfl (lv_at hl 1 rfl) ?_
  refine x_get F hK hW xc_X0 (cd_dX0 hn) (cd_eX0 hN hn) 0 (by decide) k_2_72 (rfl) dX0_waitForGuardOrTime_99 ?_
  refine lv_bipush (v := (-5 : Int32)) hx hb dX0_waitForGuardOrTime_102 (by decide) ?_
  refine lv_aload_n hx hb dX0_waitForGuardOrTime_104 rfl (lv_at hl 1 rfl) ?_
  refine x_get F hK hW xc_X0 (cd_dX0 hn) (cd_eX0 hN hn) 0 (by decide) k_2_72 (rfl) dX0_waitForGuardOrTime_105 ?_
  refine x_cVi (As := []) F xG_ok hK hW hS um_X1_clock k_5_10 (fun _ h1 => m_c1_clock hN hI hn  h1) rfl (cd_dX1 hn) (cd_eX1 hN hn) rfl rfl hl.1 rfl rfl ⟨Nat.le_of_ble_eq_true rfl, Nat.le_of_ble_eq_true rfl⟩ ⟨Nat.zero_le _, Nat.zero_le _⟩ (Nat.le_of_ble_eq_true rfl) dX0_waitForGuardOrTime_108 h (fun r_17 S17 H locs hW hS h => ?_)
  refine x_cVv (As := [.int (-5 : Int32), .int r_17]) F xG_ok hK hW hS um_X1_setLocal k_4_211 (fun _ h1 => m_c1_setLocal hN hI hn _ _ h1) rfl (cd_dX1 hn) (cd_eX1 hN hn) rfl rfl hl.1 rfl rfl ⟨Nat.le_of_ble_eq_true rfl, Nat.le_of_ble_eq_true rfl⟩ ⟨Nat.zero_le _, Nat.zero_le _⟩ (Nat.le_of_ble_eq_true rfl) dX0_waitForGuardOrTime_111 h (fun S18 H locs hW hS h => ?_)
  exact x_vret F hr hlk hW hS dX0_waitForGuardOrTime_114 h
def c0_waitForGuardOrTime (n : Nat) (S : xS)  : Option (xS) := (c1_setLocal n S (0 : Int32) (65535 : Int32)).bind (fun S1 => (c1_local n S1 (-3 : Int32)).bind (fun (r_2, S2) => if r_2 = (32771 : Int32) then ((c1_clock n S2 ).bind (fun (r_19, S19) => (c1_setLocal n S19 (-5 : Int32) r_19).bind (fun S20 => some S20))) else ((c1_local n S2 (-4 : Int32)).bind (fun (r_4, S4) => if r_4 = (32769 : Int32) then (c0_waitForGuardOrTime_b60 n (1 : Int32) S4) else (c0_waitForGuardOrTime_b60 n (0 : Int32) S4)))))
set_option maxHeartbeats 4000000 in
set_option maxRecDepth 100000 in
theorem m_c0_waitForGuardOrTime {l : Launch} {D : va_G} {cI cJ cL cN : ClassId} {ad : Nat → Nat → Nat} {N : Nat} (hN : N ≤ 8) (hI : xInj (cDom N) ad) {n : Nat} (hn : n < N) {S : xS}  {o : xS} (h : c0_waitForGuardOrTime n S  = some o) : Met l yX0_waitForGuardOrTime (Cond.code yX0_waitForGuardOrTime cX0_waitForGuardOrTime 2 none :: xG) { frames := 3, cells := 0, slots := 0, locals := 68 } (xPc D vwCl (cTy cI cJ cL cN) cNf cNm (cDom N) ad (cDe ad N cI cJ cL cN) [.ref (ad n 21)] S) (xQ D vwCl (cDom N) ad (cDe ad N cI cJ cL cN) none o) 0 0 (xA (cDom N) ad) := by
  unfold c0_waitForGuardOrTime at h
  refine x_enter (by decide) (Nat.le_of_ble_eq_true rfl) (fun p e s m below meth c F hr hlk hK hW hS ls hl => ?_)
  have hl : lv_has ls 2 [(0, .ref (ad n 21))] := hl
  have hx := F.1
  have hb := F.2.1
  refine lv_aload_n hx hb dX0_waitForGuardOrTime_0 rfl (lv_at hl 0 rfl) ?_
  refine x_get F hK hW xc_X0 (cd_dX0 hn) (cd_eX0 hN hn) 0 (by decide) k_2_72 (rfl) dX0_waitForGuardOrTime_1 ?_
  refine lv_iconst (v := (0 : Int32)) hx hb dX0_waitForGuardOrTime_4 (by decide) ?_
  refine lv_ldc (v := (65535 : Int32)) hx hb F.2.2.2.1 (x_hts F _ k_5_35) dX0_waitForGuardOrTime_5 ?_
  refine x_cVv (As := [.int (0 : Int32), .int (65535 : Int32)]) F xG_ok hK hW hS um_X1_setLocal k_4_211 (fun _ h1 => m_c1_setLocal hN hI hn _ _ h1) rfl (cd_dX1 hn) (cd_eX1 hN hn) rfl rfl hl.1 rfl rfl ⟨Nat.le_of_ble_eq_true rfl, Nat.le_of_ble_eq_true rfl⟩ ⟨Nat.zero_le _, Nat.zero_le _⟩ (Nat.le_of_ble_eq_true rfl) dX0_waitForGuardOrTime_7 h (fun S1 H locs hW hS h => ?_)
  refine lv_aload_n hx hb dX0_waitForGuardOrTime_10 rfl (lv_at hl 0 rfl) ?_
  refine x_get F hK hW xc_X0 (cd_dX0 hn) (cd_eX0 hN hn) 0 (by decide) k_2_72 (rfl) dX0_waitForGuardOrTime_11 ?_
  refine lv_bipush (v := (-3 : Int32)) hx hb dX0_waitForGuardOrTime_14 (by decide) ?_
  refine x_cVi (As := [.int (-3 : Int32)]) F xG_ok hK hW hS um_X1_local k_5_30 (fun _ h1 => m_c1_local hN hI hn _ h1) rfl (cd_dX1 hn) (cd_eX1 hN hn) rfl rfl hl.1 rfl rfl ⟨Nat.le_of_ble_eq_true rfl, Nat.le_of_ble_eq_true rfl⟩ ⟨Nat.zero_le _, Nat.zero_le _⟩ (Nat.le_of_ble_eq_true rfl) dX0_waitForGuardOrTime_16 h (fun r_2 S2 H locs hW hS h => ?_)
  refine lv_ldc (v := (32771 : Int32)) hx hb F.2.2.2.1 (x_hts F _ k_5_57) dX0_waitForGuardOrTime_19 ?_
  refine lv_icmp_ne (tgt := 41) hx hb dX0_waitForGuardOrTime_21 (by decide) (fun c_3 => ?_) (fun c_3 => ?_)
  · replace h := (if_neg c_3).symm.trans h
    refine lv_aload_n hx hb dX0_waitForGuardOrTime_41 rfl (lv_at hl 0 rfl) ?_
    refine x_get F hK hW xc_X0 (cd_dX0 hn) (cd_eX0 hN hn) 0 (by decide) k_2_72 (rfl) dX0_waitForGuardOrTime_42 ?_
    refine lv_bipush (v := (-4 : Int32)) hx hb dX0_waitForGuardOrTime_45 (by decide) ?_
    refine x_cVi (As := [.int (-4 : Int32)]) F xG_ok hK hW hS um_X1_local k_5_30 (fun _ h1 => m_c1_local hN hI hn _ h1) rfl (cd_dX1 hn) (cd_eX1 hN hn) rfl rfl hl.1 rfl rfl ⟨Nat.le_of_ble_eq_true rfl, Nat.le_of_ble_eq_true rfl⟩ ⟨Nat.zero_le _, Nat.zero_le _⟩ (Nat.le_of_ble_eq_true rfl) dX0_waitForGuardOrTime_47 h (fun r_4 S4 H locs hW hS h => ?_)
    refine lv_ldc (v := (32769 : Int32)) hx hb F.2.2.2.1 (x_hts F _ k_5_12) dX0_waitForGuardOrTime_50 ?_
    refine lv_icmp_ne (tgt := 59) hx hb dX0_waitForGuardOrTime_52 (by decide) (fun c_5 => ?_) (fun c_5 => ?_)
    · replace h := (if_neg c_5).symm.trans h
      refine lv_iconst (v := (0 : Int32)) hx hb dX0_waitForGuardOrTime_59 (by decide) ?_
      exact m_c0_waitForGuardOrTime_b60 hN hI hn F hr hlk hK _ _ h hW hS (lv_sub hl [0] rfl)
    replace h := (if_pos c_5).symm.trans h
    refine lv_iconst (v := (1 : Int32)) hx hb dX0_waitForGuardOrTime_55 (by decide) ?_
    refine lv_goto (tgt := 60) hx hb dX0_waitForGuardOrTime_56 (by decide) ?_
    exact m_c0_waitForGuardOrTime_b60 hN hI hn F hr hlk hK _ _ h hW hS (lv_sub hl [0] rfl)
  replace h := (if_pos c_3).symm.trans h
  refine lv_aload_n hx hb dX0_waitForGuardOrTime_24 rfl (lv_at hl 0 rfl) ?_
  refine x_get F hK hW xc_X0 (cd_dX0 hn) (cd_eX0 hN hn) 0 (by decide) k_2_72 (rfl) dX0_waitForGuardOrTime_25 ?_
  refine lv_bipush (v := (-5 : Int32)) hx hb dX0_waitForGuardOrTime_28 (by decide) ?_
  refine lv_aload_n hx hb dX0_waitForGuardOrTime_30 rfl (lv_at hl 0 rfl) ?_
  refine x_get F hK hW xc_X0 (cd_dX0 hn) (cd_eX0 hN hn) 0 (by decide) k_2_72 (rfl) dX0_waitForGuardOrTime_31 ?_
  refine x_cVi (As := []) F xG_ok hK hW hS um_X1_clock k_5_10 (fun _ h1 => m_c1_clock hN hI hn  h1) rfl (cd_dX1 hn) (cd_eX1 hN hn) rfl rfl hl.1 rfl rfl ⟨Nat.le_of_ble_eq_true rfl, Nat.le_of_ble_eq_true rfl⟩ ⟨Nat.zero_le _, Nat.zero_le _⟩ (Nat.le_of_ble_eq_true rfl) dX0_waitForGuardOrTime_34 h (fun r_19 S19 H locs hW hS h => ?_)
  refine x_cVv (As := [.int (-5 : Int32), .int r_19]) F xG_ok hK hW hS um_X1_setLocal k_4_211 (fun _ h1 => m_c1_setLocal hN hI hn _ _ h1) rfl (cd_dX1 hn) (cd_eX1 hN hn) rfl rfl hl.1 rfl rfl ⟨Nat.le_of_ble_eq_true rfl, Nat.le_of_ble_eq_true rfl⟩ ⟨Nat.zero_le _, Nat.zero_le _⟩ (Nat.le_of_ble_eq_true rfl) dX0_waitForGuardOrTime_37 h (fun S20 H locs hW hS h => ?_)
  exact x_vret F hr hlk hW hS dX0_waitForGuardOrTime_40 h
/-! X0_choose -/
def c0_choose_b43 (n : Nat)  (S : xS) : Option (xS) := xnm (sI S n 4 0 (0 : Int32)) (fun S2 => xnm (sI S2 n 4 1 (xI S2 n 4 2)) (fun S3 => some S3))
set_option maxHeartbeats 4000000 in
set_option maxRecDepth 100000 in
theorem m_c0_choose_b43 {l : Launch} {D : va_G} {cI cJ cL cN : ClassId} {ad : Nat → Nat → Nat} {N : Nat} (hN : N ≤ 8) (hI : xInj (cDom N) ad) {n : Nat} (hn : n < N) {p : Program} {e : Env} {s : State} {m : MethodId} {args : Array Value} {below : List Frame} {meth : Method} {c : Code} (F : CallFix p m c cX0_choose 2 s args (Cond.code yX0_choose cX0_choose 2 none :: xG) (yX0_choose).cls) (hr : meth.sig.returnType = none) (hlk : meth.locks = false) (hK : xK D vwCl (cTy cI cJ cL cN) cNf cNm s) {o : xS}  (S : xS) {H : Heap} {locs : List Loc} {ls : Array Slot} (h : c0_choose_b43 n  S = some o) (hW : xW D vwCl (cDom N) ad (cDe ad N cI cJ cL cN) S H) (hS : va_S (xA (cDom N) ad) s.heap H locs) (hl : lv_has ls 2 [(0, .ref (ad n 21))]) : W p l e { frames := 2, cells := 0, slots := 0, locals := 48 } s m args below meth c H locs 0 0 (MQ below (xQ D vwCl (cDom N) ad (cDe ad N cI cJ cL cN) none o) args s 0 0 (xA (cDom N) ad)) (F0 m 43 ls []) := by
  have hx := F.1
  have hb := F.2.1
  unfold c0_choose_b43 at h
  refine lv_aload_n hx hb dX0_choose_43 rfl (lv_at hl 0 rfl) ?_
  refine x_get F hK hW xc_X0 (cd_dX0 hn) (cd_eX0 hN hn) 1 (by decide) k_2_73 (rfl) dX0_choose_44 ?_
  refine lv_iconst (v := (0 : Int32)) hx hb dX0_choose_47 (by decide) ?_
  refine x_putN F hK hI hW hS xc_X9 (cd_dX9 ⟨hn, Or.inl rfl⟩) (cd_eX9 hN ⟨hn, Or.inl rfl⟩) 0 (by decide) kn_1 rfl (v := (0 : Int32)) rfl rfl (fun _ _ => rfl) (fun _ _ => Nat.le_of_ble_eq_true rfl) dX0_choose_48 h (fun S2 H locs hW hS h => ?_)
  refine lv_aload_n hx hb dX0_choose_51 rfl (lv_at hl 0 rfl) ?_
  refine x_get F hK hW xc_X0 (cd_dX0 hn) (cd_eX0 hN hn) 1 (by decide) k_2_73 (rfl) dX0_choose_52 ?_
  refine lv_aload_n hx hb dX0_choose_55 rfl (lv_at hl 0 rfl) ?_
  refine x_get F hK hW xc_X0 (cd_dX0 hn) (cd_eX0 hN hn) 1 (by decide) k_2_73 (rfl) dX0_choose_56 ?_
  refine x_getN F hK hW xc_X9 (cd_dX9 ⟨hn, Or.inl rfl⟩) (cd_eX9 hN ⟨hn, Or.inl rfl⟩) 2 (by decide) kn_7 (rfl) dX0_choose_59 ?_
  refine x_putN F hK hI hW hS xc_X9 (cd_dX9 ⟨hn, Or.inl rfl⟩) (cd_eX9 hN ⟨hn, Or.inl rfl⟩) 1 (by decide) kn_4 rfl (v := (xI S2 n 4 2)) rfl rfl (fun _ _ => rfl) (fun _ _ => Nat.le_of_ble_eq_true rfl) dX0_choose_62 h (fun S3 H locs hW hS h => ?_)
  exact x_vret F hr hlk hW hS dX0_choose_65 h
def c0_choose (n : Nat) (S : xS) (a1 : Int32) : Option (xS) := if a1 = 0 then (c0_choose_b43 n  S) else ((c1_local n S (0 : Int32)).bind (fun (r_4, S4) => if r_4 = (65535 : Int32) then ((c1_setLocal n S4 (0 : Int32) (xI S4 n 4 0)).bind (fun S6 => xnm (sI S6 n 4 0 (1 : Int32)) (fun S7 => xnm (sI S7 n 4 1 (xI S7 n 4 2)) (fun S8 => some S8)))) else (c0_choose_b43 n  S4)))
set_option maxHeartbeats 4000000 in
set_option maxRecDepth 100000 in
theorem m_c0_choose {l : Launch} {D : va_G} {cI cJ cL cN : ClassId} {ad : Nat → Nat → Nat} {N : Nat} (hN : N ≤ 8) (hI : xInj (cDom N) ad) {n : Nat} (hn : n < N) {S : xS} (a1 : Int32) {o : xS} (h : c0_choose n S a1 = some o) : Met l yX0_choose (Cond.code yX0_choose cX0_choose 2 none :: xG) { frames := 2, cells := 0, slots := 0, locals := 48 } (xPc D vwCl (cTy cI cJ cL cN) cNf cNm (cDom N) ad (cDe ad N cI cJ cL cN) [.ref (ad n 21), .int a1] S) (xQ D vwCl (cDom N) ad (cDe ad N cI cJ cL cN) none o) 0 0 (xA (cDom N) ad) := by
  unfold c0_choose at h
  refine x_enter (by decide) (Nat.le_of_ble_eq_true rfl) (fun p e s m below meth c F hr hlk hK hW hS ls hl => ?_)
  have hl : lv_has ls 2 [(0, .ref (ad n 21)), (1, .int a1)] := hl
  have hx := F.1
  have hb := F.2.1
  refine lv_iload_n hx hb dX0_choose_0 rfl (lv_at hl 1 rfl) ?_
  refine lv_if_eq (tgt := 43) hx hb dX0_choose_1 (by decide) (fun c_1 => ?_) (fun c_1 => ?_)
  · replace h := (if_pos c_1).symm.trans h
    exact m_c0_choose_b43 hN hI hn F hr hlk hK  _ h hW hS (lv_sub hl [0] rfl)
  replace h := (if_neg c_1).symm.trans h
  refine lv_aload_n hx hb dX0_choose_4 rfl (lv_at hl 0 rfl) ?_
  refine x_get F hK hW xc_X0 (cd_dX0 hn) (cd_eX0 hN hn) 0 (by decide) k_2_72 (rfl) dX0_choose_5 ?_
  refine lv_iconst (v := (0 : Int32)) hx hb dX0_choose_8 (by decide) ?_
  refine x_cVi (As := [.int (0 : Int32)]) F xG_ok hK hW hS um_X1_local k_5_30 (fun _ h1 => m_c1_local hN hI hn _ h1) rfl (cd_dX1 hn) (cd_eX1 hN hn) rfl rfl hl.1 rfl rfl ⟨Nat.le_of_ble_eq_true rfl, Nat.le_of_ble_eq_true rfl⟩ ⟨Nat.zero_le _, Nat.zero_le _⟩ (Nat.le_of_ble_eq_true rfl) dX0_choose_9 h (fun r_4 S4 H locs hW hS h => ?_)
  refine lv_ldc (v := (65535 : Int32)) hx hb F.2.2.2.1 (x_hts F _ k_5_35) dX0_choose_12 ?_
  refine lv_icmp_ne (tgt := 43) hx hb dX0_choose_14 (by decide) (fun c_5 => ?_) (fun c_5 => ?_)
  · replace h := (if_neg c_5).symm.trans h
    exact m_c0_choose_b43 hN hI hn F hr hlk hK  _ h hW hS (lv_sub hl [0] rfl)
  replace h := (if_pos c_5).symm.trans h
  refine lv_aload_n hx hb dX0_choose_17 rfl (lv_at hl 0 rfl) ?_
  refine x_get F hK hW xc_X0 (cd_dX0 hn) (cd_eX0 hN hn) 0 (by decide) k_2_72 (rfl) dX0_choose_18 ?_
  refine lv_iconst (v := (0 : Int32)) hx hb dX0_choose_21 (by decide) ?_
  refine lv_aload_n hx hb dX0_choose_22 rfl (lv_at hl 0 rfl) ?_
  refine x_get F hK hW xc_X0 (cd_dX0 hn) (cd_eX0 hN hn) 1 (by decide) k_2_73 (rfl) dX0_choose_23 ?_
  refine x_getN F hK hW xc_X9 (cd_dX9 ⟨hn, Or.inl rfl⟩) (cd_eX9 hN ⟨hn, Or.inl rfl⟩) 0 (by decide) kn_1 (rfl) dX0_choose_26 ?_
  refine x_cVv (As := [.int (0 : Int32), .int (xI S4 n 4 0)]) F xG_ok hK hW hS um_X1_setLocal k_4_211 (fun _ h1 => m_c1_setLocal hN hI hn _ _ h1) rfl (cd_dX1 hn) (cd_eX1 hN hn) rfl rfl hl.1 rfl rfl ⟨Nat.le_of_ble_eq_true rfl, Nat.le_of_ble_eq_true rfl⟩ ⟨Nat.zero_le _, Nat.zero_le _⟩ (Nat.le_of_ble_eq_true rfl) dX0_choose_29 h (fun S6 H locs hW hS h => ?_)
  refine lv_aload_n hx hb dX0_choose_32 rfl (lv_at hl 0 rfl) ?_
  refine x_get F hK hW xc_X0 (cd_dX0 hn) (cd_eX0 hN hn) 1 (by decide) k_2_73 (rfl) dX0_choose_33 ?_
  refine lv_iconst (v := (1 : Int32)) hx hb dX0_choose_36 (by decide) ?_
  refine x_putN F hK hI hW hS xc_X9 (cd_dX9 ⟨hn, Or.inl rfl⟩) (cd_eX9 hN ⟨hn, Or.inl rfl⟩) 0 (by decide) kn_1 rfl (v := (1 : Int32)) rfl rfl (fun _ _ => rfl) (fun _ _ => Nat.le_of_ble_eq_true rfl) dX0_choose_37 h (fun S7 H locs hW hS h => ?_)
  refine lv_goto (tgt := 51) hx hb dX0_choose_40 (by decide) ?_
  refine lv_aload_n hx hb dX0_choose_51 rfl (lv_at hl 0 rfl) ?_
  refine x_get F hK hW xc_X0 (cd_dX0 hn) (cd_eX0 hN hn) 1 (by decide) k_2_73 (rfl) dX0_choose_52 ?_
  refine lv_aload_n hx hb dX0_choose_55 rfl (lv_at hl 0 rfl) ?_
  refine x_get F hK hW xc_X0 (cd_dX0 hn) (cd_eX0 hN hn) 1 (by decide) k_2_73 (rfl) dX0_choose_56 ?_
  refine x_getN F hK hW xc_X9 (cd_dX9 ⟨hn, Or.inl rfl⟩) (cd_eX9 hN ⟨hn, Or.inl rfl⟩) 2 (by decide) kn_7 (rfl) dX0_choose_59 ?_
  refine x_putN F hK hI hW hS xc_X9 (cd_dX9 ⟨hn, Or.inl rfl⟩) (cd_eX9 hN ⟨hn, Or.inl rfl⟩) 1 (by decide) kn_4 rfl (v := (xI S7 n 4 2)) rfl rfl (fun _ _ => rfl) (fun _ _ => Nat.le_of_ble_eq_true rfl) dX0_choose_62 h (fun S8 H locs hW hS h => ?_)
  exact x_vret F hr hlk hW hS dX0_choose_65 h
/-! X0_disableSkip -/
def c0_disableSkip (n : Nat) (S : xS)  : Option (xS) := if (xI S n 4 1) = 0 then ((c0_choose n S (0 : Int32)).bind (fun S2 => some S2)) else ((c0_choose n S (1 : Int32)).bind (fun S3 => some S3))
set_option maxHeartbeats 4000000 in
set_option maxRecDepth 100000 in
theorem m_c0_disableSkip {l : Launch} {D : va_G} {cI cJ cL cN : ClassId} {ad : Nat → Nat → Nat} {N : Nat} (hN : N ≤ 8) (hI : xInj (cDom N) ad) {n : Nat} (hn : n < N) {S : xS}  {o : xS} (h : c0_disableSkip n S  = some o) : Met l yX0_disableSkip (Cond.code yX0_disableSkip cX0_disableSkip 1 none :: xG) { frames := 3, cells := 0, slots := 0, locals := 69 } (xPc D vwCl (cTy cI cJ cL cN) cNf cNm (cDom N) ad (cDe ad N cI cJ cL cN) [.ref (ad n 21)] S) (xQ D vwCl (cDom N) ad (cDe ad N cI cJ cL cN) none o) 0 0 (xA (cDom N) ad) := by
  unfold c0_disableSkip at h
  refine x_enter (by decide) (Nat.le_of_ble_eq_true rfl) (fun p e s m below meth c F hr hlk hK hW hS ls hl => ?_)
  have hl : lv_has ls 1 [(0, .ref (ad n 21))] := hl
  have hx := F.1
  have hb := F.2.1
  refine lv_aload_n hx hb dX0_disableSkip_0 rfl (lv_at hl 0 rfl) ?_
  refine lv_aload_n hx hb dX0_disableSkip_1 rfl (lv_at hl 0 rfl) ?_
  refine x_get F hK hW xc_X0 (cd_dX0 hn) (cd_eX0 hN hn) 1 (by decide) k_2_73 (rfl) dX0_disableSkip_2 ?_
  refine x_getN F hK hW xc_X9 (cd_dX9 ⟨hn, Or.inl rfl⟩) (cd_eX9 hN ⟨hn, Or.inl rfl⟩) 1 (by decide) kn_4 (rfl) dX0_disableSkip_5 ?_
  refine lv_if_eq (tgt := 15) hx hb dX0_disableSkip_8 (by decide) (fun c_1 => ?_) (fun c_1 => ?_)
  · replace h := (if_pos c_1).symm.trans h
    refine lv_iconst (v := (0 : Int32)) hx hb dX0_disableSkip_15 (by decide) ?_
    refine x_cVv (As := [.int (0 : Int32)]) F xG_ok hK hW hS um_X0_choose k_5_31 (fun _ h1 => m_c0_choose hN hI hn _ h1) rfl (cd_dX0 hn) (cd_eX0 hN hn) rfl rfl hl.1 rfl rfl ⟨Nat.le_of_ble_eq_true rfl, Nat.le_of_ble_eq_true rfl⟩ ⟨Nat.zero_le _, Nat.zero_le _⟩ (Nat.le_of_ble_eq_true rfl) dX0_disableSkip_16 h (fun S2 H locs hW hS h => ?_)
    exact x_vret F hr hlk hW hS dX0_disableSkip_19 h
  replace h := (if_neg c_1).symm.trans h
  refine lv_iconst (v := (1 : Int32)) hx hb dX0_disableSkip_11 (by decide) ?_
  refine lv_goto (tgt := 16) hx hb dX0_disableSkip_12 (by decide) ?_
  refine x_cVv (As := [.int (1 : Int32)]) F xG_ok hK hW hS um_X0_choose k_5_31 (fun _ h1 => m_c0_choose hN hI hn _ h1) rfl (cd_dX0 hn) (cd_eX0 hN hn) rfl rfl hl.1 rfl rfl ⟨Nat.le_of_ble_eq_true rfl, Nat.le_of_ble_eq_true rfl⟩ ⟨Nat.zero_le _, Nat.zero_le _⟩ (Nat.le_of_ble_eq_true rfl) dX0_disableSkip_16 h (fun S3 H locs hW hS h => ?_)
  exact x_vret F hr hlk hW hS dX0_disableSkip_19 h
/-! X0_disableLink -/
def c0_disableLink_b19 (n : Nat) (j2 : Nat)  (S : xS) : Option (Int32 × xS) := if (xI S n j2 10) = (-1 : Int32) then (some ((0 : Int32), S)) else (some ((1 : Int32), S))
set_option maxHeartbeats 4000000 in
set_option maxRecDepth 100000 in
theorem m_c0_disableLink_b19 {l : Launch} {D : va_G} {cI cJ cL cN : ClassId} {ad : Nat → Nat → Nat} {N : Nat} (hN : N ≤ 8) (hI : xInj (cDom N) ad) {n : Nat} (hn : n < N) {j2 : Nat} (hj2 : isX4 N n j2) {p : Program} {e : Env} {s : State} {m : MethodId} {args : Array Value} {below : List Frame} {meth : Method} {c : Code} (F : CallFix p m c cX0_disableLink 2 s args (Cond.code yX0_disableLink cX0_disableLink 2 (some .boolean) :: xG) (yX0_disableLink).cls) (hr : meth.sig.returnType = (some .boolean)) (hlk : meth.locks = false) (hK : xK D vwCl (cTy cI cJ cL cN) cNf cNm s) {o : Int32 × xS}  (S : xS) {H : Heap} {locs : List Loc} {ls : Array Slot} (h : c0_disableLink_b19 n j2  S = some o) (hW : xW D vwCl (cDom N) ad (cDe ad N cI cJ cL cN) S H) (hS : va_S (xA (cDom N) ad) s.heap H locs) (hl : lv_has ls 2 [(1, .ref (ad n j2))]) : W p l e { frames := 1, cells := 0, slots := 0, locals := 20 } s m args below meth c H locs 0 0 (MQ below (xQ D vwCl (cDom N) ad (cDe ad N cI cJ cL cN) (some (.int o.1)) o.2) args s 0 0 (xA (cDom N) ad)) (F0 m 19 ls []) := by
  have hx := F.1
  have hb := F.2.1
  unfold c0_disableLink_b19 at h
  refine lv_aload_n hx hb dX0_disableLink_19 rfl (lv_at hl 0 rfl) ?_
  refine x_getN F hK hW xc_X4 (cd_dX4 hj2) (cd_eX4 hN hj2) 10 (by decide) kn_54 (rfl) dX0_disableLink_20 ?_
  refine lv_iconst (v := (-1 : Int32)) hx hb dX0_disableLink_23 (by decide) ?_
  refine lv_icmp_eq (tgt := 31) hx hb dX0_disableLink_24 (by decide) (fun c_3 => ?_) (fun c_3 => ?_)
  · replace h := (if_pos c_3).symm.trans h
    refine lv_iconst (v := (0 : Int32)) hx hb dX0_disableLink_31 (by decide) ?_
    exact x_zret F hr hlk hW hS rfl dX0_disableLink_32 h
  replace h := (if_neg c_3).symm.trans h
  refine lv_iconst (v := (1 : Int32)) hx hb dX0_disableLink_27 (by decide) ?_
  refine lv_goto (tgt := 32) hx hb dX0_disableLink_28 (by decide) ?_
  exact x_zret F hr hlk hW hS rfl dX0_disableLink_32 h
def c0_disableLink (n : Nat) (j2 : Nat) (S : xS)  : Option (Int32 × xS) := (c1_own n S ).bind (fun (r_1, S1) => if (xI S n j2 11) = r_1 then (xnm (sI S1 n j2 11 (-1 : Int32)) (fun S4 => c0_disableLink_b19 n j2  S4)) else (c0_disableLink_b19 n j2  S1))
set_option maxHeartbeats 4000000 in
set_option maxRecDepth 100000 in
theorem m_c0_disableLink {l : Launch} {D : va_G} {cI cJ cL cN : ClassId} {ad : Nat → Nat → Nat} {N : Nat} (hN : N ≤ 8) (hI : xInj (cDom N) ad) {n : Nat} (hn : n < N) {j2 : Nat} (hj2 : isX4 N n j2) {S : xS}  {o : Int32 × xS} (h : c0_disableLink n j2 S  = some o) : Met l yX0_disableLink (Cond.code yX0_disableLink cX0_disableLink 2 (some .boolean) :: xG) { frames := 1, cells := 0, slots := 0, locals := 20 } (xPc D vwCl (cTy cI cJ cL cN) cNf cNm (cDom N) ad (cDe ad N cI cJ cL cN) [.ref (ad n 21), .ref (ad n j2)] S) (xQ D vwCl (cDom N) ad (cDe ad N cI cJ cL cN) (some (.int o.1)) o.2) 0 0 (xA (cDom N) ad) := by
  unfold c0_disableLink at h
  refine x_enter (by decide) (Nat.le_of_ble_eq_true rfl) (fun p e s m below meth c F hr hlk hK hW hS ls hl => ?_)
  have hl : lv_has ls 2 [(0, .ref (ad n 21)), (1, .ref (ad n j2))] := hl
  have hx := F.1
  have hb := F.2.1
  refine lv_aload_n hx hb dX0_disableLink_0 rfl (lv_at hl 1 rfl) ?_
  refine x_getN F hK hW xc_X4 (cd_dX4 hj2) (cd_eX4 hN hj2) 11 (by decide) kn_55 (rfl) dX0_disableLink_1 ?_
  refine lv_aload_n hx hb dX0_disableLink_4 rfl (lv_at hl 0 rfl) ?_
  refine x_get F hK hW xc_X0 (cd_dX0 hn) (cd_eX0 hN hn) 0 (by decide) k_2_72 (rfl) dX0_disableLink_5 ?_
  refine x_cVi (As := []) F xG_ok hK hW hS um_X1_own k_4_197 (fun _ h1 => m_c1_own hN hI hn  h1) rfl (cd_dX1 hn) (cd_eX1 hN hn) rfl rfl hl.1 rfl rfl ⟨Nat.le_of_ble_eq_true rfl, Nat.le_of_ble_eq_true rfl⟩ ⟨Nat.zero_le _, Nat.zero_le _⟩ (Nat.le_of_ble_eq_true rfl) dX0_disableLink_8 h (fun r_1 S1 H locs hW hS h => ?_)
  refine lv_icmp_ne (tgt := 19) hx hb dX0_disableLink_11 (by decide) (fun c_2 => ?_) (fun c_2 => ?_)
  · replace h := (if_neg c_2).symm.trans h
    exact m_c0_disableLink_b19 hN hI hn hj2 F hr hlk hK  _ h hW hS (lv_sub hl [1] rfl)
  replace h := (if_pos c_2).symm.trans h
  refine lv_aload_n hx hb dX0_disableLink_14 rfl (lv_at hl 1 rfl) ?_
  refine lv_iconst (v := (-1 : Int32)) hx hb dX0_disableLink_15 (by decide) ?_
  refine x_putN F hK hI hW hS xc_X4 (cd_dX4 hj2) (cd_eX4 hN hj2) 11 (by decide) kn_55 rfl (v := (-1 : Int32)) rfl rfl (fun _ _ => rfl) (fun _ _ => Nat.le_of_ble_eq_true rfl) dX0_disableLink_16 h (fun S4 H locs hW hS h => ?_)
  exact m_c0_disableLink_b19 hN hI hn hj2 F hr hlk hK  _ h hW hS (lv_sub hl [1] rfl)
/-! X0_disableWord -/
def c0_disableWord (n : Nat) (S : xS) (a1 : Int32) : Option (Int32 × xS) := (c5_wordAt n 2 S a1).bind (fun (r_1, S1) => (c1_own n S1 ).bind (fun (r_2, S2) => if r_1 = r_2 then ((c5_setWord n 2 S2 a1 (32768 : Int32)).bind (fun S5 => some ((0 : Int32), S5))) else (if r_1 = (32768 : Int32) then (some ((0 : Int32), S2)) else (some ((1 : Int32), S2)))))
set_option maxHeartbeats 4000000 in
set_option maxRecDepth 100000 in
theorem m_c0_disableWord {l : Launch} {D : va_G} {cI cJ cL cN : ClassId} {ad : Nat → Nat → Nat} {N : Nat} (hN : N ≤ 8) (hI : xInj (cDom N) ad) {n : Nat} (hn : n < N) {S : xS} (a1 : Int32) {o : Int32 × xS} (h : c0_disableWord n S a1 = some o) : Met l yX0_disableWord (Cond.code yX0_disableWord cX0_disableWord 3 (some .boolean) :: xG) { frames := 1, cells := 0, slots := 0, locals := 26 } (xPc D vwCl (cTy cI cJ cL cN) cNf cNm (cDom N) ad (cDe ad N cI cJ cL cN) [.ref (ad n 21), .int a1] S) (xQ D vwCl (cDom N) ad (cDe ad N cI cJ cL cN) (some (.int o.1)) o.2) 0 0 (xA (cDom N) ad) := by
  unfold c0_disableWord at h
  refine x_enter (by decide) (Nat.le_of_ble_eq_true rfl) (fun p e s m below meth c F hr hlk hK hW hS ls hl => ?_)
  have hl : lv_has ls 3 [(0, .ref (ad n 21)), (1, .int a1)] := hl
  have hx := F.1
  have hb := F.2.1
  refine lv_aload_n hx hb dX0_disableWord_0 rfl (lv_at hl 0 rfl) ?_
  refine x_get F hK hW xc_X0 (cd_dX0 hn) (cd_eX0 hN hn) 2 (by decide) k_2_74 (rfl) dX0_disableWord_1 ?_
  refine lv_iload_n hx hb dX0_disableWord_4 rfl (lv_at hl 1 rfl) ?_
  refine x_cVi (As := [.int a1]) F xG_ok hK hW hS um_X5_wordAt k_4_205 (fun _ h1 => m_c5_wordAt hN hI (is5n hn) _ h1) rfl (cd_dX5 (is5n hn)) (cd_eX5 hN (is5n hn)) rfl rfl hl.1 rfl rfl ⟨Nat.le_of_ble_eq_true rfl, Nat.le_of_ble_eq_true rfl⟩ ⟨Nat.zero_le _, Nat.zero_le _⟩ (Nat.le_of_ble_eq_true rfl) dX0_disableWord_5 h (fun r_1 S1 H locs hW hS h => ?_)
  refine lv_istore_n (lv' := [(2, .int r_1), (0, .ref (ad n 21)), (1, .int a1)]) hx hb dX0_disableWord_8 rfl hl (by decide) rfl (fun ls hl => ?_)
  refine lv_iload_n hx hb dX0_disableWord_9 rfl (lv_at hl 0 rfl) ?_
  refine lv_aload_n hx hb dX0_disableWord_10 rfl (lv_at hl 1 rfl) ?_
  refine x_get F hK hW xc_X0 (cd_dX0 hn) (cd_eX0 hN hn) 0 (by decide) k_2_72 (rfl) dX0_disableWord_11 ?_
  refine x_cVi (As := []) F xG_ok hK hW hS um_X1_own k_4_197 (fun _ h1 => m_c1_own hN hI hn  h1) rfl (cd_dX1 hn) (cd_eX1 hN hn) rfl rfl hl.1 rfl rfl ⟨Nat.le_of_ble_eq_true rfl, Nat.le_of_ble_eq_true rfl⟩ ⟨Nat.zero_le _, Nat.zero_le _⟩ (Nat.le_of_ble_eq_true rfl) dX0_disableWord_14 h (fun r_2 S2 H locs hW hS h => ?_)
  refine lv_icmp_ne (tgt := 32) hx hb dX0_disableWord_17 (by decide) (fun c_3 => ?_) (fun c_3 => ?_)
  · replace h := (if_neg c_3).symm.trans h
    refine lv_iload_n hx hb dX0_disableWord_32 rfl (lv_at hl 0 rfl) ?_
    refine lv_ldc (v := (32768 : Int32)) hx hb F.2.2.2.1 (x_hts F _ k_4_191) dX0_disableWord_33 ?_
    refine lv_icmp_eq (tgt := 42) hx hb dX0_disableWord_35 (by decide) (fun c_4 => ?_) (fun c_4 => ?_)
    · replace h := (if_pos c_4).symm.trans h
      refine lv_iconst (v := (0 : Int32)) hx hb dX0_disableWord_42 (by decide) ?_
      exact x_zret F hr hlk hW hS rfl dX0_disableWord_43 h
    replace h := (if_neg c_4).symm.trans h
    refine lv_iconst (v := (1 : Int32)) hx hb dX0_disableWord_38 (by decide) ?_
    refine lv_goto (tgt := 43) hx hb dX0_disableWord_39 (by decide) ?_
    exact x_zret F hr hlk hW hS rfl dX0_disableWord_43 h
  replace h := (if_pos c_3).symm.trans h
  refine lv_aload_n hx hb dX0_disableWord_20 rfl (lv_at hl 1 rfl) ?_
  refine x_get F hK hW xc_X0 (cd_dX0 hn) (cd_eX0 hN hn) 2 (by decide) k_2_74 (rfl) dX0_disableWord_21 ?_
  refine lv_iload_n hx hb dX0_disableWord_24 rfl (lv_at hl 2 rfl) ?_
  refine lv_ldc (v := (32768 : Int32)) hx hb F.2.2.2.1 (x_hts F _ k_4_191) dX0_disableWord_25 ?_
  refine x_cVv (As := [.int a1, .int (32768 : Int32)]) F xG_ok hK hW hS um_X5_setWord k_4_210 (fun _ h1 => m_c5_setWord hN hI (is5n hn) _ _ h1) rfl (cd_dX5 (is5n hn)) (cd_eX5 hN (is5n hn)) rfl rfl hl.1 rfl rfl ⟨Nat.le_of_ble_eq_true rfl, Nat.le_of_ble_eq_true rfl⟩ ⟨Nat.zero_le _, Nat.zero_le _⟩ (Nat.le_of_ble_eq_true rfl) dX0_disableWord_27 h (fun S5 H locs hW hS h => ?_)
  refine lv_iconst (v := (0 : Int32)) hx hb dX0_disableWord_30 (by decide) ?_
  exact x_zret F hr hlk hW hS rfl dX0_disableWord_31 h
/-! X0_disableChannel -/
def c0_disableChannel (n : Nat) (S : xS)  : Option (xS) := if (xI S n 4 1) = 0 then ((c0_choose n S (0 : Int32)).bind (fun S2 => some S2)) else ((c0_linkOf n S (xI S n 4 2)).bind (fun (r_3, S3) => xcs r_3 ((c0_disableWord n S3 (xI S3 n 4 2)).bind (fun (r_5, S5) => (c0_choose n S5 r_5).bind (fun S6 => some S6))) (fun n_4 j_4 => gq (n = n_4 ∧ 12 ≤ j_4 ∧ j_4 < 16) ((c0_disableLink n j_4 S3 ).bind (fun (r_7, S7) => (c0_choose n S7 r_7).bind (fun S8 => some S8))))))
set_option maxHeartbeats 4000000 in
set_option maxRecDepth 100000 in
theorem m_c0_disableChannel {l : Launch} {D : va_G} {cI cJ cL cN : ClassId} {ad : Nat → Nat → Nat} {N : Nat} (hN : N ≤ 8) (hI : xInj (cDom N) ad) {n : Nat} (hn : n < N) {S : xS}  {o : xS} (h : c0_disableChannel n S  = some o) : Met l yX0_disableChannel (Cond.code yX0_disableChannel cX0_disableChannel 3 none :: xG) { frames := 3, cells := 0, slots := 0, locals := 69 } (xPc D vwCl (cTy cI cJ cL cN) cNf cNm (cDom N) ad (cDe ad N cI cJ cL cN) [.ref (ad n 21)] S) (xQ D vwCl (cDom N) ad (cDe ad N cI cJ cL cN) none o) 0 0 (xA (cDom N) ad) := by
  unfold c0_disableChannel at h
  refine x_enter (by decide) (Nat.le_of_ble_eq_true rfl) (fun p e s m below meth c F hr hlk hK hW hS ls hl => ?_)
  have hl : lv_has ls 3 [(0, .ref (ad n 21))] := hl
  have hx := F.1
  have hb := F.2.1
  refine lv_iconst (v := (0 : Int32)) hx hb dX0_disableChannel_0 (by decide) ?_
  refine lv_istore_n (lv' := [(1, .int (0 : Int32)), (0, .ref (ad n 21))]) hx hb dX0_disableChannel_1 rfl hl (by decide) rfl (fun ls hl => ?_)
  refine lv_aload_n hx hb dX0_disableChannel_2 rfl (lv_at hl 1 rfl) ?_
  refine x_get F hK hW xc_X0 (cd_dX0 hn) (cd_eX0 hN hn) 1 (by decide) k_2_73 (rfl) dX0_disableChannel_3 ?_
  refine x_getN F hK hW xc_X9 (cd_dX9 ⟨hn, Or.inl rfl⟩) (cd_eX9 hN ⟨hn, Or.inl rfl⟩) 1 (by decide) kn_4 (rfl) dX0_disableChannel_6 ?_
  refine lv_if_eq (tgt := 48) hx hb dX0_disableChannel_9 (by decide) (fun c_1 => ?_) (fun c_1 => ?_)
  · replace h := (if_pos c_1).symm.trans h
    refine lv_aload_n hx hb dX0_disableChannel_48 rfl (lv_at hl 1 rfl) ?_
    refine lv_iload_n hx hb dX0_disableChannel_49 rfl (lv_at hl 0 rfl) ?_
    refine x_cVv (As := [.int (0 : Int32)]) F xG_ok hK hW hS um_X0_choose k_5_31 (fun _ h1 => m_c0_choose hN hI hn _ h1) rfl (cd_dX0 hn) (cd_eX0 hN hn) rfl rfl hl.1 rfl rfl ⟨Nat.le_of_ble_eq_true rfl, Nat.le_of_ble_eq_true rfl⟩ ⟨Nat.zero_le _, Nat.zero_le _⟩ (Nat.le_of_ble_eq_true rfl) dX0_disableChannel_50 h (fun S2 H locs hW hS h => ?_)
    exact x_vret F hr hlk hW hS dX0_disableChannel_53 h
  replace h := (if_neg c_1).symm.trans h
  refine lv_aload_n hx hb dX0_disableChannel_12 rfl (lv_at hl 1 rfl) ?_
  refine lv_aload_n hx hb dX0_disableChannel_13 rfl (lv_at hl 1 rfl) ?_
  refine x_get F hK hW xc_X0 (cd_dX0 hn) (cd_eX0 hN hn) 1 (by decide) k_2_73 (rfl) dX0_disableChannel_14 ?_
  refine x_getN F hK hW xc_X9 (cd_dX9 ⟨hn, Or.inl rfl⟩) (cd_eX9 hN ⟨hn, Or.inl rfl⟩) 2 (by decide) kn_7 (rfl) dX0_disableChannel_17 ?_
  refine x_cVq (As := [.int (xI S n 4 2)]) F xG_ok hK hW hS um_X0_linkOf k_4_186 (fun _ h1 => m_c0_linkOf hN hI hn _ h1) rfl (cd_dX0 hn) (cd_eX0 hN hn) rfl rfl hl.1 rfl rfl ⟨Nat.le_of_ble_eq_true rfl, Nat.le_of_ble_eq_true rfl⟩ ⟨Nat.zero_le _, Nat.zero_le _⟩ (Nat.le_of_ble_eq_true rfl) dX0_disableChannel_20 h (fun r_3 S3 H locs hW hS h => ?_)
  refine x_astore_nq (lv' := [(2, xRv ad r_3), (1, .int (0 : Int32)), (0, .ref (ad n 21))]) hx hb dX0_disableChannel_23 rfl hl (by decide) rfl (fun ls hl => ?_)
  refine x_aload_nq hx hb dX0_disableChannel_24 rfl (lv_at hl 0 rfl) ?_
  rcases r_3 with _ | ⟨n_4, j_4⟩
  · replace h := xcs_n h
    have hl : lv_has ls 3 [(2, .null), (1, .int (0 : Int32)), (0, .ref (ad n 21))] := hl
    refine lv_ifnullN (tgt := 36) hx hb dX0_disableChannel_25 (by decide) ?_
    refine lv_aload_n hx hb dX0_disableChannel_36 rfl (lv_at hl 2 rfl) ?_
    refine lv_aload_n hx hb dX0_disableChannel_37 rfl (lv_at hl 2 rfl) ?_
    refine x_get F hK hW xc_X0 (cd_dX0 hn) (cd_eX0 hN hn) 1 (by decide) k_2_73 (rfl) dX0_disableChannel_38 ?_
    refine x_getN F hK hW xc_X9 (cd_dX9 ⟨hn, Or.inl rfl⟩) (cd_eX9 hN ⟨hn, Or.inl rfl⟩) 2 (by decide) kn_7 (rfl) dX0_disableChannel_41 ?_
    refine x_cVi (As := [.int (xI S3 n 4 2)]) F xG_ok hK hW hS um_X0_disableWord k_5_44 (fun _ h1 => m_c0_disableWord hN hI hn _ h1) rfl (cd_dX0 hn) (cd_eX0 hN hn) rfl rfl hl.1 rfl rfl ⟨Nat.le_of_ble_eq_true rfl, Nat.le_of_ble_eq_true rfl⟩ ⟨Nat.zero_le _, Nat.zero_le _⟩ (Nat.le_of_ble_eq_true rfl) dX0_disableChannel_44 h (fun r_5 S5 H locs hW hS h => ?_)
    refine lv_istore_n (lv' := [(1, .int r_5), (2, .null), (0, .ref (ad n 21))]) hx hb dX0_disableChannel_47 rfl hl (by decide) rfl (fun ls hl => ?_)
    refine lv_aload_n hx hb dX0_disableChannel_48 rfl (lv_at hl 2 rfl) ?_
    refine lv_iload_n hx hb dX0_disableChannel_49 rfl (lv_at hl 0 rfl) ?_
    refine x_cVv (As := [.int r_5]) F xG_ok hK hW hS um_X0_choose k_5_31 (fun _ h1 => m_c0_choose hN hI hn _ h1) rfl (cd_dX0 hn) (cd_eX0 hN hn) rfl rfl hl.1 rfl rfl ⟨Nat.le_of_ble_eq_true rfl, Nat.le_of_ble_eq_true rfl⟩ ⟨Nat.zero_le _, Nat.zero_le _⟩ (Nat.le_of_ble_eq_true rfl) dX0_disableChannel_50 h (fun S6 H locs hW hS h => ?_)
    exact x_vret F hr hlk hW hS dX0_disableChannel_53 h
  replace h := xcs_s h
  have hg_4 := (gq_use h).1
  replace h := (gq_use h).2
  obtain ⟨he_4, -⟩ := id hg_4
  subst he_4
  have hl : lv_has ls 3 [(2, .ref (ad n j_4)), (1, .int (0 : Int32)), (0, .ref (ad n 21))] := hl
  refine lv_ifnull hx hb dX0_disableChannel_25 ?_
  refine lv_aload_n hx hb dX0_disableChannel_28 rfl (lv_at hl 2 rfl) ?_
  refine lv_aload_n hx hb dX0_disableChannel_29 rfl (lv_at hl 0 rfl) ?_
  refine x_cVi (As := [.ref (ad n j_4)]) F xG_ok hK hW hS um_X0_disableLink k_5_40 (fun _ h1 => m_c0_disableLink hN hI hn ⟨hn, hg_4.2.1, hg_4.2.2⟩  h1) rfl (cd_dX0 hn) (cd_eX0 hN hn) rfl rfl hl.1 rfl rfl ⟨Nat.le_of_ble_eq_true rfl, Nat.le_of_ble_eq_true rfl⟩ ⟨Nat.zero_le _, Nat.zero_le _⟩ (Nat.le_of_ble_eq_true rfl) dX0_disableChannel_30 h (fun r_7 S7 H locs hW hS h => ?_)
  refine lv_goto (tgt := 47) hx hb dX0_disableChannel_33 (by decide) ?_
  refine lv_istore_n (lv' := [(1, .int r_7), (2, .ref (ad n j_4)), (0, .ref (ad n 21))]) hx hb dX0_disableChannel_47 rfl hl (by decide) rfl (fun ls hl => ?_)
  refine lv_aload_n hx hb dX0_disableChannel_48 rfl (lv_at hl 2 rfl) ?_
  refine lv_iload_n hx hb dX0_disableChannel_49 rfl (lv_at hl 0 rfl) ?_
  refine x_cVv (As := [.int r_7]) F xG_ok hK hW hS um_X0_choose k_5_31 (fun _ h1 => m_c0_choose hN hI hn _ h1) rfl (cd_dX0 hn) (cd_eX0 hN hn) rfl rfl hl.1 rfl rfl ⟨Nat.le_of_ble_eq_true rfl, Nat.le_of_ble_eq_true rfl⟩ ⟨Nat.zero_le _, Nat.zero_le _⟩ (Nat.le_of_ble_eq_true rfl) dX0_disableChannel_50 h (fun S8 H locs hW hS h => ?_)
  exact x_vret F hr hlk hW hS dX0_disableChannel_53 h
/-! X0_disableTime -/
def c0_disableTime (n : Nat) (S : xS)  : Option (xS) := if (xI S n 4 1) = 0 then ((c0_choose n S (0 : Int32)).bind (fun S2 => some S2)) else ((c1_local n S (-4 : Int32)).bind (fun (r_3, S3) => if r_3 = (32769 : Int32) then ((c1_local n S3 (-5 : Int32)).bind (fun (r_6, S6) => (c11_isLater r_6 (xI S6 n 4 2)).bind (fun r_7 => if r_7 = 0 then ((c0_choose n S6 (0 : Int32)).bind (fun S9 => some S9)) else ((c0_choose n S6 (1 : Int32)).bind (fun S10 => some S10))))) else ((c0_choose n S3 (0 : Int32)).bind (fun S5 => some S5))))
set_option maxHeartbeats 4000000 in
set_option maxRecDepth 100000 in
theorem m_c0_disableTime {l : Launch} {D : va_G} {cI cJ cL cN : ClassId} {ad : Nat → Nat → Nat} {N : Nat} (hN : N ≤ 8) (hI : xInj (cDom N) ad) {n : Nat} (hn : n < N) {S : xS}  {o : xS} (h : c0_disableTime n S  = some o) : Met l yX0_disableTime (Cond.code yX0_disableTime cX0_disableTime 1 none :: xG) { frames := 3, cells := 0, slots := 0, locals := 69 } (xPc D vwCl (cTy cI cJ cL cN) cNf cNm (cDom N) ad (cDe ad N cI cJ cL cN) [.ref (ad n 21)] S) (xQ D vwCl (cDom N) ad (cDe ad N cI cJ cL cN) none o) 0 0 (xA (cDom N) ad) := by
  unfold c0_disableTime at h
  refine x_enter (by decide) (Nat.le_of_ble_eq_true rfl) (fun p e s m below meth c F hr hlk hK hW hS ls hl => ?_)
  have hl : lv_has ls 1 [(0, .ref (ad n 21))] := hl
  have hx := F.1
  have hb := F.2.1
  refine lv_aload_n hx hb dX0_disableTime_0 rfl (lv_at hl 0 rfl) ?_
  refine lv_aload_n hx hb dX0_disableTime_1 rfl (lv_at hl 0 rfl) ?_
  refine x_get F hK hW xc_X0 (cd_dX0 hn) (cd_eX0 hN hn) 1 (by decide) k_2_73 (rfl) dX0_disableTime_2 ?_
  refine x_getN F hK hW xc_X9 (cd_dX9 ⟨hn, Or.inl rfl⟩) (cd_eX9 hN ⟨hn, Or.inl rfl⟩) 1 (by decide) kn_4 (rfl) dX0_disableTime_5 ?_
  refine lv_if_eq (tgt := 51) hx hb dX0_disableTime_8 (by decide) (fun c_1 => ?_) (fun c_1 => ?_)
  · replace h := (if_pos c_1).symm.trans h
    refine lv_iconst (v := (0 : Int32)) hx hb dX0_disableTime_51 (by decide) ?_
    refine x_cVv (As := [.int (0 : Int32)]) F xG_ok hK hW hS um_X0_choose k_5_31 (fun _ h1 => m_c0_choose hN hI hn _ h1) rfl (cd_dX0 hn) (cd_eX0 hN hn) rfl rfl hl.1 rfl rfl ⟨Nat.le_of_ble_eq_true rfl, Nat.le_of_ble_eq_true rfl⟩ ⟨Nat.zero_le _, Nat.zero_le _⟩ (Nat.le_of_ble_eq_true rfl) dX0_disableTime_52 h (fun S2 H locs hW hS h => ?_)
    exact x_vret F hr hlk hW hS dX0_disableTime_55 h
  replace h := (if_neg c_1).symm.trans h
  refine lv_aload_n hx hb dX0_disableTime_11 rfl (lv_at hl 0 rfl) ?_
  refine x_get F hK hW xc_X0 (cd_dX0 hn) (cd_eX0 hN hn) 0 (by decide) k_2_72 (rfl) dX0_disableTime_12 ?_
  refine lv_bipush (v := (-4 : Int32)) hx hb dX0_disableTime_15 (by decide) ?_
  refine x_cVi (As := [.int (-4 : Int32)]) F xG_ok hK hW hS um_X1_local k_5_30 (fun _ h1 => m_c1_local hN hI hn _ h1) rfl (cd_dX1 hn) (cd_eX1 hN hn) rfl rfl hl.1 rfl rfl ⟨Nat.le_of_ble_eq_true rfl, Nat.le_of_ble_eq_true rfl⟩ ⟨Nat.zero_le _, Nat.zero_le _⟩ (Nat.le_of_ble_eq_true rfl) dX0_disableTime_17 h (fun r_3 S3 H locs hW hS h => ?_)
  refine lv_ldc (v := (32769 : Int32)) hx hb F.2.2.2.1 (x_hts F _ k_5_12) dX0_disableTime_20 ?_
  refine lv_icmp_ne (tgt := 51) hx hb dX0_disableTime_22 (by decide) (fun c_4 => ?_) (fun c_4 => ?_)
  · replace h := (if_neg c_4).symm.trans h
    refine lv_iconst (v := (0 : Int32)) hx hb dX0_disableTime_51 (by decide) ?_
    refine x_cVv (As := [.int (0 : Int32)]) F xG_ok hK hW hS um_X0_choose k_5_31 (fun _ h1 => m_c0_choose hN hI hn _ h1) rfl (cd_dX0 hn) (cd_eX0 hN hn) rfl rfl hl.1 rfl rfl ⟨Nat.le_of_ble_eq_true rfl, Nat.le_of_ble_eq_true rfl⟩ ⟨Nat.zero_le _, Nat.zero_le _⟩ (Nat.le_of_ble_eq_true rfl) dX0_disableTime_52 h (fun S5 H locs hW hS h => ?_)
    exact x_vret F hr hlk hW hS dX0_disableTime_55 h
  replace h := (if_pos c_4).symm.trans h
  refine lv_aload_n hx hb dX0_disableTime_25 rfl (lv_at hl 0 rfl) ?_
  refine x_get F hK hW xc_X0 (cd_dX0 hn) (cd_eX0 hN hn) 0 (by decide) k_2_72 (rfl) dX0_disableTime_26 ?_
  refine lv_bipush (v := (-5 : Int32)) hx hb dX0_disableTime_29 (by decide) ?_
  refine x_cVi (As := [.int (-5 : Int32)]) F xG_ok hK hW hS um_X1_local k_5_30 (fun _ h1 => m_c1_local hN hI hn _ h1) rfl (cd_dX1 hn) (cd_eX1 hN hn) rfl rfl hl.1 rfl rfl ⟨Nat.le_of_ble_eq_true rfl, Nat.le_of_ble_eq_true rfl⟩ ⟨Nat.zero_le _, Nat.zero_le _⟩ (Nat.le_of_ble_eq_true rfl) dX0_disableTime_31 h (fun r_6 S6 H locs hW hS h => ?_)
  refine lv_aload_n hx hb dX0_disableTime_34 rfl (lv_at hl 0 rfl) ?_
  refine x_get F hK hW xc_X0 (cd_dX0 hn) (cd_eX0 hN hn) 1 (by decide) k_2_73 (rfl) dX0_disableTime_35 ?_
  refine x_getN F hK hW xc_X9 (cd_dX9 ⟨hn, Or.inl rfl⟩) (cd_eX9 hN ⟨hn, Or.inl rfl⟩) 2 (by decide) kn_7 (rfl) dX0_disableTime_38 ?_
  refine x_cSNi (As := [.int r_6, .int (xI S6 n 4 2)]) F xG_ok hS hK um_X11_isLater km_11 (fun _ h1 => m_c11_isLater _ _ h1) rfl rfl hl.1 rfl rfl ⟨Nat.le_of_ble_eq_true rfl, Nat.le_of_ble_eq_true rfl⟩ ⟨Nat.zero_le _, Nat.zero_le _⟩ (Nat.le_of_ble_eq_true rfl) dX0_disableTime_41 h (fun r_7 locs hS h => ?_)
  refine lv_if_eq (tgt := 51) hx hb dX0_disableTime_44 (by decide) (fun c_8 => ?_) (fun c_8 => ?_)
  · replace h := (if_pos c_8).symm.trans h
    refine lv_iconst (v := (0 : Int32)) hx hb dX0_disableTime_51 (by decide) ?_
    refine x_cVv (As := [.int (0 : Int32)]) F xG_ok hK hW hS um_X0_choose k_5_31 (fun _ h1 => m_c0_choose hN hI hn _ h1) rfl (cd_dX0 hn) (cd_eX0 hN hn) rfl rfl hl.1 rfl rfl ⟨Nat.le_of_ble_eq_true rfl, Nat.le_of_ble_eq_true rfl⟩ ⟨Nat.zero_le _, Nat.zero_le _⟩ (Nat.le_of_ble_eq_true rfl) dX0_disableTime_52 h (fun S9 H locs hW hS h => ?_)
    exact x_vret F hr hlk hW hS dX0_disableTime_55 h
  replace h := (if_neg c_8).symm.trans h
  refine lv_iconst (v := (1 : Int32)) hx hb dX0_disableTime_47 (by decide) ?_
  refine lv_goto (tgt := 52) hx hb dX0_disableTime_48 (by decide) ?_
  refine x_cVv (As := [.int (1 : Int32)]) F xG_ok hK hW hS um_X0_choose k_5_31 (fun _ h1 => m_c0_choose hN hI hn _ h1) rfl (cd_dX0 hn) (cd_eX0 hN hn) rfl rfl hl.1 rfl rfl ⟨Nat.le_of_ble_eq_true rfl, Nat.le_of_ble_eq_true rfl⟩ ⟨Nat.zero_le _, Nat.zero_le _⟩ (Nat.le_of_ble_eq_true rfl) dX0_disableTime_52 h (fun S10 H locs hW hS h => ?_)
  exact x_vret F hr hlk hW hS dX0_disableTime_55 h
/-! X9_pop -/
def c9_pop (n j : Nat) (S : xS)  : Option (xS) := xnm (sI S n j 0 (xI S n j 1)) (fun S1 => xnm (sI S1 n j 1 (xI S1 n j 2)) (fun S2 => some S2))
set_option maxHeartbeats 4000000 in
set_option maxRecDepth 100000 in
theorem m_c9_pop {l : Launch} {D : va_G} {cI cJ cL cN : ClassId} {ad : Nat → Nat → Nat} {N : Nat} (hN : N ≤ 8) (hI : xInj (cDom N) ad) {n j : Nat} (hj : isX9 N n j) {S : xS}  {o : xS} (h : c9_pop n j S  = some o) : Met l yX9_pop (Cond.code yX9_pop cX9_pop 1 none :: xG) { frames := 0, cells := 0, slots := 0, locals := 0 } (xPc D vwCl (cTy cI cJ cL cN) cNf cNm (cDom N) ad (cDe ad N cI cJ cL cN) [.ref (ad n j)] S) (xQ D vwCl (cDom N) ad (cDe ad N cI cJ cL cN) none o) 0 0 (xA (cDom N) ad) := by
  unfold c9_pop at h
  refine x_enter (by decide) (Nat.le_of_ble_eq_true rfl) (fun p e s m below meth c F hr hlk hK hW hS ls hl => ?_)
  have hl : lv_has ls 1 [(0, .ref (ad n j))] := hl
  have hx := F.1
  have hb := F.2.1
  refine lv_aload_n hx hb dX9_pop_0 rfl (lv_at hl 0 rfl) ?_
  refine lv_aload_n hx hb dX9_pop_1 rfl (lv_at hl 0 rfl) ?_
  refine x_get F hK hW xc_X9 (cd_dX9 hj) (cd_eX9 hN hj) 1 (by decide) k_1_66 (rfl) dX9_pop_2 ?_
  refine x_put F hK hI hW hS xc_X9 (cd_dX9 hj) (cd_eX9 hN hj) 0 (by decide) k_1_62 rfl (v := (xI S n j 1)) rfl rfl (fun _ _ => rfl) (fun _ _ => Nat.le_of_ble_eq_true rfl) dX9_pop_5 h (fun S1 H locs hW hS h => ?_)
  refine lv_aload_n hx hb dX9_pop_8 rfl (lv_at hl 0 rfl) ?_
  refine lv_aload_n hx hb dX9_pop_9 rfl (lv_at hl 0 rfl) ?_
  refine x_get F hK hW xc_X9 (cd_dX9 hj) (cd_eX9 hN hj) 2 (by decide) k_1_70 (rfl) dX9_pop_10 ?_
  refine x_put F hK hI hW hS xc_X9 (cd_dX9 hj) (cd_eX9 hN hj) 1 (by decide) k_1_66 rfl (v := (xI S1 n j 2)) rfl rfl (fun _ _ => rfl) (fun _ _ => Nat.le_of_ble_eq_true rfl) dX9_pop_13 h (fun S2 H locs hW hS h => ?_)
  exact x_vret F hr hlk hW hS dX9_pop_16 h
/-! X0_inputTime -/
def c0_inputTime (n : Nat) (S : xS)  : Option (xS) := (c9_pop n 4 S ).bind (fun S1 => (c1_clock n S1 ).bind (fun (r_2, S2) => (c11_isLater r_2 (xI S n 4 0)).bind (fun r_3 => if r_3 = 0 then ((c1_setLocal n S2 (-5 : Int32) (xI S n 4 0)).bind (fun S5 => (c1_setLocal n S5 (-4 : Int32) (32769 : Int32)).bind (fun S6 => (c1_setLocal n S6 (-3 : Int32) (32770 : Int32)).bind (fun S7 => (c1_waitForTime n S7 (xI S n 4 0)).bind (fun S8 => some S8))))) else (some S2))))
set_option maxHeartbeats 4000000 in
set_option maxRecDepth 100000 in
theorem m_c0_inputTime {l : Launch} {D : va_G} {cI cJ cL cN : ClassId} {ad : Nat → Nat → Nat} {N : Nat} (hN : N ≤ 8) (hI : xInj (cDom N) ad) {n : Nat} (hn : n < N) {S : xS}  {o : xS} (h : c0_inputTime n S  = some o) : Met l yX0_inputTime (Cond.code yX0_inputTime cX0_inputTime 2 none :: xG) { frames := 3, cells := 0, slots := 0, locals := 68 } (xPc D vwCl (cTy cI cJ cL cN) cNf cNm (cDom N) ad (cDe ad N cI cJ cL cN) [.ref (ad n 21)] S) (xQ D vwCl (cDom N) ad (cDe ad N cI cJ cL cN) none o) 0 0 (xA (cDom N) ad) := by
  unfold c0_inputTime at h
  refine x_enter (by decide) (Nat.le_of_ble_eq_true rfl) (fun p e s m below meth c F hr hlk hK hW hS ls hl => ?_)
  have hl : lv_has ls 2 [(0, .ref (ad n 21))] := hl
  have hx := F.1
  have hb := F.2.1
  refine lv_aload_n hx hb dX0_inputTime_0 rfl (lv_at hl 0 rfl) ?_
  refine x_get F hK hW xc_X0 (cd_dX0 hn) (cd_eX0 hN hn) 1 (by decide) k_2_73 (rfl) dX0_inputTime_1 ?_
  refine x_getN F hK hW xc_X9 (cd_dX9 ⟨hn, Or.inl rfl⟩) (cd_eX9 hN ⟨hn, Or.inl rfl⟩) 0 (by decide) kn_1 (rfl) dX0_inputTime_4 ?_
  refine lv_istore_n (lv' := [(1, .int (xI S n 4 0)), (0, .ref (ad n 21))]) hx hb dX0_inputTime_7 rfl hl (by decide) rfl (fun ls hl => ?_)
  refine lv_aload_n hx hb dX0_inputTime_8 rfl (lv_at hl 1 rfl) ?_
  refine x_get F hK hW xc_X0 (cd_dX0 hn) (cd_eX0 hN hn) 1 (by decide) k_2_73 (rfl) dX0_inputTime_9 ?_
  refine x_cVv (As := []) F xG_ok hK hW hS um_X9_pop k_5_9 (fun _ h1 => m_c9_pop hN hI ⟨hn, Or.inl rfl⟩  h1) rfl (cd_dX9 ⟨hn, Or.inl rfl⟩) (cd_eX9 hN ⟨hn, Or.inl rfl⟩) rfl rfl hl.1 rfl rfl ⟨Nat.le_of_ble_eq_true rfl, Nat.le_of_ble_eq_true rfl⟩ ⟨Nat.zero_le _, Nat.zero_le _⟩ (Nat.le_of_ble_eq_true rfl) dX0_inputTime_12 h (fun S1 H locs hW hS h => ?_)
  refine lv_aload_n hx hb dX0_inputTime_15 rfl (lv_at hl 1 rfl) ?_
  refine x_get F hK hW xc_X0 (cd_dX0 hn) (cd_eX0 hN hn) 0 (by decide) k_2_72 (rfl) dX0_inputTime_16 ?_
  refine x_cVi (As := []) F xG_ok hK hW hS um_X1_clock k_5_10 (fun _ h1 => m_c1_clock hN hI hn  h1) rfl (cd_dX1 hn) (cd_eX1 hN hn) rfl rfl hl.1 rfl rfl ⟨Nat.le_of_ble_eq_true rfl, Nat.le_of_ble_eq_true rfl⟩ ⟨Nat.zero_le _, Nat.zero_le _⟩ (Nat.le_of_ble_eq_true rfl) dX0_inputTime_19 h (fun r_2 S2 H locs hW hS h => ?_)
  refine lv_iload_n hx hb dX0_inputTime_22 rfl (lv_at hl 0 rfl) ?_
  refine x_cSNi (As := [.int r_2, .int (xI S n 4 0)]) F xG_ok hS hK um_X11_isLater km_11 (fun _ h1 => m_c11_isLater _ _ h1) rfl rfl hl.1 rfl rfl ⟨Nat.le_of_ble_eq_true rfl, Nat.le_of_ble_eq_true rfl⟩ ⟨Nat.zero_le _, Nat.zero_le _⟩ (Nat.le_of_ble_eq_true rfl) dX0_inputTime_23 h (fun r_3 locs hS h => ?_)
  refine lv_if_eq (tgt := 30) hx hb dX0_inputTime_26 (by decide) (fun c_4 => ?_) (fun c_4 => ?_)
  · replace h := (if_pos c_4).symm.trans h
    refine lv_aload_n hx hb dX0_inputTime_30 rfl (lv_at hl 1 rfl) ?_
    refine x_get F hK hW xc_X0 (cd_dX0 hn) (cd_eX0 hN hn) 0 (by decide) k_2_72 (rfl) dX0_inputTime_31 ?_
    refine lv_bipush (v := (-5 : Int32)) hx hb dX0_inputTime_34 (by decide) ?_
    refine lv_iload_n hx hb dX0_inputTime_36 rfl (lv_at hl 0 rfl) ?_
    refine x_cVv (As := [.int (-5 : Int32), .int (xI S n 4 0)]) F xG_ok hK hW hS um_X1_setLocal k_4_211 (fun _ h1 => m_c1_setLocal hN hI hn _ _ h1) rfl (cd_dX1 hn) (cd_eX1 hN hn) rfl rfl hl.1 rfl rfl ⟨Nat.le_of_ble_eq_true rfl, Nat.le_of_ble_eq_true rfl⟩ ⟨Nat.zero_le _, Nat.zero_le _⟩ (Nat.le_of_ble_eq_true rfl) dX0_inputTime_37 h (fun S5 H locs hW hS h => ?_)
    refine lv_aload_n hx hb dX0_inputTime_40 rfl (lv_at hl 1 rfl) ?_
    refine x_get F hK hW xc_X0 (cd_dX0 hn) (cd_eX0 hN hn) 0 (by decide) k_2_72 (rfl) dX0_inputTime_41 ?_
    refine lv_bipush (v := (-4 : Int32)) hx hb dX0_inputTime_44 (by decide) ?_
    refine lv_ldc (v := (32769 : Int32)) hx hb F.2.2.2.1 (x_hts F _ k_5_12) dX0_inputTime_46 ?_
    refine x_cVv (As := [.int (-4 : Int32), .int (32769 : Int32)]) F xG_ok hK hW hS um_X1_setLocal k_4_211 (fun _ h1 => m_c1_setLocal hN hI hn _ _ h1) rfl (cd_dX1 hn) (cd_eX1 hN hn) rfl rfl hl.1 rfl rfl ⟨Nat.le_of_ble_eq_true rfl, Nat.le_of_ble_eq_true rfl⟩ ⟨Nat.zero_le _, Nat.zero_le _⟩ (Nat.le_of_ble_eq_true rfl) dX0_inputTime_48 h (fun S6 H locs hW hS h => ?_)
    refine lv_aload_n hx hb dX0_inputTime_51 rfl (lv_at hl 1 rfl) ?_
    refine x_get F hK hW xc_X0 (cd_dX0 hn) (cd_eX0 hN hn) 0 (by decide) k_2_72 (rfl) dX0_inputTime_52 ?_
    refine lv_bipush (v := (-3 : Int32)) hx hb dX0_inputTime_55 (by decide) ?_
    refine lv_ldc (v := (32770 : Int32)) hx hb F.2.2.2.1 (x_hts F _ k_5_13) dX0_inputTime_57 ?_
    refine x_cVv (As := [.int (-3 : Int32), .int (32770 : Int32)]) F xG_ok hK hW hS um_X1_setLocal k_4_211 (fun _ h1 => m_c1_setLocal hN hI hn _ _ h1) rfl (cd_dX1 hn) (cd_eX1 hN hn) rfl rfl hl.1 rfl rfl ⟨Nat.le_of_ble_eq_true rfl, Nat.le_of_ble_eq_true rfl⟩ ⟨Nat.zero_le _, Nat.zero_le _⟩ (Nat.le_of_ble_eq_true rfl) dX0_inputTime_59 h (fun S7 H locs hW hS h => ?_)
    refine lv_aload_n hx hb dX0_inputTime_62 rfl (lv_at hl 1 rfl) ?_
    refine x_get F hK hW xc_X0 (cd_dX0 hn) (cd_eX0 hN hn) 0 (by decide) k_2_72 (rfl) dX0_inputTime_63 ?_
    refine lv_iload_n hx hb dX0_inputTime_66 rfl (lv_at hl 0 rfl) ?_
    refine x_cVv (As := [.int (xI S n 4 0)]) F xG_ok hK hW hS um_X1_waitForTime k_5_14 (fun _ h1 => m_c1_waitForTime hN hI hn _ h1) rfl (cd_dX1 hn) (cd_eX1 hN hn) rfl rfl hl.1 rfl rfl ⟨Nat.le_of_ble_eq_true rfl, Nat.le_of_ble_eq_true rfl⟩ ⟨Nat.zero_le _, Nat.zero_le _⟩ (Nat.le_of_ble_eq_true rfl) dX0_inputTime_67 h (fun S8 H locs hW hS h => ?_)
    exact x_vret F hr hlk hW hS dX0_inputTime_70 h
  replace h := (if_neg c_4).symm.trans h
  exact x_vret F hr hlk hW hS dX0_inputTime_29 h
/-! X1_hasProcess -/
def c1_hasProcess (n : Nat) (S : xS)  : Option (Int32 × xS) := if (xI S n 4 6) = (2 : Int32) then (some ((0 : Int32), S)) else (some ((1 : Int32), S))
set_option maxHeartbeats 4000000 in
set_option maxRecDepth 100000 in
theorem m_c1_hasProcess {l : Launch} {D : va_G} {cI cJ cL cN : ClassId} {ad : Nat → Nat → Nat} {N : Nat} (hN : N ≤ 8) (hI : xInj (cDom N) ad) {n : Nat} (hn : n < N) {S : xS}  {o : Int32 × xS} (h : c1_hasProcess n S  = some o) : Met l yX1_hasProcess (Cond.code yX1_hasProcess cX1_hasProcess 1 (some .boolean) :: xG) { frames := 0, cells := 0, slots := 0, locals := 0 } (xPc D vwCl (cTy cI cJ cL cN) cNf cNm (cDom N) ad (cDe ad N cI cJ cL cN) [.ref (ad n 1)] S) (xQ D vwCl (cDom N) ad (cDe ad N cI cJ cL cN) (some (.int o.1)) o.2) 0 0 (xA (cDom N) ad) := by
  unfold c1_hasProcess at h
  refine x_enter (by decide) (Nat.le_of_ble_eq_true rfl) (fun p e s m below meth c F hr hlk hK hW hS ls hl => ?_)
  have hl : lv_has ls 1 [(0, .ref (ad n 1))] := hl
  have hx := F.1
  have hb := F.2.1
  refine lv_aload_n hx hb dX1_hasProcess_0 rfl (lv_at hl 0 rfl) ?_
  refine x_get F hK hW xc_X1 (cd_dX1 hn) (cd_eX1 hN hn) 1 (by decide) k_1_156 (rfl) dX1_hasProcess_1 ?_
  refine x_getN F hK hW xc_X9 (cd_dX9 ⟨hn, Or.inl rfl⟩) (cd_eX9 hN ⟨hn, Or.inl rfl⟩) 6 (by decide) kn_16 (rfl) dX1_hasProcess_4 ?_
  refine lv_iconst (v := (2 : Int32)) hx hb dX1_hasProcess_7 (by decide) ?_
  refine lv_icmp_eq (tgt := 15) hx hb dX1_hasProcess_8 (by decide) (fun c_1 => ?_) (fun c_1 => ?_)
  · replace h := (if_pos c_1).symm.trans h
    refine lv_iconst (v := (0 : Int32)) hx hb dX1_hasProcess_15 (by decide) ?_
    exact x_zret F hr hlk hW hS rfl dX1_hasProcess_16 h
  replace h := (if_neg c_1).symm.trans h
  refine lv_iconst (v := (1 : Int32)) hx hb dX1_hasProcess_11 (by decide) ?_
  refine lv_goto (tgt := 16) hx hb dX1_hasProcess_12 (by decide) ?_
  exact x_zret F hr hlk hW hS rfl dX1_hasProcess_16 h
/-! X1_yieldIfSliced -/
def c1_yieldIfSliced (n : Nat) (S : xS)  : Option (xS) := if (xI S n 4 6) = (1 : Int32) then (if (xI S n 4 7) < (256 : Int32) then (some S) else ((c1_own n S ).bind (fun (r_3, S3) => (c1_leaveWaiting n S3 ).bind (fun S4 => (c1_makeReady n S4 r_3).bind (fun S5 => some S5))))) else (some S)
set_option maxHeartbeats 4000000 in
set_option maxRecDepth 100000 in
theorem m_c1_yieldIfSliced {l : Launch} {D : va_G} {cI cJ cL cN : ClassId} {ad : Nat → Nat → Nat} {N : Nat} (hN : N ≤ 8) (hI : xInj (cDom N) ad) {n : Nat} (hn : n < N) {S : xS}  {o : xS} (h : c1_yieldIfSliced n S  = some o) : Met l yX1_yieldIfSliced (Cond.code yX1_yieldIfSliced cX1_yieldIfSliced 2 none :: xG) { frames := 2, cells := 0, slots := 0, locals := 49 } (xPc D vwCl (cTy cI cJ cL cN) cNf cNm (cDom N) ad (cDe ad N cI cJ cL cN) [.ref (ad n 1)] S) (xQ D vwCl (cDom N) ad (cDe ad N cI cJ cL cN) none o) 0 0 (xA (cDom N) ad) := by
  unfold c1_yieldIfSliced at h
  refine x_enter (by decide) (Nat.le_of_ble_eq_true rfl) (fun p e s m below meth c F hr hlk hK hW hS ls hl => ?_)
  have hl : lv_has ls 2 [(0, .ref (ad n 1))] := hl
  have hx := F.1
  have hb := F.2.1
  refine lv_aload_n hx hb dX1_yieldIfSliced_0 rfl (lv_at hl 0 rfl) ?_
  refine x_get F hK hW xc_X1 (cd_dX1 hn) (cd_eX1 hN hn) 1 (by decide) k_1_156 (rfl) dX1_yieldIfSliced_1 ?_
  refine x_getN F hK hW xc_X9 (cd_dX9 ⟨hn, Or.inl rfl⟩) (cd_eX9 hN ⟨hn, Or.inl rfl⟩) 6 (by decide) kn_16 (rfl) dX1_yieldIfSliced_4 ?_
  refine lv_iconst (v := (1 : Int32)) hx hb dX1_yieldIfSliced_7 (by decide) ?_
  refine lv_icmp_ne (tgt := 38) hx hb dX1_yieldIfSliced_8 (by decide) (fun c_1 => ?_) (fun c_1 => ?_)
  · replace h := (if_neg c_1).symm.trans h
    exact x_vret F hr hlk hW hS dX1_yieldIfSliced_38 h
  replace h := (if_pos c_1).symm.trans h
  refine lv_aload_n hx hb dX1_yieldIfSliced_11 rfl (lv_at hl 0 rfl) ?_
  refine x_get F hK hW xc_X1 (cd_dX1 hn) (cd_eX1 hN hn) 1 (by decide) k_1_156 (rfl) dX1_yieldIfSliced_12 ?_
  refine x_getN F hK hW xc_X9 (cd_dX9 ⟨hn, Or.inl rfl⟩) (cd_eX9 hN ⟨hn, Or.inl rfl⟩) 7 (by decide) kn_19 (rfl) dX1_yieldIfSliced_15 ?_
  refine lv_sipush (v := (256 : Int32)) hx hb dX1_yieldIfSliced_18 (by decide) ?_
  refine lv_icmp_lt (tgt := 38) hx hb dX1_yieldIfSliced_21 (by decide) (fun c_2 => ?_) (fun c_2 => ?_)
  · replace h := (if_pos c_2).symm.trans h
    exact x_vret F hr hlk hW hS dX1_yieldIfSliced_38 h
  replace h := (if_neg c_2).symm.trans h
  refine lv_aload_n hx hb dX1_yieldIfSliced_24 rfl (lv_at hl 0 rfl) ?_
  refine x_cVi (As := []) F xG_ok hK hW hS um_X1_own k_4_6 (fun _ h1 => m_c1_own hN hI hn  h1) rfl (cd_dX1 hn) (cd_eX1 hN hn) rfl rfl hl.1 rfl rfl ⟨Nat.le_of_ble_eq_true rfl, Nat.le_of_ble_eq_true rfl⟩ ⟨Nat.zero_le _, Nat.zero_le _⟩ (Nat.le_of_ble_eq_true rfl) dX1_yieldIfSliced_25 h (fun r_3 S3 H locs hW hS h => ?_)
  refine lv_istore_n (lv' := [(1, .int r_3), (0, .ref (ad n 1))]) hx hb dX1_yieldIfSliced_28 rfl hl (by decide) rfl (fun ls hl => ?_)
  refine lv_aload_n hx hb dX1_yieldIfSliced_29 rfl (lv_at hl 1 rfl) ?_
  refine x_cVv (As := []) F xG_ok hK hW hS um_X1_leaveWaiting k_4_10 (fun _ h1 => m_c1_leaveWaiting hN hI hn  h1) rfl (cd_dX1 hn) (cd_eX1 hN hn) rfl rfl hl.1 rfl rfl ⟨Nat.le_of_ble_eq_true rfl, Nat.le_of_ble_eq_true rfl⟩ ⟨Nat.zero_le _, Nat.zero_le _⟩ (Nat.le_of_ble_eq_true rfl) dX1_yieldIfSliced_30 h (fun S4 H locs hW hS h => ?_)
  refine lv_aload_n hx hb dX1_yieldIfSliced_33 rfl (lv_at hl 1 rfl) ?_
  refine lv_iload_n hx hb dX1_yieldIfSliced_34 rfl (lv_at hl 0 rfl) ?_
  refine x_cVv (As := [.int r_3]) F xG_ok hK hW hS um_X1_makeReady k_3_109 (fun _ h1 => m_c1_makeReady hN hI hn _ h1) rfl (cd_dX1 hn) (cd_eX1 hN hn) rfl rfl hl.1 rfl rfl ⟨Nat.le_of_ble_eq_true rfl, Nat.le_of_ble_eq_true rfl⟩ ⟨Nat.zero_le _, Nat.zero_le _⟩ (Nat.le_of_ble_eq_true rfl) dX1_yieldIfSliced_35 h (fun S5 H locs hW hS h => ?_)
  exact x_vret F hr hlk hW hS dX1_yieldIfSliced_38 h
/-! X9_setStack -/
def c9_setStack (n j : Nat) (S : xS) (a1 : Int32) (a2 : Int32) (a3 : Int32) : Option (xS) := xnm (sI S n j 0 a1) (fun S1 => xnm (sI S1 n j 1 a2) (fun S2 => xnm (sI S2 n j 2 a3) (fun S3 => some S3)))
set_option maxHeartbeats 4000000 in
set_option maxRecDepth 100000 in
theorem m_c9_setStack {l : Launch} {D : va_G} {cI cJ cL cN : ClassId} {ad : Nat → Nat → Nat} {N : Nat} (hN : N ≤ 8) (hI : xInj (cDom N) ad) {n j : Nat} (hj : isX9 N n j) {S : xS} (a1 : Int32) (a2 : Int32) (a3 : Int32) {o : xS} (h : c9_setStack n j S a1 a2 a3 = some o) : Met l yX9_setStack (Cond.code yX9_setStack cX9_setStack 4 none :: xG) { frames := 0, cells := 0, slots := 0, locals := 0 } (xPc D vwCl (cTy cI cJ cL cN) cNf cNm (cDom N) ad (cDe ad N cI cJ cL cN) [.ref (ad n j), .int a1, .int a2, .int a3] S) (xQ D vwCl (cDom N) ad (cDe ad N cI cJ cL cN) none o) 0 0 (xA (cDom N) ad) := by
  unfold c9_setStack at h
  refine x_enter (by decide) (Nat.le_of_ble_eq_true rfl) (fun p e s m below meth c F hr hlk hK hW hS ls hl => ?_)
  have hl : lv_has ls 4 [(0, .ref (ad n j)), (1, .int a1), (2, .int a2), (3, .int a3)] := hl
  have hx := F.1
  have hb := F.2.1
  refine lv_aload_n hx hb dX9_setStack_0 rfl (lv_at hl 0 rfl) ?_
  refine lv_iload_n hx hb dX9_setStack_1 rfl (lv_at hl 1 rfl) ?_
  refine x_put F hK hI hW hS xc_X9 (cd_dX9 hj) (cd_eX9 hN hj) 0 (by decide) k_1_62 rfl (v := a1) rfl rfl (fun _ _ => rfl) (fun _ _ => Nat.le_of_ble_eq_true rfl) dX9_setStack_2 h (fun S1 H locs hW hS h => ?_)
  refine lv_aload_n hx hb dX9_setStack_5 rfl (lv_at hl 0 rfl) ?_
  refine lv_iload_n hx hb dX9_setStack_6 rfl (lv_at hl 2 rfl) ?_
  refine x_put F hK hI hW hS xc_X9 (cd_dX9 hj) (cd_eX9 hN hj) 1 (by decide) k_1_66 rfl (v := a2) rfl rfl (fun _ _ => rfl) (fun _ _ => Nat.le_of_ble_eq_true rfl) dX9_setStack_7 h (fun S2 H locs hW hS h => ?_)
  refine lv_aload_n hx hb dX9_setStack_10 rfl (lv_at hl 0 rfl) ?_
  refine lv_iload_n hx hb dX9_setStack_11 rfl (lv_at hl 3 rfl) ?_
  refine x_put F hK hI hW hS xc_X9 (cd_dX9 hj) (cd_eX9 hN hj) 2 (by decide) k_1_70 rfl (v := a3) rfl rfl (fun _ _ => rfl) (fun _ _ => Nat.le_of_ble_eq_true rfl) dX9_setStack_12 h (fun S3 H locs hW hS h => ?_)
  exact x_vret F hr hlk hW hS dX9_setStack_15 h
/-! X9_copyFrom -/
def c9_copyFrom (n j : Nat) (j2 : Nat) (S : xS)  : Option (xS) := (c9_setStack n j S (xI S n j2 0) (xI S n j2 1) (xI S n j2 2)).bind (fun S1 => xnm (sI S1 n j 3 (xI S1 n j2 3)) (fun S2 => xnm (sI S2 n j 4 (xI S2 n j2 4)) (fun S3 => xnm (sI S3 n j 5 (xI S3 n j2 5)) (fun S4 => xnm (sI S4 n j 6 (xI S4 n j2 6)) (fun S5 => xnm (sI S5 n j 7 (xI S5 n j2 7)) (fun S6 => some S6))))))
set_option maxHeartbeats 4000000 in
set_option maxRecDepth 100000 in
theorem m_c9_copyFrom {l : Launch} {D : va_G} {cI cJ cL cN : ClassId} {ad : Nat → Nat → Nat} {N : Nat} (hN : N ≤ 8) (hI : xInj (cDom N) ad) {n j : Nat} (hj : isX9 N n j) {j2 : Nat} (hj2 : isX9 N n j2) {S : xS}  {o : xS} (h : c9_copyFrom n j j2 S  = some o) : Met l yX9_copyFrom (Cond.code yX9_copyFrom cX9_copyFrom 2 none :: xG) { frames := 1, cells := 0, slots := 0, locals := 23 } (xPc D vwCl (cTy cI cJ cL cN) cNf cNm (cDom N) ad (cDe ad N cI cJ cL cN) [.ref (ad n j), .ref (ad n j2)] S) (xQ D vwCl (cDom N) ad (cDe ad N cI cJ cL cN) none o) 0 0 (xA (cDom N) ad) := by
  unfold c9_copyFrom at h
  refine x_enter (by decide) (Nat.le_of_ble_eq_true rfl) (fun p e s m below meth c F hr hlk hK hW hS ls hl => ?_)
  have hl : lv_has ls 2 [(0, .ref (ad n j)), (1, .ref (ad n j2))] := hl
  have hx := F.1
  have hb := F.2.1
  refine lv_aload_n hx hb dX9_copyFrom_0 rfl (lv_at hl 0 rfl) ?_
  refine lv_aload_n hx hb dX9_copyFrom_1 rfl (lv_at hl 1 rfl) ?_
  refine x_get F hK hW xc_X9 (cd_dX9 hj2) (cd_eX9 hN hj2) 0 (by decide) k_1_62 (rfl) dX9_copyFrom_2 ?_
  refine lv_aload_n hx hb dX9_copyFrom_5 rfl (lv_at hl 1 rfl) ?_
  refine x_get F hK hW xc_X9 (cd_dX9 hj2) (cd_eX9 hN hj2) 1 (by decide) k_1_66 (rfl) dX9_copyFrom_6 ?_
  refine lv_aload_n hx hb dX9_copyFrom_9 rfl (lv_at hl 1 rfl) ?_
  refine x_get F hK hW xc_X9 (cd_dX9 hj2) (cd_eX9 hN hj2) 2 (by decide) k_1_70 (rfl) dX9_copyFrom_10 ?_
  refine x_cVv (As := [.int (xI S n j2 0), .int (xI S n j2 1), .int (xI S n j2 2)]) F xG_ok hK hW hS um_X9_setStack k_3_216 (fun _ h1 => m_c9_setStack hN hI hj _ _ _ h1) rfl (cd_dX9 hj) (cd_eX9 hN hj) rfl rfl hl.1 rfl rfl ⟨Nat.le_of_ble_eq_true rfl, Nat.le_of_ble_eq_true rfl⟩ ⟨Nat.zero_le _, Nat.zero_le _⟩ (Nat.le_of_ble_eq_true rfl) dX9_copyFrom_13 h (fun S1 H locs hW hS h => ?_)
  refine lv_aload_n hx hb dX9_copyFrom_16 rfl (lv_at hl 0 rfl) ?_
  refine lv_aload_n hx hb dX9_copyFrom_17 rfl (lv_at hl 1 rfl) ?_
  refine x_get F hK hW xc_X9 (cd_dX9 hj2) (cd_eX9 hN hj2) 3 (by decide) k_1_75 (rfl) dX9_copyFrom_18 ?_
  refine x_put F hK hI hW hS xc_X9 (cd_dX9 hj) (cd_eX9 hN hj) 3 (by decide) k_1_75 rfl (v := (xI S1 n j2 3)) rfl rfl (fun _ _ => rfl) (fun _ _ => Nat.le_of_ble_eq_true rfl) dX9_copyFrom_21 h (fun S2 H locs hW hS h => ?_)
  refine lv_aload_n hx hb dX9_copyFrom_24 rfl (lv_at hl 0 rfl) ?_
  refine lv_aload_n hx hb dX9_copyFrom_25 rfl (lv_at hl 1 rfl) ?_
  refine x_get F hK hW xc_X9 (cd_dX9 hj2) (cd_eX9 hN hj2) 4 (by decide) k_1_78 (rfl) dX9_copyFrom_26 ?_
  refine x_put F hK hI hW hS xc_X9 (cd_dX9 hj) (cd_eX9 hN hj) 4 (by decide) k_1_78 rfl (v := (xI S2 n j2 4)) rfl rfl (fun _ _ => rfl) (fun _ _ => Nat.le_of_ble_eq_true rfl) dX9_copyFrom_29 h (fun S3 H locs hW hS h => ?_)
  refine lv_aload_n hx hb dX9_copyFrom_32 rfl (lv_at hl 0 rfl) ?_
  refine lv_aload_n hx hb dX9_copyFrom_33 rfl (lv_at hl 1 rfl) ?_
  refine x_get F hK hW xc_X9 (cd_dX9 hj2) (cd_eX9 hN hj2) 5 (by decide) k_1_82 (rfl) dX9_copyFrom_34 ?_
  refine x_put F hK hI hW hS xc_X9 (cd_dX9 hj) (cd_eX9 hN hj) 5 (by decide) k_1_82 rfl (v := (xI S3 n j2 5)) rfl rfl (fun _ _ => rfl) (fun _ _ => Nat.le_of_ble_eq_true rfl) dX9_copyFrom_37 h (fun S4 H locs hW hS h => ?_)
  refine lv_aload_n hx hb dX9_copyFrom_40 rfl (lv_at hl 0 rfl) ?_
  refine lv_aload_n hx hb dX9_copyFrom_41 rfl (lv_at hl 1 rfl) ?_
  refine x_get F hK hW xc_X9 (cd_dX9 hj2) (cd_eX9 hN hj2) 6 (by decide) k_1_83 (rfl) dX9_copyFrom_42 ?_
  refine x_put F hK hI hW hS xc_X9 (cd_dX9 hj) (cd_eX9 hN hj) 6 (by decide) k_1_83 rfl (v := (xI S4 n j2 6)) rfl rfl (fun _ _ => rfl) (fun _ _ => Nat.le_of_ble_eq_true rfl) dX9_copyFrom_45 h (fun S5 H locs hW hS h => ?_)
  refine lv_aload_n hx hb dX9_copyFrom_48 rfl (lv_at hl 0 rfl) ?_
  refine lv_aload_n hx hb dX9_copyFrom_49 rfl (lv_at hl 1 rfl) ?_
  refine x_get F hK hW xc_X9 (cd_dX9 hj2) (cd_eX9 hN hj2) 7 (by decide) k_1_87 (rfl) dX9_copyFrom_50 ?_
  refine x_put F hK hI hW hS xc_X9 (cd_dX9 hj) (cd_eX9 hN hj) 7 (by decide) k_1_87 rfl (v := (xI S5 n j2 7)) rfl rfl (fun _ _ => rfl) (fun _ _ => Nat.le_of_ble_eq_true rfl) dX9_copyFrom_53 h (fun S6 H locs hW hS h => ?_)
  exact x_vret F hr hlk hW hS dX9_copyFrom_56 h
/-! X9_begin -/
def c9_begin (n j : Nat) (S : xS) (a1 : Int32) (a2 : Int32) (a3 : Int32) : Option (xS) := xnm (sI S n j 4 a1) (fun S1 => xnm (sI S1 n j 5 (a2 &&& (65534 : Int32))) (fun S2 => xnm (sI S2 n j 6 a3) (fun S3 => xnm (sI S3 n j 3 (0 : Int32)) (fun S4 => xnm (sI S4 n j 7 (0 : Int32)) (fun S5 => some S5)))))
set_option maxHeartbeats 4000000 in
set_option maxRecDepth 100000 in
theorem m_c9_begin {l : Launch} {D : va_G} {cI cJ cL cN : ClassId} {ad : Nat → Nat → Nat} {N : Nat} (hN : N ≤ 8) (hI : xInj (cDom N) ad) {n j : Nat} (hj : isX9 N n j) {S : xS} (a1 : Int32) (a2 : Int32) (a3 : Int32) {o : xS} (h : c9_begin n j S a1 a2 a3 = some o) : Met l yX9_begin (Cond.code yX9_begin cX9_begin 4 none :: xG) { frames := 0, cells := 0, slots := 0, locals := 0 } (xPc D vwCl (cTy cI cJ cL cN) cNf cNm (cDom N) ad (cDe ad N cI cJ cL cN) [.ref (ad n j), .int a1, .int a2, .int a3] S) (xQ D vwCl (cDom N) ad (cDe ad N cI cJ cL cN) none o) 0 0 (xA (cDom N) ad) := by
  unfold c9_begin at h
  refine x_enter (by decide) (Nat.le_of_ble_eq_true rfl) (fun p e s m below meth c F hr hlk hK hW hS ls hl => ?_)
  have hl : lv_has ls 4 [(0, .ref (ad n j)), (1, .int a1), (2, .int a2), (3, .int a3)] := hl
  have hx := F.1
  have hb := F.2.1
  refine lv_aload_n hx hb dX9_begin_0 rfl (lv_at hl 0 rfl) ?_
  refine lv_iload_n hx hb dX9_begin_1 rfl (lv_at hl 1 rfl) ?_
  refine x_put F hK hI hW hS xc_X9 (cd_dX9 hj) (cd_eX9 hN hj) 4 (by decide) k_1_78 rfl (v := a1) rfl rfl (fun _ _ => rfl) (fun _ _ => Nat.le_of_ble_eq_true rfl) dX9_begin_2 h (fun S1 H locs hW hS h => ?_)
  refine lv_aload_n hx hb dX9_begin_5 rfl (lv_at hl 0 rfl) ?_
  refine lv_iload_n hx hb dX9_begin_6 rfl (lv_at hl 2 rfl) ?_
  refine lv_ldc (v := (65534 : Int32)) hx hb F.2.2.2.1 (x_hts F _ k_3_11) dX9_begin_7 ?_
  refine lv_iand hx hb dX9_begin_9 ?_
  refine x_put F hK hI hW hS xc_X9 (cd_dX9 hj) (cd_eX9 hN hj) 5 (by decide) k_1_82 rfl (v := (a2 &&& (65534 : Int32))) rfl rfl (fun _ _ => rfl) (fun _ _ => Nat.le_of_ble_eq_true rfl) dX9_begin_10 h (fun S2 H locs hW hS h => ?_)
  refine lv_aload_n hx hb dX9_begin_13 rfl (lv_at hl 0 rfl) ?_
  refine lv_iload_n hx hb dX9_begin_14 rfl (lv_at hl 3 rfl) ?_
  refine x_put F hK hI hW hS xc_X9 (cd_dX9 hj) (cd_eX9 hN hj) 6 (by decide) k_1_83 rfl (v := a3) rfl rfl (fun _ _ => rfl) (fun _ _ => Nat.le_of_ble_eq_true rfl) dX9_begin_15 h (fun S3 H locs hW hS h => ?_)
  refine lv_aload_n hx hb dX9_begin_18 rfl (lv_at hl 0 rfl) ?_
  refine lv_iconst (v := (0 : Int32)) hx hb dX9_begin_19 (by decide) ?_
  refine x_put F hK hI hW hS xc_X9 (cd_dX9 hj) (cd_eX9 hN hj) 3 (by decide) k_1_75 rfl (v := (0 : Int32)) rfl rfl (fun _ _ => rfl) (fun _ _ => Nat.le_of_ble_eq_true rfl) dX9_begin_20 h (fun S4 H locs hW hS h => ?_)
  refine lv_aload_n hx hb dX9_begin_23 rfl (lv_at hl 0 rfl) ?_
  refine lv_iconst (v := (0 : Int32)) hx hb dX9_begin_24 (by decide) ?_
  refine x_put F hK hI hW hS xc_X9 (cd_dX9 hj) (cd_eX9 hN hj) 7 (by decide) k_1_87 rfl (v := (0 : Int32)) rfl rfl (fun _ _ => rfl) (fun _ _ => Nat.le_of_ble_eq_true rfl) dX9_begin_25 h (fun S5 H locs hW hS h => ?_)
  exact x_vret F hr hlk hW hS dX9_begin_28 h
/-! X1_resumeFirst -/
def c1_resumeFirst_b29 (n : Nat) (j2 : Nat) (v2 : Int32) (v3 : Int32) (t0 : Int32) (S : xS) : Option (xS) := xnm (sI S n j2 0 t0) (fun S3 => (c5_wordAt n 2 S3 ((v3 &&& (65534 : Int32)) - (2 : Int32))).bind (fun (r_4, S4) => (c9_begin n 4 S4 r_4 v3 v2).bind (fun S5 => some S5)))
set_option maxHeartbeats 4000000 in
set_option maxRecDepth 100000 in
theorem m_c1_resumeFirst_b29 {l : Launch} {D : va_G} {cI cJ cL cN : ClassId} {ad : Nat → Nat → Nat} {N : Nat} (hN : N ≤ 8) (hI : xInj (cDom N) ad) {n : Nat} (hn : n < N) {j2 : Nat} (hj2 : isX8 N n j2) {p : Program} {e : Env} {s : State} {m : MethodId} {args : Array Value} {below : List Frame} {meth : Method} {c : Code} (F : CallFix p m c cX1_resumeFirst 4 s args (Cond.code yX1_resumeFirst cX1_resumeFirst 4 none :: xG) (yX1_resumeFirst).cls) (hr : meth.sig.returnType = none) (hlk : meth.locks = false) (hK : xK D vwCl (cTy cI cJ cL cN) cNf cNm s) {o : xS} (v2 : Int32) (v3 : Int32) (t0 : Int32) (S : xS) {H : Heap} {locs : List Loc} {ls : Array Slot} (h : c1_resumeFirst_b29 n j2 v2 v3 t0 S = some o) (hW : xW D vwCl (cDom N) ad (cDe ad N cI cJ cL cN) S H) (hS : va_S (xA (cDom N) ad) s.heap H locs) (hl : lv_has ls 4 [(0, .ref (ad n 1)), (2, .int v2), (3, .int v3)]) : W p l e { frames := 1, cells := 0, slots := 0, locals := 23 } s m args below meth c H locs 0 0 (MQ below (xQ D vwCl (cDom N) ad (cDe ad N cI cJ cL cN) none o) args s 0 0 (xA (cDom N) ad)) (F0 m 29 ls [.int t0, .ref (ad n j2)]) := by
  have hx := F.1
  have hb := F.2.1
  unfold c1_resumeFirst_b29 at h
  refine x_putN F hK hI hW hS xc_X8 (cd_dX8 hj2) (cd_eX8 hN hj2) 0 (by decide) kn_20 rfl (v := t0) rfl rfl (fun _ _ => rfl) (fun _ _ => Nat.le_of_ble_eq_true rfl) dX1_resumeFirst_29 h (fun S3 H locs hW hS h => ?_)
  refine lv_aload_n hx hb dX1_resumeFirst_32 rfl (lv_at hl 0 rfl) ?_
  refine x_get F hK hW xc_X1 (cd_dX1 hn) (cd_eX1 hN hn) 1 (by decide) k_1_156 (rfl) dX1_resumeFirst_33 ?_
  refine lv_aload_n hx hb dX1_resumeFirst_36 rfl (lv_at hl 0 rfl) ?_
  refine x_get F hK hW xc_X1 (cd_dX1 hn) (cd_eX1 hN hn) 0 (by decide) k_1_148 (rfl) dX1_resumeFirst_37 ?_
  refine lv_iload_n hx hb dX1_resumeFirst_40 rfl (lv_at hl 2 rfl) ?_
  refine lv_ldc (v := (65534 : Int32)) hx hb F.2.2.2.1 (x_hts F _ k_3_76) dX1_resumeFirst_41 ?_
  refine lv_iand hx hb dX1_resumeFirst_43 ?_
  refine lv_iconst (v := (2 : Int32)) hx hb dX1_resumeFirst_44 (by decide) ?_
  refine lv_isub hx hb dX1_resumeFirst_45 ?_
  refine x_cVi (As := [.int ((v3 &&& (65534 : Int32)) - (2 : Int32))]) F xG_ok hK hW hS um_X5_wordAt k_3_94 (fun _ h1 => m_c5_wordAt hN hI (is5n hn) _ h1) rfl (cd_dX5 (is5n hn)) (cd_eX5 hN (is5n hn)) rfl rfl hl.1 rfl rfl ⟨Nat.le_of_ble_eq_true rfl, Nat.le_of_ble_eq_true rfl⟩ ⟨Nat.zero_le _, Nat.zero_le _⟩ (Nat.le_of_ble_eq_true rfl) dX1_resumeFirst_46 h (fun r_4 S4 H locs hW hS h => ?_)
  refine lv_iload_n hx hb dX1_resumeFirst_49 rfl (lv_at hl 2 rfl) ?_
  refine lv_iload_n hx hb dX1_resumeFirst_50 rfl (lv_at hl 1 rfl) ?_
  refine x_cVv (As := [.int r_4, .int v3, .int v2]) F xG_ok hK hW hS um_X9_begin k_3_226 (fun _ h1 => m_c9_begin hN hI ⟨hn, Or.inl rfl⟩ _ _ _ h1) rfl (cd_dX9 ⟨hn, Or.inl rfl⟩) (cd_eX9 hN ⟨hn, Or.inl rfl⟩) rfl rfl hl.1 rfl rfl ⟨Nat.le_of_ble_eq_true rfl, Nat.le_of_ble_eq_true rfl⟩ ⟨Nat.zero_le _, Nat.zero_le _⟩ (Nat.le_of_ble_eq_true rfl) dX1_resumeFirst_51 h (fun S5 H locs hW hS h => ?_)
  exact x_vret F hr hlk hW hS dX1_resumeFirst_54 h
def c1_resumeFirst (n : Nat) (j2 : Nat) (S : xS) (a2 : Int32) : Option (xS) := if (xI S n j2 0) = (xI S n j2 1) then (c1_resumeFirst_b29 n j2 a2 (xI S n j2 0) (32768 : Int32) S) else ((c5_wordAt n 2 S ((xI S n j2 0) - (4 : Int32))).bind (fun (r_2, S2) => c1_resumeFirst_b29 n j2 a2 (xI S n j2 0) r_2 S2))
set_option maxHeartbeats 4000000 in
set_option maxRecDepth 100000 in
theorem m_c1_resumeFirst {l : Launch} {D : va_G} {cI cJ cL cN : ClassId} {ad : Nat → Nat → Nat} {N : Nat} (hN : N ≤ 8) (hI : xInj (cDom N) ad) {n : Nat} (hn : n < N) {j2 : Nat} (hj2 : isX8 N n j2) {S : xS} (a2 : Int32) {o : xS} (h : c1_resumeFirst n j2 S a2 = some o) : Met l yX1_resumeFirst (Cond.code yX1_resumeFirst cX1_resumeFirst 4 none :: xG) { frames := 1, cells := 0, slots := 0, locals := 23 } (xPc D vwCl (cTy cI cJ cL cN) cNf cNm (cDom N) ad (cDe ad N cI cJ cL cN) [.ref (ad n 1), .ref (ad n j2), .int a2] S) (xQ D vwCl (cDom N) ad (cDe ad N cI cJ cL cN) none o) 0 0 (xA (cDom N) ad) := by
  unfold c1_resumeFirst at h
  refine x_enter (by decide) (Nat.le_of_ble_eq_true rfl) (fun p e s m below meth c F hr hlk hK hW hS ls hl => ?_)
  have hl : lv_has ls 4 [(0, .ref (ad n 1)), (1, .ref (ad n j2)), (2, .int a2)] := hl
  have hx := F.1
  have hb := F.2.1
  refine lv_aload_n hx hb dX1_resumeFirst_0 rfl (lv_at hl 1 rfl) ?_
  refine x_getN F hK hW xc_X8 (cd_dX8 hj2) (cd_eX8 hN hj2) 0 (by decide) kn_20 (rfl) dX1_resumeFirst_1 ?_
  refine lv_istore_n (lv' := [(3, .int (xI S n j2 0)), (0, .ref (ad n 1)), (1, .ref (ad n j2)), (2, .int a2)]) hx hb dX1_resumeFirst_4 rfl hl (by decide) rfl (fun ls hl => ?_)
  refine lv_aload_n hx hb dX1_resumeFirst_5 rfl (lv_at hl 2 rfl) ?_
  refine lv_iload_n hx hb dX1_resumeFirst_6 rfl (lv_at hl 0 rfl) ?_
  refine lv_aload_n hx hb dX1_resumeFirst_7 rfl (lv_at hl 2 rfl) ?_
  refine x_getN F hK hW xc_X8 (cd_dX8 hj2) (cd_eX8 hN hj2) 1 (by decide) kn_22 (rfl) dX1_resumeFirst_8 ?_
  refine lv_icmp_ne (tgt := 19) hx hb dX1_resumeFirst_11 (by decide) (fun c_1 => ?_) (fun c_1 => ?_)
  · replace h := (if_neg c_1).symm.trans h
    refine lv_aload_n hx hb dX1_resumeFirst_19 rfl (lv_at hl 1 rfl) ?_
    refine x_get F hK hW xc_X1 (cd_dX1 hn) (cd_eX1 hN hn) 0 (by decide) k_1_148 (rfl) dX1_resumeFirst_20 ?_
    refine lv_iload_n hx hb dX1_resumeFirst_23 rfl (lv_at hl 0 rfl) ?_
    refine lv_iconst (v := (4 : Int32)) hx hb dX1_resumeFirst_24 (by decide) ?_
    refine lv_isub hx hb dX1_resumeFirst_25 ?_
    refine x_cVi (As := [.int ((xI S n j2 0) - (4 : Int32))]) F xG_ok hK hW hS um_X5_wordAt k_3_94 (fun _ h1 => m_c5_wordAt hN hI (is5n hn) _ h1) rfl (cd_dX5 (is5n hn)) (cd_eX5 hN (is5n hn)) rfl rfl hl.1 rfl rfl ⟨Nat.le_of_ble_eq_true rfl, Nat.le_of_ble_eq_true rfl⟩ ⟨Nat.zero_le _, Nat.zero_le _⟩ (Nat.le_of_ble_eq_true rfl) dX1_resumeFirst_26 h (fun r_2 S2 H locs hW hS h => ?_)
    exact m_c1_resumeFirst_b29 hN hI hn hj2 F hr hlk hK _ _ _ _ h hW hS (lv_sub hl [1, 3, 0] rfl)
  replace h := (if_pos c_1).symm.trans h
  refine lv_ldc (v := (32768 : Int32)) hx hb F.2.2.2.1 (x_hts F _ k_3_225) dX1_resumeFirst_14 ?_
  refine lv_goto (tgt := 29) hx hb dX1_resumeFirst_16 (by decide) ?_
  exact m_c1_resumeFirst_b29 hN hI hn hj2 F hr hlk hK _ _ _ _ h hW hS (lv_sub hl [1, 3, 0] rfl)
/-! X1_chooseNext -/
def c1_chooseNext_b40 (n : Nat)  (S : xS) : Option (xS) := (c1_hasProcess n S ).bind (fun (r_2, S2) => if r_2 = 0 then ((c8_isEmpty n 6 S2 ).bind (fun (r_4, S4) => if r_4 = 0 then ((c1_resumeFirst n 6 S4 (0 : Int32)).bind (fun S12 => some S12)) else (if (xI S4 n 5 6) = (2 : Int32) then ((c8_isEmpty n 7 S4 ).bind (fun (r_7, S7) => if r_7 = 0 then ((c1_resumeFirst n 7 S7 (1 : Int32)).bind (fun S9 => some S9)) else (some S7))) else ((c9_copyFrom n 4 5 S4 ).bind (fun S10 => xnm (sI S10 n 5 6 (2 : Int32)) (fun S11 => some S11)))))) else (some S2))
set_option maxHeartbeats 4000000 in
set_option maxRecDepth 100000 in
theorem m_c1_chooseNext_b40 {l : Launch} {D : va_G} {cI cJ cL cN : ClassId} {ad : Nat → Nat → Nat} {N : Nat} (hN : N ≤ 8) (hI : xInj (cDom N) ad) {n : Nat} (hn : n < N) {p : Program} {e : Env} {s : State} {m : MethodId} {args : Array Value} {below : List Frame} {meth : Method} {c : Code} (F : CallFix p m c cX1_chooseNext 1 s args (Cond.code yX1_chooseNext cX1_chooseNext 1 none :: xG) (yX1_chooseNext).cls) (hr : meth.sig.returnType = none) (hlk : meth.locks = false) (hK : xK D vwCl (cTy cI cJ cL cN) cNf cNm s) {o : xS}  (S : xS) {H : Heap} {locs : List Loc} {ls : Array Slot} (h : c1_chooseNext_b40 n  S = some o) (hW : xW D vwCl (cDom N) ad (cDe ad N cI cJ cL cN) S H) (hS : va_S (xA (cDom N) ad) s.heap H locs) (hl : lv_has ls 1 [(0, .ref (ad n 1))]) : W p l e { frames := 2, cells := 0, slots := 0, locals := 46 } s m args below meth c H locs 0 0 (MQ below (xQ D vwCl (cDom N) ad (cDe ad N cI cJ cL cN) none o) args s 0 0 (xA (cDom N) ad)) (F0 m 40 ls []) := by
  have hx := F.1
  have hb := F.2.1
  unfold c1_chooseNext_b40 at h
  refine lv_aload_n hx hb dX1_chooseNext_40 rfl (lv_at hl 0 rfl) ?_
  refine x_cVi (As := []) F xG_ok hK hW hS um_X1_hasProcess k_3_217 (fun _ h1 => m_c1_hasProcess hN hI hn  h1) rfl (cd_dX1 hn) (cd_eX1 hN hn) rfl rfl hl.1 rfl rfl ⟨Nat.le_of_ble_eq_true rfl, Nat.le_of_ble_eq_true rfl⟩ ⟨Nat.zero_le _, Nat.zero_le _⟩ (Nat.le_of_ble_eq_true rfl) dX1_chooseNext_41 h (fun r_2 S2 H locs hW hS h => ?_)
  refine lv_if_eq (tgt := 48) hx hb dX1_chooseNext_44 (by decide) (fun c_3 => ?_) (fun c_3 => ?_)
  · replace h := (if_pos c_3).symm.trans h
    refine lv_aload_n hx hb dX1_chooseNext_48 rfl (lv_at hl 0 rfl) ?_
    refine x_get F hK hW xc_X1 (cd_dX1 hn) (cd_eX1 hN hn) 3 (by decide) k_1_159 (rfl) dX1_chooseNext_49 ?_
    refine x_cVi (As := []) F xG_ok hK hW hS um_X8_isEmpty k_3_77 (fun _ h1 => m_c8_isEmpty hN hI ⟨hn, Or.inl rfl⟩  h1) rfl (cd_dX8 ⟨hn, Or.inl rfl⟩) (cd_eX8 hN ⟨hn, Or.inl rfl⟩) rfl rfl hl.1 rfl rfl ⟨Nat.le_of_ble_eq_true rfl, Nat.le_of_ble_eq_true rfl⟩ ⟨Nat.zero_le _, Nat.zero_le _⟩ (Nat.le_of_ble_eq_true rfl) dX1_chooseNext_52 h (fun r_4 S4 H locs hW hS h => ?_)
    refine lv_if_ne (tgt := 70) hx hb dX1_chooseNext_55 (by decide) (fun c_5 => ?_) (fun c_5 => ?_)
    · replace h := (if_neg c_5).symm.trans h
      refine lv_aload_n hx hb dX1_chooseNext_70 rfl (lv_at hl 0 rfl) ?_
      refine x_get F hK hW xc_X1 (cd_dX1 hn) (cd_eX1 hN hn) 2 (by decide) k_1_158 (rfl) dX1_chooseNext_71 ?_
      refine x_getN F hK hW xc_X9 (cd_dX9 ⟨hn, Or.inr rfl⟩) (cd_eX9 hN ⟨hn, Or.inr rfl⟩) 6 (by decide) kn_16 (rfl) dX1_chooseNext_74 ?_
      refine lv_iconst (v := (2 : Int32)) hx hb dX1_chooseNext_77 (by decide) ?_
      refine lv_icmp_eq (tgt := 103) hx hb dX1_chooseNext_78 (by decide) (fun c_6 => ?_) (fun c_6 => ?_)
      · replace h := (if_pos c_6).symm.trans h
        refine lv_aload_n hx hb dX1_chooseNext_103 rfl (lv_at hl 0 rfl) ?_
        refine x_get F hK hW xc_X1 (cd_dX1 hn) (cd_eX1 hN hn) 4 (by decide) k_1_161 (rfl) dX1_chooseNext_104 ?_
        refine x_cVi (As := []) F xG_ok hK hW hS um_X8_isEmpty k_3_77 (fun _ h1 => m_c8_isEmpty hN hI ⟨hn, Or.inr rfl⟩  h1) rfl (cd_dX8 ⟨hn, Or.inr rfl⟩) (cd_eX8 hN ⟨hn, Or.inr rfl⟩) rfl rfl hl.1 rfl rfl ⟨Nat.le_of_ble_eq_true rfl, Nat.le_of_ble_eq_true rfl⟩ ⟨Nat.zero_le _, Nat.zero_le _⟩ (Nat.le_of_ble_eq_true rfl) dX1_chooseNext_107 h (fun r_7 S7 H locs hW hS h => ?_)
        refine lv_if_ne (tgt := 122) hx hb dX1_chooseNext_110 (by decide) (fun c_8 => ?_) (fun c_8 => ?_)
        · replace h := (if_neg c_8).symm.trans h
          exact x_vret F hr hlk hW hS dX1_chooseNext_122 h
        replace h := (if_pos c_8).symm.trans h
        refine lv_aload_n hx hb dX1_chooseNext_113 rfl (lv_at hl 0 rfl) ?_
        refine lv_aload_n hx hb dX1_chooseNext_114 rfl (lv_at hl 0 rfl) ?_
        refine x_get F hK hW xc_X1 (cd_dX1 hn) (cd_eX1 hN hn) 4 (by decide) k_1_161 (rfl) dX1_chooseNext_115 ?_
        refine lv_iconst (v := (1 : Int32)) hx hb dX1_chooseNext_118 (by decide) ?_
        refine x_cVv (As := [.ref (ad n 7), .int (1 : Int32)]) F xG_ok hK hW hS um_X1_resumeFirst k_3_221 (fun _ h1 => m_c1_resumeFirst hN hI hn ⟨hn, Or.inr rfl⟩ _ h1) rfl (cd_dX1 hn) (cd_eX1 hN hn) rfl rfl hl.1 rfl rfl ⟨Nat.le_of_ble_eq_true rfl, Nat.le_of_ble_eq_true rfl⟩ ⟨Nat.zero_le _, Nat.zero_le _⟩ (Nat.le_of_ble_eq_true rfl) dX1_chooseNext_119 h (fun S9 H locs hW hS h => ?_)
        exact x_vret F hr hlk hW hS dX1_chooseNext_122 h
      replace h := (if_neg c_6).symm.trans h
      refine lv_aload_n hx hb dX1_chooseNext_81 rfl (lv_at hl 0 rfl) ?_
      refine x_get F hK hW xc_X1 (cd_dX1 hn) (cd_eX1 hN hn) 1 (by decide) k_1_156 (rfl) dX1_chooseNext_82 ?_
      refine lv_aload_n hx hb dX1_chooseNext_85 rfl (lv_at hl 0 rfl) ?_
      refine x_get F hK hW xc_X1 (cd_dX1 hn) (cd_eX1 hN hn) 2 (by decide) k_1_158 (rfl) dX1_chooseNext_86 ?_
      refine x_cVv (As := [.ref (ad n 5)]) F xG_ok hK hW hS um_X9_copyFrom k_3_212 (fun _ h1 => m_c9_copyFrom hN hI ⟨hn, Or.inl rfl⟩ ⟨hn, Or.inr rfl⟩  h1) rfl (cd_dX9 ⟨hn, Or.inl rfl⟩) (cd_eX9 hN ⟨hn, Or.inl rfl⟩) rfl rfl hl.1 rfl rfl ⟨Nat.le_of_ble_eq_true rfl, Nat.le_of_ble_eq_true rfl⟩ ⟨Nat.zero_le _, Nat.zero_le _⟩ (Nat.le_of_ble_eq_true rfl) dX1_chooseNext_89 h (fun S10 H locs hW hS h => ?_)
      refine lv_aload_n hx hb dX1_chooseNext_92 rfl (lv_at hl 0 rfl) ?_
      refine x_get F hK hW xc_X1 (cd_dX1 hn) (cd_eX1 hN hn) 2 (by decide) k_1_158 (rfl) dX1_chooseNext_93 ?_
      refine lv_iconst (v := (2 : Int32)) hx hb dX1_chooseNext_96 (by decide) ?_
      refine x_putN F hK hI hW hS xc_X9 (cd_dX9 ⟨hn, Or.inr rfl⟩) (cd_eX9 hN ⟨hn, Or.inr rfl⟩) 6 (by decide) kn_16 rfl (v := (2 : Int32)) rfl rfl (fun _ _ => rfl) (fun _ _ => Nat.le_of_ble_eq_true rfl) dX1_chooseNext_97 h (fun S11 H locs hW hS h => ?_)
      refine lv_goto (tgt := 122) hx hb dX1_chooseNext_100 (by decide) ?_
      exact x_vret F hr hlk hW hS dX1_chooseNext_122 h
    replace h := (if_pos c_5).symm.trans h
    refine lv_aload_n hx hb dX1_chooseNext_58 rfl (lv_at hl 0 rfl) ?_
    refine lv_aload_n hx hb dX1_chooseNext_59 rfl (lv_at hl 0 rfl) ?_
    refine x_get F hK hW xc_X1 (cd_dX1 hn) (cd_eX1 hN hn) 3 (by decide) k_1_159 (rfl) dX1_chooseNext_60 ?_
    refine lv_iconst (v := (0 : Int32)) hx hb dX1_chooseNext_63 (by decide) ?_
    refine x_cVv (As := [.ref (ad n 6), .int (0 : Int32)]) F xG_ok hK hW hS um_X1_resumeFirst k_3_221 (fun _ h1 => m_c1_resumeFirst hN hI hn ⟨hn, Or.inl rfl⟩ _ h1) rfl (cd_dX1 hn) (cd_eX1 hN hn) rfl rfl hl.1 rfl rfl ⟨Nat.le_of_ble_eq_true rfl, Nat.le_of_ble_eq_true rfl⟩ ⟨Nat.zero_le _, Nat.zero_le _⟩ (Nat.le_of_ble_eq_true rfl) dX1_chooseNext_64 h (fun S12 H locs hW hS h => ?_)
    refine lv_goto (tgt := 122) hx hb dX1_chooseNext_67 (by decide) ?_
    exact x_vret F hr hlk hW hS dX1_chooseNext_122 h
  replace h := (if_neg c_3).symm.trans h
  exact x_vret F hr hlk hW hS dX1_chooseNext_47 h
def c1_chooseNext (n : Nat) (S : xS)  : Option (xS) := if (xI S n 4 6) = (1 : Int32) then ((c8_isEmpty n 6 S ).bind (fun (r_13, S13) => if r_13 = 0 then ((c9_copyFrom n 5 4 S13 ).bind (fun S15 => xnm (sI S15 n 4 6 (2 : Int32)) (fun S16 => c1_chooseNext_b40 n  S16))) else (c1_chooseNext_b40 n  S13))) else (c1_chooseNext_b40 n  S)
set_option maxHeartbeats 4000000 in
set_option maxRecDepth 100000 in
theorem m_c1_chooseNext {l : Launch} {D : va_G} {cI cJ cL cN : ClassId} {ad : Nat → Nat → Nat} {N : Nat} (hN : N ≤ 8) (hI : xInj (cDom N) ad) {n : Nat} (hn : n < N) {S : xS}  {o : xS} (h : c1_chooseNext n S  = some o) : Met l yX1_chooseNext (Cond.code yX1_chooseNext cX1_chooseNext 1 none :: xG) { frames := 2, cells := 0, slots := 0, locals := 46 } (xPc D vwCl (cTy cI cJ cL cN) cNf cNm (cDom N) ad (cDe ad N cI cJ cL cN) [.ref (ad n 1)] S) (xQ D vwCl (cDom N) ad (cDe ad N cI cJ cL cN) none o) 0 0 (xA (cDom N) ad) := by
  unfold c1_chooseNext at h
  refine x_enter (by decide) (Nat.le_of_ble_eq_true rfl) (fun p e s m below meth c F hr hlk hK hW hS ls hl => ?_)
  have hl : lv_has ls 1 [(0, .ref (ad n 1))] := hl
  have hx := F.1
  have hb := F.2.1
  refine lv_aload_n hx hb dX1_chooseNext_0 rfl (lv_at hl 0 rfl) ?_
  refine x_get F hK hW xc_X1 (cd_dX1 hn) (cd_eX1 hN hn) 1 (by decide) k_1_156 (rfl) dX1_chooseNext_1 ?_
  refine x_getN F hK hW xc_X9 (cd_dX9 ⟨hn, Or.inl rfl⟩) (cd_eX9 hN ⟨hn, Or.inl rfl⟩) 6 (by decide) kn_16 (rfl) dX1_chooseNext_4 ?_
  refine lv_iconst (v := (1 : Int32)) hx hb dX1_chooseNext_7 (by decide) ?_
  refine lv_icmp_ne (tgt := 40) hx hb dX1_chooseNext_8 (by decide) (fun c_1 => ?_) (fun c_1 => ?_)
  · replace h := (if_neg c_1).symm.trans h
    exact m_c1_chooseNext_b40 hN hI hn F hr hlk hK  _ h hW hS (lv_sub hl [0] rfl)
  replace h := (if_pos c_1).symm.trans h
  refine lv_aload_n hx hb dX1_chooseNext_11 rfl (lv_at hl 0 rfl) ?_
  refine x_get F hK hW xc_X1 (cd_dX1 hn) (cd_eX1 hN hn) 3 (by decide) k_1_159 (rfl) dX1_chooseNext_12 ?_
  refine x_cVi (As := []) F xG_ok hK hW hS um_X8_isEmpty k_3_77 (fun _ h1 => m_c8_isEmpty hN hI ⟨hn, Or.inl rfl⟩  h1) rfl (cd_dX8 ⟨hn, Or.inl rfl⟩) (cd_eX8 hN ⟨hn, Or.inl rfl⟩) rfl rfl hl.1 rfl rfl ⟨Nat.le_of_ble_eq_true rfl, Nat.le_of_ble_eq_true rfl⟩ ⟨Nat.zero_le _, Nat.zero_le _⟩ (Nat.le_of_ble_eq_true rfl) dX1_chooseNext_15 h (fun r_13 S13 H locs hW hS h => ?_)
  refine lv_if_ne (tgt := 40) hx hb dX1_chooseNext_18 (by decide) (fun c_14 => ?_) (fun c_14 => ?_)
  · replace h := (if_neg c_14).symm.trans h
    exact m_c1_chooseNext_b40 hN hI hn F hr hlk hK  _ h hW hS (lv_sub hl [0] rfl)
  replace h := (if_pos c_14).symm.trans h
  refine lv_aload_n hx hb dX1_chooseNext_21 rfl (lv_at hl 0 rfl) ?_
  refine x_get F hK hW xc_X1 (cd_dX1 hn) (cd_eX1 hN hn) 2 (by decide) k_1_158 (rfl) dX1_chooseNext_22 ?_
  refine lv_aload_n hx hb dX1_chooseNext_25 rfl (lv_at hl 0 rfl) ?_
  refine x_get F hK hW xc_X1 (cd_dX1 hn) (cd_eX1 hN hn) 1 (by decide) k_1_156 (rfl) dX1_chooseNext_26 ?_
  refine x_cVv (As := [.ref (ad n 4)]) F xG_ok hK hW hS um_X9_copyFrom k_3_212 (fun _ h1 => m_c9_copyFrom hN hI ⟨hn, Or.inr rfl⟩ ⟨hn, Or.inl rfl⟩  h1) rfl (cd_dX9 ⟨hn, Or.inr rfl⟩) (cd_eX9 hN ⟨hn, Or.inr rfl⟩) rfl rfl hl.1 rfl rfl ⟨Nat.le_of_ble_eq_true rfl, Nat.le_of_ble_eq_true rfl⟩ ⟨Nat.zero_le _, Nat.zero_le _⟩ (Nat.le_of_ble_eq_true rfl) dX1_chooseNext_29 h (fun S15 H locs hW hS h => ?_)
  refine lv_aload_n hx hb dX1_chooseNext_32 rfl (lv_at hl 0 rfl) ?_
  refine x_get F hK hW xc_X1 (cd_dX1 hn) (cd_eX1 hN hn) 1 (by decide) k_1_156 (rfl) dX1_chooseNext_33 ?_
  refine lv_iconst (v := (2 : Int32)) hx hb dX1_chooseNext_36 (by decide) ?_
  refine x_putN F hK hI hW hS xc_X9 (cd_dX9 ⟨hn, Or.inl rfl⟩) (cd_eX9 hN ⟨hn, Or.inl rfl⟩) 6 (by decide) kn_16 rfl (v := (2 : Int32)) rfl rfl (fun _ _ => rfl) (fun _ _ => Nat.le_of_ble_eq_true rfl) dX1_chooseNext_37 h (fun S16 H locs hW hS h => ?_)
  exact m_c1_chooseNext_b40 hN hI hn F hr hlk hK  _ h hW hS (lv_sub hl [0] rfl)
