/-! X12_timerIn -/
def r_timerIn  (S : xS) (a1 : Int32) (a2 : Int32) (a3 : Int32) : Option (Int32 × xS) := (r_pop  S a1).bind (fun S1 => (r_isLater a3 a2).bind (fun r_2 => if r_2 = 0 then ((r_mineTo  S1 a1 (-5 : Int32) a2).bind (fun S4 => (r_mineTo  S4 a1 (-4 : Int32) (32769 : Int32)).bind (fun S5 => (r_mineTo  S5 a1 (-3 : Int32) (32770 : Int32)).bind (fun S6 => (r_own  S6 a1).bind (fun (r_7, S7) => (r_waits  S7 a1).bind (fun S8 => (r_waitsFor  S8 a1 r_7 a2).bind (fun S9 => some ((1 : Int32), S9)))))))) else (some ((1 : Int32), S1))))
set_option maxHeartbeats 4000000 in
set_option maxRecDepth 100000 in
theorem m_r_timerIn {l : Launch} {D : va_G} {cI cZ cB : ClassId} {ad : Nat → Nat → Nat} (hI : xInj rDom ad) {S : xS} (a1 : Int32) (a2 : Int32) (a3 : Int32) {o : Int32 × xS} (h : r_timerIn  S a1 a2 a3 = some o) : Met l yX12_timerIn (Cond.code yX12_timerIn cX12_timerIn 5 (some .boolean) :: xG) { frames := 3, cells := 0, slots := 0, locals := 71 } (xPc D vwCl (rTy cI cZ cB) [] [] rDom ad (rDe ad cI cZ cB) [.ref (ad 0 0), .int a1, .int a2, .int a3] S) (xQ D vwCl rDom ad (rDe ad cI cZ cB) (some (.int o.1)) o.2) 0 0 (xA rDom ad) := by
  unfold r_timerIn at h
  refine x_enter (by decide) (Nat.le_of_ble_eq_true rfl) (fun p e s m below meth c F hr hlk hK hW hS ls hl => ?_)
  have hl : lv_has ls 5 [(0, .ref (ad 0 0)), (1, .int a1), (2, .int a2), (3, .int a3)] := hl
  have hx := F.1
  have hb := F.2.1
  refine lv_aload_n hx hb dX12_timerIn_0 rfl (lv_at hl 0 rfl) ?_
  refine lv_iload_n hx hb dX12_timerIn_1 rfl (lv_at hl 1 rfl) ?_
  refine x_cVv (As := [.int a1]) F xG_ok hK hW hS um_X12_pop k_7_17 (fun _ h1 => m_r_pop hI _ h1) rfl rd_d0 rd_0 rfl rfl hl.1 rfl rfl ⟨Nat.le_of_ble_eq_true rfl, Nat.le_of_ble_eq_true rfl⟩ ⟨Nat.zero_le _, Nat.zero_le _⟩ (Nat.le_of_ble_eq_true rfl) dX12_timerIn_2 h (fun S1 H locs hW hS h => ?_)
  refine lv_iload_n hx hb dX12_timerIn_5 rfl (lv_at hl 3 rfl) ?_
  refine lv_iload_n hx hb dX12_timerIn_6 rfl (lv_at hl 2 rfl) ?_
  refine x_cSo (As := [.int a3, .int a2]) F xG_ok hS um_X12_isLater k_6_177 (fun _ h1 => m_r_isLater _ _ h1) rfl rfl hl.1 rfl rfl ⟨Nat.le_of_ble_eq_true rfl, Nat.le_of_ble_eq_true rfl⟩ ⟨Nat.zero_le _, Nat.zero_le _⟩ (Nat.le_of_ble_eq_true rfl) dX12_timerIn_7 h (fun r_2 locs hS h => ?_)
  refine lv_if_eq (tgt := 15) hx hb dX12_timerIn_10 (by decide) (fun c_3 => ?_) (fun c_3 => ?_)
  · replace h := (if_pos c_3).symm.trans h
    refine lv_aload_n hx hb dX12_timerIn_15 rfl (lv_at hl 0 rfl) ?_
    refine lv_iload_n hx hb dX12_timerIn_16 rfl (lv_at hl 1 rfl) ?_
    refine lv_bipush (v := (-5 : Int32)) hx hb dX12_timerIn_17 (by decide) ?_
    refine lv_iload_n hx hb dX12_timerIn_19 rfl (lv_at hl 2 rfl) ?_
    refine x_cVv (As := [.int a1, .int (-5 : Int32), .int a2]) F xG_ok hK hW hS um_X12_mineTo k_7_49 (fun _ h1 => m_r_mineTo hI _ _ _ h1) rfl rd_d0 rd_0 rfl rfl hl.1 rfl rfl ⟨Nat.le_of_ble_eq_true rfl, Nat.le_of_ble_eq_true rfl⟩ ⟨Nat.zero_le _, Nat.zero_le _⟩ (Nat.le_of_ble_eq_true rfl) dX12_timerIn_20 h (fun S4 H locs hW hS h => ?_)
    refine lv_aload_n hx hb dX12_timerIn_23 rfl (lv_at hl 0 rfl) ?_
    refine lv_iload_n hx hb dX12_timerIn_24 rfl (lv_at hl 1 rfl) ?_
    refine lv_bipush (v := (-4 : Int32)) hx hb dX12_timerIn_25 (by decide) ?_
    refine lv_ldcw (v := (32769 : Int32)) hx hb F.2.2.2.1 (x_hts F _ k_6_153) dX12_timerIn_27 ?_
    refine x_cVv (As := [.int a1, .int (-4 : Int32), .int (32769 : Int32)]) F xG_ok hK hW hS um_X12_mineTo k_7_49 (fun _ h1 => m_r_mineTo hI _ _ _ h1) rfl rd_d0 rd_0 rfl rfl hl.1 rfl rfl ⟨Nat.le_of_ble_eq_true rfl, Nat.le_of_ble_eq_true rfl⟩ ⟨Nat.zero_le _, Nat.zero_le _⟩ (Nat.le_of_ble_eq_true rfl) dX12_timerIn_30 h (fun S5 H locs hW hS h => ?_)
    refine lv_aload_n hx hb dX12_timerIn_33 rfl (lv_at hl 0 rfl) ?_
    refine lv_iload_n hx hb dX12_timerIn_34 rfl (lv_at hl 1 rfl) ?_
    refine lv_bipush (v := (-3 : Int32)) hx hb dX12_timerIn_35 (by decide) ?_
    refine lv_ldcw (v := (32770 : Int32)) hx hb F.2.2.2.1 (x_hts F _ k_6_154) dX12_timerIn_37 ?_
    refine x_cVv (As := [.int a1, .int (-3 : Int32), .int (32770 : Int32)]) F xG_ok hK hW hS um_X12_mineTo k_7_49 (fun _ h1 => m_r_mineTo hI _ _ _ h1) rfl rd_d0 rd_0 rfl rfl hl.1 rfl rfl ⟨Nat.le_of_ble_eq_true rfl, Nat.le_of_ble_eq_true rfl⟩ ⟨Nat.zero_le _, Nat.zero_le _⟩ (Nat.le_of_ble_eq_true rfl) dX12_timerIn_40 h (fun S6 H locs hW hS h => ?_)
    refine lv_aload_n hx hb dX12_timerIn_43 rfl (lv_at hl 0 rfl) ?_
    refine lv_iload_n hx hb dX12_timerIn_44 rfl (lv_at hl 1 rfl) ?_
    refine x_cVi (As := [.int a1]) F xG_ok hK hW hS um_X12_own k_7_21 (fun _ h1 => m_r_own hI _ h1) rfl rd_d0 rd_0 rfl rfl hl.1 rfl rfl ⟨Nat.le_of_ble_eq_true rfl, Nat.le_of_ble_eq_true rfl⟩ ⟨Nat.zero_le _, Nat.zero_le _⟩ (Nat.le_of_ble_eq_true rfl) dX12_timerIn_45 h (fun r_7 S7 H locs hW hS h => ?_)
    refine lv_istore (lv' := [(4, .int r_7), (0, .ref (ad 0 0)), (1, .int a1), (2, .int a2), (3, .int a3)]) hx hb dX12_timerIn_48 hl (by decide) rfl (fun ls hl => ?_)
    refine lv_aload_n hx hb dX12_timerIn_50 rfl (lv_at hl 1 rfl) ?_
    refine lv_iload_n hx hb dX12_timerIn_51 rfl (lv_at hl 2 rfl) ?_
    refine x_cVv (As := [.int a1]) F xG_ok hK hW hS um_X12_waits k_7_25 (fun _ h1 => m_r_waits hI _ h1) rfl rd_d0 rd_0 rfl rfl hl.1 rfl rfl ⟨Nat.le_of_ble_eq_true rfl, Nat.le_of_ble_eq_true rfl⟩ ⟨Nat.zero_le _, Nat.zero_le _⟩ (Nat.le_of_ble_eq_true rfl) dX12_timerIn_52 h (fun S8 H locs hW hS h => ?_)
    refine lv_aload_n hx hb dX12_timerIn_55 rfl (lv_at hl 1 rfl) ?_
    refine lv_iload_n hx hb dX12_timerIn_56 rfl (lv_at hl 2 rfl) ?_
    refine lv_iload hx hb dX12_timerIn_57 (lv_at hl 0 rfl) ?_
    refine lv_iload_n hx hb dX12_timerIn_59 rfl (lv_at hl 3 rfl) ?_
    refine x_cVv (As := [.int a1, .int r_7, .int a2]) F xG_ok hK hW hS um_X12_waitsFor k_7_65 (fun _ h1 => m_r_waitsFor hI _ _ _ h1) rfl rd_d0 rd_0 rfl rfl hl.1 rfl rfl ⟨Nat.le_of_ble_eq_true rfl, Nat.le_of_ble_eq_true rfl⟩ ⟨Nat.zero_le _, Nat.zero_le _⟩ (Nat.le_of_ble_eq_true rfl) dX12_timerIn_60 h (fun S9 H locs hW hS h => ?_)
    refine lv_iconst (v := (1 : Int32)) hx hb dX12_timerIn_63 (by decide) ?_
    exact x_zret F hr hlk hW hS rfl dX12_timerIn_64 h
  replace h := (if_neg c_3).symm.trans h
  refine lv_iconst (v := (1 : Int32)) hx hb dX12_timerIn_13 (by decide) ?_
  exact x_zret F hr hlk hW hS rfl dX12_timerIn_14 h
/-! X12_alternates -/
def r_alternates  (S : xS) (a1 : Int32) (a2 : Int32) : Option (Int32 × xS) := gd a1 8 (gd a1 8 (gd a1 8 (gd a1 8 (gd (((2 : Int32) * a1) + (xI S 0 11 (a1).toNatClampNeg)) 16 (if a2 = (46 : Int32) then (if (xI S 0 6 (a1).toNatClampNeg) = 0 then ((r_chooses  S a1 (0 : Int32)).bind (fun (r_3, S3) => gz r_3 (some (r_3, S3)))) else ((r_mine  S a1 (-4 : Int32)).bind (fun (r_4, S4) => if r_4 = (32769 : Int32) then ((r_mine  S4 a1 (-5 : Int32)).bind (fun (r_7, S7) => (r_isLater r_7 (xI S 0 7 (a1).toNatClampNeg)).bind (fun r_8 => if r_8 = 0 then ((r_chooses  S7 a1 (0 : Int32)).bind (fun (r_10, S10) => gz r_10 (some (r_10, S10)))) else ((r_chooses  S7 a1 (1 : Int32)).bind (fun (r_11, S11) => gz r_11 (some (r_11, S11))))))) else ((r_chooses  S4 a1 (0 : Int32)).bind (fun (r_6, S6) => gz r_6 (some (r_6, S6))))))) else (if a2 = (47 : Int32) then (if (xI S 0 6 (a1).toNatClampNeg) = 0 then ((r_chooses  S a1 (0 : Int32)).bind (fun (r_13, S13) => gz r_13 (some (r_13, S13)))) else ((r_disables  S a1 (xI S 0 7 (a1).toNatClampNeg)).bind (fun (r_14, S14) => if r_14 = 0 then ((r_chooses  S14 a1 (0 : Int32)).bind (fun (r_16, S16) => gz r_16 (some (r_16, S16)))) else ((r_chooses  S14 a1 (1 : Int32)).bind (fun (r_17, S17) => gz r_17 (some (r_17, S17))))))) else (if a2 = (48 : Int32) then (if (xI S 0 6 (a1).toNatClampNeg) = 0 then ((r_chooses  S a1 (0 : Int32)).bind (fun (r_19, S19) => gz r_19 (some (r_19, S19)))) else ((r_chooses  S a1 (1 : Int32)).bind (fun (r_20, S20) => gz r_20 (some (r_20, S20))))) else (if a2 = (67 : Int32) then ((r_mineTo  S a1 (-3 : Int32) (32769 : Int32)).bind (fun S21 => if a2 = (78 : Int32) then ((r_mineTo  S21 a1 (-4 : Int32) (32770 : Int32)).bind (fun S23 => some ((1 : Int32), S23))) else (some ((1 : Int32), S21)))) else (if a2 = (68 : Int32) then ((r_mineTo  S a1 (0 : Int32) (65535 : Int32)).bind (fun S24 => (r_mine  S24 a1 (-3 : Int32)).bind (fun (r_25, S25) => if r_25 = (32771 : Int32) then (some ((1 : Int32), S25)) else ((r_mineTo  S25 a1 (-3 : Int32) (32770 : Int32)).bind (fun S27 => (r_waits  S27 a1).bind (fun S28 => some ((1 : Int32), S28))))))) else (if a2 = (69 : Int32) then (gd a1 8 ((r_mine  S a1 (0 : Int32)).bind (fun (r_29, S29) => gd a1 8 (xnm (sI S29 0 9 (a1).toNatClampNeg (((xI S 0 9 (a1).toNatClampNeg) + r_29) &&& (65535 : Int32))) (fun S30 => some ((1 : Int32), S30)))))) else (if a2 = (71 : Int32) then (if (xI S 0 5 (a1).toNatClampNeg) = 0 then (gd a1 8 (xnm (sI S 0 6 (a1).toNatClampNeg (xI S 0 7 (a1).toNatClampNeg)) (fun S32 => some ((1 : Int32), S32)))) else ((r_mine  S a1 (-4 : Int32)).bind (fun (r_33, S33) => if r_33 = (32770 : Int32) then ((r_mineTo  S33 a1 (-4 : Int32) (32769 : Int32)).bind (fun S41 => (r_mineTo  S41 a1 (-5 : Int32) (xI S 0 6 (a1).toNatClampNeg)).bind (fun S42 => gd a1 8 (xnm (sI S42 0 6 (a1).toNatClampNeg (xI S 0 7 (a1).toNatClampNeg)) (fun S43 => some ((1 : Int32), S43)))))) else ((r_mine  S33 a1 (-5 : Int32)).bind (fun (r_35, S35) => (r_isLater r_35 (xI S 0 6 (a1).toNatClampNeg)).bind (fun r_36 => if r_36 = 0 then (gd a1 8 (xnm (sI S35 0 6 (a1).toNatClampNeg (xI S 0 7 (a1).toNatClampNeg)) (fun S38 => some ((1 : Int32), S38)))) else ((r_mineTo  S35 a1 (-5 : Int32) (xI S 0 6 (a1).toNatClampNeg)).bind (fun S39 => gd a1 8 (xnm (sI S39 0 6 (a1).toNatClampNeg (xI S 0 7 (a1).toNatClampNeg)) (fun S40 => some ((1 : Int32), S40))))))))))) else (if a2 = (72 : Int32) then (if (xI S 0 5 (a1).toNatClampNeg) = 0 then (gd a1 8 (xnm (sI S 0 6 (a1).toNatClampNeg (xI S 0 7 (a1).toNatClampNeg)) (fun S45 => some ((1 : Int32), S45)))) else ((r_enables  S a1 (xI S 0 6 (a1).toNatClampNeg)).bind (fun S46 => gd a1 8 (xnm (sI S46 0 6 (a1).toNatClampNeg (xI S 0 7 (a1).toNatClampNeg)) (fun S47 => some ((1 : Int32), S47)))))) else (if a2 = (73 : Int32) then (if (xI S 0 5 (a1).toNatClampNeg) = 0 then (some ((1 : Int32), S)) else ((r_mineTo  S a1 (-3 : Int32) (32771 : Int32)).bind (fun S49 => some ((1 : Int32), S49)))) else (if a2 = (78 : Int32) then ((r_mineTo  S a1 (-3 : Int32) (32769 : Int32)).bind (fun S50 => if a2 = (78 : Int32) then ((r_mineTo  S50 a1 (-4 : Int32) (32770 : Int32)).bind (fun S52 => some ((1 : Int32), S52))) else (some ((1 : Int32), S50)))) else (if a2 = (81 : Int32) then ((r_timedWait  S a1 (xI S 0 21 ((((2 : Int32) * a1) + (xI S 0 11 (a1).toNatClampNeg))).toNatClampNeg)).bind (fun (r_53, S53) => gz r_53 (some (r_53, S53)))) else ((r_timerIn  S a1 (xI S 0 5 (a1).toNatClampNeg) (xI S 0 21 ((((2 : Int32) * a1) + (xI S 0 11 (a1).toNatClampNeg))).toNatClampNeg)).bind (fun (r_54, S54) => gz r_54 (some (r_54, S54)))))))))))))))))))
set_option maxHeartbeats 4000000 in
set_option maxRecDepth 100000 in
theorem m_r_alternates {l : Launch} {D : va_G} {cI cZ cB : ClassId} {ad : Nat → Nat → Nat} (hI : xInj rDom ad) {S : xS} (a1 : Int32) (a2 : Int32) {o : Int32 × xS} (h : r_alternates  S a1 a2 = some o) : Met l yX12_alternates (Cond.code yX12_alternates cX12_alternates 7 (some .boolean) :: xG) { frames := 4, cells := 0, slots := 0, locals := 96 } (xPc D vwCl (rTy cI cZ cB) [] [] rDom ad (rDe ad cI cZ cB) [.ref (ad 0 0), .int a1, .int a2] S) (xQ D vwCl rDom ad (rDe ad cI cZ cB) (some (.int o.1)) o.2) 0 0 (xA rDom ad) := by
  unfold r_alternates at h
  refine x_enter (by decide) (Nat.le_of_ble_eq_true rfl) (fun p e s m below meth c F hr hlk hK hW hS ls hl => ?_)
  have hl : lv_has ls 7 [(0, .ref (ad 0 0)), (1, .int a1), (2, .int a2)] := hl
  have hx := F.1
  have hb := F.2.1
  refine lv_aload_n hx hb dX12_alternates_0 rfl (lv_at hl 0 rfl) ?_
  refine x_get F hK hW xc_X12 rd_d0 rd_0 4 (by decide) k_5_132 (gf_X12_4 _ _) dX12_alternates_1 ?_
  refine lv_iload_n hx hb dX12_alternates_4 rfl (lv_at hl 1 rfl) ?_
  refine x_iald (t0 := 0) F hK hW rd_d5 rd_5 rfl dX12_alternates_5 h (fun h => ?_)
  refine lv_istore_n (lv' := [(3, .int (xI S 0 5 (a1).toNatClampNeg)), (0, .ref (ad 0 0)), (1, .int a1), (2, .int a2)]) hx hb dX12_alternates_6 rfl hl (by decide) rfl (fun ls hl => ?_)
  refine lv_aload_n hx hb dX12_alternates_7 rfl (lv_at hl 1 rfl) ?_
  refine x_get F hK hW xc_X12 rd_d0 rd_0 5 (by decide) k_5_133 (gf_X12_5 _ _) dX12_alternates_8 ?_
  refine lv_iload_n hx hb dX12_alternates_11 rfl (lv_at hl 2 rfl) ?_
  refine x_iald (t0 := 0) F hK hW rd_d6 rd_6 rfl dX12_alternates_12 h (fun h => ?_)
  refine lv_istore (lv' := [(4, .int (xI S 0 6 (a1).toNatClampNeg)), (3, .int (xI S 0 5 (a1).toNatClampNeg)), (0, .ref (ad 0 0)), (1, .int a1), (2, .int a2)]) hx hb dX12_alternates_13 hl (by decide) rfl (fun ls hl => ?_)
  refine lv_aload_n hx hb dX12_alternates_15 rfl (lv_at hl 2 rfl) ?_
  refine x_get F hK hW xc_X12 rd_d0 rd_0 6 (by decide) k_5_134 (gf_X12_6 _ _) dX12_alternates_16 ?_
  refine lv_iload_n hx hb dX12_alternates_19 rfl (lv_at hl 3 rfl) ?_
  refine x_iald (t0 := 0) F hK hW rd_d7 rd_7 rfl dX12_alternates_20 h (fun h => ?_)
  refine lv_istore (lv' := [(5, .int (xI S 0 7 (a1).toNatClampNeg)), (4, .int (xI S 0 6 (a1).toNatClampNeg)), (3, .int (xI S 0 5 (a1).toNatClampNeg)), (0, .ref (ad 0 0)), (1, .int a1), (2, .int a2)]) hx hb dX12_alternates_21 hl (by decide) rfl (fun ls hl => ?_)
  refine lv_aload_n hx hb dX12_alternates_23 rfl (lv_at hl 3 rfl) ?_
  refine x_get F hK hW xc_X12 rd_d0 rd_0 20 (by decide) k_5_148 (gf_X12_20 _ _) dX12_alternates_24 ?_
  refine lv_iconst (v := (2 : Int32)) hx hb dX12_alternates_27 (by decide) ?_
  refine lv_iload_n hx hb dX12_alternates_28 rfl (lv_at hl 4 rfl) ?_
  refine lv_imul hx hb dX12_alternates_29 ?_
  refine lv_aload_n hx hb dX12_alternates_30 rfl (lv_at hl 3 rfl) ?_
  refine x_get F hK hW xc_X12 rd_d0 rd_0 10 (by decide) k_5_138 (gf_X12_10 _ _) dX12_alternates_31 ?_
  refine lv_iload_n hx hb dX12_alternates_34 rfl (lv_at hl 4 rfl) ?_
  refine x_iald (t0 := 0) F hK hW rd_d11 rd_11 rfl dX12_alternates_35 h (fun h => ?_)
  refine lv_iadd hx hb dX12_alternates_36 ?_
  refine x_iald (t0 := 0) F hK hW rd_d21 rd_21 rfl dX12_alternates_37 h (fun h => ?_)
  refine lv_istore (lv' := [(6, .int (xI S 0 21 ((((2 : Int32) * a1) + (xI S 0 11 (a1).toNatClampNeg))).toNatClampNeg)), (5, .int (xI S 0 7 (a1).toNatClampNeg)), (4, .int (xI S 0 6 (a1).toNatClampNeg)), (3, .int (xI S 0 5 (a1).toNatClampNeg)), (0, .ref (ad 0 0)), (1, .int a1), (2, .int a2)]) hx hb dX12_alternates_38 hl (by decide) rfl (fun ls hl => ?_)
  refine lv_iload_n hx hb dX12_alternates_40 rfl (lv_at hl 6 rfl) ?_
  by_cases c_1_46 : a2 = (46 : Int32)
  · replace h := (if_pos c_1_46).symm.trans h
    refine lv_tableIn (tgt := 426) (off := 385) hx hb dX12_alternates_41 (by rw [c_1_46]; decide) (by rw [c_1_46]; decide) (by rw [c_1_46]; decide) (by decide) ?_
    refine lv_aload_n hx hb dX12_alternates_426 rfl (lv_at hl 4 rfl) ?_
    refine lv_iload_n hx hb dX12_alternates_427 rfl (lv_at hl 5 rfl) ?_
    refine lv_iload hx hb dX12_alternates_428 (lv_at hl 2 rfl) ?_
    refine lv_if_eq (tgt := 465) hx hb dX12_alternates_430 (by decide) (fun c_2 => ?_) (fun c_2 => ?_)
    · replace h := (if_pos c_2).symm.trans h
      refine lv_iconst (v := (0 : Int32)) hx hb dX12_alternates_465 (by decide) ?_
      refine x_cVi (As := [.int a1, .int (0 : Int32)]) F xG_ok hK hW hS um_X12_chooses k_7_69 (fun _ h1 => m_r_chooses hI _ _ h1) rfl rd_d0 rd_0 rfl rfl hl.1 rfl rfl ⟨Nat.le_of_ble_eq_true rfl, Nat.le_of_ble_eq_true rfl⟩ ⟨Nat.zero_le _, Nat.zero_le _⟩ (Nat.le_of_ble_eq_true rfl) dX12_alternates_466 h (fun r_3 S3 H locs hW hS h => ?_)
      obtain ⟨hz, h⟩ := gz_use h
      exact x_zret F hr hlk hW hS (z_nar hz) dX12_alternates_469 h
    replace h := (if_neg c_2).symm.trans h
    refine lv_aload_n hx hb dX12_alternates_433 rfl (lv_at hl 4 rfl) ?_
    refine lv_iload_n hx hb dX12_alternates_434 rfl (lv_at hl 5 rfl) ?_
    refine lv_bipush (v := (-4 : Int32)) hx hb dX12_alternates_435 (by decide) ?_
    refine x_cVi (As := [.int a1, .int (-4 : Int32)]) F xG_ok hK hW hS um_X12_mine k_7_57 (fun _ h1 => m_r_mine hI _ _ h1) rfl rd_d0 rd_0 rfl rfl hl.1 rfl rfl ⟨Nat.le_of_ble_eq_true rfl, Nat.le_of_ble_eq_true rfl⟩ ⟨Nat.zero_le _, Nat.zero_le _⟩ (Nat.le_of_ble_eq_true rfl) dX12_alternates_437 h (fun r_4 S4 H locs hW hS h => ?_)
    refine lv_ldcw (v := (32769 : Int32)) hx hb F.2.2.2.1 (x_hts F _ k_6_153) dX12_alternates_440 ?_
    refine lv_icmp_ne (tgt := 465) hx hb dX12_alternates_443 (by decide) (fun c_5 => ?_) (fun c_5 => ?_)
    · replace h := (if_neg c_5).symm.trans h
      refine lv_iconst (v := (0 : Int32)) hx hb dX12_alternates_465 (by decide) ?_
      refine x_cVi (As := [.int a1, .int (0 : Int32)]) F xG_ok hK hW hS um_X12_chooses k_7_69 (fun _ h1 => m_r_chooses hI _ _ h1) rfl rd_d0 rd_0 rfl rfl hl.1 rfl rfl ⟨Nat.le_of_ble_eq_true rfl, Nat.le_of_ble_eq_true rfl⟩ ⟨Nat.zero_le _, Nat.zero_le _⟩ (Nat.le_of_ble_eq_true rfl) dX12_alternates_466 h (fun r_6 S6 H locs hW hS h => ?_)
      obtain ⟨hz, h⟩ := gz_use h
      exact x_zret F hr hlk hW hS (z_nar hz) dX12_alternates_469 h
    replace h := (if_pos c_5).symm.trans h
    refine lv_aload_n hx hb dX12_alternates_446 rfl (lv_at hl 4 rfl) ?_
    refine lv_iload_n hx hb dX12_alternates_447 rfl (lv_at hl 5 rfl) ?_
    refine lv_bipush (v := (-5 : Int32)) hx hb dX12_alternates_448 (by decide) ?_
    refine x_cVi (As := [.int a1, .int (-5 : Int32)]) F xG_ok hK hW hS um_X12_mine k_7_57 (fun _ h1 => m_r_mine hI _ _ h1) rfl rd_d0 rd_0 rfl rfl hl.1 rfl rfl ⟨Nat.le_of_ble_eq_true rfl, Nat.le_of_ble_eq_true rfl⟩ ⟨Nat.zero_le _, Nat.zero_le _⟩ (Nat.le_of_ble_eq_true rfl) dX12_alternates_450 h (fun r_7 S7 H locs hW hS h => ?_)
    refine lv_iload hx hb dX12_alternates_453 (lv_at hl 1 rfl) ?_
    refine x_cSo (As := [.int r_7, .int (xI S 0 7 (a1).toNatClampNeg)]) F xG_ok hS um_X12_isLater k_6_177 (fun _ h1 => m_r_isLater _ _ h1) rfl rfl hl.1 rfl rfl ⟨Nat.le_of_ble_eq_true rfl, Nat.le_of_ble_eq_true rfl⟩ ⟨Nat.zero_le _, Nat.zero_le _⟩ (Nat.le_of_ble_eq_true rfl) dX12_alternates_455 h (fun r_8 locs hS h => ?_)
    refine lv_if_eq (tgt := 465) hx hb dX12_alternates_458 (by decide) (fun c_9 => ?_) (fun c_9 => ?_)
    · replace h := (if_pos c_9).symm.trans h
      refine lv_iconst (v := (0 : Int32)) hx hb dX12_alternates_465 (by decide) ?_
      refine x_cVi (As := [.int a1, .int (0 : Int32)]) F xG_ok hK hW hS um_X12_chooses k_7_69 (fun _ h1 => m_r_chooses hI _ _ h1) rfl rd_d0 rd_0 rfl rfl hl.1 rfl rfl ⟨Nat.le_of_ble_eq_true rfl, Nat.le_of_ble_eq_true rfl⟩ ⟨Nat.zero_le _, Nat.zero_le _⟩ (Nat.le_of_ble_eq_true rfl) dX12_alternates_466 h (fun r_10 S10 H locs hW hS h => ?_)
      obtain ⟨hz, h⟩ := gz_use h
      exact x_zret F hr hlk hW hS (z_nar hz) dX12_alternates_469 h
    replace h := (if_neg c_9).symm.trans h
    refine lv_iconst (v := (1 : Int32)) hx hb dX12_alternates_461 (by decide) ?_
    refine lv_goto (tgt := 466) hx hb dX12_alternates_462 (by decide) ?_
    refine x_cVi (As := [.int a1, .int (1 : Int32)]) F xG_ok hK hW hS um_X12_chooses k_7_69 (fun _ h1 => m_r_chooses hI _ _ h1) rfl rd_d0 rd_0 rfl rfl hl.1 rfl rfl ⟨Nat.le_of_ble_eq_true rfl, Nat.le_of_ble_eq_true rfl⟩ ⟨Nat.zero_le _, Nat.zero_le _⟩ (Nat.le_of_ble_eq_true rfl) dX12_alternates_466 h (fun r_11 S11 H locs hW hS h => ?_)
    obtain ⟨hz, h⟩ := gz_use h
    exact x_zret F hr hlk hW hS (z_nar hz) dX12_alternates_469 h
  replace h := (if_neg c_1_46).symm.trans h
  have hn_1_46 := x_swN (z := 46) c_1_46 x_sw0 rfl
  by_cases c_1_47 : a2 = (47 : Int32)
  · replace h := (if_pos c_1_47).symm.trans h
    refine lv_tableIn (tgt := 400) (off := 359) hx hb dX12_alternates_41 (by rw [c_1_47]; decide) (by rw [c_1_47]; decide) (by rw [c_1_47]; decide) (by decide) ?_
    refine lv_aload_n hx hb dX12_alternates_400 rfl (lv_at hl 4 rfl) ?_
    refine lv_iload_n hx hb dX12_alternates_401 rfl (lv_at hl 5 rfl) ?_
    refine lv_iload hx hb dX12_alternates_402 (lv_at hl 2 rfl) ?_
    refine lv_if_eq (tgt := 421) hx hb dX12_alternates_404 (by decide) (fun c_12 => ?_) (fun c_12 => ?_)
    · replace h := (if_pos c_12).symm.trans h
      refine lv_iconst (v := (0 : Int32)) hx hb dX12_alternates_421 (by decide) ?_
      refine x_cVi (As := [.int a1, .int (0 : Int32)]) F xG_ok hK hW hS um_X12_chooses k_7_69 (fun _ h1 => m_r_chooses hI _ _ h1) rfl rd_d0 rd_0 rfl rfl hl.1 rfl rfl ⟨Nat.le_of_ble_eq_true rfl, Nat.le_of_ble_eq_true rfl⟩ ⟨Nat.zero_le _, Nat.zero_le _⟩ (Nat.le_of_ble_eq_true rfl) dX12_alternates_422 h (fun r_13 S13 H locs hW hS h => ?_)
      obtain ⟨hz, h⟩ := gz_use h
      exact x_zret F hr hlk hW hS (z_nar hz) dX12_alternates_425 h
    replace h := (if_neg c_12).symm.trans h
    refine lv_aload_n hx hb dX12_alternates_407 rfl (lv_at hl 4 rfl) ?_
    refine lv_iload_n hx hb dX12_alternates_408 rfl (lv_at hl 5 rfl) ?_
    refine lv_iload hx hb dX12_alternates_409 (lv_at hl 1 rfl) ?_
    refine x_cVi (As := [.int a1, .int (xI S 0 7 (a1).toNatClampNeg)]) F xG_ok hK hW hS um_X12_disables k_7_73 (fun _ h1 => m_r_disables hI _ _ h1) rfl rd_d0 rd_0 rfl rfl hl.1 rfl rfl ⟨Nat.le_of_ble_eq_true rfl, Nat.le_of_ble_eq_true rfl⟩ ⟨Nat.zero_le _, Nat.zero_le _⟩ (Nat.le_of_ble_eq_true rfl) dX12_alternates_411 h (fun r_14 S14 H locs hW hS h => ?_)
    refine lv_if_eq (tgt := 421) hx hb dX12_alternates_414 (by decide) (fun c_15 => ?_) (fun c_15 => ?_)
    · replace h := (if_pos c_15).symm.trans h
      refine lv_iconst (v := (0 : Int32)) hx hb dX12_alternates_421 (by decide) ?_
      refine x_cVi (As := [.int a1, .int (0 : Int32)]) F xG_ok hK hW hS um_X12_chooses k_7_69 (fun _ h1 => m_r_chooses hI _ _ h1) rfl rd_d0 rd_0 rfl rfl hl.1 rfl rfl ⟨Nat.le_of_ble_eq_true rfl, Nat.le_of_ble_eq_true rfl⟩ ⟨Nat.zero_le _, Nat.zero_le _⟩ (Nat.le_of_ble_eq_true rfl) dX12_alternates_422 h (fun r_16 S16 H locs hW hS h => ?_)
      obtain ⟨hz, h⟩ := gz_use h
      exact x_zret F hr hlk hW hS (z_nar hz) dX12_alternates_425 h
    replace h := (if_neg c_15).symm.trans h
    refine lv_iconst (v := (1 : Int32)) hx hb dX12_alternates_417 (by decide) ?_
    refine lv_goto (tgt := 422) hx hb dX12_alternates_418 (by decide) ?_
    refine x_cVi (As := [.int a1, .int (1 : Int32)]) F xG_ok hK hW hS um_X12_chooses k_7_69 (fun _ h1 => m_r_chooses hI _ _ h1) rfl rd_d0 rd_0 rfl rfl hl.1 rfl rfl ⟨Nat.le_of_ble_eq_true rfl, Nat.le_of_ble_eq_true rfl⟩ ⟨Nat.zero_le _, Nat.zero_le _⟩ (Nat.le_of_ble_eq_true rfl) dX12_alternates_422 h (fun r_17 S17 H locs hW hS h => ?_)
    obtain ⟨hz, h⟩ := gz_use h
    exact x_zret F hr hlk hW hS (z_nar hz) dX12_alternates_425 h
  replace h := (if_neg c_1_47).symm.trans h
  have hn_1_47 := x_swN (z := 47) c_1_47 hn_1_46 rfl
  by_cases c_1_48 : a2 = (48 : Int32)
  · replace h := (if_pos c_1_48).symm.trans h
    refine lv_tableIn (tgt := 384) (off := 343) hx hb dX12_alternates_41 (by rw [c_1_48]; decide) (by rw [c_1_48]; decide) (by rw [c_1_48]; decide) (by decide) ?_
    refine lv_aload_n hx hb dX12_alternates_384 rfl (lv_at hl 4 rfl) ?_
    refine lv_iload_n hx hb dX12_alternates_385 rfl (lv_at hl 5 rfl) ?_
    refine lv_iload hx hb dX12_alternates_386 (lv_at hl 2 rfl) ?_
    refine lv_if_eq (tgt := 395) hx hb dX12_alternates_388 (by decide) (fun c_18 => ?_) (fun c_18 => ?_)
    · replace h := (if_pos c_18).symm.trans h
      refine lv_iconst (v := (0 : Int32)) hx hb dX12_alternates_395 (by decide) ?_
      refine x_cVi (As := [.int a1, .int (0 : Int32)]) F xG_ok hK hW hS um_X12_chooses k_7_69 (fun _ h1 => m_r_chooses hI _ _ h1) rfl rd_d0 rd_0 rfl rfl hl.1 rfl rfl ⟨Nat.le_of_ble_eq_true rfl, Nat.le_of_ble_eq_true rfl⟩ ⟨Nat.zero_le _, Nat.zero_le _⟩ (Nat.le_of_ble_eq_true rfl) dX12_alternates_396 h (fun r_19 S19 H locs hW hS h => ?_)
      obtain ⟨hz, h⟩ := gz_use h
      exact x_zret F hr hlk hW hS (z_nar hz) dX12_alternates_399 h
    replace h := (if_neg c_18).symm.trans h
    refine lv_iconst (v := (1 : Int32)) hx hb dX12_alternates_391 (by decide) ?_
    refine lv_goto (tgt := 396) hx hb dX12_alternates_392 (by decide) ?_
    refine x_cVi (As := [.int a1, .int (1 : Int32)]) F xG_ok hK hW hS um_X12_chooses k_7_69 (fun _ h1 => m_r_chooses hI _ _ h1) rfl rd_d0 rd_0 rfl rfl hl.1 rfl rfl ⟨Nat.le_of_ble_eq_true rfl, Nat.le_of_ble_eq_true rfl⟩ ⟨Nat.zero_le _, Nat.zero_le _⟩ (Nat.le_of_ble_eq_true rfl) dX12_alternates_396 h (fun r_20 S20 H locs hW hS h => ?_)
    obtain ⟨hz, h⟩ := gz_use h
    exact x_zret F hr hlk hW hS (z_nar hz) dX12_alternates_399 h
  replace h := (if_neg c_1_48).symm.trans h
  have hn_1_48 := x_swN (z := 48) c_1_48 hn_1_47 rfl
  by_cases c_1_67 : a2 = (67 : Int32)
  · replace h := (if_pos c_1_67).symm.trans h
    refine lv_tableIn (tgt := 200) (off := 159) hx hb dX12_alternates_41 (by rw [c_1_67]; decide) (by rw [c_1_67]; decide) (by rw [c_1_67]; decide) (by decide) ?_
    refine lv_aload_n hx hb dX12_alternates_200 rfl (lv_at hl 4 rfl) ?_
    refine lv_iload_n hx hb dX12_alternates_201 rfl (lv_at hl 5 rfl) ?_
    refine lv_bipush (v := (-3 : Int32)) hx hb dX12_alternates_202 (by decide) ?_
    refine lv_ldcw (v := (32769 : Int32)) hx hb F.2.2.2.1 (x_hts F _ k_6_153) dX12_alternates_204 ?_
    refine x_cVv (As := [.int a1, .int (-3 : Int32), .int (32769 : Int32)]) F xG_ok hK hW hS um_X12_mineTo k_7_49 (fun _ h1 => m_r_mineTo hI _ _ _ h1) rfl rd_d0 rd_0 rfl rfl hl.1 rfl rfl ⟨Nat.le_of_ble_eq_true rfl, Nat.le_of_ble_eq_true rfl⟩ ⟨Nat.zero_le _, Nat.zero_le _⟩ (Nat.le_of_ble_eq_true rfl) dX12_alternates_207 h (fun S21 H locs hW hS h => ?_)
    refine lv_iload_n hx hb dX12_alternates_210 rfl (lv_at hl 6 rfl) ?_
    refine lv_bipush (v := (78 : Int32)) hx hb dX12_alternates_211 (by decide) ?_
    refine lv_icmp_ne (tgt := 226) hx hb dX12_alternates_213 (by decide) (fun c_22 => ?_) (fun c_22 => ?_)
    · replace h := (if_neg c_22).symm.trans h
      refine lv_iconst (v := (1 : Int32)) hx hb dX12_alternates_226 (by decide) ?_
      exact x_zret F hr hlk hW hS rfl dX12_alternates_227 h
    replace h := (if_pos c_22).symm.trans h
    refine lv_aload_n hx hb dX12_alternates_216 rfl (lv_at hl 4 rfl) ?_
    refine lv_iload_n hx hb dX12_alternates_217 rfl (lv_at hl 5 rfl) ?_
    refine lv_bipush (v := (-4 : Int32)) hx hb dX12_alternates_218 (by decide) ?_
    refine lv_ldcw (v := (32770 : Int32)) hx hb F.2.2.2.1 (x_hts F _ k_6_154) dX12_alternates_220 ?_
    refine x_cVv (As := [.int a1, .int (-4 : Int32), .int (32770 : Int32)]) F xG_ok hK hW hS um_X12_mineTo k_7_49 (fun _ h1 => m_r_mineTo hI _ _ _ h1) rfl rd_d0 rd_0 rfl rfl hl.1 rfl rfl ⟨Nat.le_of_ble_eq_true rfl, Nat.le_of_ble_eq_true rfl⟩ ⟨Nat.zero_le _, Nat.zero_le _⟩ (Nat.le_of_ble_eq_true rfl) dX12_alternates_223 h (fun S23 H locs hW hS h => ?_)
    refine lv_iconst (v := (1 : Int32)) hx hb dX12_alternates_226 (by decide) ?_
    exact x_zret F hr hlk hW hS rfl dX12_alternates_227 h
  replace h := (if_neg c_1_67).symm.trans h
  have hn_1_67 := x_swN (z := 67) c_1_67 hn_1_48 rfl
  by_cases c_1_68 : a2 = (68 : Int32)
  · replace h := (if_pos c_1_68).symm.trans h
    refine lv_tableIn (tgt := 338) (off := 297) hx hb dX12_alternates_41 (by rw [c_1_68]; decide) (by rw [c_1_68]; decide) (by rw [c_1_68]; decide) (by decide) ?_
    refine lv_aload_n hx hb dX12_alternates_338 rfl (lv_at hl 4 rfl) ?_
    refine lv_iload_n hx hb dX12_alternates_339 rfl (lv_at hl 5 rfl) ?_
    refine lv_iconst (v := (0 : Int32)) hx hb dX12_alternates_340 (by decide) ?_
    refine lv_ldc (v := (65535 : Int32)) hx hb F.2.2.2.1 (x_hts F _ k_6_102) dX12_alternates_341 ?_
    refine x_cVv (As := [.int a1, .int (0 : Int32), .int (65535 : Int32)]) F xG_ok hK hW hS um_X12_mineTo k_7_49 (fun _ h1 => m_r_mineTo hI _ _ _ h1) rfl rd_d0 rd_0 rfl rfl hl.1 rfl rfl ⟨Nat.le_of_ble_eq_true rfl, Nat.le_of_ble_eq_true rfl⟩ ⟨Nat.zero_le _, Nat.zero_le _⟩ (Nat.le_of_ble_eq_true rfl) dX12_alternates_343 h (fun S24 H locs hW hS h => ?_)
    refine lv_aload_n hx hb dX12_alternates_346 rfl (lv_at hl 4 rfl) ?_
    refine lv_iload_n hx hb dX12_alternates_347 rfl (lv_at hl 5 rfl) ?_
    refine lv_bipush (v := (-3 : Int32)) hx hb dX12_alternates_348 (by decide) ?_
    refine x_cVi (As := [.int a1, .int (-3 : Int32)]) F xG_ok hK hW hS um_X12_mine k_7_57 (fun _ h1 => m_r_mine hI _ _ h1) rfl rd_d0 rd_0 rfl rfl hl.1 rfl rfl ⟨Nat.le_of_ble_eq_true rfl, Nat.le_of_ble_eq_true rfl⟩ ⟨Nat.zero_le _, Nat.zero_le _⟩ (Nat.le_of_ble_eq_true rfl) dX12_alternates_350 h (fun r_25 S25 H locs hW hS h => ?_)
    refine lv_ldcw (v := (32771 : Int32)) hx hb F.2.2.2.1 (x_hts F _ k_6_159) dX12_alternates_353 ?_
    refine lv_icmp_eq (tgt := 374) hx hb dX12_alternates_356 (by decide) (fun c_26 => ?_) (fun c_26 => ?_)
    · replace h := (if_pos c_26).symm.trans h
      refine lv_iconst (v := (1 : Int32)) hx hb dX12_alternates_374 (by decide) ?_
      exact x_zret F hr hlk hW hS rfl dX12_alternates_375 h
    replace h := (if_neg c_26).symm.trans h
    refine lv_aload_n hx hb dX12_alternates_359 rfl (lv_at hl 4 rfl) ?_
    refine lv_iload_n hx hb dX12_alternates_360 rfl (lv_at hl 5 rfl) ?_
    refine lv_bipush (v := (-3 : Int32)) hx hb dX12_alternates_361 (by decide) ?_
    refine lv_ldcw (v := (32770 : Int32)) hx hb F.2.2.2.1 (x_hts F _ k_6_154) dX12_alternates_363 ?_
    refine x_cVv (As := [.int a1, .int (-3 : Int32), .int (32770 : Int32)]) F xG_ok hK hW hS um_X12_mineTo k_7_49 (fun _ h1 => m_r_mineTo hI _ _ _ h1) rfl rd_d0 rd_0 rfl rfl hl.1 rfl rfl ⟨Nat.le_of_ble_eq_true rfl, Nat.le_of_ble_eq_true rfl⟩ ⟨Nat.zero_le _, Nat.zero_le _⟩ (Nat.le_of_ble_eq_true rfl) dX12_alternates_366 h (fun S27 H locs hW hS h => ?_)
    refine lv_aload_n hx hb dX12_alternates_369 rfl (lv_at hl 4 rfl) ?_
    refine lv_iload_n hx hb dX12_alternates_370 rfl (lv_at hl 5 rfl) ?_
    refine x_cVv (As := [.int a1]) F xG_ok hK hW hS um_X12_waits k_7_25 (fun _ h1 => m_r_waits hI _ h1) rfl rd_d0 rd_0 rfl rfl hl.1 rfl rfl ⟨Nat.le_of_ble_eq_true rfl, Nat.le_of_ble_eq_true rfl⟩ ⟨Nat.zero_le _, Nat.zero_le _⟩ (Nat.le_of_ble_eq_true rfl) dX12_alternates_371 h (fun S28 H locs hW hS h => ?_)
    refine lv_iconst (v := (1 : Int32)) hx hb dX12_alternates_374 (by decide) ?_
    exact x_zret F hr hlk hW hS rfl dX12_alternates_375 h
  replace h := (if_neg c_1_68).symm.trans h
  have hn_1_68 := x_swN (z := 68) c_1_68 hn_1_67 rfl
  by_cases c_1_69 : a2 = (69 : Int32)
  · replace h := (if_pos c_1_69).symm.trans h
    refine lv_tableIn (tgt := 470) (off := 429) hx hb dX12_alternates_41 (by rw [c_1_69]; decide) (by rw [c_1_69]; decide) (by rw [c_1_69]; decide) (by decide) ?_
    refine lv_aload_n hx hb dX12_alternates_470 rfl (lv_at hl 4 rfl) ?_
    refine x_get F hK hW xc_X12 rd_d0 rd_0 8 (by decide) k_5_136 (gf_X12_8 _ _) dX12_alternates_471 ?_
    refine lv_iload_n hx hb dX12_alternates_474 rfl (lv_at hl 5 rfl) ?_
    refine lv_aload_n hx hb dX12_alternates_475 rfl (lv_at hl 4 rfl) ?_
    refine x_get F hK hW xc_X12 rd_d0 rd_0 8 (by decide) k_5_136 (gf_X12_8 _ _) dX12_alternates_476 ?_
    refine lv_iload_n hx hb dX12_alternates_479 rfl (lv_at hl 5 rfl) ?_
    refine x_iald (t0 := 0) F hK hW rd_d9 rd_9 rfl dX12_alternates_480 h (fun h => ?_)
    refine lv_aload_n hx hb dX12_alternates_481 rfl (lv_at hl 4 rfl) ?_
    refine lv_iload_n hx hb dX12_alternates_482 rfl (lv_at hl 5 rfl) ?_
    refine lv_iconst (v := (0 : Int32)) hx hb dX12_alternates_483 (by decide) ?_
    refine x_cVi (As := [.int a1, .int (0 : Int32)]) F xG_ok hK hW hS um_X12_mine k_7_57 (fun _ h1 => m_r_mine hI _ _ h1) rfl rd_d0 rd_0 rfl rfl hl.1 rfl rfl ⟨Nat.le_of_ble_eq_true rfl, Nat.le_of_ble_eq_true rfl⟩ ⟨Nat.zero_le _, Nat.zero_le _⟩ (Nat.le_of_ble_eq_true rfl) dX12_alternates_484 h (fun r_29 S29 H locs hW hS h => ?_)
    refine lv_iadd hx hb dX12_alternates_487 ?_
    refine lv_ldc (v := (65535 : Int32)) hx hb F.2.2.2.1 (x_hts F _ k_6_102) dX12_alternates_488 ?_
    refine lv_iand hx hb dX12_alternates_490 ?_
    refine x_iast (t0 := 0) F hK hI hW hS rd_d9 rd_9 rfl dX12_alternates_491 h (fun S30 H locs hW hS h => ?_)
    refine lv_iconst (v := (1 : Int32)) hx hb dX12_alternates_492 (by decide) ?_
    exact x_zret F hr hlk hW hS rfl dX12_alternates_493 h
  replace h := (if_neg c_1_69).symm.trans h
  have hn_1_69 := x_swN (z := 69) c_1_69 hn_1_68 rfl
  by_cases c_1_71 : a2 = (71 : Int32)
  · replace h := (if_pos c_1_71).symm.trans h
    refine lv_tableIn (tgt := 265) (off := 224) hx hb dX12_alternates_41 (by rw [c_1_71]; decide) (by rw [c_1_71]; decide) (by rw [c_1_71]; decide) (by decide) ?_
    refine lv_iload_n hx hb dX12_alternates_265 rfl (lv_at hl 3 rfl) ?_
    refine lv_if_eq (tgt := 328) hx hb dX12_alternates_266 (by decide) (fun c_31 => ?_) (fun c_31 => ?_)
    · replace h := (if_pos c_31).symm.trans h
      refine lv_aload_n hx hb dX12_alternates_328 rfl (lv_at hl 4 rfl) ?_
      refine x_get F hK hW xc_X12 rd_d0 rd_0 5 (by decide) k_5_133 (gf_X12_5 _ _) dX12_alternates_329 ?_
      refine lv_iload_n hx hb dX12_alternates_332 rfl (lv_at hl 5 rfl) ?_
      refine lv_iload hx hb dX12_alternates_333 (lv_at hl 1 rfl) ?_
      refine x_iast (t0 := 0) F hK hI hW hS rd_d6 rd_6 rfl dX12_alternates_335 h (fun S32 H locs hW hS h => ?_)
      refine lv_iconst (v := (1 : Int32)) hx hb dX12_alternates_336 (by decide) ?_
      exact x_zret F hr hlk hW hS rfl dX12_alternates_337 h
    replace h := (if_neg c_31).symm.trans h
    refine lv_aload_n hx hb dX12_alternates_269 rfl (lv_at hl 4 rfl) ?_
    refine lv_iload_n hx hb dX12_alternates_270 rfl (lv_at hl 5 rfl) ?_
    refine lv_bipush (v := (-4 : Int32)) hx hb dX12_alternates_271 (by decide) ?_
    refine x_cVi (As := [.int a1, .int (-4 : Int32)]) F xG_ok hK hW hS um_X12_mine k_7_57 (fun _ h1 => m_r_mine hI _ _ h1) rfl rd_d0 rd_0 rfl rfl hl.1 rfl rfl ⟨Nat.le_of_ble_eq_true rfl, Nat.le_of_ble_eq_true rfl⟩ ⟨Nat.zero_le _, Nat.zero_le _⟩ (Nat.le_of_ble_eq_true rfl) dX12_alternates_273 h (fun r_33 S33 H locs hW hS h => ?_)
    refine lv_ldcw (v := (32770 : Int32)) hx hb F.2.2.2.1 (x_hts F _ k_6_154) dX12_alternates_276 ?_
    refine lv_icmp_ne (tgt := 304) hx hb dX12_alternates_279 (by decide) (fun c_34 => ?_) (fun c_34 => ?_)
    · replace h := (if_neg c_34).symm.trans h
      refine lv_aload_n hx hb dX12_alternates_304 rfl (lv_at hl 4 rfl) ?_
      refine lv_iload_n hx hb dX12_alternates_305 rfl (lv_at hl 5 rfl) ?_
      refine lv_bipush (v := (-5 : Int32)) hx hb dX12_alternates_306 (by decide) ?_
      refine x_cVi (As := [.int a1, .int (-5 : Int32)]) F xG_ok hK hW hS um_X12_mine k_7_57 (fun _ h1 => m_r_mine hI _ _ h1) rfl rd_d0 rd_0 rfl rfl hl.1 rfl rfl ⟨Nat.le_of_ble_eq_true rfl, Nat.le_of_ble_eq_true rfl⟩ ⟨Nat.zero_le _, Nat.zero_le _⟩ (Nat.le_of_ble_eq_true rfl) dX12_alternates_308 h (fun r_35 S35 H locs hW hS h => ?_)
      refine lv_iload hx hb dX12_alternates_311 (lv_at hl 2 rfl) ?_
      refine x_cSo (As := [.int r_35, .int (xI S 0 6 (a1).toNatClampNeg)]) F xG_ok hS um_X12_isLater k_6_177 (fun _ h1 => m_r_isLater _ _ h1) rfl rfl hl.1 rfl rfl ⟨Nat.le_of_ble_eq_true rfl, Nat.le_of_ble_eq_true rfl⟩ ⟨Nat.zero_le _, Nat.zero_le _⟩ (Nat.le_of_ble_eq_true rfl) dX12_alternates_313 h (fun r_36 locs hS h => ?_)
      refine lv_if_eq (tgt := 328) hx hb dX12_alternates_316 (by decide) (fun c_37 => ?_) (fun c_37 => ?_)
      · replace h := (if_pos c_37).symm.trans h
        refine lv_aload_n hx hb dX12_alternates_328 rfl (lv_at hl 4 rfl) ?_
        refine x_get F hK hW xc_X12 rd_d0 rd_0 5 (by decide) k_5_133 (gf_X12_5 _ _) dX12_alternates_329 ?_
        refine lv_iload_n hx hb dX12_alternates_332 rfl (lv_at hl 5 rfl) ?_
        refine lv_iload hx hb dX12_alternates_333 (lv_at hl 1 rfl) ?_
        refine x_iast (t0 := 0) F hK hI hW hS rd_d6 rd_6 rfl dX12_alternates_335 h (fun S38 H locs hW hS h => ?_)
        refine lv_iconst (v := (1 : Int32)) hx hb dX12_alternates_336 (by decide) ?_
        exact x_zret F hr hlk hW hS rfl dX12_alternates_337 h
      replace h := (if_neg c_37).symm.trans h
      refine lv_aload_n hx hb dX12_alternates_319 rfl (lv_at hl 4 rfl) ?_
      refine lv_iload_n hx hb dX12_alternates_320 rfl (lv_at hl 5 rfl) ?_
      refine lv_bipush (v := (-5 : Int32)) hx hb dX12_alternates_321 (by decide) ?_
      refine lv_iload hx hb dX12_alternates_323 (lv_at hl 2 rfl) ?_
      refine x_cVv (As := [.int a1, .int (-5 : Int32), .int (xI S 0 6 (a1).toNatClampNeg)]) F xG_ok hK hW hS um_X12_mineTo k_7_49 (fun _ h1 => m_r_mineTo hI _ _ _ h1) rfl rd_d0 rd_0 rfl rfl hl.1 rfl rfl ⟨Nat.le_of_ble_eq_true rfl, Nat.le_of_ble_eq_true rfl⟩ ⟨Nat.zero_le _, Nat.zero_le _⟩ (Nat.le_of_ble_eq_true rfl) dX12_alternates_325 h (fun S39 H locs hW hS h => ?_)
      refine lv_aload_n hx hb dX12_alternates_328 rfl (lv_at hl 4 rfl) ?_
      refine x_get F hK hW xc_X12 rd_d0 rd_0 5 (by decide) k_5_133 (gf_X12_5 _ _) dX12_alternates_329 ?_
      refine lv_iload_n hx hb dX12_alternates_332 rfl (lv_at hl 5 rfl) ?_
      refine lv_iload hx hb dX12_alternates_333 (lv_at hl 1 rfl) ?_
      refine x_iast (t0 := 0) F hK hI hW hS rd_d6 rd_6 rfl dX12_alternates_335 h (fun S40 H locs hW hS h => ?_)
      refine lv_iconst (v := (1 : Int32)) hx hb dX12_alternates_336 (by decide) ?_
      exact x_zret F hr hlk hW hS rfl dX12_alternates_337 h
    replace h := (if_pos c_34).symm.trans h
    refine lv_aload_n hx hb dX12_alternates_282 rfl (lv_at hl 4 rfl) ?_
    refine lv_iload_n hx hb dX12_alternates_283 rfl (lv_at hl 5 rfl) ?_
    refine lv_bipush (v := (-4 : Int32)) hx hb dX12_alternates_284 (by decide) ?_
    refine lv_ldcw (v := (32769 : Int32)) hx hb F.2.2.2.1 (x_hts F _ k_6_153) dX12_alternates_286 ?_
    refine x_cVv (As := [.int a1, .int (-4 : Int32), .int (32769 : Int32)]) F xG_ok hK hW hS um_X12_mineTo k_7_49 (fun _ h1 => m_r_mineTo hI _ _ _ h1) rfl rd_d0 rd_0 rfl rfl hl.1 rfl rfl ⟨Nat.le_of_ble_eq_true rfl, Nat.le_of_ble_eq_true rfl⟩ ⟨Nat.zero_le _, Nat.zero_le _⟩ (Nat.le_of_ble_eq_true rfl) dX12_alternates_289 h (fun S41 H locs hW hS h => ?_)
    refine lv_aload_n hx hb dX12_alternates_292 rfl (lv_at hl 4 rfl) ?_
    refine lv_iload_n hx hb dX12_alternates_293 rfl (lv_at hl 5 rfl) ?_
    refine lv_bipush (v := (-5 : Int32)) hx hb dX12_alternates_294 (by decide) ?_
    refine lv_iload hx hb dX12_alternates_296 (lv_at hl 2 rfl) ?_
    refine x_cVv (As := [.int a1, .int (-5 : Int32), .int (xI S 0 6 (a1).toNatClampNeg)]) F xG_ok hK hW hS um_X12_mineTo k_7_49 (fun _ h1 => m_r_mineTo hI _ _ _ h1) rfl rd_d0 rd_0 rfl rfl hl.1 rfl rfl ⟨Nat.le_of_ble_eq_true rfl, Nat.le_of_ble_eq_true rfl⟩ ⟨Nat.zero_le _, Nat.zero_le _⟩ (Nat.le_of_ble_eq_true rfl) dX12_alternates_298 h (fun S42 H locs hW hS h => ?_)
    refine lv_goto (tgt := 328) hx hb dX12_alternates_301 (by decide) ?_
    refine lv_aload_n hx hb dX12_alternates_328 rfl (lv_at hl 4 rfl) ?_
    refine x_get F hK hW xc_X12 rd_d0 rd_0 5 (by decide) k_5_133 (gf_X12_5 _ _) dX12_alternates_329 ?_
    refine lv_iload_n hx hb dX12_alternates_332 rfl (lv_at hl 5 rfl) ?_
    refine lv_iload hx hb dX12_alternates_333 (lv_at hl 1 rfl) ?_
    refine x_iast (t0 := 0) F hK hI hW hS rd_d6 rd_6 rfl dX12_alternates_335 h (fun S43 H locs hW hS h => ?_)
    refine lv_iconst (v := (1 : Int32)) hx hb dX12_alternates_336 (by decide) ?_
    exact x_zret F hr hlk hW hS rfl dX12_alternates_337 h
  replace h := (if_neg c_1_71).symm.trans h
  have hn_1_71 := x_swN (z := 71) c_1_71 hn_1_69 rfl
  by_cases c_1_72 : a2 = (72 : Int32)
  · replace h := (if_pos c_1_72).symm.trans h
    refine lv_tableIn (tgt := 244) (off := 203) hx hb dX12_alternates_41 (by rw [c_1_72]; decide) (by rw [c_1_72]; decide) (by rw [c_1_72]; decide) (by decide) ?_
    refine lv_iload_n hx hb dX12_alternates_244 rfl (lv_at hl 3 rfl) ?_
    refine lv_if_eq (tgt := 255) hx hb dX12_alternates_245 (by decide) (fun c_44 => ?_) (fun c_44 => ?_)
    · replace h := (if_pos c_44).symm.trans h
      refine lv_aload_n hx hb dX12_alternates_255 rfl (lv_at hl 4 rfl) ?_
      refine x_get F hK hW xc_X12 rd_d0 rd_0 5 (by decide) k_5_133 (gf_X12_5 _ _) dX12_alternates_256 ?_
      refine lv_iload_n hx hb dX12_alternates_259 rfl (lv_at hl 5 rfl) ?_
      refine lv_iload hx hb dX12_alternates_260 (lv_at hl 1 rfl) ?_
      refine x_iast (t0 := 0) F hK hI hW hS rd_d6 rd_6 rfl dX12_alternates_262 h (fun S45 H locs hW hS h => ?_)
      refine lv_iconst (v := (1 : Int32)) hx hb dX12_alternates_263 (by decide) ?_
      exact x_zret F hr hlk hW hS rfl dX12_alternates_264 h
    replace h := (if_neg c_44).symm.trans h
    refine lv_aload_n hx hb dX12_alternates_248 rfl (lv_at hl 4 rfl) ?_
    refine lv_iload_n hx hb dX12_alternates_249 rfl (lv_at hl 5 rfl) ?_
    refine lv_iload hx hb dX12_alternates_250 (lv_at hl 2 rfl) ?_
    refine x_cVv (As := [.int a1, .int (xI S 0 6 (a1).toNatClampNeg)]) F xG_ok hK hW hS um_X12_enables k_7_53 (fun _ h1 => m_r_enables hI _ _ h1) rfl rd_d0 rd_0 rfl rfl hl.1 rfl rfl ⟨Nat.le_of_ble_eq_true rfl, Nat.le_of_ble_eq_true rfl⟩ ⟨Nat.zero_le _, Nat.zero_le _⟩ (Nat.le_of_ble_eq_true rfl) dX12_alternates_252 h (fun S46 H locs hW hS h => ?_)
    refine lv_aload_n hx hb dX12_alternates_255 rfl (lv_at hl 4 rfl) ?_
    refine x_get F hK hW xc_X12 rd_d0 rd_0 5 (by decide) k_5_133 (gf_X12_5 _ _) dX12_alternates_256 ?_
    refine lv_iload_n hx hb dX12_alternates_259 rfl (lv_at hl 5 rfl) ?_
    refine lv_iload hx hb dX12_alternates_260 (lv_at hl 1 rfl) ?_
    refine x_iast (t0 := 0) F hK hI hW hS rd_d6 rd_6 rfl dX12_alternates_262 h (fun S47 H locs hW hS h => ?_)
    refine lv_iconst (v := (1 : Int32)) hx hb dX12_alternates_263 (by decide) ?_
    exact x_zret F hr hlk hW hS rfl dX12_alternates_264 h
  replace h := (if_neg c_1_72).symm.trans h
  have hn_1_72 := x_swN (z := 72) c_1_72 hn_1_71 rfl
  by_cases c_1_73 : a2 = (73 : Int32)
  · replace h := (if_pos c_1_73).symm.trans h
    refine lv_tableIn (tgt := 228) (off := 187) hx hb dX12_alternates_41 (by rw [c_1_73]; decide) (by rw [c_1_73]; decide) (by rw [c_1_73]; decide) (by decide) ?_
    refine lv_iload_n hx hb dX12_alternates_228 rfl (lv_at hl 3 rfl) ?_
    refine lv_if_eq (tgt := 242) hx hb dX12_alternates_229 (by decide) (fun c_48 => ?_) (fun c_48 => ?_)
    · replace h := (if_pos c_48).symm.trans h
      refine lv_iconst (v := (1 : Int32)) hx hb dX12_alternates_242 (by decide) ?_
      exact x_zret F hr hlk hW hS rfl dX12_alternates_243 h
    replace h := (if_neg c_48).symm.trans h
    refine lv_aload_n hx hb dX12_alternates_232 rfl (lv_at hl 4 rfl) ?_
    refine lv_iload_n hx hb dX12_alternates_233 rfl (lv_at hl 5 rfl) ?_
    refine lv_bipush (v := (-3 : Int32)) hx hb dX12_alternates_234 (by decide) ?_
    refine lv_ldcw (v := (32771 : Int32)) hx hb F.2.2.2.1 (x_hts F _ k_6_159) dX12_alternates_236 ?_
    refine x_cVv (As := [.int a1, .int (-3 : Int32), .int (32771 : Int32)]) F xG_ok hK hW hS um_X12_mineTo k_7_49 (fun _ h1 => m_r_mineTo hI _ _ _ h1) rfl rd_d0 rd_0 rfl rfl hl.1 rfl rfl ⟨Nat.le_of_ble_eq_true rfl, Nat.le_of_ble_eq_true rfl⟩ ⟨Nat.zero_le _, Nat.zero_le _⟩ (Nat.le_of_ble_eq_true rfl) dX12_alternates_239 h (fun S49 H locs hW hS h => ?_)
    refine lv_iconst (v := (1 : Int32)) hx hb dX12_alternates_242 (by decide) ?_
    exact x_zret F hr hlk hW hS rfl dX12_alternates_243 h
  replace h := (if_neg c_1_73).symm.trans h
  have hn_1_73 := x_swN (z := 73) c_1_73 hn_1_72 rfl
  by_cases c_1_78 : a2 = (78 : Int32)
  · replace h := (if_pos c_1_78).symm.trans h
    refine lv_tableIn (tgt := 200) (off := 159) hx hb dX12_alternates_41 (by rw [c_1_78]; decide) (by rw [c_1_78]; decide) (by rw [c_1_78]; decide) (by decide) ?_
    refine lv_aload_n hx hb dX12_alternates_200 rfl (lv_at hl 4 rfl) ?_
    refine lv_iload_n hx hb dX12_alternates_201 rfl (lv_at hl 5 rfl) ?_
    refine lv_bipush (v := (-3 : Int32)) hx hb dX12_alternates_202 (by decide) ?_
    refine lv_ldcw (v := (32769 : Int32)) hx hb F.2.2.2.1 (x_hts F _ k_6_153) dX12_alternates_204 ?_
    refine x_cVv (As := [.int a1, .int (-3 : Int32), .int (32769 : Int32)]) F xG_ok hK hW hS um_X12_mineTo k_7_49 (fun _ h1 => m_r_mineTo hI _ _ _ h1) rfl rd_d0 rd_0 rfl rfl hl.1 rfl rfl ⟨Nat.le_of_ble_eq_true rfl, Nat.le_of_ble_eq_true rfl⟩ ⟨Nat.zero_le _, Nat.zero_le _⟩ (Nat.le_of_ble_eq_true rfl) dX12_alternates_207 h (fun S50 H locs hW hS h => ?_)
    refine lv_iload_n hx hb dX12_alternates_210 rfl (lv_at hl 6 rfl) ?_
    refine lv_bipush (v := (78 : Int32)) hx hb dX12_alternates_211 (by decide) ?_
    refine lv_icmp_ne (tgt := 226) hx hb dX12_alternates_213 (by decide) (fun c_51 => ?_) (fun c_51 => ?_)
    · replace h := (if_neg c_51).symm.trans h
      refine lv_iconst (v := (1 : Int32)) hx hb dX12_alternates_226 (by decide) ?_
      exact x_zret F hr hlk hW hS rfl dX12_alternates_227 h
    replace h := (if_pos c_51).symm.trans h
    refine lv_aload_n hx hb dX12_alternates_216 rfl (lv_at hl 4 rfl) ?_
    refine lv_iload_n hx hb dX12_alternates_217 rfl (lv_at hl 5 rfl) ?_
    refine lv_bipush (v := (-4 : Int32)) hx hb dX12_alternates_218 (by decide) ?_
    refine lv_ldcw (v := (32770 : Int32)) hx hb F.2.2.2.1 (x_hts F _ k_6_154) dX12_alternates_220 ?_
    refine x_cVv (As := [.int a1, .int (-4 : Int32), .int (32770 : Int32)]) F xG_ok hK hW hS um_X12_mineTo k_7_49 (fun _ h1 => m_r_mineTo hI _ _ _ h1) rfl rd_d0 rd_0 rfl rfl hl.1 rfl rfl ⟨Nat.le_of_ble_eq_true rfl, Nat.le_of_ble_eq_true rfl⟩ ⟨Nat.zero_le _, Nat.zero_le _⟩ (Nat.le_of_ble_eq_true rfl) dX12_alternates_223 h (fun S52 H locs hW hS h => ?_)
    refine lv_iconst (v := (1 : Int32)) hx hb dX12_alternates_226 (by decide) ?_
    exact x_zret F hr hlk hW hS rfl dX12_alternates_227 h
  replace h := (if_neg c_1_78).symm.trans h
  have hn_1_78 := x_swN (z := 78) c_1_78 hn_1_73 rfl
  by_cases c_1_81 : a2 = (81 : Int32)
  · replace h := (if_pos c_1_81).symm.trans h
    refine lv_tableIn (tgt := 376) (off := 335) hx hb dX12_alternates_41 (by rw [c_1_81]; decide) (by rw [c_1_81]; decide) (by rw [c_1_81]; decide) (by decide) ?_
    refine lv_aload_n hx hb dX12_alternates_376 rfl (lv_at hl 4 rfl) ?_
    refine lv_iload_n hx hb dX12_alternates_377 rfl (lv_at hl 5 rfl) ?_
    refine lv_iload hx hb dX12_alternates_378 (lv_at hl 0 rfl) ?_
    refine x_cVi (As := [.int a1, .int (xI S 0 21 ((((2 : Int32) * a1) + (xI S 0 11 (a1).toNatClampNeg))).toNatClampNeg)]) F xG_ok hK hW hS um_X12_timedWait k_7_61 (fun _ h1 => m_r_timedWait hI _ _ h1) rfl rd_d0 rd_0 rfl rfl hl.1 rfl rfl ⟨Nat.le_of_ble_eq_true rfl, Nat.le_of_ble_eq_true rfl⟩ ⟨Nat.zero_le _, Nat.zero_le _⟩ (Nat.le_of_ble_eq_true rfl) dX12_alternates_380 h (fun r_53 S53 H locs hW hS h => ?_)
    obtain ⟨hz, h⟩ := gz_use h
    exact x_zret F hr hlk hW hS (z_nar hz) dX12_alternates_383 h
  replace h := (if_neg c_1_81).symm.trans h
  have hn_1_81 := x_swN (z := 81) c_1_81 hn_1_78 rfl
  refine x_tblD (tgt := 494) hx hb dX12_alternates_41 hn_1_81 (by decide) (by decide) (by decide) ?_
  refine lv_aload_n hx hb dX12_alternates_494 rfl (lv_at hl 4 rfl) ?_
  refine lv_iload_n hx hb dX12_alternates_495 rfl (lv_at hl 5 rfl) ?_
  refine lv_iload_n hx hb dX12_alternates_496 rfl (lv_at hl 3 rfl) ?_
  refine lv_iload hx hb dX12_alternates_497 (lv_at hl 0 rfl) ?_
  refine x_cVi (As := [.int a1, .int (xI S 0 5 (a1).toNatClampNeg), .int (xI S 0 21 ((((2 : Int32) * a1) + (xI S 0 11 (a1).toNatClampNeg))).toNatClampNeg)]) F xG_ok hK hW hS um_X12_timerIn k_7_77 (fun _ h1 => m_r_timerIn hI _ _ _ h1) rfl rd_d0 rd_0 rfl rfl hl.1 rfl rfl ⟨Nat.le_of_ble_eq_true rfl, Nat.le_of_ble_eq_true rfl⟩ ⟨Nat.zero_le _, Nat.zero_le _⟩ (Nat.le_of_ble_eq_true rfl) dX12_alternates_499 h (fun r_54 S54 H locs hW hS h => ?_)
  obtain ⟨hz, h⟩ := gz_use h
  exact x_zret F hr hlk hW hS (z_nar hz) dX12_alternates_502 h
/-! X12_ends -/
def r_ends  (S : xS) (a1 : Int32) (a2 : Int32) : Option (Int32 × xS) := (r_word  S a1 (a2 + (2 : Int32))).bind (fun (r_1, S1) => (r_wordTo  S1 a1 (a2 + (2 : Int32)) ((r_1 - (1 : Int32)) &&& (65535 : Int32))).bind (fun S2 => if ((r_1 - (1 : Int32)) &&& (65535 : Int32)) = 0 then (gd a1 8 (xnm (sI S2 0 10 (a1).toNatClampNeg (a2 &&& (65534 : Int32))) (fun S5 => (r_word  S5 a1 a2).bind (fun (r_6, S6) => gd a1 8 (xnm (sI S6 0 9 (a1).toNatClampNeg r_6) (fun S7 => some ((1 : Int32), S7))))))) else (gd a1 8 (xnm (sI S2 0 11 (a1).toNatClampNeg (2 : Int32)) (fun S4 => some ((1 : Int32), S4))))))
set_option maxHeartbeats 4000000 in
set_option maxRecDepth 100000 in
theorem m_r_ends {l : Launch} {D : va_G} {cI cZ cB : ClassId} {ad : Nat → Nat → Nat} (hI : xInj rDom ad) {S : xS} (a1 : Int32) (a2 : Int32) {o : Int32 × xS} (h : r_ends  S a1 a2 = some o) : Met l yX12_ends (Cond.code yX12_ends cX12_ends 4 (some .boolean) :: xG) { frames := 2, cells := 0, slots := 0, locals := 48 } (xPc D vwCl (rTy cI cZ cB) [] [] rDom ad (rDe ad cI cZ cB) [.ref (ad 0 0), .int a1, .int a2] S) (xQ D vwCl rDom ad (rDe ad cI cZ cB) (some (.int o.1)) o.2) 0 0 (xA rDom ad) := by
  unfold r_ends at h
  refine x_enter (by decide) (Nat.le_of_ble_eq_true rfl) (fun p e s m below meth c F hr hlk hK hW hS ls hl => ?_)
  have hl : lv_has ls 4 [(0, .ref (ad 0 0)), (1, .int a1), (2, .int a2)] := hl
  have hx := F.1
  have hb := F.2.1
  refine lv_aload_n hx hb dX12_ends_0 rfl (lv_at hl 0 rfl) ?_
  refine lv_iload_n hx hb dX12_ends_1 rfl (lv_at hl 1 rfl) ?_
  refine lv_iload_n hx hb dX12_ends_2 rfl (lv_at hl 2 rfl) ?_
  refine lv_iconst (v := (2 : Int32)) hx hb dX12_ends_3 (by decide) ?_
  refine lv_iadd hx hb dX12_ends_4 ?_
  refine x_cVi (As := [.int a1, .int (a2 + (2 : Int32))]) F xG_ok hK hW hS um_X12_word k_6_149 (fun _ h1 => m_r_word hI _ _ h1) rfl rd_d0 rd_0 rfl rfl hl.1 rfl rfl ⟨Nat.le_of_ble_eq_true rfl, Nat.le_of_ble_eq_true rfl⟩ ⟨Nat.zero_le _, Nat.zero_le _⟩ (Nat.le_of_ble_eq_true rfl) dX12_ends_5 h (fun r_1 S1 H locs hW hS h => ?_)
  refine lv_iconst (v := (1 : Int32)) hx hb dX12_ends_8 (by decide) ?_
  refine lv_isub hx hb dX12_ends_9 ?_
  refine lv_ldc (v := (65535 : Int32)) hx hb F.2.2.2.1 (x_hts F _ k_6_102) dX12_ends_10 ?_
  refine lv_iand hx hb dX12_ends_12 ?_
  refine lv_istore_n (lv' := [(3, .int ((r_1 - (1 : Int32)) &&& (65535 : Int32))), (0, .ref (ad 0 0)), (1, .int a1), (2, .int a2)]) hx hb dX12_ends_13 rfl hl (by decide) rfl (fun ls hl => ?_)
  refine lv_aload_n hx hb dX12_ends_14 rfl (lv_at hl 1 rfl) ?_
  refine lv_iload_n hx hb dX12_ends_15 rfl (lv_at hl 2 rfl) ?_
  refine lv_iload_n hx hb dX12_ends_16 rfl (lv_at hl 3 rfl) ?_
  refine lv_iconst (v := (2 : Int32)) hx hb dX12_ends_17 (by decide) ?_
  refine lv_iadd hx hb dX12_ends_18 ?_
  refine lv_iload_n hx hb dX12_ends_19 rfl (lv_at hl 0 rfl) ?_
  refine x_cVv (As := [.int a1, .int (a2 + (2 : Int32)), .int ((r_1 - (1 : Int32)) &&& (65535 : Int32))]) F xG_ok hK hW hS um_X12_wordTo k_6_137 (fun _ h1 => m_r_wordTo hI _ _ _ h1) rfl rd_d0 rd_0 rfl rfl hl.1 rfl rfl ⟨Nat.le_of_ble_eq_true rfl, Nat.le_of_ble_eq_true rfl⟩ ⟨Nat.zero_le _, Nat.zero_le _⟩ (Nat.le_of_ble_eq_true rfl) dX12_ends_20 h (fun S2 H locs hW hS h => ?_)
  refine lv_iload_n hx hb dX12_ends_23 rfl (lv_at hl 0 rfl) ?_
  refine lv_if_ne (tgt := 52) hx hb dX12_ends_24 (by decide) (fun c_3 => ?_) (fun c_3 => ?_)
  · replace h := (if_neg c_3).symm.trans h
    refine lv_aload_n hx hb dX12_ends_52 rfl (lv_at hl 1 rfl) ?_
    refine x_get F hK hW xc_X12 rd_d0 rd_0 10 (by decide) k_5_138 (gf_X12_10 _ _) dX12_ends_53 ?_
    refine lv_iload_n hx hb dX12_ends_56 rfl (lv_at hl 2 rfl) ?_
    refine lv_iconst (v := (2 : Int32)) hx hb dX12_ends_57 (by decide) ?_
    refine x_iast (t0 := 0) F hK hI hW hS rd_d11 rd_11 rfl dX12_ends_58 h (fun S4 H locs hW hS h => ?_)
    refine lv_iconst (v := (1 : Int32)) hx hb dX12_ends_59 (by decide) ?_
    exact x_zret F hr hlk hW hS rfl dX12_ends_60 h
  replace h := (if_pos c_3).symm.trans h
  refine lv_aload_n hx hb dX12_ends_27 rfl (lv_at hl 1 rfl) ?_
  refine x_get F hK hW xc_X12 rd_d0 rd_0 9 (by decide) k_5_137 (gf_X12_9 _ _) dX12_ends_28 ?_
  refine lv_iload_n hx hb dX12_ends_31 rfl (lv_at hl 2 rfl) ?_
  refine lv_iload_n hx hb dX12_ends_32 rfl (lv_at hl 3 rfl) ?_
  refine lv_ldc (v := (65534 : Int32)) hx hb F.2.2.2.1 (x_hts F _ k_6_103) dX12_ends_33 ?_
  refine lv_iand hx hb dX12_ends_35 ?_
  refine x_iast (t0 := 0) F hK hI hW hS rd_d10 rd_10 rfl dX12_ends_36 h (fun S5 H locs hW hS h => ?_)
  refine lv_aload_n hx hb dX12_ends_37 rfl (lv_at hl 1 rfl) ?_
  refine x_get F hK hW xc_X12 rd_d0 rd_0 8 (by decide) k_5_136 (gf_X12_8 _ _) dX12_ends_38 ?_
  refine lv_iload_n hx hb dX12_ends_41 rfl (lv_at hl 2 rfl) ?_
  refine lv_aload_n hx hb dX12_ends_42 rfl (lv_at hl 1 rfl) ?_
  refine lv_iload_n hx hb dX12_ends_43 rfl (lv_at hl 2 rfl) ?_
  refine lv_iload_n hx hb dX12_ends_44 rfl (lv_at hl 3 rfl) ?_
  refine x_cVi (As := [.int a1, .int a2]) F xG_ok hK hW hS um_X12_word k_6_149 (fun _ h1 => m_r_word hI _ _ h1) rfl rd_d0 rd_0 rfl rfl hl.1 rfl rfl ⟨Nat.le_of_ble_eq_true rfl, Nat.le_of_ble_eq_true rfl⟩ ⟨Nat.zero_le _, Nat.zero_le _⟩ (Nat.le_of_ble_eq_true rfl) dX12_ends_45 h (fun r_6 S6 H locs hW hS h => ?_)
  refine x_iast (t0 := 0) F hK hI hW hS rd_d9 rd_9 rfl dX12_ends_48 h (fun S7 H locs hW hS h => ?_)
  refine lv_goto (tgt := 59) hx hb dX12_ends_49 (by decide) ?_
  refine lv_iconst (v := (1 : Int32)) hx hb dX12_ends_59 (by decide) ?_
  exact x_zret F hr hlk hW hS rfl dX12_ends_60 h
/-! X12_fails -/
def r_fails  (S : xS) (a1 : Int32) (a2 : Int32) : Option (Int32 × xS) := if a2 = 0 then (some ((1 : Int32), S)) else (gd a1 8 (xnm (sI S 0 16 (a1).toNatClampNeg (vp_nar .boolean (1 : Int32))) (fun S2 => some ((1 : Int32), S2))))
set_option maxHeartbeats 4000000 in
set_option maxRecDepth 100000 in
theorem m_r_fails {l : Launch} {D : va_G} {cI cZ cB : ClassId} {ad : Nat → Nat → Nat} (hI : xInj rDom ad) {S : xS} (a1 : Int32) (a2 : Int32) {o : Int32 × xS} (h : r_fails  S a1 a2 = some o) : Met l yX12_fails (Cond.code yX12_fails cX12_fails 3 (some .boolean) :: xG) { frames := 0, cells := 0, slots := 0, locals := 0 } (xPc D vwCl (rTy cI cZ cB) [] [] rDom ad (rDe ad cI cZ cB) [.ref (ad 0 0), .int a1, .int a2] S) (xQ D vwCl rDom ad (rDe ad cI cZ cB) (some (.int o.1)) o.2) 0 0 (xA rDom ad) := by
  unfold r_fails at h
  refine x_enter (by decide) (Nat.le_of_ble_eq_true rfl) (fun p e s m below meth c F hr hlk hK hW hS ls hl => ?_)
  have hl : lv_has ls 3 [(0, .ref (ad 0 0)), (1, .int a1), (2, .int a2)] := hl
  have hx := F.1
  have hb := F.2.1
  refine lv_iload_n hx hb dX12_fails_0 rfl (lv_at hl 2 rfl) ?_
  refine lv_if_eq (tgt := 11) hx hb dX12_fails_1 (by decide) (fun c_1 => ?_) (fun c_1 => ?_)
  · replace h := (if_pos c_1).symm.trans h
    refine lv_iconst (v := (1 : Int32)) hx hb dX12_fails_11 (by decide) ?_
    exact x_zret F hr hlk hW hS rfl dX12_fails_12 h
  replace h := (if_neg c_1).symm.trans h
  refine lv_aload_n hx hb dX12_fails_4 rfl (lv_at hl 0 rfl) ?_
  refine x_get F hK hW xc_X12 rd_d0 rd_0 15 (by decide) k_5_143 (gf_X12_15 _ _) dX12_fails_5 ?_
  refine lv_iload_n hx hb dX12_fails_8 rfl (lv_at hl 1 rfl) ?_
  refine lv_iconst (v := (1 : Int32)) hx hb dX12_fails_9 (by decide) ?_
  refine x_zast (t0 := 1) F hK hI hW hS rd_d16 rd_16 rfl dX12_fails_10 h (fun S2 H locs hW hS h => ?_)
  refine lv_iconst (v := (1 : Int32)) hx hb dX12_fails_11 (by decide) ?_
  exact x_zret F hr hlk hW hS rfl dX12_fails_12 h
/-! X12_pair -/
def r_pair  (S : xS) (a1 : Int32) (a2 : Int64) : Option (Int32 × xS) := gd a1 8 (xnm (sI S 0 5 (a1).toNatClampNeg ((a2 &&& (65535 : Int64)).toInt32)) (fun S1 => gd a1 8 (xnm (sI S1 0 6 (a1).toNatClampNeg (((jlshr a2 (16 : Int32)) &&& (65535 : Int64)).toInt32)) (fun S2 => some ((1 : Int32), S2)))))
set_option maxHeartbeats 4000000 in
set_option maxRecDepth 100000 in
theorem m_r_pair {l : Launch} {D : va_G} {cI cZ cB : ClassId} {ad : Nat → Nat → Nat} (hI : xInj rDom ad) {S : xS} (a1 : Int32) (a2 : Int64) {o : Int32 × xS} (h : r_pair  S a1 a2 = some o) : Met l yX12_pair (Cond.code yX12_pair cX12_pair 4 (some .boolean) :: xG) { frames := 0, cells := 0, slots := 0, locals := 0 } (xPc D vwCl (rTy cI cZ cB) [] [] rDom ad (rDe ad cI cZ cB) [.ref (ad 0 0), .int a1, .long a2] S) (xQ D vwCl rDom ad (rDe ad cI cZ cB) (some (.int o.1)) o.2) 0 0 (xA rDom ad) := by
  unfold r_pair at h
  refine x_enter (by decide) (Nat.le_of_ble_eq_true rfl) (fun p e s m below meth c F hr hlk hK hW hS ls hl => ?_)
  have hl : lv_has ls 4 [(0, .ref (ad 0 0)), (1, .int a1), (2, .long a2)] := hl
  have hx := F.1
  have hb := F.2.1
  refine lv_aload_n hx hb dX12_pair_0 rfl (lv_at hl 0 rfl) ?_
  refine x_get F hK hW xc_X12 rd_d0 rd_0 4 (by decide) k_5_132 (gf_X12_4 _ _) dX12_pair_1 ?_
  refine lv_iload_n hx hb dX12_pair_4 rfl (lv_at hl 1 rfl) ?_
  refine lv_lload_n hx hb dX12_pair_5 rfl (lv_at hl 2 rfl) ?_
  refine lv_ldc2 (v := (65535 : Int64)) hx hb F.2.2.2.1 (x_hts F _ k_7_101) dX12_pair_6 ?_
  refine lv_land hx hb dX12_pair_9 ?_
  refine lv_l2i (v := (a2 &&& (65535 : Int64)).toInt32) hx hb dX12_pair_10 rfl ?_
  refine x_iast (t0 := 0) F hK hI hW hS rd_d5 rd_5 rfl dX12_pair_11 h (fun S1 H locs hW hS h => ?_)
  refine lv_aload_n hx hb dX12_pair_12 rfl (lv_at hl 0 rfl) ?_
  refine x_get F hK hW xc_X12 rd_d0 rd_0 5 (by decide) k_5_133 (gf_X12_5 _ _) dX12_pair_13 ?_
  refine lv_iload_n hx hb dX12_pair_16 rfl (lv_at hl 1 rfl) ?_
  refine lv_lload_n hx hb dX12_pair_17 rfl (lv_at hl 2 rfl) ?_
  refine lv_bipush (v := (16 : Int32)) hx hb dX12_pair_18 (by decide) ?_
  refine lv_lshr (v := (jlshr a2 (16 : Int32))) hx hb dX12_pair_20 rfl ?_
  refine lv_ldc2 (v := (65535 : Int64)) hx hb F.2.2.2.1 (x_hts F _ k_7_101) dX12_pair_21 ?_
  refine lv_land hx hb dX12_pair_24 ?_
  refine lv_l2i (v := ((jlshr a2 (16 : Int32)) &&& (65535 : Int64)).toInt32) hx hb dX12_pair_25 rfl ?_
  refine x_iast (t0 := 0) F hK hI hW hS rd_d6 rd_6 rfl dX12_pair_26 h (fun S2 H locs hW hS h => ?_)
  refine lv_iconst (v := (1 : Int32)) hx hb dX12_pair_27 (by decide) ?_
  exact x_zret F hr hlk hW hS rfl dX12_pair_28 h
/-! X12_norm -/
def r_norm_b37 (v1 : Int32) (v4 : Int64) (v6 : Int32) (S : xS) : Option (Int32 × xS) := gd v1 8 (xnm (sI S 0 7 (v1).toNatClampNeg v6) (fun S2 => (r_pair  S2 v1 v4).bind (fun (r_3, S3) => gz r_3 (some (r_3, S3)))))
set_option maxHeartbeats 4000000 in
set_option maxRecDepth 100000 in
theorem m_r_norm_b37 {l : Launch} {D : va_G} {cI cZ cB : ClassId} {ad : Nat → Nat → Nat} (hI : xInj rDom ad) {p : Program} {e : Env} {s : State} {m : MethodId} {args : Array Value} {below : List Frame} {meth : Method} {c : Code} (F : CallFix p m c cX12_norm 7 s args (Cond.code yX12_norm cX12_norm 7 (some .boolean) :: xG) (yX12_norm).cls) (hr : meth.sig.returnType = (some .boolean)) (hlk : meth.locks = false) (hK : xK D vwCl (rTy cI cZ cB) [] [] s) {o : Int32 × xS} (v1 : Int32) (v4 : Int64) (v6 : Int32) (S : xS) {H : Heap} {locs : List Loc} {ls : Array Slot} (h : r_norm_b37 v1 v4 v6 S = some o) (hW : xW D vwCl rDom ad (rDe ad cI cZ cB) S H) (hS : va_S (xA rDom ad) s.heap H locs) (hl : lv_has ls 7 [(0, .ref (ad 0 0)), (1, .int v1), (4, .long v4), (6, .int v6)]) : W p l e { frames := 1, cells := 0, slots := 0, locals := 23 } s m args below meth c H locs 0 0 (MQ below (xQ D vwCl rDom ad (rDe ad cI cZ cB) (some (.int o.1)) o.2) args s 0 0 (xA rDom ad)) (F0 m 37 ls []) := by
  have hx := F.1
  have hb := F.2.1
  unfold r_norm_b37 at h
  refine lv_aload_n hx hb dX12_norm_37 rfl (lv_at hl 0 rfl) ?_
  refine x_get F hK hW xc_X12 rd_d0 rd_0 6 (by decide) k_5_134 (gf_X12_6 _ _) dX12_norm_38 ?_
  refine lv_iload_n hx hb dX12_norm_41 rfl (lv_at hl 1 rfl) ?_
  refine lv_iload hx hb dX12_norm_42 (lv_at hl 3 rfl) ?_
  refine x_iast (t0 := 0) F hK hI hW hS rd_d7 rd_7 rfl dX12_norm_44 h (fun S2 H locs hW hS h => ?_)
  refine lv_aload_n hx hb dX12_norm_45 rfl (lv_at hl 0 rfl) ?_
  refine lv_iload_n hx hb dX12_norm_46 rfl (lv_at hl 1 rfl) ?_
  refine lv_lload hx hb dX12_norm_47 (lv_at hl 2 rfl) ?_
  refine x_cVi (As := [.int v1, .long v4]) F xG_ok hK hW hS um_X12_pair k_7_97 (fun _ h1 => m_r_pair hI _ _ h1) rfl rd_d0 rd_0 rfl rfl hl.1 rfl rfl ⟨Nat.le_of_ble_eq_true rfl, Nat.le_of_ble_eq_true rfl⟩ ⟨Nat.zero_le _, Nat.zero_le _⟩ (Nat.le_of_ble_eq_true rfl) dX12_norm_49 h (fun r_3 S3 H locs hW hS h => ?_)
  obtain ⟨hz, h⟩ := gz_use h
  exact x_zret F hr hlk hW hS (z_nar hz) dX12_norm_52 h
def r_norm_b6 : Nat → Int32 → Int64 → Int32 → xS → Option (Int32 × xS)
  | 0, _, _, _, _ => none
  | fu + 1, v1, v4, v6, S => if (32 : Int32) ≤ v6 then (r_norm_b37  v1 v4 v6 S) else (if (lg_cmp ((jlshr v4 (31 : Int32)) &&& (1 : Int64)) (0 : Int64)) = 0 then ((r_norm_b6 fu) v1 (jlshl v4 (1 : Int32)) (v6 + (1 : Int32)) S) else (r_norm_b37  v1 v4 v6 S))
set_option maxHeartbeats 4000000 in
set_option maxRecDepth 100000 in
theorem m_r_norm_b6 {l : Launch} {D : va_G} {cI cZ cB : ClassId} {ad : Nat → Nat → Nat} (hI : xInj rDom ad) {p : Program} {e : Env} {s : State} {m : MethodId} {args : Array Value} {below : List Frame} {meth : Method} {c : Code} (F : CallFix p m c cX12_norm 7 s args (Cond.code yX12_norm cX12_norm 7 (some .boolean) :: xG) (yX12_norm).cls) (hr : meth.sig.returnType = (some .boolean)) (hlk : meth.locks = false) (hK : xK D vwCl (rTy cI cZ cB) [] [] s) {o : Int32 × xS} : ∀ (fu : Nat) (v1 : Int32) (v4 : Int64) (v6 : Int32) (S : xS) {H : Heap} {locs : List Loc} {ls : Array Slot}, r_norm_b6 fu v1 v4 v6 S = some o → xW D vwCl rDom ad (rDe ad cI cZ cB) S H → va_S (xA rDom ad) s.heap H locs → lv_has ls 7 [(0, .ref (ad 0 0)), (1, .int v1), (4, .long v4), (6, .int v6)] → W p l e { frames := 1, cells := 0, slots := 0, locals := 23 } s m args below meth c H locs 0 0 (MQ below (xQ D vwCl rDom ad (rDe ad cI cZ cB) (some (.int o.1)) o.2) args s 0 0 (xA rDom ad)) (F0 m 6 ls []) := by
  have hx := F.1
  have hb := F.2.1
  intro fu
  induction fu with
  | zero =>
    intro v1 v4 v6 S H locs ls h
    simp [r_norm_b6] at h
  | succ fu ih =>
    intro v1 v4 v6 S H locs ls h hW hS hl
    have hk6 := fun v1 v4 v6 S H locs ls (h : r_norm_b6 fu v1 v4 v6 S = some o) hW hS hl => ih v1 v4 v6 S (H := H) (locs := locs) (ls := ls) h hW hS hl
    rw [r_norm_b6] at h
    refine lv_iload hx hb dX12_norm_6 (lv_at hl 3 rfl) ?_
    refine lv_bipush (v := (32 : Int32)) hx hb dX12_norm_8 (by decide) ?_
    refine lv_icmp_ge (tgt := 37) hx hb dX12_norm_10 (by decide) (fun c_1 => ?_) (fun c_1 => ?_)
    · replace h := (if_pos c_1).symm.trans h
      exact m_r_norm_b37 hI  F hr hlk hK _ _ _ _ h hW hS (lv_sub hl [0, 1, 2, 3] rfl)
    replace h := (if_neg c_1).symm.trans h
    refine lv_lload hx hb dX12_norm_13 (lv_at hl 2 rfl) ?_
    refine lv_bipush (v := (31 : Int32)) hx hb dX12_norm_15 (by decide) ?_
    refine lv_lshr (v := (jlshr v4 (31 : Int32))) hx hb dX12_norm_17 rfl ?_
    refine lv_lconst (v := (1 : Int64)) hx hb dX12_norm_18 (by decide) ?_
    refine lv_land hx hb dX12_norm_19 ?_
    refine lv_lconst (v := (0 : Int64)) hx hb dX12_norm_20 (by decide) ?_
    refine W.lcmp hx hb dX12_norm_21 ?_
    refine lv_if_ne (tgt := 37) hx hb dX12_norm_22 (by decide) (fun c_4 => ?_) (fun c_4 => ?_)
    · replace h := (if_neg c_4).symm.trans h
      exact m_r_norm_b37 hI  F hr hlk hK _ _ _ _ h hW hS (lv_sub hl [0, 1, 2, 3] rfl)
    replace h := (if_pos c_4).symm.trans h
    refine lv_lload hx hb dX12_norm_25 (lv_at hl 2 rfl) ?_
    refine lv_iconst (v := (1 : Int32)) hx hb dX12_norm_27 (by decide) ?_
    refine lv_lshl (v := (jlshl v4 (1 : Int32))) hx hb dX12_norm_28 rfl ?_
    refine lv_lstore (lv' := [(4, .long (jlshl v4 (1 : Int32))), (0, .ref (ad 0 0)), (1, .int v1), (6, .int v6)]) hx hb dX12_norm_29 hl (by decide) rfl (fun ls hl => ?_)
    refine lv_iinc (v := (v6 + (1 : Int32))) (lv' := [(6, .int (v6 + (1 : Int32))), (4, .long (jlshl v4 (1 : Int32))), (0, .ref (ad 0 0)), (1, .int v1)]) hx hb dX12_norm_31 hl (k := 3) rfl rfl (by decide) rfl (fun ls hl => ?_)
    refine lv_goto (tgt := 6) hx hb dX12_norm_34 (by decide) ?_
    exact hk6 _ _ _ _ _ _ _ h hW hS (lv_sub hl [2, 3, 1, 0] rfl)
def r_norm  (S : xS) (a1 : Int32) (a2 : Int64) : Option (Int32 × xS) := r_norm_b6  (100000) a1 a2 (0 : Int32) S
set_option maxHeartbeats 4000000 in
set_option maxRecDepth 100000 in
theorem m_r_norm {l : Launch} {D : va_G} {cI cZ cB : ClassId} {ad : Nat → Nat → Nat} (hI : xInj rDom ad) {S : xS} (a1 : Int32) (a2 : Int64) {o : Int32 × xS} (h : r_norm  S a1 a2 = some o) : Met l yX12_norm (Cond.code yX12_norm cX12_norm 7 (some .boolean) :: xG) { frames := 1, cells := 0, slots := 0, locals := 23 } (xPc D vwCl (rTy cI cZ cB) [] [] rDom ad (rDe ad cI cZ cB) [.ref (ad 0 0), .int a1, .long a2] S) (xQ D vwCl rDom ad (rDe ad cI cZ cB) (some (.int o.1)) o.2) 0 0 (xA rDom ad) := by
  unfold r_norm at h
  refine x_enter (by decide) (Nat.le_of_ble_eq_true rfl) (fun p e s m below meth c F hr hlk hK hW hS ls hl => ?_)
  have hl : lv_has ls 7 [(0, .ref (ad 0 0)), (1, .int a1), (2, .long a2)] := hl
  have hx := F.1
  have hb := F.2.1
  refine lv_lload_n hx hb dX12_norm_0 rfl (lv_at hl 2 rfl) ?_
  refine lv_lstore (lv' := [(4, .long a2), (0, .ref (ad 0 0)), (1, .int a1), (2, .long a2)]) hx hb dX12_norm_1 hl (by decide) rfl (fun ls hl => ?_)
  refine lv_iconst (v := (0 : Int32)) hx hb dX12_norm_3 (by decide) ?_
  refine lv_istore (lv' := [(6, .int (0 : Int32)), (4, .long a2), (0, .ref (ad 0 0)), (1, .int a1), (2, .long a2)]) hx hb dX12_norm_4 hl (by decide) rfl (fun ls hl => ?_)
  exact m_r_norm_b6 hI  F hr hlk hK (100000) _ _ _ _ h hW hS (lv_sub hl [2, 3, 1, 0] rfl)
/-! X12_loops -/
def r_loops  (S : xS) (a1 : Int32) (a2 : Int32) (a3 : Int32) : Option (Int32 × xS) := (r_word  S a1 (a3 + (2 : Int32))).bind (fun (r_1, S1) => (r_wordTo  S1 a1 (a3 + (2 : Int32)) ((r_1 - (1 : Int32)) &&& (65535 : Int32))).bind (fun S2 => (r_signed ((r_1 - (1 : Int32)) &&& (65535 : Int32))).bind (fun r_3 => if (1 : Int32) ≤ r_3 then ((r_word  S2 a1 a3).bind (fun (r_5, S5) => (r_wordTo  S5 a1 a3 (r_5 + (1 : Int32))).bind (fun S6 => gd a1 8 (gd a1 8 (xnm (sI S6 0 9 (a1).toNatClampNeg (((xI S6 0 9 (a1).toNatClampNeg) - a2) &&& (65535 : Int32))) (fun S7 => (r_popped  S7 a1 (2 : Int32)).bind (fun (r_8, S8) => (r_sliced  S8 a1).bind (fun S9 => some ((1 : Int32), S9))))))))) else ((r_popped  S2 a1 (2 : Int32)).bind (fun (r_10, S10) => gz r_10 (some (r_10, S10)))))))
set_option maxHeartbeats 4000000 in
set_option maxRecDepth 100000 in
theorem m_r_loops {l : Launch} {D : va_G} {cI cZ cB : ClassId} {ad : Nat → Nat → Nat} (hI : xInj rDom ad) {S : xS} (a1 : Int32) (a2 : Int32) (a3 : Int32) {o : Int32 × xS} (h : r_loops  S a1 a2 a3 = some o) : Met l yX12_loops (Cond.code yX12_loops cX12_loops 5 (some .boolean) :: xG) { frames := 4, cells := 0, slots := 0, locals := 93 } (xPc D vwCl (rTy cI cZ cB) [] [] rDom ad (rDe ad cI cZ cB) [.ref (ad 0 0), .int a1, .int a2, .int a3] S) (xQ D vwCl rDom ad (rDe ad cI cZ cB) (some (.int o.1)) o.2) 0 0 (xA rDom ad) := by
  unfold r_loops at h
  refine x_enter (by decide) (Nat.le_of_ble_eq_true rfl) (fun p e s m below meth c F hr hlk hK hW hS ls hl => ?_)
  have hl : lv_has ls 5 [(0, .ref (ad 0 0)), (1, .int a1), (2, .int a2), (3, .int a3)] := hl
  have hx := F.1
  have hb := F.2.1
  refine lv_aload_n hx hb dX12_loops_0 rfl (lv_at hl 0 rfl) ?_
  refine lv_iload_n hx hb dX12_loops_1 rfl (lv_at hl 1 rfl) ?_
  refine lv_iload_n hx hb dX12_loops_2 rfl (lv_at hl 3 rfl) ?_
  refine lv_iconst (v := (2 : Int32)) hx hb dX12_loops_3 (by decide) ?_
  refine lv_iadd hx hb dX12_loops_4 ?_
  refine x_cVi (As := [.int a1, .int (a3 + (2 : Int32))]) F xG_ok hK hW hS um_X12_word k_6_149 (fun _ h1 => m_r_word hI _ _ h1) rfl rd_d0 rd_0 rfl rfl hl.1 rfl rfl ⟨Nat.le_of_ble_eq_true rfl, Nat.le_of_ble_eq_true rfl⟩ ⟨Nat.zero_le _, Nat.zero_le _⟩ (Nat.le_of_ble_eq_true rfl) dX12_loops_5 h (fun r_1 S1 H locs hW hS h => ?_)
  refine lv_iconst (v := (1 : Int32)) hx hb dX12_loops_8 (by decide) ?_
  refine lv_isub hx hb dX12_loops_9 ?_
  refine lv_ldc (v := (65535 : Int32)) hx hb F.2.2.2.1 (x_hts F _ k_6_102) dX12_loops_10 ?_
  refine lv_iand hx hb dX12_loops_12 ?_
  refine lv_istore (lv' := [(4, .int ((r_1 - (1 : Int32)) &&& (65535 : Int32))), (0, .ref (ad 0 0)), (1, .int a1), (2, .int a2), (3, .int a3)]) hx hb dX12_loops_13 hl (by decide) rfl (fun ls hl => ?_)
  refine lv_aload_n hx hb dX12_loops_15 rfl (lv_at hl 1 rfl) ?_
  refine lv_iload_n hx hb dX12_loops_16 rfl (lv_at hl 2 rfl) ?_
  refine lv_iload_n hx hb dX12_loops_17 rfl (lv_at hl 4 rfl) ?_
  refine lv_iconst (v := (2 : Int32)) hx hb dX12_loops_18 (by decide) ?_
  refine lv_iadd hx hb dX12_loops_19 ?_
  refine lv_iload hx hb dX12_loops_20 (lv_at hl 0 rfl) ?_
  refine x_cVv (As := [.int a1, .int (a3 + (2 : Int32)), .int ((r_1 - (1 : Int32)) &&& (65535 : Int32))]) F xG_ok hK hW hS um_X12_wordTo k_6_137 (fun _ h1 => m_r_wordTo hI _ _ _ h1) rfl rd_d0 rd_0 rfl rfl hl.1 rfl rfl ⟨Nat.le_of_ble_eq_true rfl, Nat.le_of_ble_eq_true rfl⟩ ⟨Nat.zero_le _, Nat.zero_le _⟩ (Nat.le_of_ble_eq_true rfl) dX12_loops_22 h (fun S2 H locs hW hS h => ?_)
  refine lv_iload hx hb dX12_loops_25 (lv_at hl 0 rfl) ?_
  refine x_cSo (As := [.int ((r_1 - (1 : Int32)) &&& (65535 : Int32))]) F xG_ok hS um_X12_signed k_6_180 (fun _ h1 => m_r_signed _ h1) rfl rfl hl.1 rfl rfl ⟨Nat.le_of_ble_eq_true rfl, Nat.le_of_ble_eq_true rfl⟩ ⟨Nat.zero_le _, Nat.zero_le _⟩ (Nat.le_of_ble_eq_true rfl) dX12_loops_27 h (fun r_3 locs hS h => ?_)
  refine lv_iconst (v := (1 : Int32)) hx hb dX12_loops_30 (by decide) ?_
  refine lv_icmp_ge (tgt := 41) hx hb dX12_loops_31 (by decide) (fun c_4 => ?_) (fun c_4 => ?_)
  · replace h := (if_pos c_4).symm.trans h
    refine lv_aload_n hx hb dX12_loops_41 rfl (lv_at hl 1 rfl) ?_
    refine lv_iload_n hx hb dX12_loops_42 rfl (lv_at hl 2 rfl) ?_
    refine lv_iload_n hx hb dX12_loops_43 rfl (lv_at hl 4 rfl) ?_
    refine lv_aload_n hx hb dX12_loops_44 rfl (lv_at hl 1 rfl) ?_
    refine lv_iload_n hx hb dX12_loops_45 rfl (lv_at hl 2 rfl) ?_
    refine lv_iload_n hx hb dX12_loops_46 rfl (lv_at hl 4 rfl) ?_
    refine x_cVi (As := [.int a1, .int a3]) F xG_ok hK hW hS um_X12_word k_6_149 (fun _ h1 => m_r_word hI _ _ h1) rfl rd_d0 rd_0 rfl rfl hl.1 rfl rfl ⟨Nat.le_of_ble_eq_true rfl, Nat.le_of_ble_eq_true rfl⟩ ⟨Nat.zero_le _, Nat.zero_le _⟩ (Nat.le_of_ble_eq_true rfl) dX12_loops_47 h (fun r_5 S5 H locs hW hS h => ?_)
    refine lv_iconst (v := (1 : Int32)) hx hb dX12_loops_50 (by decide) ?_
    refine lv_iadd hx hb dX12_loops_51 ?_
    refine x_cVv (As := [.int a1, .int a3, .int (r_5 + (1 : Int32))]) F xG_ok hK hW hS um_X12_wordTo k_6_137 (fun _ h1 => m_r_wordTo hI _ _ _ h1) rfl rd_d0 rd_0 rfl rfl hl.1 rfl rfl ⟨Nat.le_of_ble_eq_true rfl, Nat.le_of_ble_eq_true rfl⟩ ⟨Nat.zero_le _, Nat.zero_le _⟩ (Nat.le_of_ble_eq_true rfl) dX12_loops_52 h (fun S6 H locs hW hS h => ?_)
    refine lv_aload_n hx hb dX12_loops_55 rfl (lv_at hl 1 rfl) ?_
    refine x_get F hK hW xc_X12 rd_d0 rd_0 8 (by decide) k_5_136 (gf_X12_8 _ _) dX12_loops_56 ?_
    refine lv_iload_n hx hb dX12_loops_59 rfl (lv_at hl 2 rfl) ?_
    refine lv_aload_n hx hb dX12_loops_60 rfl (lv_at hl 1 rfl) ?_
    refine x_get F hK hW xc_X12 rd_d0 rd_0 8 (by decide) k_5_136 (gf_X12_8 _ _) dX12_loops_61 ?_
    refine lv_iload_n hx hb dX12_loops_64 rfl (lv_at hl 2 rfl) ?_
    refine x_iald (t0 := 0) F hK hW rd_d9 rd_9 rfl dX12_loops_65 h (fun h => ?_)
    refine lv_iload_n hx hb dX12_loops_66 rfl (lv_at hl 3 rfl) ?_
    refine lv_isub hx hb dX12_loops_67 ?_
    refine lv_ldc (v := (65535 : Int32)) hx hb F.2.2.2.1 (x_hts F _ k_6_102) dX12_loops_68 ?_
    refine lv_iand hx hb dX12_loops_70 ?_
    refine x_iast (t0 := 0) F hK hI hW hS rd_d9 rd_9 rfl dX12_loops_71 h (fun S7 H locs hW hS h => ?_)
    refine lv_aload_n hx hb dX12_loops_72 rfl (lv_at hl 1 rfl) ?_
    refine lv_iload_n hx hb dX12_loops_73 rfl (lv_at hl 2 rfl) ?_
    refine lv_iconst (v := (2 : Int32)) hx hb dX12_loops_74 (by decide) ?_
    refine x_cVi (As := [.int a1, .int (2 : Int32)]) F xG_ok hK hW hS um_X12_popped k_7_13 (fun _ h1 => m_r_popped hI _ _ h1) rfl rd_d0 rd_0 rfl rfl hl.1 rfl rfl ⟨Nat.le_of_ble_eq_true rfl, Nat.le_of_ble_eq_true rfl⟩ ⟨Nat.zero_le _, Nat.zero_le _⟩ (Nat.le_of_ble_eq_true rfl) dX12_loops_75 h (fun r_8 S8 H locs hW hS h => ?_)
    refine lv_pop hx hb dX12_loops_78 rfl ?_
    refine lv_aload_n hx hb dX12_loops_79 rfl (lv_at hl 1 rfl) ?_
    refine lv_iload_n hx hb dX12_loops_80 rfl (lv_at hl 2 rfl) ?_
    refine x_cVv (As := [.int a1]) F xG_ok hK hW hS um_X12_sliced k_7_110 (fun _ h1 => m_r_sliced hI _ h1) rfl rd_d0 rd_0 rfl rfl hl.1 rfl rfl ⟨Nat.le_of_ble_eq_true rfl, Nat.le_of_ble_eq_true rfl⟩ ⟨Nat.zero_le _, Nat.zero_le _⟩ (Nat.le_of_ble_eq_true rfl) dX12_loops_81 h (fun S9 H locs hW hS h => ?_)
    refine lv_iconst (v := (1 : Int32)) hx hb dX12_loops_84 (by decide) ?_
    exact x_zret F hr hlk hW hS rfl dX12_loops_85 h
  replace h := (if_neg c_4).symm.trans h
  refine lv_aload_n hx hb dX12_loops_34 rfl (lv_at hl 1 rfl) ?_
  refine lv_iload_n hx hb dX12_loops_35 rfl (lv_at hl 2 rfl) ?_
  refine lv_iconst (v := (2 : Int32)) hx hb dX12_loops_36 (by decide) ?_
  refine x_cVi (As := [.int a1, .int (2 : Int32)]) F xG_ok hK hW hS um_X12_popped k_7_13 (fun _ h1 => m_r_popped hI _ _ h1) rfl rd_d0 rd_0 rfl rfl hl.1 rfl rfl ⟨Nat.le_of_ble_eq_true rfl, Nat.le_of_ble_eq_true rfl⟩ ⟨Nat.zero_le _, Nat.zero_le _⟩ (Nat.le_of_ble_eq_true rfl) dX12_loops_37 h (fun r_10 S10 H locs hW hS h => ?_)
  obtain ⟨hz, h⟩ := gz_use h
  exact x_zret F hr hlk hW hS (z_nar hz) dX12_loops_40 h
/-! X12_sums -/
def r_sums_b83 (K2 : Int32 → Int32 → Int32 → xS → Option (Int32 × xS)) (v1 : Int32) (v2 : Int32) (v3 : Int32) (S : xS) : Option (Int32 × xS) := K2 v1 v2 (v3 + (1 : Int32)) S
set_option maxHeartbeats 4000000 in
set_option maxRecDepth 100000 in
theorem m_r_sums_b83 {l : Launch} {D : va_G} {cI cZ cB : ClassId} {ad : Nat → Nat → Nat} (hI : xInj rDom ad) {p : Program} {e : Env} {s : State} {m : MethodId} {args : Array Value} {below : List Frame} {meth : Method} {c : Code} (F : CallFix p m c cX12_sums 5 s args (Cond.code yX12_sums cX12_sums 5 (some .boolean) :: xG) (yX12_sums).cls) (hr : meth.sig.returnType = (some .boolean)) (hlk : meth.locks = false) (hK : xK D vwCl (rTy cI cZ cB) [] [] s) {o : Int32 × xS} {K2 : Int32 → Int32 → Int32 → xS → Option (Int32 × xS)} (hk2 : ∀ (v1 : Int32) (v2 : Int32) (v3 : Int32) (S : xS) (H : Heap) (locs : List Loc) (ls : Array Slot), K2 v1 v2 v3 S = some o → xW D vwCl rDom ad (rDe ad cI cZ cB) S H → va_S (xA rDom ad) s.heap H locs → lv_has ls 5 [(0, .ref (ad 0 0)), (1, .int v1), (2, .int v2), (3, .int v3)] → W p l e { frames := 0, cells := 0, slots := 0, locals := 0 } s m args below meth c H locs 0 0 (MQ below (xQ D vwCl rDom ad (rDe ad cI cZ cB) (some (.int o.1)) o.2) args s 0 0 (xA rDom ad)) (F0 m 2 ls [])) (v1 : Int32) (v2 : Int32) (v3 : Int32) (S : xS) {H : Heap} {locs : List Loc} {ls : Array Slot} (h : r_sums_b83 K2 v1 v2 v3 S = some o) (hW : xW D vwCl rDom ad (rDe ad cI cZ cB) S H) (hS : va_S (xA rDom ad) s.heap H locs) (hl : lv_has ls 5 [(0, .ref (ad 0 0)), (1, .int v1), (2, .int v2), (3, .int v3)]) : W p l e { frames := 0, cells := 0, slots := 0, locals := 0 } s m args below meth c H locs 0 0 (MQ below (xQ D vwCl rDom ad (rDe ad cI cZ cB) (some (.int o.1)) o.2) args s 0 0 (xA rDom ad)) (F0 m 83 ls []) := by
  have hx := F.1
  have hb := F.2.1
  unfold r_sums_b83 at h
  refine lv_iinc (v := (v3 + (1 : Int32))) (lv' := [(3, .int (v3 + (1 : Int32))), (0, .ref (ad 0 0)), (1, .int v1), (2, .int v2)]) hx hb dX12_sums_83 hl (k := 3) rfl rfl (by decide) rfl (fun ls hl => ?_)
  refine lv_goto (tgt := 2) hx hb dX12_sums_86 (by decide) ?_
  exact hk2 _ _ _ _ _ _ _ h hW hS (lv_sub hl [1, 2, 3, 0] rfl)
def r_sums_b2 : Nat → Int32 → Int32 → Int32 → xS → Option (Int32 × xS)
  | 0, _, _, _, _ => none
  | fu + 1, v1, v2, v3, S => if v2 ≤ v3 then (gd v1 8 (gd v1 8 (xnm (sI S 0 5 (v1).toNatClampNeg (xI S 0 6 (v1).toNatClampNeg)) (fun S2 => gd v1 8 (gd v1 8 (xnm (sI S2 0 6 (v1).toNatClampNeg (xI S2 0 7 (v1).toNatClampNeg)) (fun S3 => some ((1 : Int32), S3)))))))) else (gd v1 8 (gd v1 8 (gd v1 8 (gd v1 8 (xnm (sI S 0 6 (v1).toNatClampNeg ((((xI S 0 6 (v1).toNatClampNeg) <<< ((1 : Int32) &&& 31)) ||| ((xI S 0 5 (v1).toNatClampNeg) >>> ((15 : Int32) &&& 31))) &&& (65535 : Int32))) (fun S4 => gd v1 8 (gd v1 8 (xnm (sI S4 0 5 (v1).toNatClampNeg (((xI S4 0 5 (v1).toNatClampNeg) <<< ((1 : Int32) &&& 31)) &&& (65535 : Int32))) (fun S5 => if ((xI S 0 6 (v1).toNatClampNeg) >>> ((15 : Int32) &&& 31)) = (1 : Int32) then (gd v1 8 (gd v1 8 (gd v1 8 (xnm (sI S5 0 6 (v1).toNatClampNeg ((xI S5 0 6 (v1).toNatClampNeg) ^^^ (xI S5 0 7 (v1).toNatClampNeg))) (fun S7 => r_sums_b83  (r_sums_b2 fu) v1 v2 v3 S7))))) else (r_sums_b83  (r_sums_b2 fu) v1 v2 v3 S5))))))))))
set_option maxHeartbeats 4000000 in
set_option maxRecDepth 100000 in
theorem m_r_sums_b2 {l : Launch} {D : va_G} {cI cZ cB : ClassId} {ad : Nat → Nat → Nat} (hI : xInj rDom ad) {p : Program} {e : Env} {s : State} {m : MethodId} {args : Array Value} {below : List Frame} {meth : Method} {c : Code} (F : CallFix p m c cX12_sums 5 s args (Cond.code yX12_sums cX12_sums 5 (some .boolean) :: xG) (yX12_sums).cls) (hr : meth.sig.returnType = (some .boolean)) (hlk : meth.locks = false) (hK : xK D vwCl (rTy cI cZ cB) [] [] s) {o : Int32 × xS} : ∀ (fu : Nat) (v1 : Int32) (v2 : Int32) (v3 : Int32) (S : xS) {H : Heap} {locs : List Loc} {ls : Array Slot}, r_sums_b2 fu v1 v2 v3 S = some o → xW D vwCl rDom ad (rDe ad cI cZ cB) S H → va_S (xA rDom ad) s.heap H locs → lv_has ls 5 [(0, .ref (ad 0 0)), (1, .int v1), (2, .int v2), (3, .int v3)] → W p l e { frames := 0, cells := 0, slots := 0, locals := 0 } s m args below meth c H locs 0 0 (MQ below (xQ D vwCl rDom ad (rDe ad cI cZ cB) (some (.int o.1)) o.2) args s 0 0 (xA rDom ad)) (F0 m 2 ls []) := by
  have hx := F.1
  have hb := F.2.1
  intro fu
  induction fu with
  | zero =>
    intro v1 v2 v3 S H locs ls h
    simp [r_sums_b2] at h
  | succ fu ih =>
    intro v1 v2 v3 S H locs ls h hW hS hl
    have hk2 := fun v1 v2 v3 S H locs ls (h : r_sums_b2 fu v1 v2 v3 S = some o) hW hS hl => ih v1 v2 v3 S (H := H) (locs := locs) (ls := ls) h hW hS hl
    rw [r_sums_b2] at h
    refine lv_iload_n hx hb dX12_sums_2 rfl (lv_at hl 3 rfl) ?_
    refine lv_iload_n hx hb dX12_sums_3 rfl (lv_at hl 2 rfl) ?_
    refine lv_icmp_ge (tgt := 89) hx hb dX12_sums_4 (by decide) (fun c_1 => ?_) (fun c_1 => ?_)
    · replace h := (if_pos c_1).symm.trans h
      refine lv_aload_n hx hb dX12_sums_89 rfl (lv_at hl 0 rfl) ?_
      refine x_get F hK hW xc_X12 rd_d0 rd_0 4 (by decide) k_5_132 (gf_X12_4 _ _) dX12_sums_90 ?_
      refine lv_iload_n hx hb dX12_sums_93 rfl (lv_at hl 1 rfl) ?_
      refine lv_aload_n hx hb dX12_sums_94 rfl (lv_at hl 0 rfl) ?_
      refine x_get F hK hW xc_X12 rd_d0 rd_0 5 (by decide) k_5_133 (gf_X12_5 _ _) dX12_sums_95 ?_
      refine lv_iload_n hx hb dX12_sums_98 rfl (lv_at hl 1 rfl) ?_
      refine x_iald (t0 := 0) F hK hW rd_d6 rd_6 rfl dX12_sums_99 h (fun h => ?_)
      refine x_iast (t0 := 0) F hK hI hW hS rd_d5 rd_5 rfl dX12_sums_100 h (fun S2 H locs hW hS h => ?_)
      refine lv_aload_n hx hb dX12_sums_101 rfl (lv_at hl 0 rfl) ?_
      refine x_get F hK hW xc_X12 rd_d0 rd_0 5 (by decide) k_5_133 (gf_X12_5 _ _) dX12_sums_102 ?_
      refine lv_iload_n hx hb dX12_sums_105 rfl (lv_at hl 1 rfl) ?_
      refine lv_aload_n hx hb dX12_sums_106 rfl (lv_at hl 0 rfl) ?_
      refine x_get F hK hW xc_X12 rd_d0 rd_0 6 (by decide) k_5_134 (gf_X12_6 _ _) dX12_sums_107 ?_
      refine lv_iload_n hx hb dX12_sums_110 rfl (lv_at hl 1 rfl) ?_
      refine x_iald (t0 := 0) F hK hW rd_d7 rd_7 rfl dX12_sums_111 h (fun h => ?_)
      refine x_iast (t0 := 0) F hK hI hW hS rd_d6 rd_6 rfl dX12_sums_112 h (fun S3 H locs hW hS h => ?_)
      refine lv_iconst (v := (1 : Int32)) hx hb dX12_sums_113 (by decide) ?_
      exact x_zret F hr hlk hW hS rfl dX12_sums_114 h
    replace h := (if_neg c_1).symm.trans h
    refine lv_aload_n hx hb dX12_sums_7 rfl (lv_at hl 0 rfl) ?_
    refine x_get F hK hW xc_X12 rd_d0 rd_0 5 (by decide) k_5_133 (gf_X12_5 _ _) dX12_sums_8 ?_
    refine lv_iload_n hx hb dX12_sums_11 rfl (lv_at hl 1 rfl) ?_
    refine x_iald (t0 := 0) F hK hW rd_d6 rd_6 rfl dX12_sums_12 h (fun h => ?_)
    refine lv_bipush (v := (15 : Int32)) hx hb dX12_sums_13 (by decide) ?_
    refine lv_ishr hx hb dX12_sums_15 ?_
    refine lv_istore (lv' := [(4, .int ((xI S 0 6 (v1).toNatClampNeg) >>> ((15 : Int32) &&& 31))), (0, .ref (ad 0 0)), (1, .int v1), (2, .int v2), (3, .int v3)]) hx hb dX12_sums_16 hl (by decide) rfl (fun ls hl => ?_)
    refine lv_aload_n hx hb dX12_sums_18 rfl (lv_at hl 1 rfl) ?_
    refine x_get F hK hW xc_X12 rd_d0 rd_0 5 (by decide) k_5_133 (gf_X12_5 _ _) dX12_sums_19 ?_
    refine lv_iload_n hx hb dX12_sums_22 rfl (lv_at hl 2 rfl) ?_
    refine lv_aload_n hx hb dX12_sums_23 rfl (lv_at hl 1 rfl) ?_
    refine x_get F hK hW xc_X12 rd_d0 rd_0 5 (by decide) k_5_133 (gf_X12_5 _ _) dX12_sums_24 ?_
    refine lv_iload_n hx hb dX12_sums_27 rfl (lv_at hl 2 rfl) ?_
    refine x_iald (t0 := 0) F hK hW rd_d6 rd_6 rfl dX12_sums_28 h (fun h => ?_)
    refine lv_iconst (v := (1 : Int32)) hx hb dX12_sums_29 (by decide) ?_
    refine lv_ishl hx hb dX12_sums_30 ?_
    refine lv_aload_n hx hb dX12_sums_31 rfl (lv_at hl 1 rfl) ?_
    refine x_get F hK hW xc_X12 rd_d0 rd_0 4 (by decide) k_5_132 (gf_X12_4 _ _) dX12_sums_32 ?_
    refine lv_iload_n hx hb dX12_sums_35 rfl (lv_at hl 2 rfl) ?_
    refine x_iald (t0 := 0) F hK hW rd_d5 rd_5 rfl dX12_sums_36 h (fun h => ?_)
    refine lv_bipush (v := (15 : Int32)) hx hb dX12_sums_37 (by decide) ?_
    refine lv_ishr hx hb dX12_sums_39 ?_
    refine lv_ior hx hb dX12_sums_40 ?_
    refine lv_ldc (v := (65535 : Int32)) hx hb F.2.2.2.1 (x_hts F _ k_6_102) dX12_sums_41 ?_
    refine lv_iand hx hb dX12_sums_43 ?_
    refine x_iast (t0 := 0) F hK hI hW hS rd_d6 rd_6 rfl dX12_sums_44 h (fun S4 H locs hW hS h => ?_)
    refine lv_aload_n hx hb dX12_sums_45 rfl (lv_at hl 1 rfl) ?_
    refine x_get F hK hW xc_X12 rd_d0 rd_0 4 (by decide) k_5_132 (gf_X12_4 _ _) dX12_sums_46 ?_
    refine lv_iload_n hx hb dX12_sums_49 rfl (lv_at hl 2 rfl) ?_
    refine lv_aload_n hx hb dX12_sums_50 rfl (lv_at hl 1 rfl) ?_
    refine x_get F hK hW xc_X12 rd_d0 rd_0 4 (by decide) k_5_132 (gf_X12_4 _ _) dX12_sums_51 ?_
    refine lv_iload_n hx hb dX12_sums_54 rfl (lv_at hl 2 rfl) ?_
    refine x_iald (t0 := 0) F hK hW rd_d5 rd_5 rfl dX12_sums_55 h (fun h => ?_)
    refine lv_iconst (v := (1 : Int32)) hx hb dX12_sums_56 (by decide) ?_
    refine lv_ishl hx hb dX12_sums_57 ?_
    refine lv_ldc (v := (65535 : Int32)) hx hb F.2.2.2.1 (x_hts F _ k_6_102) dX12_sums_58 ?_
    refine lv_iand hx hb dX12_sums_60 ?_
    refine x_iast (t0 := 0) F hK hI hW hS rd_d5 rd_5 rfl dX12_sums_61 h (fun S5 H locs hW hS h => ?_)
    refine lv_iload hx hb dX12_sums_62 (lv_at hl 0 rfl) ?_
    refine lv_iconst (v := (1 : Int32)) hx hb dX12_sums_64 (by decide) ?_
    refine lv_icmp_ne (tgt := 83) hx hb dX12_sums_65 (by decide) (fun c_6 => ?_) (fun c_6 => ?_)
    · replace h := (if_neg c_6).symm.trans h
      exact m_r_sums_b83 hI  F hr hlk hK hk2 _ _ _ _ h hW hS (lv_sub hl [1, 2, 3, 4] rfl)
    replace h := (if_pos c_6).symm.trans h
    refine lv_aload_n hx hb dX12_sums_68 rfl (lv_at hl 1 rfl) ?_
    refine x_get F hK hW xc_X12 rd_d0 rd_0 5 (by decide) k_5_133 (gf_X12_5 _ _) dX12_sums_69 ?_
    refine lv_iload_n hx hb dX12_sums_72 rfl (lv_at hl 2 rfl) ?_
    refine lv_dup2_11 hx hb dX12_sums_73 rfl rfl ?_
    refine x_iald (t0 := 0) F hK hW rd_d6 rd_6 rfl dX12_sums_74 h (fun h => ?_)
    refine lv_aload_n hx hb dX12_sums_75 rfl (lv_at hl 1 rfl) ?_
    refine x_get F hK hW xc_X12 rd_d0 rd_0 6 (by decide) k_5_134 (gf_X12_6 _ _) dX12_sums_76 ?_
    refine lv_iload_n hx hb dX12_sums_79 rfl (lv_at hl 2 rfl) ?_
    refine x_iald (t0 := 0) F hK hW rd_d7 rd_7 rfl dX12_sums_80 h (fun h => ?_)
    refine lv_ixor hx hb dX12_sums_81 ?_
    refine x_iast (t0 := 0) F hK hI hW hS rd_d6 rd_6 rfl dX12_sums_82 h (fun S7 H locs hW hS h => ?_)
    exact m_r_sums_b83 hI  F hr hlk hK hk2 _ _ _ _ h hW hS (lv_sub hl [1, 2, 3, 4] rfl)
def r_sums  (S : xS) (a1 : Int32) (a2 : Int32) : Option (Int32 × xS) := r_sums_b2  (100000) a1 a2 (0 : Int32) S
set_option maxHeartbeats 4000000 in
set_option maxRecDepth 100000 in
theorem m_r_sums {l : Launch} {D : va_G} {cI cZ cB : ClassId} {ad : Nat → Nat → Nat} (hI : xInj rDom ad) {S : xS} (a1 : Int32) (a2 : Int32) {o : Int32 × xS} (h : r_sums  S a1 a2 = some o) : Met l yX12_sums (Cond.code yX12_sums cX12_sums 5 (some .boolean) :: xG) { frames := 0, cells := 0, slots := 0, locals := 0 } (xPc D vwCl (rTy cI cZ cB) [] [] rDom ad (rDe ad cI cZ cB) [.ref (ad 0 0), .int a1, .int a2] S) (xQ D vwCl rDom ad (rDe ad cI cZ cB) (some (.int o.1)) o.2) 0 0 (xA rDom ad) := by
  unfold r_sums at h
  refine x_enter (by decide) (Nat.le_of_ble_eq_true rfl) (fun p e s m below meth c F hr hlk hK hW hS ls hl => ?_)
  have hl : lv_has ls 5 [(0, .ref (ad 0 0)), (1, .int a1), (2, .int a2)] := hl
  have hx := F.1
  have hb := F.2.1
  refine lv_iconst (v := (0 : Int32)) hx hb dX12_sums_0 (by decide) ?_
  refine lv_istore_n (lv' := [(3, .int (0 : Int32)), (0, .ref (ad 0 0)), (1, .int a1), (2, .int a2)]) hx hb dX12_sums_1 rfl hl (by decide) rfl (fun ls hl => ?_)
  exact m_r_sums_b2 hI  F hr hlk hK (100000) _ _ _ _ h hW hS (lv_sub hl [1, 2, 3, 0] rfl)
/-! X12_more -/
def r_more_b465 (v1 : Int32) (v5 : Int32) (t0 : Int32) (t1 : Int32) (S : xS) : Option (Int32 × xS) := (r_fails  S t1 t0).bind (fun (r_26, S26) => gd v1 8 (xnm (sI S26 0 6 (v1).toNatClampNeg v5) (fun S27 => some ((1 : Int32), S27))))
set_option maxHeartbeats 4000000 in
set_option maxRecDepth 100000 in
theorem m_r_more_b465 {l : Launch} {D : va_G} {cI cZ cB : ClassId} {ad : Nat → Nat → Nat} (hI : xInj rDom ad) {p : Program} {e : Env} {s : State} {m : MethodId} {args : Array Value} {below : List Frame} {meth : Method} {c : Code} (F : CallFix p m c cX12_more 7 s args (Cond.code yX12_more cX12_more 7 (some .boolean) :: xG) (yX12_more).cls) (hr : meth.sig.returnType = (some .boolean)) (hlk : meth.locks = false) (hK : xK D vwCl (rTy cI cZ cB) [] [] s) {o : Int32 × xS} (v1 : Int32) (v5 : Int32) (t0 : Int32) (t1 : Int32) (S : xS) {H : Heap} {locs : List Loc} {ls : Array Slot} (h : r_more_b465 v1 v5 t0 t1 S = some o) (hW : xW D vwCl rDom ad (rDe ad cI cZ cB) S H) (hS : va_S (xA rDom ad) s.heap H locs) (hl : lv_has ls 7 [(0, .ref (ad 0 0)), (1, .int v1), (5, .int v5)]) : W p l e { frames := 3, cells := 0, slots := 0, locals := 72 } s m args below meth c H locs 0 0 (MQ below (xQ D vwCl rDom ad (rDe ad cI cZ cB) (some (.int o.1)) o.2) args s 0 0 (xA rDom ad)) (F0 m 465 ls [.int t0, .int t1, .ref (ad 0 0)]) := by
  have hx := F.1
  have hb := F.2.1
  unfold r_more_b465 at h
  refine x_cVi (As := [.int t1, .int t0]) F xG_ok hK hW hS um_X12_fails k_7_89 (fun _ h1 => m_r_fails hI _ _ h1) rfl rd_d0 rd_0 rfl rfl hl.1 rfl rfl ⟨Nat.le_of_ble_eq_true rfl, Nat.le_of_ble_eq_true rfl⟩ ⟨Nat.zero_le _, Nat.zero_le _⟩ (Nat.le_of_ble_eq_true rfl) dX12_more_465 h (fun r_26 S26 H locs hW hS h => ?_)
  refine lv_pop hx hb dX12_more_468 rfl ?_
  refine lv_aload_n hx hb dX12_more_469 rfl (lv_at hl 0 rfl) ?_
  refine x_get F hK hW xc_X12 rd_d0 rd_0 5 (by decide) k_5_133 (gf_X12_5 _ _) dX12_more_470 ?_
  refine lv_iload_n hx hb dX12_more_473 rfl (lv_at hl 1 rfl) ?_
  refine lv_iload hx hb dX12_more_474 (lv_at hl 2 rfl) ?_
  refine x_iast (t0 := 0) F hK hI hW hS rd_d6 rd_6 rfl dX12_more_476 h (fun S27 H locs hW hS h => ?_)
  refine lv_iconst (v := (1 : Int32)) hx hb dX12_more_477 (by decide) ?_
  exact x_zret F hr hlk hW hS rfl dX12_more_478 h
def r_more_b457 (v1 : Int32) (v5 : Int32) (t0 : Int32) (t1 : Int32) (t2 : Int32) (S : xS) : Option (Int32 × xS) := if t1 = t0 then (r_more_b465  v1 v5 (0 : Int32) t2 S) else (r_more_b465  v1 v5 (1 : Int32) t2 S)
set_option maxHeartbeats 4000000 in
set_option maxRecDepth 100000 in
theorem m_r_more_b457 {l : Launch} {D : va_G} {cI cZ cB : ClassId} {ad : Nat → Nat → Nat} (hI : xInj rDom ad) {p : Program} {e : Env} {s : State} {m : MethodId} {args : Array Value} {below : List Frame} {meth : Method} {c : Code} (F : CallFix p m c cX12_more 7 s args (Cond.code yX12_more cX12_more 7 (some .boolean) :: xG) (yX12_more).cls) (hr : meth.sig.returnType = (some .boolean)) (hlk : meth.locks = false) (hK : xK D vwCl (rTy cI cZ cB) [] [] s) {o : Int32 × xS} (v1 : Int32) (v5 : Int32) (t0 : Int32) (t1 : Int32) (t2 : Int32) (S : xS) {H : Heap} {locs : List Loc} {ls : Array Slot} (h : r_more_b457 v1 v5 t0 t1 t2 S = some o) (hW : xW D vwCl rDom ad (rDe ad cI cZ cB) S H) (hS : va_S (xA rDom ad) s.heap H locs) (hl : lv_has ls 7 [(0, .ref (ad 0 0)), (1, .int v1), (5, .int v5)]) : W p l e { frames := 3, cells := 0, slots := 0, locals := 72 } s m args below meth c H locs 0 0 (MQ below (xQ D vwCl rDom ad (rDe ad cI cZ cB) (some (.int o.1)) o.2) args s 0 0 (xA rDom ad)) (F0 m 457 ls [.int t0, .int t1, .int t2, .ref (ad 0 0)]) := by
  have hx := F.1
  have hb := F.2.1
  unfold r_more_b457 at h
  refine lv_icmp_eq (tgt := 464) hx hb dX12_more_457 (by decide) (fun c_25 => ?_) (fun c_25 => ?_)
  · replace h := (if_pos c_25).symm.trans h
    refine lv_iconst (v := (0 : Int32)) hx hb dX12_more_464 (by decide) ?_
    exact m_r_more_b465 hI  F hr hlk hK _ _ _ _ _ h hW hS (lv_sub hl [0, 1, 2] rfl)
  replace h := (if_neg c_25).symm.trans h
  refine lv_iconst (v := (1 : Int32)) hx hb dX12_more_460 (by decide) ?_
  refine lv_goto (tgt := 465) hx hb dX12_more_461 (by decide) ?_
  exact m_r_more_b465 hI  F hr hlk hK _ _ _ _ _ h hW hS (lv_sub hl [0, 1, 2] rfl)
def r_more_b492 (v1 : Int32) (t0 : Int32) (S : xS) : Option (Int32 × xS) := (r_fails  S t0 (1 : Int32)).bind (fun (r_29, S29) => (r_popped  S29 v1 (1 : Int32)).bind (fun (r_30, S30) => gz r_30 (some (r_30, S30))))
set_option maxHeartbeats 4000000 in
set_option maxRecDepth 100000 in
theorem m_r_more_b492 {l : Launch} {D : va_G} {cI cZ cB : ClassId} {ad : Nat → Nat → Nat} (hI : xInj rDom ad) {p : Program} {e : Env} {s : State} {m : MethodId} {args : Array Value} {below : List Frame} {meth : Method} {c : Code} (F : CallFix p m c cX12_more 7 s args (Cond.code yX12_more cX12_more 7 (some .boolean) :: xG) (yX12_more).cls) (hr : meth.sig.returnType = (some .boolean)) (hlk : meth.locks = false) (hK : xK D vwCl (rTy cI cZ cB) [] [] s) {o : Int32 × xS} (v1 : Int32) (t0 : Int32) (S : xS) {H : Heap} {locs : List Loc} {ls : Array Slot} (h : r_more_b492 v1 t0 S = some o) (hW : xW D vwCl rDom ad (rDe ad cI cZ cB) S H) (hS : va_S (xA rDom ad) s.heap H locs) (hl : lv_has ls 7 [(0, .ref (ad 0 0)), (1, .int v1)]) : W p l e { frames := 3, cells := 0, slots := 0, locals := 72 } s m args below meth c H locs 0 0 (MQ below (xQ D vwCl rDom ad (rDe ad cI cZ cB) (some (.int o.1)) o.2) args s 0 0 (xA rDom ad)) (F0 m 492 ls [.int t0, .ref (ad 0 0)]) := by
  have hx := F.1
  have hb := F.2.1
  unfold r_more_b492 at h
  refine lv_iconst (v := (1 : Int32)) hx hb dX12_more_492 (by decide) ?_
  refine lv_goto (tgt := 497) hx hb dX12_more_493 (by decide) ?_
  refine x_cVi (As := [.int t0, .int (1 : Int32)]) F xG_ok hK hW hS um_X12_fails k_7_89 (fun _ h1 => m_r_fails hI _ _ h1) rfl rd_d0 rd_0 rfl rfl hl.1 rfl rfl ⟨Nat.le_of_ble_eq_true rfl, Nat.le_of_ble_eq_true rfl⟩ ⟨Nat.zero_le _, Nat.zero_le _⟩ (Nat.le_of_ble_eq_true rfl) dX12_more_497 h (fun r_29 S29 H locs hW hS h => ?_)
  refine lv_pop hx hb dX12_more_500 rfl ?_
  refine lv_aload_n hx hb dX12_more_501 rfl (lv_at hl 0 rfl) ?_
  refine lv_iload_n hx hb dX12_more_502 rfl (lv_at hl 1 rfl) ?_
  refine lv_iconst (v := (1 : Int32)) hx hb dX12_more_503 (by decide) ?_
  refine x_cVi (As := [.int v1, .int (1 : Int32)]) F xG_ok hK hW hS um_X12_popped k_7_13 (fun _ h1 => m_r_popped hI _ _ h1) rfl rd_d0 rd_0 rfl rfl hl.1 rfl rfl ⟨Nat.le_of_ble_eq_true rfl, Nat.le_of_ble_eq_true rfl⟩ ⟨Nat.zero_le _, Nat.zero_le _⟩ (Nat.le_of_ble_eq_true rfl) dX12_more_504 h (fun r_30 S30 H locs hW hS h => ?_)
  obtain ⟨hz, h⟩ := gz_use h
  exact x_zret F hr hlk hW hS (z_nar hz) dX12_more_507 h
def r_more_b620 (v1 : Int32) (t0 : Int32) (S : xS) : Option (Int32 × xS) := (r_fails  S t0 (1 : Int32)).bind (fun (r_46, S46) => (r_popped  S46 v1 (1 : Int32)).bind (fun (r_47, S47) => gz r_47 (some (r_47, S47))))
set_option maxHeartbeats 4000000 in
set_option maxRecDepth 100000 in
theorem m_r_more_b620 {l : Launch} {D : va_G} {cI cZ cB : ClassId} {ad : Nat → Nat → Nat} (hI : xInj rDom ad) {p : Program} {e : Env} {s : State} {m : MethodId} {args : Array Value} {below : List Frame} {meth : Method} {c : Code} (F : CallFix p m c cX12_more 7 s args (Cond.code yX12_more cX12_more 7 (some .boolean) :: xG) (yX12_more).cls) (hr : meth.sig.returnType = (some .boolean)) (hlk : meth.locks = false) (hK : xK D vwCl (rTy cI cZ cB) [] [] s) {o : Int32 × xS} (v1 : Int32) (t0 : Int32) (S : xS) {H : Heap} {locs : List Loc} {ls : Array Slot} (h : r_more_b620 v1 t0 S = some o) (hW : xW D vwCl rDom ad (rDe ad cI cZ cB) S H) (hS : va_S (xA rDom ad) s.heap H locs) (hl : lv_has ls 7 [(0, .ref (ad 0 0)), (1, .int v1)]) : W p l e { frames := 3, cells := 0, slots := 0, locals := 72 } s m args below meth c H locs 0 0 (MQ below (xQ D vwCl rDom ad (rDe ad cI cZ cB) (some (.int o.1)) o.2) args s 0 0 (xA rDom ad)) (F0 m 620 ls [.int t0, .ref (ad 0 0)]) := by
  have hx := F.1
  have hb := F.2.1
  unfold r_more_b620 at h
  refine lv_iconst (v := (1 : Int32)) hx hb dX12_more_620 (by decide) ?_
  refine lv_goto (tgt := 625) hx hb dX12_more_621 (by decide) ?_
  refine x_cVi (As := [.int t0, .int (1 : Int32)]) F xG_ok hK hW hS um_X12_fails k_7_89 (fun _ h1 => m_r_fails hI _ _ h1) rfl rd_d0 rd_0 rfl rfl hl.1 rfl rfl ⟨Nat.le_of_ble_eq_true rfl, Nat.le_of_ble_eq_true rfl⟩ ⟨Nat.zero_le _, Nat.zero_le _⟩ (Nat.le_of_ble_eq_true rfl) dX12_more_625 h (fun r_46 S46 H locs hW hS h => ?_)
  refine lv_pop hx hb dX12_more_628 rfl ?_
  refine lv_aload_n hx hb dX12_more_629 rfl (lv_at hl 0 rfl) ?_
  refine lv_iload_n hx hb dX12_more_630 rfl (lv_at hl 1 rfl) ?_
  refine lv_iconst (v := (1 : Int32)) hx hb dX12_more_631 (by decide) ?_
  refine x_cVi (As := [.int v1, .int (1 : Int32)]) F xG_ok hK hW hS um_X12_popped k_7_13 (fun _ h1 => m_r_popped hI _ _ h1) rfl rd_d0 rd_0 rfl rfl hl.1 rfl rfl ⟨Nat.le_of_ble_eq_true rfl, Nat.le_of_ble_eq_true rfl⟩ ⟨Nat.zero_le _, Nat.zero_le _⟩ (Nat.le_of_ble_eq_true rfl) dX12_more_632 h (fun r_47 S47 H locs hW hS h => ?_)
  obtain ⟨hz, h⟩ := gz_use h
  exact x_zret F hr hlk hW hS (z_nar hz) dX12_more_635 h
def r_more  (S : xS) (a1 : Int32) (a2 : Int32) (a3 : Int32) (a4 : Int32) (a5 : Int32) : Option (Int32 × xS) := if a2 = (57 : Int32) then ((r_ready  S a1 a3).bind (fun S2 => (r_popped  S2 a1 (1 : Int32)).bind (fun (r_3, S3) => gz r_3 (some (r_3, S3))))) else (if a2 = (59 : Int32) then ((r_byteTo  S a1 a3 a4).bind (fun S4 => (r_popped  S4 a1 (2 : Int32)).bind (fun (r_5, S5) => gz r_5 (some (r_5, S5))))) else (if a2 = (60 : Int32) then (gd a1 8 (gd a1 8 (xnm (sI S 0 5 (a1).toNatClampNeg (xI S 0 10 (a1).toNatClampNeg)) (fun S6 => gd a1 8 (xnm (sI S6 0 10 (a1).toNatClampNeg (a3 &&& (65534 : Int32))) (fun S7 => some ((1 : Int32), S7))))))) else (if a2 = (61 : Int32) then (gd ((((2 : Int32) * a1) + (62 : Int32)) - a2) 16 ((r_wordTo  S a1 a3 (xI S 0 19 (((((2 : Int32) * a1) + (62 : Int32)) - a2)).toNatClampNeg)).bind (fun S8 => gd ((((2 : Int32) * a1) + (62 : Int32)) - a2) 16 ((r_wordTo  S8 a1 (a3 + (2 : Int32)) (xI S8 0 20 (((((2 : Int32) * a1) + (62 : Int32)) - a2)).toNatClampNeg)).bind (fun S9 => (r_popped  S9 a1 (1 : Int32)).bind (fun (r_10, S10) => gz r_10 (some (r_10, S10)))))))) else (if a2 = (62 : Int32) then (gd ((((2 : Int32) * a1) + (62 : Int32)) - a2) 16 ((r_wordTo  S a1 a3 (xI S 0 19 (((((2 : Int32) * a1) + (62 : Int32)) - a2)).toNatClampNeg)).bind (fun S11 => gd ((((2 : Int32) * a1) + (62 : Int32)) - a2) 16 ((r_wordTo  S11 a1 (a3 + (2 : Int32)) (xI S11 0 20 (((((2 : Int32) * a1) + (62 : Int32)) - a2)).toNatClampNeg)).bind (fun S12 => (r_popped  S12 a1 (1 : Int32)).bind (fun (r_13, S13) => gz r_13 (some (r_13, S13)))))))) else (if a2 = (63 : Int32) then (gd a1 8 (xnm (sI S 0 7 (a1).toNatClampNeg a4) (fun S14 => gd a1 8 (xnm (sI S14 0 6 (a1).toNatClampNeg (a3 &&& (1 : Int32))) (fun S15 => (r_signed a3).bind (fun r_16 => gd a1 8 (xnm (sI S15 0 5 (a1).toNatClampNeg ((r_16 >>> ((1 : Int32) &&& 31)) &&& (65535 : Int32))) (fun S17 => some ((1 : Int32), S17))))))))) else (if a2 = (66 : Int32) then ((r_push  S a1 (32768 : Int32)).bind (fun S18 => some ((1 : Int32), S18))) else (if a2 = (74 : Int32) then (if a3 ≤ (4096 : Int32) then ((r_copies  S a1 a5 a4 a3).bind (fun S20 => (r_popped  S20 a1 (3 : Int32)).bind (fun (r_21, S21) => gz r_21 (some (r_21, S21))))) else ((r_stop  S a1 (5 : Int32)).bind (fun S22 => some ((1 : Int32), S22)))) else (if a2 = (76 : Int32) then ((r_signed a3).bind (fun r_23 => if 0 ≤ r_23 then (r_more_b457  a1 a5 (0 : Int32) a4 a1 S) else (r_more_b457  a1 a5 (65535 : Int32) a4 a1 S))) else (if a2 = (77 : Int32) then (if a4 = 0 then (r_more_b492  a1 a1 S) else (if a4 ≤ a3 then ((r_fails  S a1 (0 : Int32)).bind (fun (r_32, S32) => (r_popped  S32 a1 (1 : Int32)).bind (fun (r_33, S33) => gz r_33 (some (r_33, S33))))) else (r_more_b492  a1 a1 S))) else (if a2 = (79 : Int32) then (gd a1 8 (xnm (sI S 0 5 (a1).toNatClampNeg (((a4 - a3) - (a5 &&& (1 : Int32))) &&& (65535 : Int32))) (fun S34 => if 0 ≤ ((a4 - a3) - (a5 &&& (1 : Int32))) then (gd a1 8 (xnm (sI S34 0 6 (a1).toNatClampNeg (0 : Int32)) (fun S36 => some ((1 : Int32), S36)))) else (gd a1 8 (xnm (sI S34 0 6 (a1).toNatClampNeg (1 : Int32)) (fun S37 => some ((1 : Int32), S37))))))) else (if a2 = (84 : Int32) then (gd ((2 : Int32) * a1) 16 (xnm (sI S 0 21 (((2 : Int32) * a1)).toNatClampNeg a3) (fun S38 => gd (((2 : Int32) * a1) + (1 : Int32)) 16 (xnm (sI S38 0 21 ((((2 : Int32) * a1) + (1 : Int32))).toNatClampNeg a3) (fun S39 => (r_popped  S39 a1 (1 : Int32)).bind (fun (r_40, S40) => gz r_40 (some (r_40, S40)))))))) else (if a2 = (85 : Int32) then (gd a1 8 (if (xI S 0 16 (a1).toNatClampNeg) = 0 then (some ((1 : Int32), S)) else ((r_waits  S a1).bind (fun S42 => some ((1 : Int32), S42))))) else (if a2 = (86 : Int32) then ((r_signed a4).bind (fun r_43 => (r_signed a3).bind (fun r_44 => if r_43 < (-r_44) then (r_more_b620  a1 a1 S) else ((r_signed a4).bind (fun r_48 => (r_signed a3).bind (fun r_49 => if r_48 ≤ (r_49 - (1 : Int32)) then ((r_fails  S a1 (0 : Int32)).bind (fun (r_51, S51) => (r_popped  S51 a1 (1 : Int32)).bind (fun (r_52, S52) => gz r_52 (some (r_52, S52))))) else (r_more_b620  a1 a1 S))))))) else (if a2 = (87 : Int32) then (if a2 = (88 : Int32) then (gd a1 8 (xnm (sI S 0 17 (a1).toNatClampNeg (vp_nar .boolean (1 : Int32))) (fun S55 => some ((1 : Int32), S55)))) else (gd a1 8 (xnm (sI S 0 17 (a1).toNatClampNeg (vp_nar .boolean (0 : Int32))) (fun S54 => some ((1 : Int32), S54))))) else (if a2 = (88 : Int32) then (if a2 = (88 : Int32) then (gd a1 8 (xnm (sI S 0 17 (a1).toNatClampNeg (vp_nar .boolean (1 : Int32))) (fun S58 => some ((1 : Int32), S58)))) else (gd a1 8 (xnm (sI S 0 17 (a1).toNatClampNeg (vp_nar .boolean (0 : Int32))) (fun S57 => some ((1 : Int32), S57))))) else (if a2 = (89 : Int32) then (gd a1 8 (if (xI S 0 17 (a1).toNatClampNeg) = 0 then ((r_push  S a1 (0 : Int32)).bind (fun S60 => some ((1 : Int32), S60))) else ((r_push  S a1 (1 : Int32)).bind (fun S61 => some ((1 : Int32), S61))))) else (if a2 = (90 : Int32) then ((r_push  S a1 a3).bind (fun S62 => some ((1 : Int32), S62))) else (if a2 = (116 : Int32) then (if a2 = (116 : Int32) then ((r_sums  S a1 (16 : Int32)).bind (fun (r_65, S65) => gz r_65 (some (r_65, S65)))) else ((r_sums  S a1 (8 : Int32)).bind (fun (r_64, S64) => gz r_64 (some (r_64, S64))))) else (if a2 = (117 : Int32) then (if a2 = (116 : Int32) then ((r_sums  S a1 (16 : Int32)).bind (fun (r_68, S68) => gz r_68 (some (r_68, S68)))) else ((r_sums  S a1 (8 : Int32)).bind (fun (r_67, S67) => gz r_67 (some (r_67, S67))))) else (if a2 = (119 : Int32) then ((r_turned a3 (16 : Int32)).bind (fun r_69 => gd a1 8 (xnm (sI S 0 5 (a1).toNatClampNeg r_69) (fun S70 => some ((1 : Int32), S70))))) else (some ((0 : Int32), S))))))))))))))))))))))
set_option maxHeartbeats 4000000 in
set_option maxRecDepth 100000 in
theorem m_r_more {l : Launch} {D : va_G} {cI cZ cB : ClassId} {ad : Nat → Nat → Nat} (hI : xInj rDom ad) {S : xS} (a1 : Int32) (a2 : Int32) (a3 : Int32) (a4 : Int32) (a5 : Int32) {o : Int32 × xS} (h : r_more  S a1 a2 a3 a4 a5 = some o) : Met l yX12_more (Cond.code yX12_more cX12_more 7 (some .boolean) :: xG) { frames := 3, cells := 0, slots := 0, locals := 72 } (xPc D vwCl (rTy cI cZ cB) [] [] rDom ad (rDe ad cI cZ cB) [.ref (ad 0 0), .int a1, .int a2, .int a3, .int a4, .int a5] S) (xQ D vwCl rDom ad (rDe ad cI cZ cB) (some (.int o.1)) o.2) 0 0 (xA rDom ad) := by
  unfold r_more at h
  refine x_enter (by decide) (Nat.le_of_ble_eq_true rfl) (fun p e s m below meth c F hr hlk hK hW hS ls hl => ?_)
  have hl : lv_has ls 7 [(0, .ref (ad 0 0)), (1, .int a1), (2, .int a2), (3, .int a3), (4, .int a4), (5, .int a5)] := hl
  have hx := F.1
  have hb := F.2.1
  refine lv_iload_n hx hb dX12_more_0 rfl (lv_at hl 2 rfl) ?_
  by_cases c_1_57 : a2 = (57 : Int32)
  · replace h := (if_pos c_1_57).symm.trans h
    refine lv_tableIn (tgt := 268) (off := 267) hx hb dX12_more_1 (by rw [c_1_57]; decide) (by rw [c_1_57]; decide) (by rw [c_1_57]; decide) (by decide) ?_
    refine lv_aload_n hx hb dX12_more_268 rfl (lv_at hl 0 rfl) ?_
    refine lv_iload_n hx hb dX12_more_269 rfl (lv_at hl 1 rfl) ?_
    refine lv_iload_n hx hb dX12_more_270 rfl (lv_at hl 3 rfl) ?_
    refine x_cVv (As := [.int a1, .int a3]) F xG_ok hK hW hS um_X12_ready k_6_133 (fun _ h1 => m_r_ready hI _ _ h1) rfl rd_d0 rd_0 rfl rfl hl.1 rfl rfl ⟨Nat.le_of_ble_eq_true rfl, Nat.le_of_ble_eq_true rfl⟩ ⟨Nat.zero_le _, Nat.zero_le _⟩ (Nat.le_of_ble_eq_true rfl) dX12_more_271 h (fun S2 H locs hW hS h => ?_)
    refine lv_aload_n hx hb dX12_more_274 rfl (lv_at hl 0 rfl) ?_
    refine lv_iload_n hx hb dX12_more_275 rfl (lv_at hl 1 rfl) ?_
    refine lv_iconst (v := (1 : Int32)) hx hb dX12_more_276 (by decide) ?_
    refine x_cVi (As := [.int a1, .int (1 : Int32)]) F xG_ok hK hW hS um_X12_popped k_7_13 (fun _ h1 => m_r_popped hI _ _ h1) rfl rd_d0 rd_0 rfl rfl hl.1 rfl rfl ⟨Nat.le_of_ble_eq_true rfl, Nat.le_of_ble_eq_true rfl⟩ ⟨Nat.zero_le _, Nat.zero_le _⟩ (Nat.le_of_ble_eq_true rfl) dX12_more_277 h (fun r_3 S3 H locs hW hS h => ?_)
    obtain ⟨hz, h⟩ := gz_use h
    exact x_zret F hr hlk hW hS (z_nar hz) dX12_more_280 h
  replace h := (if_neg c_1_57).symm.trans h
  have hn_1_57 := x_swN (z := 57) c_1_57 x_sw0 rfl
  by_cases c_1_59 : a2 = (59 : Int32)
  · replace h := (if_pos c_1_59).symm.trans h
    refine lv_tableIn (tgt := 281) (off := 280) hx hb dX12_more_1 (by rw [c_1_59]; decide) (by rw [c_1_59]; decide) (by rw [c_1_59]; decide) (by decide) ?_
    refine lv_aload_n hx hb dX12_more_281 rfl (lv_at hl 0 rfl) ?_
    refine lv_iload_n hx hb dX12_more_282 rfl (lv_at hl 1 rfl) ?_
    refine lv_iload_n hx hb dX12_more_283 rfl (lv_at hl 3 rfl) ?_
    refine lv_iload hx hb dX12_more_284 (lv_at hl 4 rfl) ?_
    refine x_cVv (As := [.int a1, .int a3, .int a4]) F xG_ok hK hW hS um_X12_byteTo k_6_141 (fun _ h1 => m_r_byteTo hI _ _ _ h1) rfl rd_d0 rd_0 rfl rfl hl.1 rfl rfl ⟨Nat.le_of_ble_eq_true rfl, Nat.le_of_ble_eq_true rfl⟩ ⟨Nat.zero_le _, Nat.zero_le _⟩ (Nat.le_of_ble_eq_true rfl) dX12_more_286 h (fun S4 H locs hW hS h => ?_)
    refine lv_aload_n hx hb dX12_more_289 rfl (lv_at hl 0 rfl) ?_
    refine lv_iload_n hx hb dX12_more_290 rfl (lv_at hl 1 rfl) ?_
    refine lv_iconst (v := (2 : Int32)) hx hb dX12_more_291 (by decide) ?_
    refine x_cVi (As := [.int a1, .int (2 : Int32)]) F xG_ok hK hW hS um_X12_popped k_7_13 (fun _ h1 => m_r_popped hI _ _ h1) rfl rd_d0 rd_0 rfl rfl hl.1 rfl rfl ⟨Nat.le_of_ble_eq_true rfl, Nat.le_of_ble_eq_true rfl⟩ ⟨Nat.zero_le _, Nat.zero_le _⟩ (Nat.le_of_ble_eq_true rfl) dX12_more_292 h (fun r_5 S5 H locs hW hS h => ?_)
    obtain ⟨hz, h⟩ := gz_use h
    exact x_zret F hr hlk hW hS (z_nar hz) dX12_more_295 h
  replace h := (if_neg c_1_59).symm.trans h
  have hn_1_59 := x_swN (z := 59) c_1_59 hn_1_57 rfl
  by_cases c_1_60 : a2 = (60 : Int32)
  · replace h := (if_pos c_1_60).symm.trans h
    refine lv_tableIn (tgt := 375) (off := 374) hx hb dX12_more_1 (by rw [c_1_60]; decide) (by rw [c_1_60]; decide) (by rw [c_1_60]; decide) (by decide) ?_
    refine lv_aload_n hx hb dX12_more_375 rfl (lv_at hl 0 rfl) ?_
    refine x_get F hK hW xc_X12 rd_d0 rd_0 4 (by decide) k_5_132 (gf_X12_4 _ _) dX12_more_376 ?_
    refine lv_iload_n hx hb dX12_more_379 rfl (lv_at hl 1 rfl) ?_
    refine lv_aload_n hx hb dX12_more_380 rfl (lv_at hl 0 rfl) ?_
    refine x_get F hK hW xc_X12 rd_d0 rd_0 9 (by decide) k_5_137 (gf_X12_9 _ _) dX12_more_381 ?_
    refine lv_iload_n hx hb dX12_more_384 rfl (lv_at hl 1 rfl) ?_
    refine x_iald (t0 := 0) F hK hW rd_d10 rd_10 rfl dX12_more_385 h (fun h => ?_)
    refine x_iast (t0 := 0) F hK hI hW hS rd_d5 rd_5 rfl dX12_more_386 h (fun S6 H locs hW hS h => ?_)
    refine lv_aload_n hx hb dX12_more_387 rfl (lv_at hl 0 rfl) ?_
    refine x_get F hK hW xc_X12 rd_d0 rd_0 9 (by decide) k_5_137 (gf_X12_9 _ _) dX12_more_388 ?_
    refine lv_iload_n hx hb dX12_more_391 rfl (lv_at hl 1 rfl) ?_
    refine lv_iload_n hx hb dX12_more_392 rfl (lv_at hl 3 rfl) ?_
    refine lv_ldc (v := (65534 : Int32)) hx hb F.2.2.2.1 (x_hts F _ k_6_103) dX12_more_393 ?_
    refine lv_iand hx hb dX12_more_395 ?_
    refine x_iast (t0 := 0) F hK hI hW hS rd_d10 rd_10 rfl dX12_more_396 h (fun S7 H locs hW hS h => ?_)
    refine lv_iconst (v := (1 : Int32)) hx hb dX12_more_397 (by decide) ?_
    exact x_zret F hr hlk hW hS rfl dX12_more_398 h
  replace h := (if_neg c_1_60).symm.trans h
  have hn_1_60 := x_swN (z := 60) c_1_60 hn_1_59 rfl
  by_cases c_1_61 : a2 = (61 : Int32)
  · replace h := (if_pos c_1_61).symm.trans h
    refine lv_tableIn (tgt := 296) (off := 295) hx hb dX12_more_1 (by rw [c_1_61]; decide) (by rw [c_1_61]; decide) (by rw [c_1_61]; decide) (by decide) ?_
    refine lv_iconst (v := (2 : Int32)) hx hb dX12_more_296 (by decide) ?_
    refine lv_iload_n hx hb dX12_more_297 rfl (lv_at hl 1 rfl) ?_
    refine lv_imul hx hb dX12_more_298 ?_
    refine lv_bipush (v := (62 : Int32)) hx hb dX12_more_299 (by decide) ?_
    refine lv_iadd hx hb dX12_more_301 ?_
    refine lv_iload_n hx hb dX12_more_302 rfl (lv_at hl 2 rfl) ?_
    refine lv_isub hx hb dX12_more_303 ?_
    refine lv_istore (lv' := [(6, .int ((((2 : Int32) * a1) + (62 : Int32)) - a2)), (0, .ref (ad 0 0)), (1, .int a1), (2, .int a2), (3, .int a3), (4, .int a4), (5, .int a5)]) hx hb dX12_more_304 hl (by decide) rfl (fun ls hl => ?_)
    refine lv_aload_n hx hb dX12_more_306 rfl (lv_at hl 1 rfl) ?_
    refine lv_iload_n hx hb dX12_more_307 rfl (lv_at hl 2 rfl) ?_
    refine lv_iload_n hx hb dX12_more_308 rfl (lv_at hl 4 rfl) ?_
    refine lv_aload_n hx hb dX12_more_309 rfl (lv_at hl 1 rfl) ?_
    refine x_get F hK hW xc_X12 rd_d0 rd_0 18 (by decide) k_5_146 (gf_X12_18 _ _) dX12_more_310 ?_
    refine lv_iload hx hb dX12_more_313 (lv_at hl 0 rfl) ?_
    refine x_iald (t0 := 0) F hK hW rd_d19 rd_19 rfl dX12_more_315 h (fun h => ?_)
    refine x_cVv (As := [.int a1, .int a3, .int (xI S 0 19 (((((2 : Int32) * a1) + (62 : Int32)) - a2)).toNatClampNeg)]) F xG_ok hK hW hS um_X12_wordTo k_6_137 (fun _ h1 => m_r_wordTo hI _ _ _ h1) rfl rd_d0 rd_0 rfl rfl hl.1 rfl rfl ⟨Nat.le_of_ble_eq_true rfl, Nat.le_of_ble_eq_true rfl⟩ ⟨Nat.zero_le _, Nat.zero_le _⟩ (Nat.le_of_ble_eq_true rfl) dX12_more_316 h (fun S8 H locs hW hS h => ?_)
    refine lv_aload_n hx hb dX12_more_319 rfl (lv_at hl 1 rfl) ?_
    refine lv_iload_n hx hb dX12_more_320 rfl (lv_at hl 2 rfl) ?_
    refine lv_iload_n hx hb dX12_more_321 rfl (lv_at hl 4 rfl) ?_
    refine lv_iconst (v := (2 : Int32)) hx hb dX12_more_322 (by decide) ?_
    refine lv_iadd hx hb dX12_more_323 ?_
    refine lv_aload_n hx hb dX12_more_324 rfl (lv_at hl 1 rfl) ?_
    refine x_get F hK hW xc_X12 rd_d0 rd_0 19 (by decide) k_5_147 (gf_X12_19 _ _) dX12_more_325 ?_
    refine lv_iload hx hb dX12_more_328 (lv_at hl 0 rfl) ?_
    refine x_iald (t0 := 0) F hK hW rd_d20 rd_20 rfl dX12_more_330 h (fun h => ?_)
    refine x_cVv (As := [.int a1, .int (a3 + (2 : Int32)), .int (xI S8 0 20 (((((2 : Int32) * a1) + (62 : Int32)) - a2)).toNatClampNeg)]) F xG_ok hK hW hS um_X12_wordTo k_6_137 (fun _ h1 => m_r_wordTo hI _ _ _ h1) rfl rd_d0 rd_0 rfl rfl hl.1 rfl rfl ⟨Nat.le_of_ble_eq_true rfl, Nat.le_of_ble_eq_true rfl⟩ ⟨Nat.zero_le _, Nat.zero_le _⟩ (Nat.le_of_ble_eq_true rfl) dX12_more_331 h (fun S9 H locs hW hS h => ?_)
    refine lv_aload_n hx hb dX12_more_334 rfl (lv_at hl 1 rfl) ?_
    refine lv_iload_n hx hb dX12_more_335 rfl (lv_at hl 2 rfl) ?_
    refine lv_iconst (v := (1 : Int32)) hx hb dX12_more_336 (by decide) ?_
    refine x_cVi (As := [.int a1, .int (1 : Int32)]) F xG_ok hK hW hS um_X12_popped k_7_13 (fun _ h1 => m_r_popped hI _ _ h1) rfl rd_d0 rd_0 rfl rfl hl.1 rfl rfl ⟨Nat.le_of_ble_eq_true rfl, Nat.le_of_ble_eq_true rfl⟩ ⟨Nat.zero_le _, Nat.zero_le _⟩ (Nat.le_of_ble_eq_true rfl) dX12_more_337 h (fun r_10 S10 H locs hW hS h => ?_)
    obtain ⟨hz, h⟩ := gz_use h
    exact x_zret F hr hlk hW hS (z_nar hz) dX12_more_340 h
  replace h := (if_neg c_1_61).symm.trans h
  have hn_1_61 := x_swN (z := 61) c_1_61 hn_1_60 rfl
  by_cases c_1_62 : a2 = (62 : Int32)
  · replace h := (if_pos c_1_62).symm.trans h
    refine lv_tableIn (tgt := 296) (off := 295) hx hb dX12_more_1 (by rw [c_1_62]; decide) (by rw [c_1_62]; decide) (by rw [c_1_62]; decide) (by decide) ?_
    refine lv_iconst (v := (2 : Int32)) hx hb dX12_more_296 (by decide) ?_
    refine lv_iload_n hx hb dX12_more_297 rfl (lv_at hl 1 rfl) ?_
    refine lv_imul hx hb dX12_more_298 ?_
    refine lv_bipush (v := (62 : Int32)) hx hb dX12_more_299 (by decide) ?_
    refine lv_iadd hx hb dX12_more_301 ?_
    refine lv_iload_n hx hb dX12_more_302 rfl (lv_at hl 2 rfl) ?_
    refine lv_isub hx hb dX12_more_303 ?_
    refine lv_istore (lv' := [(6, .int ((((2 : Int32) * a1) + (62 : Int32)) - a2)), (0, .ref (ad 0 0)), (1, .int a1), (2, .int a2), (3, .int a3), (4, .int a4), (5, .int a5)]) hx hb dX12_more_304 hl (by decide) rfl (fun ls hl => ?_)
    refine lv_aload_n hx hb dX12_more_306 rfl (lv_at hl 1 rfl) ?_
    refine lv_iload_n hx hb dX12_more_307 rfl (lv_at hl 2 rfl) ?_
    refine lv_iload_n hx hb dX12_more_308 rfl (lv_at hl 4 rfl) ?_
    refine lv_aload_n hx hb dX12_more_309 rfl (lv_at hl 1 rfl) ?_
    refine x_get F hK hW xc_X12 rd_d0 rd_0 18 (by decide) k_5_146 (gf_X12_18 _ _) dX12_more_310 ?_
    refine lv_iload hx hb dX12_more_313 (lv_at hl 0 rfl) ?_
    refine x_iald (t0 := 0) F hK hW rd_d19 rd_19 rfl dX12_more_315 h (fun h => ?_)
    refine x_cVv (As := [.int a1, .int a3, .int (xI S 0 19 (((((2 : Int32) * a1) + (62 : Int32)) - a2)).toNatClampNeg)]) F xG_ok hK hW hS um_X12_wordTo k_6_137 (fun _ h1 => m_r_wordTo hI _ _ _ h1) rfl rd_d0 rd_0 rfl rfl hl.1 rfl rfl ⟨Nat.le_of_ble_eq_true rfl, Nat.le_of_ble_eq_true rfl⟩ ⟨Nat.zero_le _, Nat.zero_le _⟩ (Nat.le_of_ble_eq_true rfl) dX12_more_316 h (fun S11 H locs hW hS h => ?_)
    refine lv_aload_n hx hb dX12_more_319 rfl (lv_at hl 1 rfl) ?_
    refine lv_iload_n hx hb dX12_more_320 rfl (lv_at hl 2 rfl) ?_
    refine lv_iload_n hx hb dX12_more_321 rfl (lv_at hl 4 rfl) ?_
    refine lv_iconst (v := (2 : Int32)) hx hb dX12_more_322 (by decide) ?_
    refine lv_iadd hx hb dX12_more_323 ?_
    refine lv_aload_n hx hb dX12_more_324 rfl (lv_at hl 1 rfl) ?_
    refine x_get F hK hW xc_X12 rd_d0 rd_0 19 (by decide) k_5_147 (gf_X12_19 _ _) dX12_more_325 ?_
    refine lv_iload hx hb dX12_more_328 (lv_at hl 0 rfl) ?_
    refine x_iald (t0 := 0) F hK hW rd_d20 rd_20 rfl dX12_more_330 h (fun h => ?_)
    refine x_cVv (As := [.int a1, .int (a3 + (2 : Int32)), .int (xI S11 0 20 (((((2 : Int32) * a1) + (62 : Int32)) - a2)).toNatClampNeg)]) F xG_ok hK hW hS um_X12_wordTo k_6_137 (fun _ h1 => m_r_wordTo hI _ _ _ h1) rfl rd_d0 rd_0 rfl rfl hl.1 rfl rfl ⟨Nat.le_of_ble_eq_true rfl, Nat.le_of_ble_eq_true rfl⟩ ⟨Nat.zero_le _, Nat.zero_le _⟩ (Nat.le_of_ble_eq_true rfl) dX12_more_331 h (fun S12 H locs hW hS h => ?_)
    refine lv_aload_n hx hb dX12_more_334 rfl (lv_at hl 1 rfl) ?_
    refine lv_iload_n hx hb dX12_more_335 rfl (lv_at hl 2 rfl) ?_
    refine lv_iconst (v := (1 : Int32)) hx hb dX12_more_336 (by decide) ?_
    refine x_cVi (As := [.int a1, .int (1 : Int32)]) F xG_ok hK hW hS um_X12_popped k_7_13 (fun _ h1 => m_r_popped hI _ _ h1) rfl rd_d0 rd_0 rfl rfl hl.1 rfl rfl ⟨Nat.le_of_ble_eq_true rfl, Nat.le_of_ble_eq_true rfl⟩ ⟨Nat.zero_le _, Nat.zero_le _⟩ (Nat.le_of_ble_eq_true rfl) dX12_more_337 h (fun r_13 S13 H locs hW hS h => ?_)
    obtain ⟨hz, h⟩ := gz_use h
    exact x_zret F hr hlk hW hS (z_nar hz) dX12_more_340 h
  replace h := (if_neg c_1_62).symm.trans h
  have hn_1_62 := x_swN (z := 62) c_1_62 hn_1_61 rfl
  by_cases c_1_63 : a2 = (63 : Int32)
  · replace h := (if_pos c_1_63).symm.trans h
    refine lv_tableIn (tgt := 341) (off := 340) hx hb dX12_more_1 (by rw [c_1_63]; decide) (by rw [c_1_63]; decide) (by rw [c_1_63]; decide) (by decide) ?_
    refine lv_aload_n hx hb dX12_more_341 rfl (lv_at hl 0 rfl) ?_
    refine x_get F hK hW xc_X12 rd_d0 rd_0 6 (by decide) k_5_134 (gf_X12_6 _ _) dX12_more_342 ?_
    refine lv_iload_n hx hb dX12_more_345 rfl (lv_at hl 1 rfl) ?_
    refine lv_iload hx hb dX12_more_346 (lv_at hl 4 rfl) ?_
    refine x_iast (t0 := 0) F hK hI hW hS rd_d7 rd_7 rfl dX12_more_348 h (fun S14 H locs hW hS h => ?_)
    refine lv_aload_n hx hb dX12_more_349 rfl (lv_at hl 0 rfl) ?_
    refine x_get F hK hW xc_X12 rd_d0 rd_0 5 (by decide) k_5_133 (gf_X12_5 _ _) dX12_more_350 ?_
    refine lv_iload_n hx hb dX12_more_353 rfl (lv_at hl 1 rfl) ?_
    refine lv_iload_n hx hb dX12_more_354 rfl (lv_at hl 3 rfl) ?_
    refine lv_iconst (v := (1 : Int32)) hx hb dX12_more_355 (by decide) ?_
    refine lv_iand hx hb dX12_more_356 ?_
    refine x_iast (t0 := 0) F hK hI hW hS rd_d6 rd_6 rfl dX12_more_357 h (fun S15 H locs hW hS h => ?_)
    refine lv_aload_n hx hb dX12_more_358 rfl (lv_at hl 0 rfl) ?_
    refine x_get F hK hW xc_X12 rd_d0 rd_0 4 (by decide) k_5_132 (gf_X12_4 _ _) dX12_more_359 ?_
    refine lv_iload_n hx hb dX12_more_362 rfl (lv_at hl 1 rfl) ?_
    refine lv_iload_n hx hb dX12_more_363 rfl (lv_at hl 3 rfl) ?_
    refine x_cSo (As := [.int a3]) F xG_ok hS um_X12_signed k_6_180 (fun _ h1 => m_r_signed _ h1) rfl rfl hl.1 rfl rfl ⟨Nat.le_of_ble_eq_true rfl, Nat.le_of_ble_eq_true rfl⟩ ⟨Nat.zero_le _, Nat.zero_le _⟩ (Nat.le_of_ble_eq_true rfl) dX12_more_364 h (fun r_16 locs hS h => ?_)
    refine lv_iconst (v := (1 : Int32)) hx hb dX12_more_367 (by decide) ?_
    refine lv_ishr hx hb dX12_more_368 ?_
    refine lv_ldc (v := (65535 : Int32)) hx hb F.2.2.2.1 (x_hts F _ k_6_102) dX12_more_369 ?_
    refine lv_iand hx hb dX12_more_371 ?_
    refine x_iast (t0 := 0) F hK hI hW hS rd_d5 rd_5 rfl dX12_more_372 h (fun S17 H locs hW hS h => ?_)
    refine lv_iconst (v := (1 : Int32)) hx hb dX12_more_373 (by decide) ?_
    exact x_zret F hr hlk hW hS rfl dX12_more_374 h
  replace h := (if_neg c_1_63).symm.trans h
  have hn_1_63 := x_swN (z := 63) c_1_63 hn_1_62 rfl
  by_cases c_1_66 : a2 = (66 : Int32)
  · replace h := (if_pos c_1_66).symm.trans h
    refine lv_tableIn (tgt := 399) (off := 398) hx hb dX12_more_1 (by rw [c_1_66]; decide) (by rw [c_1_66]; decide) (by rw [c_1_66]; decide) (by decide) ?_
    refine lv_aload_n hx hb dX12_more_399 rfl (lv_at hl 0 rfl) ?_
    refine lv_iload_n hx hb dX12_more_400 rfl (lv_at hl 1 rfl) ?_
    refine lv_ldc (v := (32768 : Int32)) hx hb F.2.2.2.1 (x_hts F _ k_5_126) dX12_more_401 ?_
    refine x_cVv (As := [.int a1, .int (32768 : Int32)]) F xG_ok hK hW hS um_X12_push k_7_102 (fun _ h1 => m_r_push hI _ _ h1) rfl rd_d0 rd_0 rfl rfl hl.1 rfl rfl ⟨Nat.le_of_ble_eq_true rfl, Nat.le_of_ble_eq_true rfl⟩ ⟨Nat.zero_le _, Nat.zero_le _⟩ (Nat.le_of_ble_eq_true rfl) dX12_more_403 h (fun S18 H locs hW hS h => ?_)
    refine lv_iconst (v := (1 : Int32)) hx hb dX12_more_406 (by decide) ?_
    exact x_zret F hr hlk hW hS rfl dX12_more_407 h
  replace h := (if_neg c_1_66).symm.trans h
  have hn_1_66 := x_swN (z := 66) c_1_66 hn_1_63 rfl
  by_cases c_1_74 : a2 = (74 : Int32)
  · replace h := (if_pos c_1_74).symm.trans h
    refine lv_tableIn (tgt := 408) (off := 407) hx hb dX12_more_1 (by rw [c_1_74]; decide) (by rw [c_1_74]; decide) (by rw [c_1_74]; decide) (by decide) ?_
    refine lv_iload_n hx hb dX12_more_408 rfl (lv_at hl 3 rfl) ?_
    refine lv_sipush (v := (4096 : Int32)) hx hb dX12_more_409 (by decide) ?_
    refine lv_icmp_le (tgt := 423) hx hb dX12_more_412 (by decide) (fun c_19 => ?_) (fun c_19 => ?_)
    · replace h := (if_pos c_19).symm.trans h
      refine lv_aload_n hx hb dX12_more_423 rfl (lv_at hl 0 rfl) ?_
      refine lv_iload_n hx hb dX12_more_424 rfl (lv_at hl 1 rfl) ?_
      refine lv_iload hx hb dX12_more_425 (lv_at hl 5 rfl) ?_
      refine lv_iload hx hb dX12_more_427 (lv_at hl 4 rfl) ?_
      refine lv_iload_n hx hb dX12_more_429 rfl (lv_at hl 3 rfl) ?_
      refine x_cVv (As := [.int a1, .int a5, .int a4, .int a3]) F xG_ok hK hW hS um_X12_copies k_7_33 (fun _ h1 => m_r_copies hI _ _ _ _ h1) rfl rd_d0 rd_0 rfl rfl hl.1 rfl rfl ⟨Nat.le_of_ble_eq_true rfl, Nat.le_of_ble_eq_true rfl⟩ ⟨Nat.zero_le _, Nat.zero_le _⟩ (Nat.le_of_ble_eq_true rfl) dX12_more_430 h (fun S20 H locs hW hS h => ?_)
      refine lv_aload_n hx hb dX12_more_433 rfl (lv_at hl 0 rfl) ?_
      refine lv_iload_n hx hb dX12_more_434 rfl (lv_at hl 1 rfl) ?_
      refine lv_iconst (v := (3 : Int32)) hx hb dX12_more_435 (by decide) ?_
      refine x_cVi (As := [.int a1, .int (3 : Int32)]) F xG_ok hK hW hS um_X12_popped k_7_13 (fun _ h1 => m_r_popped hI _ _ h1) rfl rd_d0 rd_0 rfl rfl hl.1 rfl rfl ⟨Nat.le_of_ble_eq_true rfl, Nat.le_of_ble_eq_true rfl⟩ ⟨Nat.zero_le _, Nat.zero_le _⟩ (Nat.le_of_ble_eq_true rfl) dX12_more_436 h (fun r_21 S21 H locs hW hS h => ?_)
      obtain ⟨hz, h⟩ := gz_use h
      exact x_zret F hr hlk hW hS (z_nar hz) dX12_more_439 h
    replace h := (if_neg c_19).symm.trans h
    refine lv_aload_n hx hb dX12_more_415 rfl (lv_at hl 0 rfl) ?_
    refine lv_iload_n hx hb dX12_more_416 rfl (lv_at hl 1 rfl) ?_
    refine lv_iconst (v := (5 : Int32)) hx hb dX12_more_417 (by decide) ?_
    refine x_cVv (As := [.int a1, .int (5 : Int32)]) F xG_ok hK hW hS um_X12_stop k_6_184 (fun _ h1 => m_r_stop hI _ _ h1) rfl rd_d0 rd_0 rfl rfl hl.1 rfl rfl ⟨Nat.le_of_ble_eq_true rfl, Nat.le_of_ble_eq_true rfl⟩ ⟨Nat.zero_le _, Nat.zero_le _⟩ (Nat.le_of_ble_eq_true rfl) dX12_more_418 h (fun S22 H locs hW hS h => ?_)
    refine lv_iconst (v := (1 : Int32)) hx hb dX12_more_421 (by decide) ?_
    exact x_zret F hr hlk hW hS rfl dX12_more_422 h
  replace h := (if_neg c_1_74).symm.trans h
  have hn_1_74 := x_swN (z := 74) c_1_74 hn_1_66 rfl
  by_cases c_1_76 : a2 = (76 : Int32)
  · replace h := (if_pos c_1_76).symm.trans h
    refine lv_tableIn (tgt := 440) (off := 439) hx hb dX12_more_1 (by rw [c_1_76]; decide) (by rw [c_1_76]; decide) (by rw [c_1_76]; decide) (by decide) ?_
    refine lv_aload_n hx hb dX12_more_440 rfl (lv_at hl 0 rfl) ?_
    refine lv_iload_n hx hb dX12_more_441 rfl (lv_at hl 1 rfl) ?_
    refine lv_iload hx hb dX12_more_442 (lv_at hl 4 rfl) ?_
    refine lv_iload_n hx hb dX12_more_444 rfl (lv_at hl 3 rfl) ?_
    refine x_cSo (As := [.int a3]) F xG_ok hS um_X12_signed k_6_180 (fun _ h1 => m_r_signed _ h1) rfl rfl hl.1 rfl rfl ⟨Nat.le_of_ble_eq_true rfl, Nat.le_of_ble_eq_true rfl⟩ ⟨Nat.zero_le _, Nat.zero_le _⟩ (Nat.le_of_ble_eq_true rfl) dX12_more_445 h (fun r_23 locs hS h => ?_)
    refine lv_if_ge (tgt := 456) hx hb dX12_more_448 (by decide) (fun c_24 => ?_) (fun c_24 => ?_)
    · replace h := (if_pos c_24).symm.trans h
      refine lv_iconst (v := (0 : Int32)) hx hb dX12_more_456 (by decide) ?_
      exact m_r_more_b457 hI  F hr hlk hK _ _ _ _ _ _ h hW hS (lv_sub hl [0, 1, 5] rfl)
    replace h := (if_neg c_24).symm.trans h
    refine lv_ldc (v := (65535 : Int32)) hx hb F.2.2.2.1 (x_hts F _ k_6_102) dX12_more_451 ?_
    refine lv_goto (tgt := 457) hx hb dX12_more_453 (by decide) ?_
    exact m_r_more_b457 hI  F hr hlk hK _ _ _ _ _ _ h hW hS (lv_sub hl [0, 1, 5] rfl)
  replace h := (if_neg c_1_76).symm.trans h
  have hn_1_76 := x_swN (z := 76) c_1_76 hn_1_74 rfl
  by_cases c_1_77 : a2 = (77 : Int32)
  · replace h := (if_pos c_1_77).symm.trans h
    refine lv_tableIn (tgt := 479) (off := 478) hx hb dX12_more_1 (by rw [c_1_77]; decide) (by rw [c_1_77]; decide) (by rw [c_1_77]; decide) (by decide) ?_
    refine lv_aload_n hx hb dX12_more_479 rfl (lv_at hl 0 rfl) ?_
    refine lv_iload_n hx hb dX12_more_480 rfl (lv_at hl 1 rfl) ?_
    refine lv_iload hx hb dX12_more_481 (lv_at hl 4 rfl) ?_
    refine lv_if_eq (tgt := 492) hx hb dX12_more_483 (by decide) (fun c_28 => ?_) (fun c_28 => ?_)
    · replace h := (if_pos c_28).symm.trans h
      exact m_r_more_b492 hI  F hr hlk hK _ _ _ h hW hS (lv_sub hl [0, 1] rfl)
    replace h := (if_neg c_28).symm.trans h
    refine lv_iload hx hb dX12_more_486 (lv_at hl 4 rfl) ?_
    refine lv_iload_n hx hb dX12_more_488 rfl (lv_at hl 3 rfl) ?_
    refine lv_icmp_le (tgt := 496) hx hb dX12_more_489 (by decide) (fun c_31 => ?_) (fun c_31 => ?_)
    · replace h := (if_pos c_31).symm.trans h
      refine lv_iconst (v := (0 : Int32)) hx hb dX12_more_496 (by decide) ?_
      refine x_cVi (As := [.int a1, .int (0 : Int32)]) F xG_ok hK hW hS um_X12_fails k_7_89 (fun _ h1 => m_r_fails hI _ _ h1) rfl rd_d0 rd_0 rfl rfl hl.1 rfl rfl ⟨Nat.le_of_ble_eq_true rfl, Nat.le_of_ble_eq_true rfl⟩ ⟨Nat.zero_le _, Nat.zero_le _⟩ (Nat.le_of_ble_eq_true rfl) dX12_more_497 h (fun r_32 S32 H locs hW hS h => ?_)
      refine lv_pop hx hb dX12_more_500 rfl ?_
      refine lv_aload_n hx hb dX12_more_501 rfl (lv_at hl 0 rfl) ?_
      refine lv_iload_n hx hb dX12_more_502 rfl (lv_at hl 1 rfl) ?_
      refine lv_iconst (v := (1 : Int32)) hx hb dX12_more_503 (by decide) ?_
      refine x_cVi (As := [.int a1, .int (1 : Int32)]) F xG_ok hK hW hS um_X12_popped k_7_13 (fun _ h1 => m_r_popped hI _ _ h1) rfl rd_d0 rd_0 rfl rfl hl.1 rfl rfl ⟨Nat.le_of_ble_eq_true rfl, Nat.le_of_ble_eq_true rfl⟩ ⟨Nat.zero_le _, Nat.zero_le _⟩ (Nat.le_of_ble_eq_true rfl) dX12_more_504 h (fun r_33 S33 H locs hW hS h => ?_)
      obtain ⟨hz, h⟩ := gz_use h
      exact x_zret F hr hlk hW hS (z_nar hz) dX12_more_507 h
    replace h := (if_neg c_31).symm.trans h
    exact m_r_more_b492 hI  F hr hlk hK _ _ _ h hW hS (lv_sub hl [0, 1] rfl)
  replace h := (if_neg c_1_77).symm.trans h
  have hn_1_77 := x_swN (z := 77) c_1_77 hn_1_76 rfl
  by_cases c_1_79 : a2 = (79 : Int32)
  · replace h := (if_pos c_1_79).symm.trans h
    refine lv_tableIn (tgt := 508) (off := 507) hx hb dX12_more_1 (by rw [c_1_79]; decide) (by rw [c_1_79]; decide) (by rw [c_1_79]; decide) (by decide) ?_
    refine lv_iload hx hb dX12_more_508 (lv_at hl 4 rfl) ?_
    refine lv_iload_n hx hb dX12_more_510 rfl (lv_at hl 3 rfl) ?_
    refine lv_isub hx hb dX12_more_511 ?_
    refine lv_iload hx hb dX12_more_512 (lv_at hl 5 rfl) ?_
    refine lv_iconst (v := (1 : Int32)) hx hb dX12_more_514 (by decide) ?_
    refine lv_iand hx hb dX12_more_515 ?_
    refine lv_isub hx hb dX12_more_516 ?_
    refine lv_istore (lv' := [(6, .int ((a4 - a3) - (a5 &&& (1 : Int32)))), (0, .ref (ad 0 0)), (1, .int a1), (2, .int a2), (3, .int a3), (4, .int a4), (5, .int a5)]) hx hb dX12_more_517 hl (by decide) rfl (fun ls hl => ?_)
    refine lv_aload_n hx hb dX12_more_519 rfl (lv_at hl 1 rfl) ?_
    refine x_get F hK hW xc_X12 rd_d0 rd_0 4 (by decide) k_5_132 (gf_X12_4 _ _) dX12_more_520 ?_
    refine lv_iload_n hx hb dX12_more_523 rfl (lv_at hl 2 rfl) ?_
    refine lv_iload hx hb dX12_more_524 (lv_at hl 0 rfl) ?_
    refine lv_ldc (v := (65535 : Int32)) hx hb F.2.2.2.1 (x_hts F _ k_6_102) dX12_more_526 ?_
    refine lv_iand hx hb dX12_more_528 ?_
    refine x_iast (t0 := 0) F hK hI hW hS rd_d5 rd_5 rfl dX12_more_529 h (fun S34 H locs hW hS h => ?_)
    refine lv_aload_n hx hb dX12_more_530 rfl (lv_at hl 1 rfl) ?_
    refine x_get F hK hW xc_X12 rd_d0 rd_0 5 (by decide) k_5_133 (gf_X12_5 _ _) dX12_more_531 ?_
    refine lv_iload_n hx hb dX12_more_534 rfl (lv_at hl 2 rfl) ?_
    refine lv_iload hx hb dX12_more_535 (lv_at hl 0 rfl) ?_
    refine lv_if_ge (tgt := 544) hx hb dX12_more_537 (by decide) (fun c_35 => ?_) (fun c_35 => ?_)
    · replace h := (if_pos c_35).symm.trans h
      refine lv_iconst (v := (0 : Int32)) hx hb dX12_more_544 (by decide) ?_
      refine x_iast (t0 := 0) F hK hI hW hS rd_d6 rd_6 rfl dX12_more_545 h (fun S36 H locs hW hS h => ?_)
      refine lv_iconst (v := (1 : Int32)) hx hb dX12_more_546 (by decide) ?_
      exact x_zret F hr hlk hW hS rfl dX12_more_547 h
    replace h := (if_neg c_35).symm.trans h
    refine lv_iconst (v := (1 : Int32)) hx hb dX12_more_540 (by decide) ?_
    refine lv_goto (tgt := 545) hx hb dX12_more_541 (by decide) ?_
    refine x_iast (t0 := 0) F hK hI hW hS rd_d6 rd_6 rfl dX12_more_545 h (fun S37 H locs hW hS h => ?_)
    refine lv_iconst (v := (1 : Int32)) hx hb dX12_more_546 (by decide) ?_
    exact x_zret F hr hlk hW hS rfl dX12_more_547 h
  replace h := (if_neg c_1_79).symm.trans h
  have hn_1_79 := x_swN (z := 79) c_1_79 hn_1_77 rfl
  by_cases c_1_84 : a2 = (84 : Int32)
  · replace h := (if_pos c_1_84).symm.trans h
    refine lv_tableIn (tgt := 548) (off := 547) hx hb dX12_more_1 (by rw [c_1_84]; decide) (by rw [c_1_84]; decide) (by rw [c_1_84]; decide) (by decide) ?_
    refine lv_aload_n hx hb dX12_more_548 rfl (lv_at hl 0 rfl) ?_
    refine x_get F hK hW xc_X12 rd_d0 rd_0 20 (by decide) k_5_148 (gf_X12_20 _ _) dX12_more_549 ?_
    refine lv_iconst (v := (2 : Int32)) hx hb dX12_more_552 (by decide) ?_
    refine lv_iload_n hx hb dX12_more_553 rfl (lv_at hl 1 rfl) ?_
    refine lv_imul hx hb dX12_more_554 ?_
    refine lv_iload_n hx hb dX12_more_555 rfl (lv_at hl 3 rfl) ?_
    refine x_iast (t0 := 0) F hK hI hW hS rd_d21 rd_21 rfl dX12_more_556 h (fun S38 H locs hW hS h => ?_)
    refine lv_aload_n hx hb dX12_more_557 rfl (lv_at hl 0 rfl) ?_
    refine x_get F hK hW xc_X12 rd_d0 rd_0 20 (by decide) k_5_148 (gf_X12_20 _ _) dX12_more_558 ?_
    refine lv_iconst (v := (2 : Int32)) hx hb dX12_more_561 (by decide) ?_
    refine lv_iload_n hx hb dX12_more_562 rfl (lv_at hl 1 rfl) ?_
    refine lv_imul hx hb dX12_more_563 ?_
    refine lv_iconst (v := (1 : Int32)) hx hb dX12_more_564 (by decide) ?_
    refine lv_iadd hx hb dX12_more_565 ?_
    refine lv_iload_n hx hb dX12_more_566 rfl (lv_at hl 3 rfl) ?_
    refine x_iast (t0 := 0) F hK hI hW hS rd_d21 rd_21 rfl dX12_more_567 h (fun S39 H locs hW hS h => ?_)
    refine lv_aload_n hx hb dX12_more_568 rfl (lv_at hl 0 rfl) ?_
    refine lv_iload_n hx hb dX12_more_569 rfl (lv_at hl 1 rfl) ?_
    refine lv_iconst (v := (1 : Int32)) hx hb dX12_more_570 (by decide) ?_
    refine x_cVi (As := [.int a1, .int (1 : Int32)]) F xG_ok hK hW hS um_X12_popped k_7_13 (fun _ h1 => m_r_popped hI _ _ h1) rfl rd_d0 rd_0 rfl rfl hl.1 rfl rfl ⟨Nat.le_of_ble_eq_true rfl, Nat.le_of_ble_eq_true rfl⟩ ⟨Nat.zero_le _, Nat.zero_le _⟩ (Nat.le_of_ble_eq_true rfl) dX12_more_571 h (fun r_40 S40 H locs hW hS h => ?_)
    obtain ⟨hz, h⟩ := gz_use h
    exact x_zret F hr hlk hW hS (z_nar hz) dX12_more_574 h
  replace h := (if_neg c_1_84).symm.trans h
  have hn_1_84 := x_swN (z := 84) c_1_84 hn_1_79 rfl
  by_cases c_1_85 : a2 = (85 : Int32)
  · replace h := (if_pos c_1_85).symm.trans h
    refine lv_tableIn (tgt := 575) (off := 574) hx hb dX12_more_1 (by rw [c_1_85]; decide) (by rw [c_1_85]; decide) (by rw [c_1_85]; decide) (by decide) ?_
    refine lv_aload_n hx hb dX12_more_575 rfl (lv_at hl 0 rfl) ?_
    refine x_get F hK hW xc_X12 rd_d0 rd_0 15 (by decide) k_5_143 (gf_X12_15 _ _) dX12_more_576 ?_
    refine lv_iload_n hx hb dX12_more_579 rfl (lv_at hl 1 rfl) ?_
    refine x_zald (t0 := 1) F hK hW rd_d16 rd_16 rfl dX12_more_580 h (fun h => ?_)
    refine lv_if_eq (tgt := 589) hx hb dX12_more_581 (by decide) (fun c_41 => ?_) (fun c_41 => ?_)
    · replace h := (if_pos c_41).symm.trans h
      refine lv_iconst (v := (1 : Int32)) hx hb dX12_more_589 (by decide) ?_
      exact x_zret F hr hlk hW hS rfl dX12_more_590 h
    replace h := (if_neg c_41).symm.trans h
    refine lv_aload_n hx hb dX12_more_584 rfl (lv_at hl 0 rfl) ?_
    refine lv_iload_n hx hb dX12_more_585 rfl (lv_at hl 1 rfl) ?_
    refine x_cVv (As := [.int a1]) F xG_ok hK hW hS um_X12_waits k_7_25 (fun _ h1 => m_r_waits hI _ h1) rfl rd_d0 rd_0 rfl rfl hl.1 rfl rfl ⟨Nat.le_of_ble_eq_true rfl, Nat.le_of_ble_eq_true rfl⟩ ⟨Nat.zero_le _, Nat.zero_le _⟩ (Nat.le_of_ble_eq_true rfl) dX12_more_586 h (fun S42 H locs hW hS h => ?_)
    refine lv_iconst (v := (1 : Int32)) hx hb dX12_more_589 (by decide) ?_
    exact x_zret F hr hlk hW hS rfl dX12_more_590 h
  replace h := (if_neg c_1_85).symm.trans h
  have hn_1_85 := x_swN (z := 85) c_1_85 hn_1_84 rfl
  by_cases c_1_86 : a2 = (86 : Int32)
  · replace h := (if_pos c_1_86).symm.trans h
    refine lv_tableIn (tgt := 591) (off := 590) hx hb dX12_more_1 (by rw [c_1_86]; decide) (by rw [c_1_86]; decide) (by rw [c_1_86]; decide) (by decide) ?_
    refine lv_aload_n hx hb dX12_more_591 rfl (lv_at hl 0 rfl) ?_
    refine lv_iload_n hx hb dX12_more_592 rfl (lv_at hl 1 rfl) ?_
    refine lv_iload hx hb dX12_more_593 (lv_at hl 4 rfl) ?_
    refine x_cSo (As := [.int a4]) F xG_ok hS um_X12_signed k_6_180 (fun _ h1 => m_r_signed _ h1) rfl rfl hl.1 rfl rfl ⟨Nat.le_of_ble_eq_true rfl, Nat.le_of_ble_eq_true rfl⟩ ⟨Nat.zero_le _, Nat.zero_le _⟩ (Nat.le_of_ble_eq_true rfl) dX12_more_595 h (fun r_43 locs hS h => ?_)
    refine lv_iload_n hx hb dX12_more_598 rfl (lv_at hl 3 rfl) ?_
    refine x_cSo (As := [.int a3]) F xG_ok hS um_X12_signed k_6_180 (fun _ h1 => m_r_signed _ h1) rfl rfl hl.1 rfl rfl ⟨Nat.le_of_ble_eq_true rfl, Nat.le_of_ble_eq_true rfl⟩ ⟨Nat.zero_le _, Nat.zero_le _⟩ (Nat.le_of_ble_eq_true rfl) dX12_more_599 h (fun r_44 locs hS h => ?_)
    refine lv_ineg hx hb dX12_more_602 ?_
    refine lv_icmp_lt (tgt := 620) hx hb dX12_more_603 (by decide) (fun c_45 => ?_) (fun c_45 => ?_)
    · replace h := (if_pos c_45).symm.trans h
      exact m_r_more_b620 hI  F hr hlk hK _ _ _ h hW hS (lv_sub hl [0, 1] rfl)
    replace h := (if_neg c_45).symm.trans h
    refine lv_iload hx hb dX12_more_606 (lv_at hl 4 rfl) ?_
    refine x_cSo (As := [.int a4]) F xG_ok hS um_X12_signed k_6_180 (fun _ h1 => m_r_signed _ h1) rfl rfl hl.1 rfl rfl ⟨Nat.le_of_ble_eq_true rfl, Nat.le_of_ble_eq_true rfl⟩ ⟨Nat.zero_le _, Nat.zero_le _⟩ (Nat.le_of_ble_eq_true rfl) dX12_more_608 h (fun r_48 locs hS h => ?_)
    refine lv_iload_n hx hb dX12_more_611 rfl (lv_at hl 3 rfl) ?_
    refine x_cSo (As := [.int a3]) F xG_ok hS um_X12_signed k_6_180 (fun _ h1 => m_r_signed _ h1) rfl rfl hl.1 rfl rfl ⟨Nat.le_of_ble_eq_true rfl, Nat.le_of_ble_eq_true rfl⟩ ⟨Nat.zero_le _, Nat.zero_le _⟩ (Nat.le_of_ble_eq_true rfl) dX12_more_612 h (fun r_49 locs hS h => ?_)
    refine lv_iconst (v := (1 : Int32)) hx hb dX12_more_615 (by decide) ?_
    refine lv_isub hx hb dX12_more_616 ?_
    refine lv_icmp_le (tgt := 624) hx hb dX12_more_617 (by decide) (fun c_50 => ?_) (fun c_50 => ?_)
    · replace h := (if_pos c_50).symm.trans h
      refine lv_iconst (v := (0 : Int32)) hx hb dX12_more_624 (by decide) ?_
      refine x_cVi (As := [.int a1, .int (0 : Int32)]) F xG_ok hK hW hS um_X12_fails k_7_89 (fun _ h1 => m_r_fails hI _ _ h1) rfl rd_d0 rd_0 rfl rfl hl.1 rfl rfl ⟨Nat.le_of_ble_eq_true rfl, Nat.le_of_ble_eq_true rfl⟩ ⟨Nat.zero_le _, Nat.zero_le _⟩ (Nat.le_of_ble_eq_true rfl) dX12_more_625 h (fun r_51 S51 H locs hW hS h => ?_)
      refine lv_pop hx hb dX12_more_628 rfl ?_
      refine lv_aload_n hx hb dX12_more_629 rfl (lv_at hl 0 rfl) ?_
      refine lv_iload_n hx hb dX12_more_630 rfl (lv_at hl 1 rfl) ?_
      refine lv_iconst (v := (1 : Int32)) hx hb dX12_more_631 (by decide) ?_
      refine x_cVi (As := [.int a1, .int (1 : Int32)]) F xG_ok hK hW hS um_X12_popped k_7_13 (fun _ h1 => m_r_popped hI _ _ h1) rfl rd_d0 rd_0 rfl rfl hl.1 rfl rfl ⟨Nat.le_of_ble_eq_true rfl, Nat.le_of_ble_eq_true rfl⟩ ⟨Nat.zero_le _, Nat.zero_le _⟩ (Nat.le_of_ble_eq_true rfl) dX12_more_632 h (fun r_52 S52 H locs hW hS h => ?_)
      obtain ⟨hz, h⟩ := gz_use h
      exact x_zret F hr hlk hW hS (z_nar hz) dX12_more_635 h
    replace h := (if_neg c_50).symm.trans h
    exact m_r_more_b620 hI  F hr hlk hK _ _ _ h hW hS (lv_sub hl [0, 1] rfl)
  replace h := (if_neg c_1_86).symm.trans h
  have hn_1_86 := x_swN (z := 86) c_1_86 hn_1_85 rfl
  by_cases c_1_87 : a2 = (87 : Int32)
  · replace h := (if_pos c_1_87).symm.trans h
    refine lv_tableIn (tgt := 636) (off := 635) hx hb dX12_more_1 (by rw [c_1_87]; decide) (by rw [c_1_87]; decide) (by rw [c_1_87]; decide) (by decide) ?_
    refine lv_aload_n hx hb dX12_more_636 rfl (lv_at hl 0 rfl) ?_
    refine x_get F hK hW xc_X12 rd_d0 rd_0 16 (by decide) k_5_144 (gf_X12_16 _ _) dX12_more_637 ?_
    refine lv_iload_n hx hb dX12_more_640 rfl (lv_at hl 1 rfl) ?_
    refine lv_iload_n hx hb dX12_more_641 rfl (lv_at hl 2 rfl) ?_
    refine lv_bipush (v := (88 : Int32)) hx hb dX12_more_642 (by decide) ?_
    refine lv_icmp_ne (tgt := 651) hx hb dX12_more_644 (by decide) (fun c_53 => ?_) (fun c_53 => ?_)
    · replace h := (if_neg c_53).symm.trans h
      refine lv_iconst (v := (0 : Int32)) hx hb dX12_more_651 (by decide) ?_
      refine x_zast (t0 := 1) F hK hI hW hS rd_d17 rd_17 rfl dX12_more_652 h (fun S54 H locs hW hS h => ?_)
      refine lv_iconst (v := (1 : Int32)) hx hb dX12_more_653 (by decide) ?_
      exact x_zret F hr hlk hW hS rfl dX12_more_654 h
    replace h := (if_pos c_53).symm.trans h
    refine lv_iconst (v := (1 : Int32)) hx hb dX12_more_647 (by decide) ?_
    refine lv_goto (tgt := 652) hx hb dX12_more_648 (by decide) ?_
    refine x_zast (t0 := 1) F hK hI hW hS rd_d17 rd_17 rfl dX12_more_652 h (fun S55 H locs hW hS h => ?_)
    refine lv_iconst (v := (1 : Int32)) hx hb dX12_more_653 (by decide) ?_
    exact x_zret F hr hlk hW hS rfl dX12_more_654 h
  replace h := (if_neg c_1_87).symm.trans h
  have hn_1_87 := x_swN (z := 87) c_1_87 hn_1_86 rfl
  by_cases c_1_88 : a2 = (88 : Int32)
  · replace h := (if_pos c_1_88).symm.trans h
    refine lv_tableIn (tgt := 636) (off := 635) hx hb dX12_more_1 (by rw [c_1_88]; decide) (by rw [c_1_88]; decide) (by rw [c_1_88]; decide) (by decide) ?_
    refine lv_aload_n hx hb dX12_more_636 rfl (lv_at hl 0 rfl) ?_
    refine x_get F hK hW xc_X12 rd_d0 rd_0 16 (by decide) k_5_144 (gf_X12_16 _ _) dX12_more_637 ?_
    refine lv_iload_n hx hb dX12_more_640 rfl (lv_at hl 1 rfl) ?_
    refine lv_iload_n hx hb dX12_more_641 rfl (lv_at hl 2 rfl) ?_
    refine lv_bipush (v := (88 : Int32)) hx hb dX12_more_642 (by decide) ?_
    refine lv_icmp_ne (tgt := 651) hx hb dX12_more_644 (by decide) (fun c_56 => ?_) (fun c_56 => ?_)
    · replace h := (if_neg c_56).symm.trans h
      refine lv_iconst (v := (0 : Int32)) hx hb dX12_more_651 (by decide) ?_
      refine x_zast (t0 := 1) F hK hI hW hS rd_d17 rd_17 rfl dX12_more_652 h (fun S57 H locs hW hS h => ?_)
      refine lv_iconst (v := (1 : Int32)) hx hb dX12_more_653 (by decide) ?_
      exact x_zret F hr hlk hW hS rfl dX12_more_654 h
    replace h := (if_pos c_56).symm.trans h
    refine lv_iconst (v := (1 : Int32)) hx hb dX12_more_647 (by decide) ?_
    refine lv_goto (tgt := 652) hx hb dX12_more_648 (by decide) ?_
    refine x_zast (t0 := 1) F hK hI hW hS rd_d17 rd_17 rfl dX12_more_652 h (fun S58 H locs hW hS h => ?_)
    refine lv_iconst (v := (1 : Int32)) hx hb dX12_more_653 (by decide) ?_
    exact x_zret F hr hlk hW hS rfl dX12_more_654 h
  replace h := (if_neg c_1_88).symm.trans h
  have hn_1_88 := x_swN (z := 88) c_1_88 hn_1_87 rfl
  by_cases c_1_89 : a2 = (89 : Int32)
  · replace h := (if_pos c_1_89).symm.trans h
    refine lv_tableIn (tgt := 655) (off := 654) hx hb dX12_more_1 (by rw [c_1_89]; decide) (by rw [c_1_89]; decide) (by rw [c_1_89]; decide) (by decide) ?_
    refine lv_aload_n hx hb dX12_more_655 rfl (lv_at hl 0 rfl) ?_
    refine lv_iload_n hx hb dX12_more_656 rfl (lv_at hl 1 rfl) ?_
    refine lv_aload_n hx hb dX12_more_657 rfl (lv_at hl 0 rfl) ?_
    refine x_get F hK hW xc_X12 rd_d0 rd_0 16 (by decide) k_5_144 (gf_X12_16 _ _) dX12_more_658 ?_
    refine lv_iload_n hx hb dX12_more_661 rfl (lv_at hl 1 rfl) ?_
    refine x_zald (t0 := 1) F hK hW rd_d17 rd_17 rfl dX12_more_662 h (fun h => ?_)
    refine lv_if_eq (tgt := 670) hx hb dX12_more_663 (by decide) (fun c_59 => ?_) (fun c_59 => ?_)
    · replace h := (if_pos c_59).symm.trans h
      refine lv_iconst (v := (0 : Int32)) hx hb dX12_more_670 (by decide) ?_
      refine x_cVv (As := [.int a1, .int (0 : Int32)]) F xG_ok hK hW hS um_X12_push k_7_102 (fun _ h1 => m_r_push hI _ _ h1) rfl rd_d0 rd_0 rfl rfl hl.1 rfl rfl ⟨Nat.le_of_ble_eq_true rfl, Nat.le_of_ble_eq_true rfl⟩ ⟨Nat.zero_le _, Nat.zero_le _⟩ (Nat.le_of_ble_eq_true rfl) dX12_more_671 h (fun S60 H locs hW hS h => ?_)
      refine lv_iconst (v := (1 : Int32)) hx hb dX12_more_674 (by decide) ?_
      exact x_zret F hr hlk hW hS rfl dX12_more_675 h
    replace h := (if_neg c_59).symm.trans h
    refine lv_iconst (v := (1 : Int32)) hx hb dX12_more_666 (by decide) ?_
    refine lv_goto (tgt := 671) hx hb dX12_more_667 (by decide) ?_
    refine x_cVv (As := [.int a1, .int (1 : Int32)]) F xG_ok hK hW hS um_X12_push k_7_102 (fun _ h1 => m_r_push hI _ _ h1) rfl rd_d0 rd_0 rfl rfl hl.1 rfl rfl ⟨Nat.le_of_ble_eq_true rfl, Nat.le_of_ble_eq_true rfl⟩ ⟨Nat.zero_le _, Nat.zero_le _⟩ (Nat.le_of_ble_eq_true rfl) dX12_more_671 h (fun S61 H locs hW hS h => ?_)
    refine lv_iconst (v := (1 : Int32)) hx hb dX12_more_674 (by decide) ?_
    exact x_zret F hr hlk hW hS rfl dX12_more_675 h
  replace h := (if_neg c_1_89).symm.trans h
  have hn_1_89 := x_swN (z := 89) c_1_89 hn_1_88 rfl
  by_cases c_1_90 : a2 = (90 : Int32)
  · replace h := (if_pos c_1_90).symm.trans h
    refine lv_tableIn (tgt := 676) (off := 675) hx hb dX12_more_1 (by rw [c_1_90]; decide) (by rw [c_1_90]; decide) (by rw [c_1_90]; decide) (by decide) ?_
    refine lv_aload_n hx hb dX12_more_676 rfl (lv_at hl 0 rfl) ?_
    refine lv_iload_n hx hb dX12_more_677 rfl (lv_at hl 1 rfl) ?_
    refine lv_iload_n hx hb dX12_more_678 rfl (lv_at hl 3 rfl) ?_
    refine x_cVv (As := [.int a1, .int a3]) F xG_ok hK hW hS um_X12_push k_7_102 (fun _ h1 => m_r_push hI _ _ h1) rfl rd_d0 rd_0 rfl rfl hl.1 rfl rfl ⟨Nat.le_of_ble_eq_true rfl, Nat.le_of_ble_eq_true rfl⟩ ⟨Nat.zero_le _, Nat.zero_le _⟩ (Nat.le_of_ble_eq_true rfl) dX12_more_679 h (fun S62 H locs hW hS h => ?_)
    refine lv_iconst (v := (1 : Int32)) hx hb dX12_more_682 (by decide) ?_
    exact x_zret F hr hlk hW hS rfl dX12_more_683 h
  replace h := (if_neg c_1_90).symm.trans h
  have hn_1_90 := x_swN (z := 90) c_1_90 hn_1_89 rfl
  by_cases c_1_116 : a2 = (116 : Int32)
  · replace h := (if_pos c_1_116).symm.trans h
    refine lv_tableIn (tgt := 684) (off := 683) hx hb dX12_more_1 (by rw [c_1_116]; decide) (by rw [c_1_116]; decide) (by rw [c_1_116]; decide) (by decide) ?_
    refine lv_aload_n hx hb dX12_more_684 rfl (lv_at hl 0 rfl) ?_
    refine lv_iload_n hx hb dX12_more_685 rfl (lv_at hl 1 rfl) ?_
    refine lv_iload_n hx hb dX12_more_686 rfl (lv_at hl 2 rfl) ?_
    refine lv_bipush (v := (116 : Int32)) hx hb dX12_more_687 (by decide) ?_
    refine lv_icmp_ne (tgt := 697) hx hb dX12_more_689 (by decide) (fun c_63 => ?_) (fun c_63 => ?_)
    · replace h := (if_neg c_63).symm.trans h
      refine lv_bipush (v := (8 : Int32)) hx hb dX12_more_697 (by decide) ?_
      refine x_cVi (As := [.int a1, .int (8 : Int32)]) F xG_ok hK hW hS um_X12_sums k_7_118 (fun _ h1 => m_r_sums hI _ _ h1) rfl rd_d0 rd_0 rfl rfl hl.1 rfl rfl ⟨Nat.le_of_ble_eq_true rfl, Nat.le_of_ble_eq_true rfl⟩ ⟨Nat.zero_le _, Nat.zero_le _⟩ (Nat.le_of_ble_eq_true rfl) dX12_more_699 h (fun r_64 S64 H locs hW hS h => ?_)
      obtain ⟨hz, h⟩ := gz_use h
      exact x_zret F hr hlk hW hS (z_nar hz) dX12_more_702 h
    replace h := (if_pos c_63).symm.trans h
    refine lv_bipush (v := (16 : Int32)) hx hb dX12_more_692 (by decide) ?_
    refine lv_goto (tgt := 699) hx hb dX12_more_694 (by decide) ?_
    refine x_cVi (As := [.int a1, .int (16 : Int32)]) F xG_ok hK hW hS um_X12_sums k_7_118 (fun _ h1 => m_r_sums hI _ _ h1) rfl rd_d0 rd_0 rfl rfl hl.1 rfl rfl ⟨Nat.le_of_ble_eq_true rfl, Nat.le_of_ble_eq_true rfl⟩ ⟨Nat.zero_le _, Nat.zero_le _⟩ (Nat.le_of_ble_eq_true rfl) dX12_more_699 h (fun r_65 S65 H locs hW hS h => ?_)
    obtain ⟨hz, h⟩ := gz_use h
    exact x_zret F hr hlk hW hS (z_nar hz) dX12_more_702 h
  replace h := (if_neg c_1_116).symm.trans h
  have hn_1_116 := x_swN (z := 116) c_1_116 hn_1_90 rfl
  by_cases c_1_117 : a2 = (117 : Int32)
  · replace h := (if_pos c_1_117).symm.trans h
    refine lv_tableIn (tgt := 684) (off := 683) hx hb dX12_more_1 (by rw [c_1_117]; decide) (by rw [c_1_117]; decide) (by rw [c_1_117]; decide) (by decide) ?_
    refine lv_aload_n hx hb dX12_more_684 rfl (lv_at hl 0 rfl) ?_
    refine lv_iload_n hx hb dX12_more_685 rfl (lv_at hl 1 rfl) ?_
    refine lv_iload_n hx hb dX12_more_686 rfl (lv_at hl 2 rfl) ?_
    refine lv_bipush (v := (116 : Int32)) hx hb dX12_more_687 (by decide) ?_
    refine lv_icmp_ne (tgt := 697) hx hb dX12_more_689 (by decide) (fun c_66 => ?_) (fun c_66 => ?_)
    · replace h := (if_neg c_66).symm.trans h
      refine lv_bipush (v := (8 : Int32)) hx hb dX12_more_697 (by decide) ?_
      refine x_cVi (As := [.int a1, .int (8 : Int32)]) F xG_ok hK hW hS um_X12_sums k_7_118 (fun _ h1 => m_r_sums hI _ _ h1) rfl rd_d0 rd_0 rfl rfl hl.1 rfl rfl ⟨Nat.le_of_ble_eq_true rfl, Nat.le_of_ble_eq_true rfl⟩ ⟨Nat.zero_le _, Nat.zero_le _⟩ (Nat.le_of_ble_eq_true rfl) dX12_more_699 h (fun r_67 S67 H locs hW hS h => ?_)
      obtain ⟨hz, h⟩ := gz_use h
      exact x_zret F hr hlk hW hS (z_nar hz) dX12_more_702 h
    replace h := (if_pos c_66).symm.trans h
    refine lv_bipush (v := (16 : Int32)) hx hb dX12_more_692 (by decide) ?_
    refine lv_goto (tgt := 699) hx hb dX12_more_694 (by decide) ?_
    refine x_cVi (As := [.int a1, .int (16 : Int32)]) F xG_ok hK hW hS um_X12_sums k_7_118 (fun _ h1 => m_r_sums hI _ _ h1) rfl rd_d0 rd_0 rfl rfl hl.1 rfl rfl ⟨Nat.le_of_ble_eq_true rfl, Nat.le_of_ble_eq_true rfl⟩ ⟨Nat.zero_le _, Nat.zero_le _⟩ (Nat.le_of_ble_eq_true rfl) dX12_more_699 h (fun r_68 S68 H locs hW hS h => ?_)
    obtain ⟨hz, h⟩ := gz_use h
    exact x_zret F hr hlk hW hS (z_nar hz) dX12_more_702 h
  replace h := (if_neg c_1_117).symm.trans h
  have hn_1_117 := x_swN (z := 117) c_1_117 hn_1_116 rfl
  by_cases c_1_119 : a2 = (119 : Int32)
  · replace h := (if_pos c_1_119).symm.trans h
    refine lv_tableIn (tgt := 703) (off := 702) hx hb dX12_more_1 (by rw [c_1_119]; decide) (by rw [c_1_119]; decide) (by rw [c_1_119]; decide) (by decide) ?_
    refine lv_aload_n hx hb dX12_more_703 rfl (lv_at hl 0 rfl) ?_
    refine x_get F hK hW xc_X12 rd_d0 rd_0 4 (by decide) k_5_132 (gf_X12_4 _ _) dX12_more_704 ?_
    refine lv_iload_n hx hb dX12_more_707 rfl (lv_at hl 1 rfl) ?_
    refine lv_iload_n hx hb dX12_more_708 rfl (lv_at hl 3 rfl) ?_
    refine lv_bipush (v := (16 : Int32)) hx hb dX12_more_709 (by decide) ?_
    refine x_cSo (As := [.int a3, .int (16 : Int32)]) F xG_ok hS um_X12_turned k_6_227 (fun _ h1 => m_r_turned _ _ h1) rfl rfl hl.1 rfl rfl ⟨Nat.le_of_ble_eq_true rfl, Nat.le_of_ble_eq_true rfl⟩ ⟨Nat.zero_le _, Nat.zero_le _⟩ (Nat.le_of_ble_eq_true rfl) dX12_more_711 h (fun r_69 locs hS h => ?_)
    refine x_iast (t0 := 0) F hK hI hW hS rd_d5 rd_5 rfl dX12_more_714 h (fun S70 H locs hW hS h => ?_)
    refine lv_iconst (v := (1 : Int32)) hx hb dX12_more_715 (by decide) ?_
    exact x_zret F hr hlk hW hS rfl dX12_more_716 h
  replace h := (if_neg c_1_119).symm.trans h
  have hn_1_119 := x_swN (z := 119) c_1_119 hn_1_117 rfl
  refine x_tblD (tgt := 717) hx hb dX12_more_1 hn_1_119 (by decide) (by decide) (by decide) ?_
  refine lv_iconst (v := (0 : Int32)) hx hb dX12_more_717 (by decide) ?_
  exact x_zret F hr hlk hW hS rfl dX12_more_718 h
