/-! X12_byteAt -/
def r_byteAt  (S : xS) (a1 : Int32) (a2 : Int32) : Option (Int32 × xS) := if (a2 &&& (65535 : Int32)) < (32768 : Int32) then (gd a1 8 (xnm (sI S 0 18 (a1).toNatClampNeg (vp_nar .boolean (1 : Int32))) (fun S2 => some ((0 : Int32), S2)))) else (if (a2 &&& (65535 : Int32)) < (36864 : Int32) then (gd ((((4096 : Int32) * a1) + (a2 &&& (65535 : Int32))) - (32768 : Int32)) 32768 (some (((xI S 0 4 (((((4096 : Int32) * a1) + (a2 &&& (65535 : Int32))) - (32768 : Int32))).toNatClampNeg) &&& (255 : Int32)), S))) else (gd a1 8 (xnm (sI S 0 18 (a1).toNatClampNeg (vp_nar .boolean (1 : Int32))) (fun S4 => some ((0 : Int32), S4)))))
set_option maxHeartbeats 4000000 in
set_option maxRecDepth 100000 in
theorem m_r_byteAt {l : Launch} {D : va_G} {cI cZ cB : ClassId} {ad : Nat → Nat → Nat} (hI : xInj rDom ad) {S : xS} (a1 : Int32) (a2 : Int32) {o : Int32 × xS} (h : r_byteAt  S a1 a2 = some o) : Met l yX12_byteAt (Cond.code yX12_byteAt cX12_byteAt 4 (some .int) :: xG) { frames := 0, cells := 0, slots := 0, locals := 0 } (xPc D vwCl (rTy cI cZ cB) [] [] rDom ad (rDe ad cI cZ cB) [.ref (ad 0 0), .int a1, .int a2] S) (xQ D vwCl rDom ad (rDe ad cI cZ cB) (some (.int o.1)) o.2) 0 0 (xA rDom ad) := by
  unfold r_byteAt at h
  refine x_enter (by decide) (Nat.le_of_ble_eq_true rfl) (fun p e s m below meth c F hr hlk hK hW hS ls hl => ?_)
  have hl : lv_has ls 4 [(0, .ref (ad 0 0)), (1, .int a1), (2, .int a2)] := hl
  have hx := F.1
  have hb := F.2.1
  refine lv_iload_n hx hb dX12_byteAt_0 rfl (lv_at hl 2 rfl) ?_
  refine lv_ldc (v := (65535 : Int32)) hx hb F.2.2.2.1 (x_hts F _ k_6_102) dX12_byteAt_1 ?_
  refine lv_iand hx hb dX12_byteAt_3 ?_
  refine lv_istore_n (lv' := [(3, .int (a2 &&& (65535 : Int32))), (0, .ref (ad 0 0)), (1, .int a1), (2, .int a2)]) hx hb dX12_byteAt_4 rfl hl (by decide) rfl (fun ls hl => ?_)
  refine lv_iload_n hx hb dX12_byteAt_5 rfl (lv_at hl 0 rfl) ?_
  refine lv_ldc (v := (32768 : Int32)) hx hb F.2.2.2.1 (x_hts F _ k_5_126) dX12_byteAt_6 ?_
  refine lv_icmp_lt (tgt := 17) hx hb dX12_byteAt_8 (by decide) (fun c_1 => ?_) (fun c_1 => ?_)
  · replace h := (if_pos c_1).symm.trans h
    refine lv_aload_n hx hb dX12_byteAt_17 rfl (lv_at hl 1 rfl) ?_
    refine x_get F hK hW xc_X12 rd_d0 rd_0 17 (by decide) k_5_145 (gf_X12_17 _ _) dX12_byteAt_18 ?_
    refine lv_iload_n hx hb dX12_byteAt_21 rfl (lv_at hl 2 rfl) ?_
    refine lv_iconst (v := (1 : Int32)) hx hb dX12_byteAt_22 (by decide) ?_
    refine x_zast (t0 := 1) F hK hI hW hS rd_d18 rd_18 rfl dX12_byteAt_23 h (fun S2 H locs hW hS h => ?_)
    refine lv_iconst (v := (0 : Int32)) hx hb dX12_byteAt_24 (by decide) ?_
    exact x_iret F hr hlk hW hS dX12_byteAt_25 h
  replace h := (if_neg c_1).symm.trans h
  refine lv_iload_n hx hb dX12_byteAt_11 rfl (lv_at hl 0 rfl) ?_
  refine lv_ldc (v := (36864 : Int32)) hx hb F.2.2.2.1 (x_hts F _ k_6_124) dX12_byteAt_12 ?_
  refine lv_icmp_lt (tgt := 26) hx hb dX12_byteAt_14 (by decide) (fun c_3 => ?_) (fun c_3 => ?_)
  · replace h := (if_pos c_3).symm.trans h
    refine lv_aload_n hx hb dX12_byteAt_26 rfl (lv_at hl 1 rfl) ?_
    refine x_get F hK hW xc_X12 rd_d0 rd_0 3 (by decide) k_5_131 (gf_X12_3 _ _) dX12_byteAt_27 ?_
    refine lv_sipush (v := (4096 : Int32)) hx hb dX12_byteAt_30 (by decide) ?_
    refine lv_iload_n hx hb dX12_byteAt_33 rfl (lv_at hl 2 rfl) ?_
    refine lv_imul hx hb dX12_byteAt_34 ?_
    refine lv_iload_n hx hb dX12_byteAt_35 rfl (lv_at hl 0 rfl) ?_
    refine lv_iadd hx hb dX12_byteAt_36 ?_
    refine lv_ldc (v := (32768 : Int32)) hx hb F.2.2.2.1 (x_hts F _ k_5_126) dX12_byteAt_37 ?_
    refine lv_isub hx hb dX12_byteAt_39 ?_
    refine x_bald (t0 := 2) F hK hW rd_d4 rd_4 rfl dX12_byteAt_40 h (fun h => ?_)
    refine lv_sipush (v := (255 : Int32)) hx hb dX12_byteAt_41 (by decide) ?_
    refine lv_iand hx hb dX12_byteAt_44 ?_
    exact x_iret F hr hlk hW hS dX12_byteAt_45 h
  replace h := (if_neg c_3).symm.trans h
  refine lv_aload_n hx hb dX12_byteAt_17 rfl (lv_at hl 1 rfl) ?_
  refine x_get F hK hW xc_X12 rd_d0 rd_0 17 (by decide) k_5_145 (gf_X12_17 _ _) dX12_byteAt_18 ?_
  refine lv_iload_n hx hb dX12_byteAt_21 rfl (lv_at hl 2 rfl) ?_
  refine lv_iconst (v := (1 : Int32)) hx hb dX12_byteAt_22 (by decide) ?_
  refine x_zast (t0 := 1) F hK hI hW hS rd_d18 rd_18 rfl dX12_byteAt_23 h (fun S4 H locs hW hS h => ?_)
  refine lv_iconst (v := (0 : Int32)) hx hb dX12_byteAt_24 (by decide) ?_
  exact x_iret F hr hlk hW hS dX12_byteAt_25 h
/-! X12_byteTo -/
def r_byteTo  (S : xS) (a1 : Int32) (a2 : Int32) (a3 : Int32) : Option (xS) := if (a2 &&& (65535 : Int32)) < (32768 : Int32) then (gd a1 8 (xnm (sI S 0 18 (a1).toNatClampNeg (vp_nar .boolean (1 : Int32))) (fun S2 => some S2))) else (if (a2 &&& (65535 : Int32)) < (36864 : Int32) then (gd ((((4096 : Int32) * a1) + (a2 &&& (65535 : Int32))) - (32768 : Int32)) 32768 (xnm (sI S 0 4 (((((4096 : Int32) * a1) + (a2 &&& (65535 : Int32))) - (32768 : Int32))).toNatClampNeg (vp_nar .byte (a3.toInt8.toInt32))) (fun S4 => some S4))) else (gd a1 8 (xnm (sI S 0 18 (a1).toNatClampNeg (vp_nar .boolean (1 : Int32))) (fun S5 => some S5))))
set_option maxHeartbeats 4000000 in
set_option maxRecDepth 100000 in
theorem m_r_byteTo {l : Launch} {D : va_G} {cI cZ cB : ClassId} {ad : Nat → Nat → Nat} (hI : xInj rDom ad) {S : xS} (a1 : Int32) (a2 : Int32) (a3 : Int32) {o : xS} (h : r_byteTo  S a1 a2 a3 = some o) : Met l yX12_byteTo (Cond.code yX12_byteTo cX12_byteTo 5 none :: xG) { frames := 0, cells := 0, slots := 0, locals := 0 } (xPc D vwCl (rTy cI cZ cB) [] [] rDom ad (rDe ad cI cZ cB) [.ref (ad 0 0), .int a1, .int a2, .int a3] S) (xQ D vwCl rDom ad (rDe ad cI cZ cB) none o) 0 0 (xA rDom ad) := by
  unfold r_byteTo at h
  refine x_enter (by decide) (Nat.le_of_ble_eq_true rfl) (fun p e s m below meth c F hr hlk hK hW hS ls hl => ?_)
  have hl : lv_has ls 5 [(0, .ref (ad 0 0)), (1, .int a1), (2, .int a2), (3, .int a3)] := hl
  have hx := F.1
  have hb := F.2.1
  refine lv_iload_n hx hb dX12_byteTo_0 rfl (lv_at hl 2 rfl) ?_
  refine lv_ldc (v := (65535 : Int32)) hx hb F.2.2.2.1 (x_hts F _ k_6_102) dX12_byteTo_1 ?_
  refine lv_iand hx hb dX12_byteTo_3 ?_
  refine lv_istore (lv' := [(4, .int (a2 &&& (65535 : Int32))), (0, .ref (ad 0 0)), (1, .int a1), (2, .int a2), (3, .int a3)]) hx hb dX12_byteTo_4 hl (by decide) rfl (fun ls hl => ?_)
  refine lv_iload hx hb dX12_byteTo_6 (lv_at hl 0 rfl) ?_
  refine lv_ldc (v := (32768 : Int32)) hx hb F.2.2.2.1 (x_hts F _ k_5_126) dX12_byteTo_8 ?_
  refine lv_icmp_lt (tgt := 20) hx hb dX12_byteTo_10 (by decide) (fun c_1 => ?_) (fun c_1 => ?_)
  · replace h := (if_pos c_1).symm.trans h
    refine lv_aload_n hx hb dX12_byteTo_20 rfl (lv_at hl 1 rfl) ?_
    refine x_get F hK hW xc_X12 rd_d0 rd_0 17 (by decide) k_5_145 (gf_X12_17 _ _) dX12_byteTo_21 ?_
    refine lv_iload_n hx hb dX12_byteTo_24 rfl (lv_at hl 2 rfl) ?_
    refine lv_iconst (v := (1 : Int32)) hx hb dX12_byteTo_25 (by decide) ?_
    refine x_zast (t0 := 1) F hK hI hW hS rd_d18 rd_18 rfl dX12_byteTo_26 h (fun S2 H locs hW hS h => ?_)
    refine lv_goto (tgt := 48) hx hb dX12_byteTo_27 (by decide) ?_
    exact x_vret F hr hlk hW hS dX12_byteTo_48 h
  replace h := (if_neg c_1).symm.trans h
  refine lv_iload hx hb dX12_byteTo_13 (lv_at hl 0 rfl) ?_
  refine lv_ldc (v := (36864 : Int32)) hx hb F.2.2.2.1 (x_hts F _ k_6_124) dX12_byteTo_15 ?_
  refine lv_icmp_lt (tgt := 30) hx hb dX12_byteTo_17 (by decide) (fun c_3 => ?_) (fun c_3 => ?_)
  · replace h := (if_pos c_3).symm.trans h
    refine lv_aload_n hx hb dX12_byteTo_30 rfl (lv_at hl 1 rfl) ?_
    refine x_get F hK hW xc_X12 rd_d0 rd_0 3 (by decide) k_5_131 (gf_X12_3 _ _) dX12_byteTo_31 ?_
    refine lv_sipush (v := (4096 : Int32)) hx hb dX12_byteTo_34 (by decide) ?_
    refine lv_iload_n hx hb dX12_byteTo_37 rfl (lv_at hl 2 rfl) ?_
    refine lv_imul hx hb dX12_byteTo_38 ?_
    refine lv_iload hx hb dX12_byteTo_39 (lv_at hl 0 rfl) ?_
    refine lv_iadd hx hb dX12_byteTo_41 ?_
    refine lv_ldc (v := (32768 : Int32)) hx hb F.2.2.2.1 (x_hts F _ k_5_126) dX12_byteTo_42 ?_
    refine lv_isub hx hb dX12_byteTo_44 ?_
    refine lv_iload_n hx hb dX12_byteTo_45 rfl (lv_at hl 4 rfl) ?_
    refine lv_i2b (v := a3.toInt8.toInt32) hx hb dX12_byteTo_46 rfl ?_
    refine x_bast (t0 := 2) F hK hI hW hS rd_d4 rd_4 rfl dX12_byteTo_47 h (fun S4 H locs hW hS h => ?_)
    exact x_vret F hr hlk hW hS dX12_byteTo_48 h
  replace h := (if_neg c_3).symm.trans h
  refine lv_aload_n hx hb dX12_byteTo_20 rfl (lv_at hl 1 rfl) ?_
  refine x_get F hK hW xc_X12 rd_d0 rd_0 17 (by decide) k_5_145 (gf_X12_17 _ _) dX12_byteTo_21 ?_
  refine lv_iload_n hx hb dX12_byteTo_24 rfl (lv_at hl 2 rfl) ?_
  refine lv_iconst (v := (1 : Int32)) hx hb dX12_byteTo_25 (by decide) ?_
  refine x_zast (t0 := 1) F hK hI hW hS rd_d18 rd_18 rfl dX12_byteTo_26 h (fun S5 H locs hW hS h => ?_)
  refine lv_goto (tgt := 48) hx hb dX12_byteTo_27 (by decide) ?_
  exact x_vret F hr hlk hW hS dX12_byteTo_48 h
/-! X12_word -/
def r_word  (S : xS) (a1 : Int32) (a2 : Int32) : Option (Int32 × xS) := (r_byteAt  S a1 (a2 &&& (65534 : Int32))).bind (fun (r_1, S1) => (r_byteAt  S1 a1 ((a2 &&& (65534 : Int32)) + (1 : Int32))).bind (fun (r_2, S2) => some (((r_2 <<< ((8 : Int32) &&& 31)) ||| r_1), S2)))
set_option maxHeartbeats 4000000 in
set_option maxRecDepth 100000 in
theorem m_r_word {l : Launch} {D : va_G} {cI cZ cB : ClassId} {ad : Nat → Nat → Nat} (hI : xInj rDom ad) {S : xS} (a1 : Int32) (a2 : Int32) {o : Int32 × xS} (h : r_word  S a1 a2 = some o) : Met l yX12_word (Cond.code yX12_word cX12_word 5 (some .int) :: xG) { frames := 1, cells := 0, slots := 0, locals := 23 } (xPc D vwCl (rTy cI cZ cB) [] [] rDom ad (rDe ad cI cZ cB) [.ref (ad 0 0), .int a1, .int a2] S) (xQ D vwCl rDom ad (rDe ad cI cZ cB) (some (.int o.1)) o.2) 0 0 (xA rDom ad) := by
  unfold r_word at h
  refine x_enter (by decide) (Nat.le_of_ble_eq_true rfl) (fun p e s m below meth c F hr hlk hK hW hS ls hl => ?_)
  have hl : lv_has ls 5 [(0, .ref (ad 0 0)), (1, .int a1), (2, .int a2)] := hl
  have hx := F.1
  have hb := F.2.1
  refine lv_iload_n hx hb dX12_word_0 rfl (lv_at hl 2 rfl) ?_
  refine lv_ldc (v := (65534 : Int32)) hx hb F.2.2.2.1 (x_hts F _ k_6_103) dX12_word_1 ?_
  refine lv_iand hx hb dX12_word_3 ?_
  refine lv_istore_n (lv' := [(3, .int (a2 &&& (65534 : Int32))), (0, .ref (ad 0 0)), (1, .int a1), (2, .int a2)]) hx hb dX12_word_4 rfl hl (by decide) rfl (fun ls hl => ?_)
  refine lv_aload_n hx hb dX12_word_5 rfl (lv_at hl 1 rfl) ?_
  refine lv_iload_n hx hb dX12_word_6 rfl (lv_at hl 2 rfl) ?_
  refine lv_iload_n hx hb dX12_word_7 rfl (lv_at hl 0 rfl) ?_
  refine x_cVi (As := [.int a1, .int (a2 &&& (65534 : Int32))]) F xG_ok hK hW hS um_X12_byteAt k_6_120 (fun _ h1 => m_r_byteAt hI _ _ h1) rfl rd_d0 rd_0 rfl rfl hl.1 rfl rfl ⟨Nat.le_of_ble_eq_true rfl, Nat.le_of_ble_eq_true rfl⟩ ⟨Nat.zero_le _, Nat.zero_le _⟩ (Nat.le_of_ble_eq_true rfl) dX12_word_8 h (fun r_1 S1 H locs hW hS h => ?_)
  refine lv_istore (lv' := [(4, .int r_1), (3, .int (a2 &&& (65534 : Int32))), (0, .ref (ad 0 0)), (1, .int a1), (2, .int a2)]) hx hb dX12_word_11 hl (by decide) rfl (fun ls hl => ?_)
  refine lv_aload_n hx hb dX12_word_13 rfl (lv_at hl 2 rfl) ?_
  refine lv_iload_n hx hb dX12_word_14 rfl (lv_at hl 3 rfl) ?_
  refine lv_iload_n hx hb dX12_word_15 rfl (lv_at hl 1 rfl) ?_
  refine lv_iconst (v := (1 : Int32)) hx hb dX12_word_16 (by decide) ?_
  refine lv_iadd hx hb dX12_word_17 ?_
  refine x_cVi (As := [.int a1, .int ((a2 &&& (65534 : Int32)) + (1 : Int32))]) F xG_ok hK hW hS um_X12_byteAt k_6_120 (fun _ h1 => m_r_byteAt hI _ _ h1) rfl rd_d0 rd_0 rfl rfl hl.1 rfl rfl ⟨Nat.le_of_ble_eq_true rfl, Nat.le_of_ble_eq_true rfl⟩ ⟨Nat.zero_le _, Nat.zero_le _⟩ (Nat.le_of_ble_eq_true rfl) dX12_word_18 h (fun r_2 S2 H locs hW hS h => ?_)
  refine lv_bipush (v := (8 : Int32)) hx hb dX12_word_21 (by decide) ?_
  refine lv_ishl hx hb dX12_word_23 ?_
  refine lv_iload hx hb dX12_word_24 (lv_at hl 0 rfl) ?_
  refine lv_ior hx hb dX12_word_26 ?_
  exact x_iret F hr hlk hW hS dX12_word_27 h
/-! X12_wordTo -/
def r_wordTo  (S : xS) (a1 : Int32) (a2 : Int32) (a3 : Int32) : Option (xS) := (r_byteTo  S a1 (a2 &&& (65534 : Int32)) a3).bind (fun S1 => (r_byteTo  S1 a1 ((a2 &&& (65534 : Int32)) + (1 : Int32)) (a3 >>> ((8 : Int32) &&& 31))).bind (fun S2 => some S2))
set_option maxHeartbeats 4000000 in
set_option maxRecDepth 100000 in
theorem m_r_wordTo {l : Launch} {D : va_G} {cI cZ cB : ClassId} {ad : Nat → Nat → Nat} (hI : xInj rDom ad) {S : xS} (a1 : Int32) (a2 : Int32) (a3 : Int32) {o : xS} (h : r_wordTo  S a1 a2 a3 = some o) : Met l yX12_wordTo (Cond.code yX12_wordTo cX12_wordTo 5 none :: xG) { frames := 1, cells := 0, slots := 0, locals := 24 } (xPc D vwCl (rTy cI cZ cB) [] [] rDom ad (rDe ad cI cZ cB) [.ref (ad 0 0), .int a1, .int a2, .int a3] S) (xQ D vwCl rDom ad (rDe ad cI cZ cB) none o) 0 0 (xA rDom ad) := by
  unfold r_wordTo at h
  refine x_enter (by decide) (Nat.le_of_ble_eq_true rfl) (fun p e s m below meth c F hr hlk hK hW hS ls hl => ?_)
  have hl : lv_has ls 5 [(0, .ref (ad 0 0)), (1, .int a1), (2, .int a2), (3, .int a3)] := hl
  have hx := F.1
  have hb := F.2.1
  refine lv_iload_n hx hb dX12_wordTo_0 rfl (lv_at hl 2 rfl) ?_
  refine lv_ldc (v := (65534 : Int32)) hx hb F.2.2.2.1 (x_hts F _ k_6_103) dX12_wordTo_1 ?_
  refine lv_iand hx hb dX12_wordTo_3 ?_
  refine lv_istore (lv' := [(4, .int (a2 &&& (65534 : Int32))), (0, .ref (ad 0 0)), (1, .int a1), (2, .int a2), (3, .int a3)]) hx hb dX12_wordTo_4 hl (by decide) rfl (fun ls hl => ?_)
  refine lv_aload_n hx hb dX12_wordTo_6 rfl (lv_at hl 1 rfl) ?_
  refine lv_iload_n hx hb dX12_wordTo_7 rfl (lv_at hl 2 rfl) ?_
  refine lv_iload hx hb dX12_wordTo_8 (lv_at hl 0 rfl) ?_
  refine lv_iload_n hx hb dX12_wordTo_10 rfl (lv_at hl 4 rfl) ?_
  refine x_cVv (As := [.int a1, .int (a2 &&& (65534 : Int32)), .int a3]) F xG_ok hK hW hS um_X12_byteTo k_6_141 (fun _ h1 => m_r_byteTo hI _ _ _ h1) rfl rd_d0 rd_0 rfl rfl hl.1 rfl rfl ⟨Nat.le_of_ble_eq_true rfl, Nat.le_of_ble_eq_true rfl⟩ ⟨Nat.zero_le _, Nat.zero_le _⟩ (Nat.le_of_ble_eq_true rfl) dX12_wordTo_11 h (fun S1 H locs hW hS h => ?_)
  refine lv_aload_n hx hb dX12_wordTo_14 rfl (lv_at hl 1 rfl) ?_
  refine lv_iload_n hx hb dX12_wordTo_15 rfl (lv_at hl 2 rfl) ?_
  refine lv_iload hx hb dX12_wordTo_16 (lv_at hl 0 rfl) ?_
  refine lv_iconst (v := (1 : Int32)) hx hb dX12_wordTo_18 (by decide) ?_
  refine lv_iadd hx hb dX12_wordTo_19 ?_
  refine lv_iload_n hx hb dX12_wordTo_20 rfl (lv_at hl 4 rfl) ?_
  refine lv_bipush (v := (8 : Int32)) hx hb dX12_wordTo_21 (by decide) ?_
  refine lv_ishr hx hb dX12_wordTo_23 ?_
  refine x_cVv (As := [.int a1, .int ((a2 &&& (65534 : Int32)) + (1 : Int32)), .int (a3 >>> ((8 : Int32) &&& 31))]) F xG_ok hK hW hS um_X12_byteTo k_6_141 (fun _ h1 => m_r_byteTo hI _ _ _ h1) rfl rd_d0 rd_0 rfl rfl hl.1 rfl rfl ⟨Nat.le_of_ble_eq_true rfl, Nat.le_of_ble_eq_true rfl⟩ ⟨Nat.zero_le _, Nat.zero_le _⟩ (Nat.le_of_ble_eq_true rfl) dX12_wordTo_24 h (fun S2 H locs hW hS h => ?_)
  exact x_vret F hr hlk hW hS dX12_wordTo_27 h
/-! X12_signed -/
def r_signed (a1 : Int32) : Option Int32 := if (a1 &&& (65535 : Int32)) ≤ (32767 : Int32) then (some (a1 &&& (65535 : Int32))) else (some ((a1 &&& (65535 : Int32)) - (65536 : Int32)))
set_option maxHeartbeats 4000000 in
set_option maxRecDepth 100000 in
theorem m_r_signed {l : Launch} (a1 : Int32) {o : Int32} (h : r_signed a1 = some o) : Met l yX12_signed (Cond.code yX12_signed cX12_signed 1 (some .int) :: xG) { frames := 0, cells := 0, slots := 0, locals := 0 } (va_Pc [.int a1] (fun _ => True)) (xQs o) 0 0 (fun _ => False) := by
  unfold r_signed at h
  refine x_sEnter (by decide) (Nat.le_of_ble_eq_true rfl) (fun p e s m below meth c F hr hlk hS ls hl => ?_)
  have hl : lv_has ls 1 [(0, .int a1)] := hl
  have hx := F.1
  have hb := F.2.1
  refine lv_iload_n hx hb dX12_signed_0 rfl (lv_at hl 0 rfl) ?_
  refine lv_ldc (v := (65535 : Int32)) hx hb F.2.2.2.1 (x_hts F _ k_6_102) dX12_signed_1 ?_
  refine lv_iand hx hb dX12_signed_3 ?_
  refine lv_sipush (v := (32767 : Int32)) hx hb dX12_signed_4 (by decide) ?_
  refine lv_icmp_le (tgt := 20) hx hb dX12_signed_7 (by decide) (fun c_1 => ?_) (fun c_1 => ?_)
  · replace h := (if_pos c_1).symm.trans h
    refine lv_iload_n hx hb dX12_signed_20 rfl (lv_at hl 0 rfl) ?_
    refine lv_ldc (v := (65535 : Int32)) hx hb F.2.2.2.1 (x_hts F _ k_6_102) dX12_signed_21 ?_
    refine lv_iand hx hb dX12_signed_23 ?_
    exact x_siret F hr hlk hS dX12_signed_24 h
  replace h := (if_neg c_1).symm.trans h
  refine lv_iload_n hx hb dX12_signed_10 rfl (lv_at hl 0 rfl) ?_
  refine lv_ldc (v := (65535 : Int32)) hx hb F.2.2.2.1 (x_hts F _ k_6_102) dX12_signed_11 ?_
  refine lv_iand hx hb dX12_signed_13 ?_
  refine lv_ldc (v := (65536 : Int32)) hx hb F.2.2.2.1 (x_hts F _ k_6_183) dX12_signed_14 ?_
  refine lv_isub hx hb dX12_signed_16 ?_
  refine lv_goto (tgt := 24) hx hb dX12_signed_17 (by decide) ?_
  exact x_siret F hr hlk hS dX12_signed_24 h
/-! X12_isLater -/
def r_isLater (a1 : Int32) (a2 : Int32) : Option Int32 := (r_signed (a1 - a2)).bind (fun r_1 => if r_1 ≤ 0 then (some (0 : Int32)) else (some (1 : Int32)))
set_option maxHeartbeats 4000000 in
set_option maxRecDepth 100000 in
theorem m_r_isLater {l : Launch} (a1 : Int32) (a2 : Int32) {o : Int32} (h : r_isLater a1 a2 = some o) : Met l yX12_isLater (Cond.code yX12_isLater cX12_isLater 2 (some .boolean) :: xG) { frames := 1, cells := 0, slots := 0, locals := 20 } (va_Pc [.int a1, .int a2] (fun _ => True)) (xQs o) 0 0 (fun _ => False) := by
  unfold r_isLater at h
  refine x_sEnter (by decide) (Nat.le_of_ble_eq_true rfl) (fun p e s m below meth c F hr hlk hS ls hl => ?_)
  have hl : lv_has ls 2 [(0, .int a1), (1, .int a2)] := hl
  have hx := F.1
  have hb := F.2.1
  refine lv_iload_n hx hb dX12_isLater_0 rfl (lv_at hl 0 rfl) ?_
  refine lv_iload_n hx hb dX12_isLater_1 rfl (lv_at hl 1 rfl) ?_
  refine lv_isub hx hb dX12_isLater_2 ?_
  refine x_cSo (As := [.int (a1 - a2)]) F xG_ok hS um_X12_signed k_6_180 (fun _ h1 => m_r_signed _ h1) rfl rfl hl.1 rfl rfl ⟨Nat.le_of_ble_eq_true rfl, Nat.le_of_ble_eq_true rfl⟩ ⟨Nat.zero_le _, Nat.zero_le _⟩ (Nat.le_of_ble_eq_true rfl) dX12_isLater_3 h (fun r_1 locs hS h => ?_)
  refine lv_if_le (tgt := 13) hx hb dX12_isLater_6 (by decide) (fun c_2 => ?_) (fun c_2 => ?_)
  · replace h := (if_pos c_2).symm.trans h
    refine lv_iconst (v := (0 : Int32)) hx hb dX12_isLater_13 (by decide) ?_
    exact x_szret F hr hlk hS rfl dX12_isLater_14 h
  replace h := (if_neg c_2).symm.trans h
  refine lv_iconst (v := (1 : Int32)) hx hb dX12_isLater_9 (by decide) ?_
  refine lv_goto (tgt := 14) hx hb dX12_isLater_10 (by decide) ?_
  exact x_szret F hr hlk hS rfl dX12_isLater_14 h
/-! X12_stop -/
def r_stop  (S : xS) (a1 : Int32) (a2 : Int32) : Option (xS) := gd a1 8 (if (xI S 0 13 (a1).toNatClampNeg) = 0 then (gd a1 8 (xnm (sI S 0 13 (a1).toNatClampNeg a2) (fun S2 => some S2))) else (some S))
set_option maxHeartbeats 4000000 in
set_option maxRecDepth 100000 in
theorem m_r_stop {l : Launch} {D : va_G} {cI cZ cB : ClassId} {ad : Nat → Nat → Nat} (hI : xInj rDom ad) {S : xS} (a1 : Int32) (a2 : Int32) {o : xS} (h : r_stop  S a1 a2 = some o) : Met l yX12_stop (Cond.code yX12_stop cX12_stop 3 none :: xG) { frames := 0, cells := 0, slots := 0, locals := 0 } (xPc D vwCl (rTy cI cZ cB) [] [] rDom ad (rDe ad cI cZ cB) [.ref (ad 0 0), .int a1, .int a2] S) (xQ D vwCl rDom ad (rDe ad cI cZ cB) none o) 0 0 (xA rDom ad) := by
  unfold r_stop at h
  refine x_enter (by decide) (Nat.le_of_ble_eq_true rfl) (fun p e s m below meth c F hr hlk hK hW hS ls hl => ?_)
  have hl : lv_has ls 3 [(0, .ref (ad 0 0)), (1, .int a1), (2, .int a2)] := hl
  have hx := F.1
  have hb := F.2.1
  refine lv_aload_n hx hb dX12_stop_0 rfl (lv_at hl 0 rfl) ?_
  refine x_get F hK hW xc_X12 rd_d0 rd_0 12 (by decide) k_5_140 (gf_X12_12 _ _) dX12_stop_1 ?_
  refine lv_iload_n hx hb dX12_stop_4 rfl (lv_at hl 1 rfl) ?_
  refine x_iald (t0 := 0) F hK hW rd_d13 rd_13 rfl dX12_stop_5 h (fun h => ?_)
  refine lv_if_ne (tgt := 16) hx hb dX12_stop_6 (by decide) (fun c_1 => ?_) (fun c_1 => ?_)
  · replace h := (if_neg c_1).symm.trans h
    exact x_vret F hr hlk hW hS dX12_stop_16 h
  replace h := (if_pos c_1).symm.trans h
  refine lv_aload_n hx hb dX12_stop_9 rfl (lv_at hl 0 rfl) ?_
  refine x_get F hK hW xc_X12 rd_d0 rd_0 12 (by decide) k_5_140 (gf_X12_12 _ _) dX12_stop_10 ?_
  refine lv_iload_n hx hb dX12_stop_13 rfl (lv_at hl 1 rfl) ?_
  refine lv_iload_n hx hb dX12_stop_14 rfl (lv_at hl 2 rfl) ?_
  refine x_iast (t0 := 0) F hK hI hW hS rd_d13 rd_13 rfl dX12_stop_15 h (fun S2 H locs hW hS h => ?_)
  exact x_vret F hr hlk hW hS dX12_stop_16 h
/-! X12_push -/
def r_push  (S : xS) (a1 : Int32) (a2 : Int32) : Option (xS) := gd a1 8 (gd a1 8 (xnm (sI S 0 7 (a1).toNatClampNeg (xI S 0 6 (a1).toNatClampNeg)) (fun S1 => gd a1 8 (gd a1 8 (xnm (sI S1 0 6 (a1).toNatClampNeg (xI S1 0 5 (a1).toNatClampNeg)) (fun S2 => gd a1 8 (xnm (sI S2 0 5 (a1).toNatClampNeg (a2 &&& (65535 : Int32))) (fun S3 => some S3))))))))
set_option maxHeartbeats 4000000 in
set_option maxRecDepth 100000 in
theorem m_r_push {l : Launch} {D : va_G} {cI cZ cB : ClassId} {ad : Nat → Nat → Nat} (hI : xInj rDom ad) {S : xS} (a1 : Int32) (a2 : Int32) {o : xS} (h : r_push  S a1 a2 = some o) : Met l yX12_push (Cond.code yX12_push cX12_push 3 none :: xG) { frames := 0, cells := 0, slots := 0, locals := 0 } (xPc D vwCl (rTy cI cZ cB) [] [] rDom ad (rDe ad cI cZ cB) [.ref (ad 0 0), .int a1, .int a2] S) (xQ D vwCl rDom ad (rDe ad cI cZ cB) none o) 0 0 (xA rDom ad) := by
  unfold r_push at h
  refine x_enter (by decide) (Nat.le_of_ble_eq_true rfl) (fun p e s m below meth c F hr hlk hK hW hS ls hl => ?_)
  have hl : lv_has ls 3 [(0, .ref (ad 0 0)), (1, .int a1), (2, .int a2)] := hl
  have hx := F.1
  have hb := F.2.1
  refine lv_aload_n hx hb dX12_push_0 rfl (lv_at hl 0 rfl) ?_
  refine x_get F hK hW xc_X12 rd_d0 rd_0 6 (by decide) k_5_134 (gf_X12_6 _ _) dX12_push_1 ?_
  refine lv_iload_n hx hb dX12_push_4 rfl (lv_at hl 1 rfl) ?_
  refine lv_aload_n hx hb dX12_push_5 rfl (lv_at hl 0 rfl) ?_
  refine x_get F hK hW xc_X12 rd_d0 rd_0 5 (by decide) k_5_133 (gf_X12_5 _ _) dX12_push_6 ?_
  refine lv_iload_n hx hb dX12_push_9 rfl (lv_at hl 1 rfl) ?_
  refine x_iald (t0 := 0) F hK hW rd_d6 rd_6 rfl dX12_push_10 h (fun h => ?_)
  refine x_iast (t0 := 0) F hK hI hW hS rd_d7 rd_7 rfl dX12_push_11 h (fun S1 H locs hW hS h => ?_)
  refine lv_aload_n hx hb dX12_push_12 rfl (lv_at hl 0 rfl) ?_
  refine x_get F hK hW xc_X12 rd_d0 rd_0 5 (by decide) k_5_133 (gf_X12_5 _ _) dX12_push_13 ?_
  refine lv_iload_n hx hb dX12_push_16 rfl (lv_at hl 1 rfl) ?_
  refine lv_aload_n hx hb dX12_push_17 rfl (lv_at hl 0 rfl) ?_
  refine x_get F hK hW xc_X12 rd_d0 rd_0 4 (by decide) k_5_132 (gf_X12_4 _ _) dX12_push_18 ?_
  refine lv_iload_n hx hb dX12_push_21 rfl (lv_at hl 1 rfl) ?_
  refine x_iald (t0 := 0) F hK hW rd_d5 rd_5 rfl dX12_push_22 h (fun h => ?_)
  refine x_iast (t0 := 0) F hK hI hW hS rd_d6 rd_6 rfl dX12_push_23 h (fun S2 H locs hW hS h => ?_)
  refine lv_aload_n hx hb dX12_push_24 rfl (lv_at hl 0 rfl) ?_
  refine x_get F hK hW xc_X12 rd_d0 rd_0 4 (by decide) k_5_132 (gf_X12_4 _ _) dX12_push_25 ?_
  refine lv_iload_n hx hb dX12_push_28 rfl (lv_at hl 1 rfl) ?_
  refine lv_iload_n hx hb dX12_push_29 rfl (lv_at hl 2 rfl) ?_
  refine lv_ldc (v := (65535 : Int32)) hx hb F.2.2.2.1 (x_hts F _ k_6_102) dX12_push_30 ?_
  refine lv_iand hx hb dX12_push_32 ?_
  refine x_iast (t0 := 0) F hK hI hW hS rd_d5 rd_5 rfl dX12_push_33 h (fun S3 H locs hW hS h => ?_)
  exact x_vret F hr hlk hW hS dX12_push_34 h
/-! X12_pop -/
def r_pop  (S : xS) (a1 : Int32) : Option (xS) := gd a1 8 (gd a1 8 (xnm (sI S 0 5 (a1).toNatClampNeg (xI S 0 6 (a1).toNatClampNeg)) (fun S1 => gd a1 8 (gd a1 8 (xnm (sI S1 0 6 (a1).toNatClampNeg (xI S1 0 7 (a1).toNatClampNeg)) (fun S2 => some S2))))))
set_option maxHeartbeats 4000000 in
set_option maxRecDepth 100000 in
theorem m_r_pop {l : Launch} {D : va_G} {cI cZ cB : ClassId} {ad : Nat → Nat → Nat} (hI : xInj rDom ad) {S : xS} (a1 : Int32) {o : xS} (h : r_pop  S a1 = some o) : Met l yX12_pop (Cond.code yX12_pop cX12_pop 2 none :: xG) { frames := 0, cells := 0, slots := 0, locals := 0 } (xPc D vwCl (rTy cI cZ cB) [] [] rDom ad (rDe ad cI cZ cB) [.ref (ad 0 0), .int a1] S) (xQ D vwCl rDom ad (rDe ad cI cZ cB) none o) 0 0 (xA rDom ad) := by
  unfold r_pop at h
  refine x_enter (by decide) (Nat.le_of_ble_eq_true rfl) (fun p e s m below meth c F hr hlk hK hW hS ls hl => ?_)
  have hl : lv_has ls 2 [(0, .ref (ad 0 0)), (1, .int a1)] := hl
  have hx := F.1
  have hb := F.2.1
  refine lv_aload_n hx hb dX12_pop_0 rfl (lv_at hl 0 rfl) ?_
  refine x_get F hK hW xc_X12 rd_d0 rd_0 4 (by decide) k_5_132 (gf_X12_4 _ _) dX12_pop_1 ?_
  refine lv_iload_n hx hb dX12_pop_4 rfl (lv_at hl 1 rfl) ?_
  refine lv_aload_n hx hb dX12_pop_5 rfl (lv_at hl 0 rfl) ?_
  refine x_get F hK hW xc_X12 rd_d0 rd_0 5 (by decide) k_5_133 (gf_X12_5 _ _) dX12_pop_6 ?_
  refine lv_iload_n hx hb dX12_pop_9 rfl (lv_at hl 1 rfl) ?_
  refine x_iald (t0 := 0) F hK hW rd_d6 rd_6 rfl dX12_pop_10 h (fun h => ?_)
  refine x_iast (t0 := 0) F hK hI hW hS rd_d5 rd_5 rfl dX12_pop_11 h (fun S1 H locs hW hS h => ?_)
  refine lv_aload_n hx hb dX12_pop_12 rfl (lv_at hl 0 rfl) ?_
  refine x_get F hK hW xc_X12 rd_d0 rd_0 5 (by decide) k_5_133 (gf_X12_5 _ _) dX12_pop_13 ?_
  refine lv_iload_n hx hb dX12_pop_16 rfl (lv_at hl 1 rfl) ?_
  refine lv_aload_n hx hb dX12_pop_17 rfl (lv_at hl 0 rfl) ?_
  refine x_get F hK hW xc_X12 rd_d0 rd_0 6 (by decide) k_5_134 (gf_X12_6 _ _) dX12_pop_18 ?_
  refine lv_iload_n hx hb dX12_pop_21 rfl (lv_at hl 1 rfl) ?_
  refine x_iald (t0 := 0) F hK hW rd_d7 rd_7 rfl dX12_pop_22 h (fun h => ?_)
  refine x_iast (t0 := 0) F hK hI hW hS rd_d6 rd_6 rfl dX12_pop_23 h (fun S2 H locs hW hS h => ?_)
  exact x_vret F hr hlk hW hS dX12_pop_24 h
/-! X12_own -/
def r_own  (S : xS) (a1 : Int32) : Option (Int32 × xS) := gd a1 8 (gd a1 8 (some (((xI S 0 10 (a1).toNatClampNeg) ||| (xI S 0 11 (a1).toNatClampNeg)), S)))
set_option maxHeartbeats 4000000 in
set_option maxRecDepth 100000 in
theorem m_r_own {l : Launch} {D : va_G} {cI cZ cB : ClassId} {ad : Nat → Nat → Nat} (hI : xInj rDom ad) {S : xS} (a1 : Int32) {o : Int32 × xS} (h : r_own  S a1 = some o) : Met l yX12_own (Cond.code yX12_own cX12_own 2 (some .int) :: xG) { frames := 0, cells := 0, slots := 0, locals := 0 } (xPc D vwCl (rTy cI cZ cB) [] [] rDom ad (rDe ad cI cZ cB) [.ref (ad 0 0), .int a1] S) (xQ D vwCl rDom ad (rDe ad cI cZ cB) (some (.int o.1)) o.2) 0 0 (xA rDom ad) := by
  unfold r_own at h
  refine x_enter (by decide) (Nat.le_of_ble_eq_true rfl) (fun p e s m below meth c F hr hlk hK hW hS ls hl => ?_)
  have hl : lv_has ls 2 [(0, .ref (ad 0 0)), (1, .int a1)] := hl
  have hx := F.1
  have hb := F.2.1
  refine lv_aload_n hx hb dX12_own_0 rfl (lv_at hl 0 rfl) ?_
  refine x_get F hK hW xc_X12 rd_d0 rd_0 9 (by decide) k_5_137 (gf_X12_9 _ _) dX12_own_1 ?_
  refine lv_iload_n hx hb dX12_own_4 rfl (lv_at hl 1 rfl) ?_
  refine x_iald (t0 := 0) F hK hW rd_d10 rd_10 rfl dX12_own_5 h (fun h => ?_)
  refine lv_aload_n hx hb dX12_own_6 rfl (lv_at hl 0 rfl) ?_
  refine x_get F hK hW xc_X12 rd_d0 rd_0 10 (by decide) k_5_138 (gf_X12_10 _ _) dX12_own_7 ?_
  refine lv_iload_n hx hb dX12_own_10 rfl (lv_at hl 1 rfl) ?_
  refine x_iald (t0 := 0) F hK hW rd_d11 rd_11 rfl dX12_own_11 h (fun h => ?_)
  refine lv_ior hx hb dX12_own_12 ?_
  exact x_iret F hr hlk hW hS dX12_own_13 h
/-! X12_ready -/
def r_ready  (S : xS) (a1 : Int32) (a2 : Int32) : Option (xS) := gd (((2 : Int32) * a1) + (a2 &&& (1 : Int32))) 16 (if (xI S 0 19 ((((2 : Int32) * a1) + (a2 &&& (1 : Int32)))).toNatClampNeg) = (32768 : Int32) then (gd (((2 : Int32) * a1) + (a2 &&& (1 : Int32))) 16 (xnm (sI S 0 19 ((((2 : Int32) * a1) + (a2 &&& (1 : Int32)))).toNatClampNeg (a2 &&& (65534 : Int32))) (fun S4 => gd (((2 : Int32) * a1) + (a2 &&& (1 : Int32))) 16 (xnm (sI S4 0 20 ((((2 : Int32) * a1) + (a2 &&& (1 : Int32)))).toNatClampNeg (a2 &&& (65534 : Int32))) (fun S5 => some S5))))) else (gd (((2 : Int32) * a1) + (a2 &&& (1 : Int32))) 16 ((r_wordTo  S a1 ((xI S 0 20 ((((2 : Int32) * a1) + (a2 &&& (1 : Int32)))).toNatClampNeg) - (4 : Int32)) (a2 &&& (65534 : Int32))).bind (fun S2 => gd (((2 : Int32) * a1) + (a2 &&& (1 : Int32))) 16 (xnm (sI S2 0 20 ((((2 : Int32) * a1) + (a2 &&& (1 : Int32)))).toNatClampNeg (a2 &&& (65534 : Int32))) (fun S3 => some S3))))))
set_option maxHeartbeats 4000000 in
set_option maxRecDepth 100000 in
theorem m_r_ready {l : Launch} {D : va_G} {cI cZ cB : ClassId} {ad : Nat → Nat → Nat} (hI : xInj rDom ad) {S : xS} (a1 : Int32) (a2 : Int32) {o : xS} (h : r_ready  S a1 a2 = some o) : Met l yX12_ready (Cond.code yX12_ready cX12_ready 5 none :: xG) { frames := 2, cells := 0, slots := 0, locals := 48 } (xPc D vwCl (rTy cI cZ cB) [] [] rDom ad (rDe ad cI cZ cB) [.ref (ad 0 0), .int a1, .int a2] S) (xQ D vwCl rDom ad (rDe ad cI cZ cB) none o) 0 0 (xA rDom ad) := by
  unfold r_ready at h
  refine x_enter (by decide) (Nat.le_of_ble_eq_true rfl) (fun p e s m below meth c F hr hlk hK hW hS ls hl => ?_)
  have hl : lv_has ls 5 [(0, .ref (ad 0 0)), (1, .int a1), (2, .int a2)] := hl
  have hx := F.1
  have hb := F.2.1
  refine lv_iconst (v := (2 : Int32)) hx hb dX12_ready_0 (by decide) ?_
  refine lv_iload_n hx hb dX12_ready_1 rfl (lv_at hl 1 rfl) ?_
  refine lv_imul hx hb dX12_ready_2 ?_
  refine lv_iload_n hx hb dX12_ready_3 rfl (lv_at hl 2 rfl) ?_
  refine lv_iconst (v := (1 : Int32)) hx hb dX12_ready_4 (by decide) ?_
  refine lv_iand hx hb dX12_ready_5 ?_
  refine lv_iadd hx hb dX12_ready_6 ?_
  refine lv_istore_n (lv' := [(3, .int (((2 : Int32) * a1) + (a2 &&& (1 : Int32)))), (0, .ref (ad 0 0)), (1, .int a1), (2, .int a2)]) hx hb dX12_ready_7 rfl hl (by decide) rfl (fun ls hl => ?_)
  refine lv_iload_n hx hb dX12_ready_8 rfl (lv_at hl 3 rfl) ?_
  refine lv_ldc (v := (65534 : Int32)) hx hb F.2.2.2.1 (x_hts F _ k_6_103) dX12_ready_9 ?_
  refine lv_iand hx hb dX12_ready_11 ?_
  refine lv_istore (lv' := [(4, .int (a2 &&& (65534 : Int32))), (3, .int (((2 : Int32) * a1) + (a2 &&& (1 : Int32)))), (0, .ref (ad 0 0)), (1, .int a1), (2, .int a2)]) hx hb dX12_ready_12 hl (by decide) rfl (fun ls hl => ?_)
  refine lv_aload_n hx hb dX12_ready_14 rfl (lv_at hl 2 rfl) ?_
  refine x_get F hK hW xc_X12 rd_d0 rd_0 18 (by decide) k_5_146 (gf_X12_18 _ _) dX12_ready_15 ?_
  refine lv_iload_n hx hb dX12_ready_18 rfl (lv_at hl 1 rfl) ?_
  refine x_iald (t0 := 0) F hK hW rd_d19 rd_19 rfl dX12_ready_19 h (fun h => ?_)
  refine lv_ldc (v := (32768 : Int32)) hx hb F.2.2.2.1 (x_hts F _ k_5_126) dX12_ready_20 ?_
  refine lv_icmp_ne (tgt := 36) hx hb dX12_ready_22 (by decide) (fun c_1 => ?_) (fun c_1 => ?_)
  · replace h := (if_neg c_1).symm.trans h
    refine lv_aload_n hx hb dX12_ready_36 rfl (lv_at hl 2 rfl) ?_
    refine lv_iload_n hx hb dX12_ready_37 rfl (lv_at hl 3 rfl) ?_
    refine lv_aload_n hx hb dX12_ready_38 rfl (lv_at hl 2 rfl) ?_
    refine x_get F hK hW xc_X12 rd_d0 rd_0 19 (by decide) k_5_147 (gf_X12_19 _ _) dX12_ready_39 ?_
    refine lv_iload_n hx hb dX12_ready_42 rfl (lv_at hl 1 rfl) ?_
    refine x_iald (t0 := 0) F hK hW rd_d20 rd_20 rfl dX12_ready_43 h (fun h => ?_)
    refine lv_iconst (v := (4 : Int32)) hx hb dX12_ready_44 (by decide) ?_
    refine lv_isub hx hb dX12_ready_45 ?_
    refine lv_iload hx hb dX12_ready_46 (lv_at hl 0 rfl) ?_
    refine x_cVv (As := [.int a1, .int ((xI S 0 20 ((((2 : Int32) * a1) + (a2 &&& (1 : Int32)))).toNatClampNeg) - (4 : Int32)), .int (a2 &&& (65534 : Int32))]) F xG_ok hK hW hS um_X12_wordTo k_6_137 (fun _ h1 => m_r_wordTo hI _ _ _ h1) rfl rd_d0 rd_0 rfl rfl hl.1 rfl rfl ⟨Nat.le_of_ble_eq_true rfl, Nat.le_of_ble_eq_true rfl⟩ ⟨Nat.zero_le _, Nat.zero_le _⟩ (Nat.le_of_ble_eq_true rfl) dX12_ready_48 h (fun S2 H locs hW hS h => ?_)
    refine lv_aload_n hx hb dX12_ready_51 rfl (lv_at hl 2 rfl) ?_
    refine x_get F hK hW xc_X12 rd_d0 rd_0 19 (by decide) k_5_147 (gf_X12_19 _ _) dX12_ready_52 ?_
    refine lv_iload_n hx hb dX12_ready_55 rfl (lv_at hl 1 rfl) ?_
    refine lv_iload hx hb dX12_ready_56 (lv_at hl 0 rfl) ?_
    refine x_iast (t0 := 0) F hK hI hW hS rd_d20 rd_20 rfl dX12_ready_58 h (fun S3 H locs hW hS h => ?_)
    exact x_vret F hr hlk hW hS dX12_ready_59 h
  replace h := (if_pos c_1).symm.trans h
  refine lv_aload_n hx hb dX12_ready_25 rfl (lv_at hl 2 rfl) ?_
  refine x_get F hK hW xc_X12 rd_d0 rd_0 18 (by decide) k_5_146 (gf_X12_18 _ _) dX12_ready_26 ?_
  refine lv_iload_n hx hb dX12_ready_29 rfl (lv_at hl 1 rfl) ?_
  refine lv_iload hx hb dX12_ready_30 (lv_at hl 0 rfl) ?_
  refine x_iast (t0 := 0) F hK hI hW hS rd_d19 rd_19 rfl dX12_ready_32 h (fun S4 H locs hW hS h => ?_)
  refine lv_goto (tgt := 51) hx hb dX12_ready_33 (by decide) ?_
  refine lv_aload_n hx hb dX12_ready_51 rfl (lv_at hl 2 rfl) ?_
  refine x_get F hK hW xc_X12 rd_d0 rd_0 19 (by decide) k_5_147 (gf_X12_19 _ _) dX12_ready_52 ?_
  refine lv_iload_n hx hb dX12_ready_55 rfl (lv_at hl 1 rfl) ?_
  refine lv_iload hx hb dX12_ready_56 (lv_at hl 0 rfl) ?_
  refine x_iast (t0 := 0) F hK hI hW hS rd_d20 rd_20 rfl dX12_ready_58 h (fun S5 H locs hW hS h => ?_)
  exact x_vret F hr hlk hW hS dX12_ready_59 h
/-! X12_waits -/
def r_waits  (S : xS) (a1 : Int32) : Option (xS) := gd a1 8 (gd a1 8 ((r_wordTo  S a1 ((xI S 0 10 (a1).toNatClampNeg) - (2 : Int32)) (xI S 0 9 (a1).toNatClampNeg)).bind (fun S1 => gd a1 8 (xnm (sI S1 0 11 (a1).toNatClampNeg (2 : Int32)) (fun S2 => some S2)))))
set_option maxHeartbeats 4000000 in
set_option maxRecDepth 100000 in
theorem m_r_waits {l : Launch} {D : va_G} {cI cZ cB : ClassId} {ad : Nat → Nat → Nat} (hI : xInj rDom ad) {S : xS} (a1 : Int32) {o : xS} (h : r_waits  S a1 = some o) : Met l yX12_waits (Cond.code yX12_waits cX12_waits 2 none :: xG) { frames := 2, cells := 0, slots := 0, locals := 48 } (xPc D vwCl (rTy cI cZ cB) [] [] rDom ad (rDe ad cI cZ cB) [.ref (ad 0 0), .int a1] S) (xQ D vwCl rDom ad (rDe ad cI cZ cB) none o) 0 0 (xA rDom ad) := by
  unfold r_waits at h
  refine x_enter (by decide) (Nat.le_of_ble_eq_true rfl) (fun p e s m below meth c F hr hlk hK hW hS ls hl => ?_)
  have hl : lv_has ls 2 [(0, .ref (ad 0 0)), (1, .int a1)] := hl
  have hx := F.1
  have hb := F.2.1
  refine lv_aload_n hx hb dX12_waits_0 rfl (lv_at hl 0 rfl) ?_
  refine lv_iload_n hx hb dX12_waits_1 rfl (lv_at hl 1 rfl) ?_
  refine lv_aload_n hx hb dX12_waits_2 rfl (lv_at hl 0 rfl) ?_
  refine x_get F hK hW xc_X12 rd_d0 rd_0 9 (by decide) k_5_137 (gf_X12_9 _ _) dX12_waits_3 ?_
  refine lv_iload_n hx hb dX12_waits_6 rfl (lv_at hl 1 rfl) ?_
  refine x_iald (t0 := 0) F hK hW rd_d10 rd_10 rfl dX12_waits_7 h (fun h => ?_)
  refine lv_iconst (v := (2 : Int32)) hx hb dX12_waits_8 (by decide) ?_
  refine lv_isub hx hb dX12_waits_9 ?_
  refine lv_aload_n hx hb dX12_waits_10 rfl (lv_at hl 0 rfl) ?_
  refine x_get F hK hW xc_X12 rd_d0 rd_0 8 (by decide) k_5_136 (gf_X12_8 _ _) dX12_waits_11 ?_
  refine lv_iload_n hx hb dX12_waits_14 rfl (lv_at hl 1 rfl) ?_
  refine x_iald (t0 := 0) F hK hW rd_d9 rd_9 rfl dX12_waits_15 h (fun h => ?_)
  refine x_cVv (As := [.int a1, .int ((xI S 0 10 (a1).toNatClampNeg) - (2 : Int32)), .int (xI S 0 9 (a1).toNatClampNeg)]) F xG_ok hK hW hS um_X12_wordTo k_6_137 (fun _ h1 => m_r_wordTo hI _ _ _ h1) rfl rd_d0 rd_0 rfl rfl hl.1 rfl rfl ⟨Nat.le_of_ble_eq_true rfl, Nat.le_of_ble_eq_true rfl⟩ ⟨Nat.zero_le _, Nat.zero_le _⟩ (Nat.le_of_ble_eq_true rfl) dX12_waits_16 h (fun S1 H locs hW hS h => ?_)
  refine lv_aload_n hx hb dX12_waits_19 rfl (lv_at hl 0 rfl) ?_
  refine x_get F hK hW xc_X12 rd_d0 rd_0 10 (by decide) k_5_138 (gf_X12_10 _ _) dX12_waits_20 ?_
  refine lv_iload_n hx hb dX12_waits_23 rfl (lv_at hl 1 rfl) ?_
  refine lv_iconst (v := (2 : Int32)) hx hb dX12_waits_24 (by decide) ?_
  refine x_iast (t0 := 0) F hK hI hW hS rd_d11 rd_11 rfl dX12_waits_25 h (fun S2 H locs hW hS h => ?_)
  exact x_vret F hr hlk hW hS dX12_waits_26 h
/-! X12_takes -/
def r_takes_b44 (v1 : Int32) (v2 : Int32) (v4 : Int32) (t0 : Int32) (t1 : Int32) (S : xS) : Option (xS) := gd t1 16 (xnm (sI S 0 19 (t1).toNatClampNeg t0) (fun S3 => gd v1 8 (xnm (sI S3 0 10 (v1).toNatClampNeg (v4 &&& (65534 : Int32))) (fun S4 => gd v1 8 ((r_word  S4 v1 ((xI S4 0 10 (v1).toNatClampNeg) - (2 : Int32))).bind (fun (r_5, S5) => gd v1 8 (xnm (sI S5 0 9 (v1).toNatClampNeg r_5) (fun S6 => gd v1 8 (xnm (sI S6 0 8 (v1).toNatClampNeg (0 : Int32)) (fun S7 => gd v1 8 (xnm (sI S7 0 12 (v1).toNatClampNeg (0 : Int32)) (fun S8 => gd v1 8 (xnm (sI S8 0 11 (v1).toNatClampNeg v2) (fun S9 => some S9))))))))))))))
set_option maxHeartbeats 4000000 in
set_option maxRecDepth 100000 in
theorem m_r_takes_b44 {l : Launch} {D : va_G} {cI cZ cB : ClassId} {ad : Nat → Nat → Nat} (hI : xInj rDom ad) {p : Program} {e : Env} {s : State} {m : MethodId} {args : Array Value} {below : List Frame} {meth : Method} {c : Code} (F : CallFix p m c cX12_takes 5 s args (Cond.code yX12_takes cX12_takes 5 none :: xG) (yX12_takes).cls) (hr : meth.sig.returnType = none) (hlk : meth.locks = false) (hK : xK D vwCl (rTy cI cZ cB) [] [] s) {o : xS} (v1 : Int32) (v2 : Int32) (v4 : Int32) (t0 : Int32) (t1 : Int32) (S : xS) {H : Heap} {locs : List Loc} {ls : Array Slot} (h : r_takes_b44 v1 v2 v4 t0 t1 S = some o) (hW : xW D vwCl rDom ad (rDe ad cI cZ cB) S H) (hS : va_S (xA rDom ad) s.heap H locs) (hl : lv_has ls 5 [(0, .ref (ad 0 0)), (1, .int v1), (2, .int v2), (4, .int v4)]) : W p l e { frames := 2, cells := 0, slots := 0, locals := 47 } s m args below meth c H locs 0 0 (MQ below (xQ D vwCl rDom ad (rDe ad cI cZ cB) none o) args s 0 0 (xA rDom ad)) (F0 m 44 ls [.int t0, .int t1, .ref (ad 0 19)]) := by
  have hx := F.1
  have hb := F.2.1
  unfold r_takes_b44 at h
  refine x_iast (t0 := 0) F hK hI hW hS rd_d19 rd_19 rfl dX12_takes_44 h (fun S3 H locs hW hS h => ?_)
  refine lv_aload_n hx hb dX12_takes_45 rfl (lv_at hl 0 rfl) ?_
  refine x_get F hK hW xc_X12 rd_d0 rd_0 9 (by decide) k_5_137 (gf_X12_9 _ _) dX12_takes_46 ?_
  refine lv_iload_n hx hb dX12_takes_49 rfl (lv_at hl 1 rfl) ?_
  refine lv_iload hx hb dX12_takes_50 (lv_at hl 3 rfl) ?_
  refine lv_ldc (v := (65534 : Int32)) hx hb F.2.2.2.1 (x_hts F _ k_6_103) dX12_takes_52 ?_
  refine lv_iand hx hb dX12_takes_54 ?_
  refine x_iast (t0 := 0) F hK hI hW hS rd_d10 rd_10 rfl dX12_takes_55 h (fun S4 H locs hW hS h => ?_)
  refine lv_aload_n hx hb dX12_takes_56 rfl (lv_at hl 0 rfl) ?_
  refine x_get F hK hW xc_X12 rd_d0 rd_0 8 (by decide) k_5_136 (gf_X12_8 _ _) dX12_takes_57 ?_
  refine lv_iload_n hx hb dX12_takes_60 rfl (lv_at hl 1 rfl) ?_
  refine lv_aload_n hx hb dX12_takes_61 rfl (lv_at hl 0 rfl) ?_
  refine lv_iload_n hx hb dX12_takes_62 rfl (lv_at hl 1 rfl) ?_
  refine lv_aload_n hx hb dX12_takes_63 rfl (lv_at hl 0 rfl) ?_
  refine x_get F hK hW xc_X12 rd_d0 rd_0 9 (by decide) k_5_137 (gf_X12_9 _ _) dX12_takes_64 ?_
  refine lv_iload_n hx hb dX12_takes_67 rfl (lv_at hl 1 rfl) ?_
  refine x_iald (t0 := 0) F hK hW rd_d10 rd_10 rfl dX12_takes_68 h (fun h => ?_)
  refine lv_iconst (v := (2 : Int32)) hx hb dX12_takes_69 (by decide) ?_
  refine lv_isub hx hb dX12_takes_70 ?_
  refine x_cVi (As := [.int v1, .int ((xI S4 0 10 (v1).toNatClampNeg) - (2 : Int32))]) F xG_ok hK hW hS um_X12_word k_6_149 (fun _ h1 => m_r_word hI _ _ h1) rfl rd_d0 rd_0 rfl rfl hl.1 rfl rfl ⟨Nat.le_of_ble_eq_true rfl, Nat.le_of_ble_eq_true rfl⟩ ⟨Nat.zero_le _, Nat.zero_le _⟩ (Nat.le_of_ble_eq_true rfl) dX12_takes_71 h (fun r_5 S5 H locs hW hS h => ?_)
  refine x_iast (t0 := 0) F hK hI hW hS rd_d9 rd_9 rfl dX12_takes_74 h (fun S6 H locs hW hS h => ?_)
  refine lv_aload_n hx hb dX12_takes_75 rfl (lv_at hl 0 rfl) ?_
  refine x_get F hK hW xc_X12 rd_d0 rd_0 7 (by decide) k_5_135 (gf_X12_7 _ _) dX12_takes_76 ?_
  refine lv_iload_n hx hb dX12_takes_79 rfl (lv_at hl 1 rfl) ?_
  refine lv_iconst (v := (0 : Int32)) hx hb dX12_takes_80 (by decide) ?_
  refine x_iast (t0 := 0) F hK hI hW hS rd_d8 rd_8 rfl dX12_takes_81 h (fun S7 H locs hW hS h => ?_)
  refine lv_aload_n hx hb dX12_takes_82 rfl (lv_at hl 0 rfl) ?_
  refine x_get F hK hW xc_X12 rd_d0 rd_0 11 (by decide) k_5_139 (gf_X12_11 _ _) dX12_takes_83 ?_
  refine lv_iload_n hx hb dX12_takes_86 rfl (lv_at hl 1 rfl) ?_
  refine lv_iconst (v := (0 : Int32)) hx hb dX12_takes_87 (by decide) ?_
  refine x_iast (t0 := 0) F hK hI hW hS rd_d12 rd_12 rfl dX12_takes_88 h (fun S8 H locs hW hS h => ?_)
  refine lv_aload_n hx hb dX12_takes_89 rfl (lv_at hl 0 rfl) ?_
  refine x_get F hK hW xc_X12 rd_d0 rd_0 10 (by decide) k_5_138 (gf_X12_10 _ _) dX12_takes_90 ?_
  refine lv_iload_n hx hb dX12_takes_93 rfl (lv_at hl 1 rfl) ?_
  refine lv_iload_n hx hb dX12_takes_94 rfl (lv_at hl 2 rfl) ?_
  refine x_iast (t0 := 0) F hK hI hW hS rd_d11 rd_11 rfl dX12_takes_95 h (fun S9 H locs hW hS h => ?_)
  exact x_vret F hr hlk hW hS dX12_takes_96 h
def r_takes  (S : xS) (a1 : Int32) (a2 : Int32) : Option (xS) := gd (((2 : Int32) * a1) + a2) 16 (gd (((2 : Int32) * a1) + a2) 16 (if (xI S 0 19 ((((2 : Int32) * a1) + a2)).toNatClampNeg) = (xI S 0 20 ((((2 : Int32) * a1) + a2)).toNatClampNeg) then (r_takes_b44  a1 a2 (xI S 0 19 ((((2 : Int32) * a1) + a2)).toNatClampNeg) (32768 : Int32) (((2 : Int32) * a1) + a2) S) else ((r_word  S a1 ((xI S 0 19 ((((2 : Int32) * a1) + a2)).toNatClampNeg) - (4 : Int32))).bind (fun (r_2, S2) => r_takes_b44  a1 a2 (xI S 0 19 ((((2 : Int32) * a1) + a2)).toNatClampNeg) r_2 (((2 : Int32) * a1) + a2) S2))))
set_option maxHeartbeats 4000000 in
set_option maxRecDepth 100000 in
theorem m_r_takes {l : Launch} {D : va_G} {cI cZ cB : ClassId} {ad : Nat → Nat → Nat} (hI : xInj rDom ad) {S : xS} (a1 : Int32) (a2 : Int32) {o : xS} (h : r_takes  S a1 a2 = some o) : Met l yX12_takes (Cond.code yX12_takes cX12_takes 5 none :: xG) { frames := 2, cells := 0, slots := 0, locals := 47 } (xPc D vwCl (rTy cI cZ cB) [] [] rDom ad (rDe ad cI cZ cB) [.ref (ad 0 0), .int a1, .int a2] S) (xQ D vwCl rDom ad (rDe ad cI cZ cB) none o) 0 0 (xA rDom ad) := by
  unfold r_takes at h
  refine x_enter (by decide) (Nat.le_of_ble_eq_true rfl) (fun p e s m below meth c F hr hlk hK hW hS ls hl => ?_)
  have hl : lv_has ls 5 [(0, .ref (ad 0 0)), (1, .int a1), (2, .int a2)] := hl
  have hx := F.1
  have hb := F.2.1
  refine lv_iconst (v := (2 : Int32)) hx hb dX12_takes_0 (by decide) ?_
  refine lv_iload_n hx hb dX12_takes_1 rfl (lv_at hl 1 rfl) ?_
  refine lv_imul hx hb dX12_takes_2 ?_
  refine lv_iload_n hx hb dX12_takes_3 rfl (lv_at hl 2 rfl) ?_
  refine lv_iadd hx hb dX12_takes_4 ?_
  refine lv_istore_n (lv' := [(3, .int (((2 : Int32) * a1) + a2)), (0, .ref (ad 0 0)), (1, .int a1), (2, .int a2)]) hx hb dX12_takes_5 rfl hl (by decide) rfl (fun ls hl => ?_)
  refine lv_aload_n hx hb dX12_takes_6 rfl (lv_at hl 1 rfl) ?_
  refine x_get F hK hW xc_X12 rd_d0 rd_0 18 (by decide) k_5_146 (gf_X12_18 _ _) dX12_takes_7 ?_
  refine lv_iload_n hx hb dX12_takes_10 rfl (lv_at hl 0 rfl) ?_
  refine x_iald (t0 := 0) F hK hW rd_d19 rd_19 rfl dX12_takes_11 h (fun h => ?_)
  refine lv_istore (lv' := [(4, .int (xI S 0 19 ((((2 : Int32) * a1) + a2)).toNatClampNeg)), (3, .int (((2 : Int32) * a1) + a2)), (0, .ref (ad 0 0)), (1, .int a1), (2, .int a2)]) hx hb dX12_takes_12 hl (by decide) rfl (fun ls hl => ?_)
  refine lv_aload_n hx hb dX12_takes_14 rfl (lv_at hl 2 rfl) ?_
  refine x_get F hK hW xc_X12 rd_d0 rd_0 18 (by decide) k_5_146 (gf_X12_18 _ _) dX12_takes_15 ?_
  refine lv_iload_n hx hb dX12_takes_18 rfl (lv_at hl 1 rfl) ?_
  refine lv_iload hx hb dX12_takes_19 (lv_at hl 0 rfl) ?_
  refine lv_aload_n hx hb dX12_takes_21 rfl (lv_at hl 2 rfl) ?_
  refine x_get F hK hW xc_X12 rd_d0 rd_0 19 (by decide) k_5_147 (gf_X12_19 _ _) dX12_takes_22 ?_
  refine lv_iload_n hx hb dX12_takes_25 rfl (lv_at hl 1 rfl) ?_
  refine x_iald (t0 := 0) F hK hW rd_d20 rd_20 rfl dX12_takes_26 h (fun h => ?_)
  refine lv_icmp_ne (tgt := 35) hx hb dX12_takes_27 (by decide) (fun c_1 => ?_) (fun c_1 => ?_)
  · replace h := (if_neg c_1).symm.trans h
    refine lv_aload_n hx hb dX12_takes_35 rfl (lv_at hl 2 rfl) ?_
    refine lv_iload_n hx hb dX12_takes_36 rfl (lv_at hl 3 rfl) ?_
    refine lv_iload hx hb dX12_takes_37 (lv_at hl 0 rfl) ?_
    refine lv_iconst (v := (4 : Int32)) hx hb dX12_takes_39 (by decide) ?_
    refine lv_isub hx hb dX12_takes_40 ?_
    refine x_cVi (As := [.int a1, .int ((xI S 0 19 ((((2 : Int32) * a1) + a2)).toNatClampNeg) - (4 : Int32))]) F xG_ok hK hW hS um_X12_word k_6_149 (fun _ h1 => m_r_word hI _ _ h1) rfl rd_d0 rd_0 rfl rfl hl.1 rfl rfl ⟨Nat.le_of_ble_eq_true rfl, Nat.le_of_ble_eq_true rfl⟩ ⟨Nat.zero_le _, Nat.zero_le _⟩ (Nat.le_of_ble_eq_true rfl) dX12_takes_41 h (fun r_2 S2 H locs hW hS h => ?_)
    exact m_r_takes_b44 hI  F hr hlk hK _ _ _ _ _ _ h hW hS (lv_sub hl [2, 3, 4, 0] rfl)
  replace h := (if_pos c_1).symm.trans h
  refine lv_ldc (v := (32768 : Int32)) hx hb F.2.2.2.1 (x_hts F _ k_5_126) dX12_takes_30 ?_
  refine lv_goto (tgt := 44) hx hb dX12_takes_32 (by decide) ?_
  exact m_r_takes_b44 hI  F hr hlk hK _ _ _ _ _ _ h hW hS (lv_sub hl [2, 3, 4, 0] rfl)
/-! X12_next -/
def r_next_b121 (v1 : Int32) (S : xS) : Option (xS) := gd v1 8 (if (xI S 0 11 (v1).toNatClampNeg) = (2 : Int32) then (gd ((2 : Int32) * v1) 16 (if (xI S 0 19 (((2 : Int32) * v1)).toNatClampNeg) = (32768 : Int32) then (gd v1 8 (if (xI S 0 22 (v1).toNatClampNeg) = 0 then (gd (((2 : Int32) * v1) + (1 : Int32)) 16 (if (xI S 0 19 ((((2 : Int32) * v1) + (1 : Int32))).toNatClampNeg) = (32768 : Int32) then (some S) else ((r_takes  S v1 (1 : Int32)).bind (fun S6 => some S6)))) else (gd v1 8 (xnm (sI S 0 22 (v1).toNatClampNeg (vp_nar .boolean (0 : Int32))) (fun S7 => gd v1 8 (gd v1 8 (xnm (sI S7 0 5 (v1).toNatClampNeg (xI S7 0 23 (v1).toNatClampNeg)) (fun S8 => gd v1 8 (gd v1 8 (xnm (sI S8 0 6 (v1).toNatClampNeg (xI S8 0 24 (v1).toNatClampNeg)) (fun S9 => gd v1 8 (gd v1 8 (xnm (sI S9 0 7 (v1).toNatClampNeg (xI S9 0 25 (v1).toNatClampNeg)) (fun S10 => gd v1 8 (gd v1 8 (xnm (sI S10 0 8 (v1).toNatClampNeg (xI S10 0 26 (v1).toNatClampNeg)) (fun S11 => gd v1 8 (gd v1 8 (xnm (sI S11 0 9 (v1).toNatClampNeg (xI S11 0 27 (v1).toNatClampNeg)) (fun S12 => gd v1 8 (gd v1 8 (xnm (sI S12 0 10 (v1).toNatClampNeg (xI S12 0 28 (v1).toNatClampNeg)) (fun S13 => gd v1 8 (gd v1 8 (xnm (sI S13 0 12 (v1).toNatClampNeg (xI S13 0 29 (v1).toNatClampNeg)) (fun S14 => gd v1 8 (xnm (sI S14 0 11 (v1).toNatClampNeg (1 : Int32)) (fun S15 => some S15)))))))))))))))))))))))))))) else ((r_takes  S v1 (0 : Int32)).bind (fun S16 => some S16)))) else (some S))
set_option maxHeartbeats 4000000 in
set_option maxRecDepth 100000 in
theorem m_r_next_b121 {l : Launch} {D : va_G} {cI cZ cB : ClassId} {ad : Nat → Nat → Nat} (hI : xInj rDom ad) {p : Program} {e : Env} {s : State} {m : MethodId} {args : Array Value} {below : List Frame} {meth : Method} {c : Code} (F : CallFix p m c cX12_next 2 s args (Cond.code yX12_next cX12_next 2 none :: xG) (yX12_next).cls) (hr : meth.sig.returnType = none) (hlk : meth.locks = false) (hK : xK D vwCl (rTy cI cZ cB) [] [] s) {o : xS} (v1 : Int32) (S : xS) {H : Heap} {locs : List Loc} {ls : Array Slot} (h : r_next_b121 v1 S = some o) (hW : xW D vwCl rDom ad (rDe ad cI cZ cB) S H) (hS : va_S (xA rDom ad) s.heap H locs) (hl : lv_has ls 2 [(0, .ref (ad 0 0)), (1, .int v1)]) : W p l e { frames := 3, cells := 0, slots := 0, locals := 71 } s m args below meth c H locs 0 0 (MQ below (xQ D vwCl rDom ad (rDe ad cI cZ cB) none o) args s 0 0 (xA rDom ad)) (F0 m 121 ls []) := by
  have hx := F.1
  have hb := F.2.1
  unfold r_next_b121 at h
  refine lv_aload_n hx hb dX12_next_121 rfl (lv_at hl 0 rfl) ?_
  refine x_get F hK hW xc_X12 rd_d0 rd_0 10 (by decide) k_5_138 (gf_X12_10 _ _) dX12_next_122 ?_
  refine lv_iload_n hx hb dX12_next_125 rfl (lv_at hl 1 rfl) ?_
  refine x_iald (t0 := 0) F hK hW rd_d11 rd_11 rfl dX12_next_126 h (fun h => ?_)
  refine lv_iconst (v := (2 : Int32)) hx hb dX12_next_127 (by decide) ?_
  refine lv_icmp_eq (tgt := 132) hx hb dX12_next_128 (by decide) (fun c_2 => ?_) (fun c_2 => ?_)
  · replace h := (if_pos c_2).symm.trans h
    refine lv_aload_n hx hb dX12_next_132 rfl (lv_at hl 0 rfl) ?_
    refine x_get F hK hW xc_X12 rd_d0 rd_0 18 (by decide) k_5_146 (gf_X12_18 _ _) dX12_next_133 ?_
    refine lv_iconst (v := (2 : Int32)) hx hb dX12_next_136 (by decide) ?_
    refine lv_iload_n hx hb dX12_next_137 rfl (lv_at hl 1 rfl) ?_
    refine lv_imul hx hb dX12_next_138 ?_
    refine x_iald (t0 := 0) F hK hW rd_d19 rd_19 rfl dX12_next_139 h (fun h => ?_)
    refine lv_ldc (v := (32768 : Int32)) hx hb F.2.2.2.1 (x_hts F _ k_5_126) dX12_next_140 ?_
    refine lv_icmp_eq (tgt := 154) hx hb dX12_next_142 (by decide) (fun c_3 => ?_) (fun c_3 => ?_)
    · replace h := (if_pos c_3).symm.trans h
      refine lv_aload_n hx hb dX12_next_154 rfl (lv_at hl 0 rfl) ?_
      refine x_get F hK hW xc_X12 rd_d0 rd_0 21 (by decide) k_5_149 (gf_X12_21 _ _) dX12_next_155 ?_
      refine lv_iload_n hx hb dX12_next_158 rfl (lv_at hl 1 rfl) ?_
      refine x_zald (t0 := 1) F hK hW rd_d22 rd_22 rfl dX12_next_159 h (fun h => ?_)
      refine lv_if_eq (tgt := 264) hx hb dX12_next_160 (by decide) (fun c_4 => ?_) (fun c_4 => ?_)
      · replace h := (if_pos c_4).symm.trans h
        refine lv_aload_n hx hb dX12_next_264 rfl (lv_at hl 0 rfl) ?_
        refine x_get F hK hW xc_X12 rd_d0 rd_0 18 (by decide) k_5_146 (gf_X12_18 _ _) dX12_next_265 ?_
        refine lv_iconst (v := (2 : Int32)) hx hb dX12_next_268 (by decide) ?_
        refine lv_iload_n hx hb dX12_next_269 rfl (lv_at hl 1 rfl) ?_
        refine lv_imul hx hb dX12_next_270 ?_
        refine lv_iconst (v := (1 : Int32)) hx hb dX12_next_271 (by decide) ?_
        refine lv_iadd hx hb dX12_next_272 ?_
        refine x_iald (t0 := 0) F hK hW rd_d19 rd_19 rfl dX12_next_273 h (fun h => ?_)
        refine lv_ldc (v := (32768 : Int32)) hx hb F.2.2.2.1 (x_hts F _ k_5_126) dX12_next_274 ?_
        refine lv_icmp_eq (tgt := 285) hx hb dX12_next_276 (by decide) (fun c_5 => ?_) (fun c_5 => ?_)
        · replace h := (if_pos c_5).symm.trans h
          exact x_vret F hr hlk hW hS dX12_next_285 h
        replace h := (if_neg c_5).symm.trans h
        refine lv_aload_n hx hb dX12_next_279 rfl (lv_at hl 0 rfl) ?_
        refine lv_iload_n hx hb dX12_next_280 rfl (lv_at hl 1 rfl) ?_
        refine lv_iconst (v := (1 : Int32)) hx hb dX12_next_281 (by decide) ?_
        refine x_cVv (As := [.int v1, .int (1 : Int32)]) F xG_ok hK hW hS um_X12_takes k_6_196 (fun _ h1 => m_r_takes hI _ _ h1) rfl rd_d0 rd_0 rfl rfl hl.1 rfl rfl ⟨Nat.le_of_ble_eq_true rfl, Nat.le_of_ble_eq_true rfl⟩ ⟨Nat.zero_le _, Nat.zero_le _⟩ (Nat.le_of_ble_eq_true rfl) dX12_next_282 h (fun S6 H locs hW hS h => ?_)
        exact x_vret F hr hlk hW hS dX12_next_285 h
      replace h := (if_neg c_4).symm.trans h
      refine lv_aload_n hx hb dX12_next_163 rfl (lv_at hl 0 rfl) ?_
      refine x_get F hK hW xc_X12 rd_d0 rd_0 21 (by decide) k_5_149 (gf_X12_21 _ _) dX12_next_164 ?_
      refine lv_iload_n hx hb dX12_next_167 rfl (lv_at hl 1 rfl) ?_
      refine lv_iconst (v := (0 : Int32)) hx hb dX12_next_168 (by decide) ?_
      refine x_zast (t0 := 1) F hK hI hW hS rd_d22 rd_22 rfl dX12_next_169 h (fun S7 H locs hW hS h => ?_)
      refine lv_aload_n hx hb dX12_next_170 rfl (lv_at hl 0 rfl) ?_
      refine x_get F hK hW xc_X12 rd_d0 rd_0 4 (by decide) k_5_132 (gf_X12_4 _ _) dX12_next_171 ?_
      refine lv_iload_n hx hb dX12_next_174 rfl (lv_at hl 1 rfl) ?_
      refine lv_aload_n hx hb dX12_next_175 rfl (lv_at hl 0 rfl) ?_
      refine x_get F hK hW xc_X12 rd_d0 rd_0 22 (by decide) k_5_150 (gf_X12_22 _ _) dX12_next_176 ?_
      refine lv_iload_n hx hb dX12_next_179 rfl (lv_at hl 1 rfl) ?_
      refine x_iald (t0 := 0) F hK hW rd_d23 rd_23 rfl dX12_next_180 h (fun h => ?_)
      refine x_iast (t0 := 0) F hK hI hW hS rd_d5 rd_5 rfl dX12_next_181 h (fun S8 H locs hW hS h => ?_)
      refine lv_aload_n hx hb dX12_next_182 rfl (lv_at hl 0 rfl) ?_
      refine x_get F hK hW xc_X12 rd_d0 rd_0 5 (by decide) k_5_133 (gf_X12_5 _ _) dX12_next_183 ?_
      refine lv_iload_n hx hb dX12_next_186 rfl (lv_at hl 1 rfl) ?_
      refine lv_aload_n hx hb dX12_next_187 rfl (lv_at hl 0 rfl) ?_
      refine x_get F hK hW xc_X12 rd_d0 rd_0 23 (by decide) k_5_151 (gf_X12_23 _ _) dX12_next_188 ?_
      refine lv_iload_n hx hb dX12_next_191 rfl (lv_at hl 1 rfl) ?_
      refine x_iald (t0 := 0) F hK hW rd_d24 rd_24 rfl dX12_next_192 h (fun h => ?_)
      refine x_iast (t0 := 0) F hK hI hW hS rd_d6 rd_6 rfl dX12_next_193 h (fun S9 H locs hW hS h => ?_)
      refine lv_aload_n hx hb dX12_next_194 rfl (lv_at hl 0 rfl) ?_
      refine x_get F hK hW xc_X12 rd_d0 rd_0 6 (by decide) k_5_134 (gf_X12_6 _ _) dX12_next_195 ?_
      refine lv_iload_n hx hb dX12_next_198 rfl (lv_at hl 1 rfl) ?_
      refine lv_aload_n hx hb dX12_next_199 rfl (lv_at hl 0 rfl) ?_
      refine x_get F hK hW xc_X12 rd_d0 rd_0 24 (by decide) k_5_152 (gf_X12_24 _ _) dX12_next_200 ?_
      refine lv_iload_n hx hb dX12_next_203 rfl (lv_at hl 1 rfl) ?_
      refine x_iald (t0 := 0) F hK hW rd_d25 rd_25 rfl dX12_next_204 h (fun h => ?_)
      refine x_iast (t0 := 0) F hK hI hW hS rd_d7 rd_7 rfl dX12_next_205 h (fun S10 H locs hW hS h => ?_)
      refine lv_aload_n hx hb dX12_next_206 rfl (lv_at hl 0 rfl) ?_
      refine x_get F hK hW xc_X12 rd_d0 rd_0 7 (by decide) k_5_135 (gf_X12_7 _ _) dX12_next_207 ?_
      refine lv_iload_n hx hb dX12_next_210 rfl (lv_at hl 1 rfl) ?_
      refine lv_aload_n hx hb dX12_next_211 rfl (lv_at hl 0 rfl) ?_
      refine x_get F hK hW xc_X12 rd_d0 rd_0 25 (by decide) k_5_153 (gf_X12_25 _ _) dX12_next_212 ?_
      refine lv_iload_n hx hb dX12_next_215 rfl (lv_at hl 1 rfl) ?_
      refine x_iald (t0 := 0) F hK hW rd_d26 rd_26 rfl dX12_next_216 h (fun h => ?_)
      refine x_iast (t0 := 0) F hK hI hW hS rd_d8 rd_8 rfl dX12_next_217 h (fun S11 H locs hW hS h => ?_)
      refine lv_aload_n hx hb dX12_next_218 rfl (lv_at hl 0 rfl) ?_
      refine x_get F hK hW xc_X12 rd_d0 rd_0 8 (by decide) k_5_136 (gf_X12_8 _ _) dX12_next_219 ?_
      refine lv_iload_n hx hb dX12_next_222 rfl (lv_at hl 1 rfl) ?_
      refine lv_aload_n hx hb dX12_next_223 rfl (lv_at hl 0 rfl) ?_
      refine x_get F hK hW xc_X12 rd_d0 rd_0 26 (by decide) k_5_154 (gf_X12_26 _ _) dX12_next_224 ?_
      refine lv_iload_n hx hb dX12_next_227 rfl (lv_at hl 1 rfl) ?_
      refine x_iald (t0 := 0) F hK hW rd_d27 rd_27 rfl dX12_next_228 h (fun h => ?_)
      refine x_iast (t0 := 0) F hK hI hW hS rd_d9 rd_9 rfl dX12_next_229 h (fun S12 H locs hW hS h => ?_)
      refine lv_aload_n hx hb dX12_next_230 rfl (lv_at hl 0 rfl) ?_
      refine x_get F hK hW xc_X12 rd_d0 rd_0 9 (by decide) k_5_137 (gf_X12_9 _ _) dX12_next_231 ?_
      refine lv_iload_n hx hb dX12_next_234 rfl (lv_at hl 1 rfl) ?_
      refine lv_aload_n hx hb dX12_next_235 rfl (lv_at hl 0 rfl) ?_
      refine x_get F hK hW xc_X12 rd_d0 rd_0 27 (by decide) k_5_155 (gf_X12_27 _ _) dX12_next_236 ?_
      refine lv_iload_n hx hb dX12_next_239 rfl (lv_at hl 1 rfl) ?_
      refine x_iald (t0 := 0) F hK hW rd_d28 rd_28 rfl dX12_next_240 h (fun h => ?_)
      refine x_iast (t0 := 0) F hK hI hW hS rd_d10 rd_10 rfl dX12_next_241 h (fun S13 H locs hW hS h => ?_)
      refine lv_aload_n hx hb dX12_next_242 rfl (lv_at hl 0 rfl) ?_
      refine x_get F hK hW xc_X12 rd_d0 rd_0 11 (by decide) k_5_139 (gf_X12_11 _ _) dX12_next_243 ?_
      refine lv_iload_n hx hb dX12_next_246 rfl (lv_at hl 1 rfl) ?_
      refine lv_aload_n hx hb dX12_next_247 rfl (lv_at hl 0 rfl) ?_
      refine x_get F hK hW xc_X12 rd_d0 rd_0 28 (by decide) k_5_156 (gf_X12_28 _ _) dX12_next_248 ?_
      refine lv_iload_n hx hb dX12_next_251 rfl (lv_at hl 1 rfl) ?_
      refine x_iald (t0 := 0) F hK hW rd_d29 rd_29 rfl dX12_next_252 h (fun h => ?_)
      refine x_iast (t0 := 0) F hK hI hW hS rd_d12 rd_12 rfl dX12_next_253 h (fun S14 H locs hW hS h => ?_)
      refine lv_aload_n hx hb dX12_next_254 rfl (lv_at hl 0 rfl) ?_
      refine x_get F hK hW xc_X12 rd_d0 rd_0 10 (by decide) k_5_138 (gf_X12_10 _ _) dX12_next_255 ?_
      refine lv_iload_n hx hb dX12_next_258 rfl (lv_at hl 1 rfl) ?_
      refine lv_iconst (v := (1 : Int32)) hx hb dX12_next_259 (by decide) ?_
      refine x_iast (t0 := 0) F hK hI hW hS rd_d11 rd_11 rfl dX12_next_260 h (fun S15 H locs hW hS h => ?_)
      refine lv_goto (tgt := 285) hx hb dX12_next_261 (by decide) ?_
      exact x_vret F hr hlk hW hS dX12_next_285 h
    replace h := (if_neg c_3).symm.trans h
    refine lv_aload_n hx hb dX12_next_145 rfl (lv_at hl 0 rfl) ?_
    refine lv_iload_n hx hb dX12_next_146 rfl (lv_at hl 1 rfl) ?_
    refine lv_iconst (v := (0 : Int32)) hx hb dX12_next_147 (by decide) ?_
    refine x_cVv (As := [.int v1, .int (0 : Int32)]) F xG_ok hK hW hS um_X12_takes k_6_196 (fun _ h1 => m_r_takes hI _ _ h1) rfl rd_d0 rd_0 rfl rfl hl.1 rfl rfl ⟨Nat.le_of_ble_eq_true rfl, Nat.le_of_ble_eq_true rfl⟩ ⟨Nat.zero_le _, Nat.zero_le _⟩ (Nat.le_of_ble_eq_true rfl) dX12_next_148 h (fun S16 H locs hW hS h => ?_)
    refine lv_goto (tgt := 285) hx hb dX12_next_151 (by decide) ?_
    exact x_vret F hr hlk hW hS dX12_next_285 h
  replace h := (if_neg c_2).symm.trans h
  exact x_vret F hr hlk hW hS dX12_next_131 h
def r_next  (S : xS) (a1 : Int32) : Option (xS) := gd a1 8 (if (xI S 0 11 (a1).toNatClampNeg) = (1 : Int32) then (gd ((2 : Int32) * a1) 16 (if (xI S 0 19 (((2 : Int32) * a1)).toNatClampNeg) = (32768 : Int32) then (r_next_b121  a1 S) else (gd a1 8 (xnm (sI S 0 22 (a1).toNatClampNeg (vp_nar .boolean (1 : Int32))) (fun S18 => gd a1 8 (gd a1 8 (xnm (sI S18 0 23 (a1).toNatClampNeg (xI S18 0 5 (a1).toNatClampNeg)) (fun S19 => gd a1 8 (gd a1 8 (xnm (sI S19 0 24 (a1).toNatClampNeg (xI S19 0 6 (a1).toNatClampNeg)) (fun S20 => gd a1 8 (gd a1 8 (xnm (sI S20 0 25 (a1).toNatClampNeg (xI S20 0 7 (a1).toNatClampNeg)) (fun S21 => gd a1 8 (gd a1 8 (xnm (sI S21 0 26 (a1).toNatClampNeg (xI S21 0 8 (a1).toNatClampNeg)) (fun S22 => gd a1 8 (gd a1 8 (xnm (sI S22 0 27 (a1).toNatClampNeg (xI S22 0 9 (a1).toNatClampNeg)) (fun S23 => gd a1 8 (gd a1 8 (xnm (sI S23 0 28 (a1).toNatClampNeg (xI S23 0 10 (a1).toNatClampNeg)) (fun S24 => gd a1 8 (gd a1 8 (xnm (sI S24 0 29 (a1).toNatClampNeg (xI S24 0 12 (a1).toNatClampNeg)) (fun S25 => gd a1 8 (xnm (sI S25 0 11 (a1).toNatClampNeg (2 : Int32)) (fun S26 => r_next_b121  a1 S26)))))))))))))))))))))))))))) else (r_next_b121  a1 S))
set_option maxHeartbeats 4000000 in
set_option maxRecDepth 100000 in
theorem m_r_next {l : Launch} {D : va_G} {cI cZ cB : ClassId} {ad : Nat → Nat → Nat} (hI : xInj rDom ad) {S : xS} (a1 : Int32) {o : xS} (h : r_next  S a1 = some o) : Met l yX12_next (Cond.code yX12_next cX12_next 2 none :: xG) { frames := 3, cells := 0, slots := 0, locals := 71 } (xPc D vwCl (rTy cI cZ cB) [] [] rDom ad (rDe ad cI cZ cB) [.ref (ad 0 0), .int a1] S) (xQ D vwCl rDom ad (rDe ad cI cZ cB) none o) 0 0 (xA rDom ad) := by
  unfold r_next at h
  refine x_enter (by decide) (Nat.le_of_ble_eq_true rfl) (fun p e s m below meth c F hr hlk hK hW hS ls hl => ?_)
  have hl : lv_has ls 2 [(0, .ref (ad 0 0)), (1, .int a1)] := hl
  have hx := F.1
  have hb := F.2.1
  refine lv_aload_n hx hb dX12_next_0 rfl (lv_at hl 0 rfl) ?_
  refine x_get F hK hW xc_X12 rd_d0 rd_0 10 (by decide) k_5_138 (gf_X12_10 _ _) dX12_next_1 ?_
  refine lv_iload_n hx hb dX12_next_4 rfl (lv_at hl 1 rfl) ?_
  refine x_iald (t0 := 0) F hK hW rd_d11 rd_11 rfl dX12_next_5 h (fun h => ?_)
  refine lv_iconst (v := (1 : Int32)) hx hb dX12_next_6 (by decide) ?_
  refine lv_icmp_ne (tgt := 121) hx hb dX12_next_7 (by decide) (fun c_1 => ?_) (fun c_1 => ?_)
  · replace h := (if_neg c_1).symm.trans h
    exact m_r_next_b121 hI  F hr hlk hK _ _ h hW hS (lv_sub hl [0, 1] rfl)
  replace h := (if_pos c_1).symm.trans h
  refine lv_aload_n hx hb dX12_next_10 rfl (lv_at hl 0 rfl) ?_
  refine x_get F hK hW xc_X12 rd_d0 rd_0 18 (by decide) k_5_146 (gf_X12_18 _ _) dX12_next_11 ?_
  refine lv_iconst (v := (2 : Int32)) hx hb dX12_next_14 (by decide) ?_
  refine lv_iload_n hx hb dX12_next_15 rfl (lv_at hl 1 rfl) ?_
  refine lv_imul hx hb dX12_next_16 ?_
  refine x_iald (t0 := 0) F hK hW rd_d19 rd_19 rfl dX12_next_17 h (fun h => ?_)
  refine lv_ldc (v := (32768 : Int32)) hx hb F.2.2.2.1 (x_hts F _ k_5_126) dX12_next_18 ?_
  refine lv_icmp_eq (tgt := 121) hx hb dX12_next_20 (by decide) (fun c_17 => ?_) (fun c_17 => ?_)
  · replace h := (if_pos c_17).symm.trans h
    exact m_r_next_b121 hI  F hr hlk hK _ _ h hW hS (lv_sub hl [0, 1] rfl)
  replace h := (if_neg c_17).symm.trans h
  refine lv_aload_n hx hb dX12_next_23 rfl (lv_at hl 0 rfl) ?_
  refine x_get F hK hW xc_X12 rd_d0 rd_0 21 (by decide) k_5_149 (gf_X12_21 _ _) dX12_next_24 ?_
  refine lv_iload_n hx hb dX12_next_27 rfl (lv_at hl 1 rfl) ?_
  refine lv_iconst (v := (1 : Int32)) hx hb dX12_next_28 (by decide) ?_
  refine x_zast (t0 := 1) F hK hI hW hS rd_d22 rd_22 rfl dX12_next_29 h (fun S18 H locs hW hS h => ?_)
  refine lv_aload_n hx hb dX12_next_30 rfl (lv_at hl 0 rfl) ?_
  refine x_get F hK hW xc_X12 rd_d0 rd_0 22 (by decide) k_5_150 (gf_X12_22 _ _) dX12_next_31 ?_
  refine lv_iload_n hx hb dX12_next_34 rfl (lv_at hl 1 rfl) ?_
  refine lv_aload_n hx hb dX12_next_35 rfl (lv_at hl 0 rfl) ?_
  refine x_get F hK hW xc_X12 rd_d0 rd_0 4 (by decide) k_5_132 (gf_X12_4 _ _) dX12_next_36 ?_
  refine lv_iload_n hx hb dX12_next_39 rfl (lv_at hl 1 rfl) ?_
  refine x_iald (t0 := 0) F hK hW rd_d5 rd_5 rfl dX12_next_40 h (fun h => ?_)
  refine x_iast (t0 := 0) F hK hI hW hS rd_d23 rd_23 rfl dX12_next_41 h (fun S19 H locs hW hS h => ?_)
  refine lv_aload_n hx hb dX12_next_42 rfl (lv_at hl 0 rfl) ?_
  refine x_get F hK hW xc_X12 rd_d0 rd_0 23 (by decide) k_5_151 (gf_X12_23 _ _) dX12_next_43 ?_
  refine lv_iload_n hx hb dX12_next_46 rfl (lv_at hl 1 rfl) ?_
  refine lv_aload_n hx hb dX12_next_47 rfl (lv_at hl 0 rfl) ?_
  refine x_get F hK hW xc_X12 rd_d0 rd_0 5 (by decide) k_5_133 (gf_X12_5 _ _) dX12_next_48 ?_
  refine lv_iload_n hx hb dX12_next_51 rfl (lv_at hl 1 rfl) ?_
  refine x_iald (t0 := 0) F hK hW rd_d6 rd_6 rfl dX12_next_52 h (fun h => ?_)
  refine x_iast (t0 := 0) F hK hI hW hS rd_d24 rd_24 rfl dX12_next_53 h (fun S20 H locs hW hS h => ?_)
  refine lv_aload_n hx hb dX12_next_54 rfl (lv_at hl 0 rfl) ?_
  refine x_get F hK hW xc_X12 rd_d0 rd_0 24 (by decide) k_5_152 (gf_X12_24 _ _) dX12_next_55 ?_
  refine lv_iload_n hx hb dX12_next_58 rfl (lv_at hl 1 rfl) ?_
  refine lv_aload_n hx hb dX12_next_59 rfl (lv_at hl 0 rfl) ?_
  refine x_get F hK hW xc_X12 rd_d0 rd_0 6 (by decide) k_5_134 (gf_X12_6 _ _) dX12_next_60 ?_
  refine lv_iload_n hx hb dX12_next_63 rfl (lv_at hl 1 rfl) ?_
  refine x_iald (t0 := 0) F hK hW rd_d7 rd_7 rfl dX12_next_64 h (fun h => ?_)
  refine x_iast (t0 := 0) F hK hI hW hS rd_d25 rd_25 rfl dX12_next_65 h (fun S21 H locs hW hS h => ?_)
  refine lv_aload_n hx hb dX12_next_66 rfl (lv_at hl 0 rfl) ?_
  refine x_get F hK hW xc_X12 rd_d0 rd_0 25 (by decide) k_5_153 (gf_X12_25 _ _) dX12_next_67 ?_
  refine lv_iload_n hx hb dX12_next_70 rfl (lv_at hl 1 rfl) ?_
  refine lv_aload_n hx hb dX12_next_71 rfl (lv_at hl 0 rfl) ?_
  refine x_get F hK hW xc_X12 rd_d0 rd_0 7 (by decide) k_5_135 (gf_X12_7 _ _) dX12_next_72 ?_
  refine lv_iload_n hx hb dX12_next_75 rfl (lv_at hl 1 rfl) ?_
  refine x_iald (t0 := 0) F hK hW rd_d8 rd_8 rfl dX12_next_76 h (fun h => ?_)
  refine x_iast (t0 := 0) F hK hI hW hS rd_d26 rd_26 rfl dX12_next_77 h (fun S22 H locs hW hS h => ?_)
  refine lv_aload_n hx hb dX12_next_78 rfl (lv_at hl 0 rfl) ?_
  refine x_get F hK hW xc_X12 rd_d0 rd_0 26 (by decide) k_5_154 (gf_X12_26 _ _) dX12_next_79 ?_
  refine lv_iload_n hx hb dX12_next_82 rfl (lv_at hl 1 rfl) ?_
  refine lv_aload_n hx hb dX12_next_83 rfl (lv_at hl 0 rfl) ?_
  refine x_get F hK hW xc_X12 rd_d0 rd_0 8 (by decide) k_5_136 (gf_X12_8 _ _) dX12_next_84 ?_
  refine lv_iload_n hx hb dX12_next_87 rfl (lv_at hl 1 rfl) ?_
  refine x_iald (t0 := 0) F hK hW rd_d9 rd_9 rfl dX12_next_88 h (fun h => ?_)
  refine x_iast (t0 := 0) F hK hI hW hS rd_d27 rd_27 rfl dX12_next_89 h (fun S23 H locs hW hS h => ?_)
  refine lv_aload_n hx hb dX12_next_90 rfl (lv_at hl 0 rfl) ?_
  refine x_get F hK hW xc_X12 rd_d0 rd_0 27 (by decide) k_5_155 (gf_X12_27 _ _) dX12_next_91 ?_
  refine lv_iload_n hx hb dX12_next_94 rfl (lv_at hl 1 rfl) ?_
  refine lv_aload_n hx hb dX12_next_95 rfl (lv_at hl 0 rfl) ?_
  refine x_get F hK hW xc_X12 rd_d0 rd_0 9 (by decide) k_5_137 (gf_X12_9 _ _) dX12_next_96 ?_
  refine lv_iload_n hx hb dX12_next_99 rfl (lv_at hl 1 rfl) ?_
  refine x_iald (t0 := 0) F hK hW rd_d10 rd_10 rfl dX12_next_100 h (fun h => ?_)
  refine x_iast (t0 := 0) F hK hI hW hS rd_d28 rd_28 rfl dX12_next_101 h (fun S24 H locs hW hS h => ?_)
  refine lv_aload_n hx hb dX12_next_102 rfl (lv_at hl 0 rfl) ?_
  refine x_get F hK hW xc_X12 rd_d0 rd_0 28 (by decide) k_5_156 (gf_X12_28 _ _) dX12_next_103 ?_
  refine lv_iload_n hx hb dX12_next_106 rfl (lv_at hl 1 rfl) ?_
  refine lv_aload_n hx hb dX12_next_107 rfl (lv_at hl 0 rfl) ?_
  refine x_get F hK hW xc_X12 rd_d0 rd_0 11 (by decide) k_5_139 (gf_X12_11 _ _) dX12_next_108 ?_
  refine lv_iload_n hx hb dX12_next_111 rfl (lv_at hl 1 rfl) ?_
  refine x_iald (t0 := 0) F hK hW rd_d12 rd_12 rfl dX12_next_112 h (fun h => ?_)
  refine x_iast (t0 := 0) F hK hI hW hS rd_d29 rd_29 rfl dX12_next_113 h (fun S25 H locs hW hS h => ?_)
  refine lv_aload_n hx hb dX12_next_114 rfl (lv_at hl 0 rfl) ?_
  refine x_get F hK hW xc_X12 rd_d0 rd_0 10 (by decide) k_5_138 (gf_X12_10 _ _) dX12_next_115 ?_
  refine lv_iload_n hx hb dX12_next_118 rfl (lv_at hl 1 rfl) ?_
  refine lv_iconst (v := (2 : Int32)) hx hb dX12_next_119 (by decide) ?_
  refine x_iast (t0 := 0) F hK hI hW hS rd_d11 rd_11 rfl dX12_next_120 h (fun S26 H locs hW hS h => ?_)
  exact m_r_next_b121 hI  F hr hlk hK _ _ h hW hS (lv_sub hl [0, 1] rfl)
/-! X12_sliced -/
def r_sliced  (S : xS) (a1 : Int32) : Option (xS) := gd a1 8 (if (xI S 0 11 (a1).toNatClampNeg) = (1 : Int32) then (gd a1 8 (if (256 : Int32) ≤ (xI S 0 12 (a1).toNatClampNeg) then ((r_waits  S a1).bind (fun S3 => gd a1 8 ((r_ready  S3 a1 ((xI S3 0 10 (a1).toNatClampNeg) ||| (1 : Int32))).bind (fun S4 => some S4)))) else (some S))) else (some S))
set_option maxHeartbeats 4000000 in
set_option maxRecDepth 100000 in
theorem m_r_sliced {l : Launch} {D : va_G} {cI cZ cB : ClassId} {ad : Nat → Nat → Nat} (hI : xInj rDom ad) {S : xS} (a1 : Int32) {o : xS} (h : r_sliced  S a1 = some o) : Met l yX12_sliced (Cond.code yX12_sliced cX12_sliced 2 none :: xG) { frames := 3, cells := 0, slots := 0, locals := 72 } (xPc D vwCl (rTy cI cZ cB) [] [] rDom ad (rDe ad cI cZ cB) [.ref (ad 0 0), .int a1] S) (xQ D vwCl rDom ad (rDe ad cI cZ cB) none o) 0 0 (xA rDom ad) := by
  unfold r_sliced at h
  refine x_enter (by decide) (Nat.le_of_ble_eq_true rfl) (fun p e s m below meth c F hr hlk hK hW hS ls hl => ?_)
  have hl : lv_has ls 2 [(0, .ref (ad 0 0)), (1, .int a1)] := hl
  have hx := F.1
  have hb := F.2.1
  refine lv_aload_n hx hb dX12_sliced_0 rfl (lv_at hl 0 rfl) ?_
  refine x_get F hK hW xc_X12 rd_d0 rd_0 10 (by decide) k_5_138 (gf_X12_10 _ _) dX12_sliced_1 ?_
  refine lv_iload_n hx hb dX12_sliced_4 rfl (lv_at hl 1 rfl) ?_
  refine x_iald (t0 := 0) F hK hW rd_d11 rd_11 rfl dX12_sliced_5 h (fun h => ?_)
  refine lv_iconst (v := (1 : Int32)) hx hb dX12_sliced_6 (by decide) ?_
  refine lv_icmp_ne (tgt := 22) hx hb dX12_sliced_7 (by decide) (fun c_1 => ?_) (fun c_1 => ?_)
  · replace h := (if_neg c_1).symm.trans h
    exact x_vret F hr hlk hW hS dX12_sliced_22 h
  replace h := (if_pos c_1).symm.trans h
  refine lv_aload_n hx hb dX12_sliced_10 rfl (lv_at hl 0 rfl) ?_
  refine x_get F hK hW xc_X12 rd_d0 rd_0 11 (by decide) k_5_139 (gf_X12_11 _ _) dX12_sliced_11 ?_
  refine lv_iload_n hx hb dX12_sliced_14 rfl (lv_at hl 1 rfl) ?_
  refine x_iald (t0 := 0) F hK hW rd_d12 rd_12 rfl dX12_sliced_15 h (fun h => ?_)
  refine lv_sipush (v := (256 : Int32)) hx hb dX12_sliced_16 (by decide) ?_
  refine lv_icmp_ge (tgt := 23) hx hb dX12_sliced_19 (by decide) (fun c_2 => ?_) (fun c_2 => ?_)
  · replace h := (if_pos c_2).symm.trans h
    refine lv_aload_n hx hb dX12_sliced_23 rfl (lv_at hl 0 rfl) ?_
    refine lv_iload_n hx hb dX12_sliced_24 rfl (lv_at hl 1 rfl) ?_
    refine x_cVv (As := [.int a1]) F xG_ok hK hW hS um_X12_waits k_7_25 (fun _ h1 => m_r_waits hI _ h1) rfl rd_d0 rd_0 rfl rfl hl.1 rfl rfl ⟨Nat.le_of_ble_eq_true rfl, Nat.le_of_ble_eq_true rfl⟩ ⟨Nat.zero_le _, Nat.zero_le _⟩ (Nat.le_of_ble_eq_true rfl) dX12_sliced_25 h (fun S3 H locs hW hS h => ?_)
    refine lv_aload_n hx hb dX12_sliced_28 rfl (lv_at hl 0 rfl) ?_
    refine lv_iload_n hx hb dX12_sliced_29 rfl (lv_at hl 1 rfl) ?_
    refine lv_aload_n hx hb dX12_sliced_30 rfl (lv_at hl 0 rfl) ?_
    refine x_get F hK hW xc_X12 rd_d0 rd_0 9 (by decide) k_5_137 (gf_X12_9 _ _) dX12_sliced_31 ?_
    refine lv_iload_n hx hb dX12_sliced_34 rfl (lv_at hl 1 rfl) ?_
    refine x_iald (t0 := 0) F hK hW rd_d10 rd_10 rfl dX12_sliced_35 h (fun h => ?_)
    refine lv_iconst (v := (1 : Int32)) hx hb dX12_sliced_36 (by decide) ?_
    refine lv_ior hx hb dX12_sliced_37 ?_
    refine x_cVv (As := [.int a1, .int ((xI S3 0 10 (a1).toNatClampNeg) ||| (1 : Int32))]) F xG_ok hK hW hS um_X12_ready k_6_133 (fun _ h1 => m_r_ready hI _ _ h1) rfl rd_d0 rd_0 rfl rfl hl.1 rfl rfl ⟨Nat.le_of_ble_eq_true rfl, Nat.le_of_ble_eq_true rfl⟩ ⟨Nat.zero_le _, Nat.zero_le _⟩ (Nat.le_of_ble_eq_true rfl) dX12_sliced_38 h (fun S4 H locs hW hS h => ?_)
    exact x_vret F hr hlk hW hS dX12_sliced_41 h
  replace h := (if_neg c_2).symm.trans h
  exact x_vret F hr hlk hW hS dX12_sliced_22 h
/-! X12_checked -/
def r_checked_b14 (v1 : Int32) (v2 : Int32) (S : xS) : Option (Int32 × xS) := gd v1 8 (xnm (sI S 0 16 (v1).toNatClampNeg (vp_nar .boolean (1 : Int32))) (fun S2 => some ((v2 &&& (65535 : Int32)), S2)))
set_option maxHeartbeats 4000000 in
set_option maxRecDepth 100000 in
theorem m_r_checked_b14 {l : Launch} {D : va_G} {cI cZ cB : ClassId} {ad : Nat → Nat → Nat} (hI : xInj rDom ad) {p : Program} {e : Env} {s : State} {m : MethodId} {args : Array Value} {below : List Frame} {meth : Method} {c : Code} (F : CallFix p m c cX12_checked 3 s args (Cond.code yX12_checked cX12_checked 3 (some .int) :: xG) (yX12_checked).cls) (hr : meth.sig.returnType = (some .int)) (hlk : meth.locks = false) (hK : xK D vwCl (rTy cI cZ cB) [] [] s) {o : Int32 × xS} (v1 : Int32) (v2 : Int32) (S : xS) {H : Heap} {locs : List Loc} {ls : Array Slot} (h : r_checked_b14 v1 v2 S = some o) (hW : xW D vwCl rDom ad (rDe ad cI cZ cB) S H) (hS : va_S (xA rDom ad) s.heap H locs) (hl : lv_has ls 3 [(0, .ref (ad 0 0)), (1, .int v1), (2, .int v2)]) : W p l e { frames := 0, cells := 0, slots := 0, locals := 0 } s m args below meth c H locs 0 0 (MQ below (xQ D vwCl rDom ad (rDe ad cI cZ cB) (some (.int o.1)) o.2) args s 0 0 (xA rDom ad)) (F0 m 14 ls []) := by
  have hx := F.1
  have hb := F.2.1
  unfold r_checked_b14 at h
  refine lv_aload_n hx hb dX12_checked_14 rfl (lv_at hl 0 rfl) ?_
  refine x_get F hK hW xc_X12 rd_d0 rd_0 15 (by decide) k_5_143 (gf_X12_15 _ _) dX12_checked_15 ?_
  refine lv_iload_n hx hb dX12_checked_18 rfl (lv_at hl 1 rfl) ?_
  refine lv_iconst (v := (1 : Int32)) hx hb dX12_checked_19 (by decide) ?_
  refine x_zast (t0 := 1) F hK hI hW hS rd_d16 rd_16 rfl dX12_checked_20 h (fun S2 H locs hW hS h => ?_)
  refine lv_iload_n hx hb dX12_checked_21 rfl (lv_at hl 2 rfl) ?_
  refine lv_ldc (v := (65535 : Int32)) hx hb F.2.2.2.1 (x_hts F _ k_6_102) dX12_checked_22 ?_
  refine lv_iand hx hb dX12_checked_24 ?_
  exact x_iret F hr hlk hW hS dX12_checked_25 h
def r_checked  (S : xS) (a1 : Int32) (a2 : Int32) : Option (Int32 × xS) := if a2 < (-32768 : Int32) then (r_checked_b14  a1 a2 S) else (if a2 ≤ (32767 : Int32) then (some ((a2 &&& (65535 : Int32)), S)) else (r_checked_b14  a1 a2 S))
set_option maxHeartbeats 4000000 in
set_option maxRecDepth 100000 in
theorem m_r_checked {l : Launch} {D : va_G} {cI cZ cB : ClassId} {ad : Nat → Nat → Nat} (hI : xInj rDom ad) {S : xS} (a1 : Int32) (a2 : Int32) {o : Int32 × xS} (h : r_checked  S a1 a2 = some o) : Met l yX12_checked (Cond.code yX12_checked cX12_checked 3 (some .int) :: xG) { frames := 0, cells := 0, slots := 0, locals := 0 } (xPc D vwCl (rTy cI cZ cB) [] [] rDom ad (rDe ad cI cZ cB) [.ref (ad 0 0), .int a1, .int a2] S) (xQ D vwCl rDom ad (rDe ad cI cZ cB) (some (.int o.1)) o.2) 0 0 (xA rDom ad) := by
  unfold r_checked at h
  refine x_enter (by decide) (Nat.le_of_ble_eq_true rfl) (fun p e s m below meth c F hr hlk hK hW hS ls hl => ?_)
  have hl : lv_has ls 3 [(0, .ref (ad 0 0)), (1, .int a1), (2, .int a2)] := hl
  have hx := F.1
  have hb := F.2.1
  refine lv_iload_n hx hb dX12_checked_0 rfl (lv_at hl 2 rfl) ?_
  refine lv_sipush (v := (-32768 : Int32)) hx hb dX12_checked_1 (by decide) ?_
  refine lv_icmp_lt (tgt := 14) hx hb dX12_checked_4 (by decide) (fun c_1 => ?_) (fun c_1 => ?_)
  · replace h := (if_pos c_1).symm.trans h
    exact m_r_checked_b14 hI  F hr hlk hK _ _ _ h hW hS (lv_sub hl [0, 1, 2] rfl)
  replace h := (if_neg c_1).symm.trans h
  refine lv_iload_n hx hb dX12_checked_7 rfl (lv_at hl 2 rfl) ?_
  refine lv_sipush (v := (32767 : Int32)) hx hb dX12_checked_8 (by decide) ?_
  refine lv_icmp_le (tgt := 21) hx hb dX12_checked_11 (by decide) (fun c_3 => ?_) (fun c_3 => ?_)
  · replace h := (if_pos c_3).symm.trans h
    refine lv_iload_n hx hb dX12_checked_21 rfl (lv_at hl 2 rfl) ?_
    refine lv_ldc (v := (65535 : Int32)) hx hb F.2.2.2.1 (x_hts F _ k_6_102) dX12_checked_22 ?_
    refine lv_iand hx hb dX12_checked_24 ?_
    exact x_iret F hr hlk hW hS dX12_checked_25 h
  replace h := (if_neg c_3).symm.trans h
  exact m_r_checked_b14 hI  F hr hlk hK _ _ _ h hW hS (lv_sub hl [0, 1, 2] rfl)
/-! X12_gives -/
def r_gives  (S : xS) (a1 : Int32) (a2 : Int32) : Option (Int32 × xS) := gd a1 8 (xnm (sI S 0 5 (a1).toNatClampNeg (a2 &&& (65535 : Int32))) (fun S1 => gd a1 8 (gd a1 8 (xnm (sI S1 0 6 (a1).toNatClampNeg (xI S1 0 7 (a1).toNatClampNeg)) (fun S2 => some ((1 : Int32), S2))))))
set_option maxHeartbeats 4000000 in
set_option maxRecDepth 100000 in
theorem m_r_gives {l : Launch} {D : va_G} {cI cZ cB : ClassId} {ad : Nat → Nat → Nat} (hI : xInj rDom ad) {S : xS} (a1 : Int32) (a2 : Int32) {o : Int32 × xS} (h : r_gives  S a1 a2 = some o) : Met l yX12_gives (Cond.code yX12_gives cX12_gives 3 (some .boolean) :: xG) { frames := 0, cells := 0, slots := 0, locals := 0 } (xPc D vwCl (rTy cI cZ cB) [] [] rDom ad (rDe ad cI cZ cB) [.ref (ad 0 0), .int a1, .int a2] S) (xQ D vwCl rDom ad (rDe ad cI cZ cB) (some (.int o.1)) o.2) 0 0 (xA rDom ad) := by
  unfold r_gives at h
  refine x_enter (by decide) (Nat.le_of_ble_eq_true rfl) (fun p e s m below meth c F hr hlk hK hW hS ls hl => ?_)
  have hl : lv_has ls 3 [(0, .ref (ad 0 0)), (1, .int a1), (2, .int a2)] := hl
  have hx := F.1
  have hb := F.2.1
  refine lv_aload_n hx hb dX12_gives_0 rfl (lv_at hl 0 rfl) ?_
  refine x_get F hK hW xc_X12 rd_d0 rd_0 4 (by decide) k_5_132 (gf_X12_4 _ _) dX12_gives_1 ?_
  refine lv_iload_n hx hb dX12_gives_4 rfl (lv_at hl 1 rfl) ?_
  refine lv_iload_n hx hb dX12_gives_5 rfl (lv_at hl 2 rfl) ?_
  refine lv_ldc (v := (65535 : Int32)) hx hb F.2.2.2.1 (x_hts F _ k_6_102) dX12_gives_6 ?_
  refine lv_iand hx hb dX12_gives_8 ?_
  refine x_iast (t0 := 0) F hK hI hW hS rd_d5 rd_5 rfl dX12_gives_9 h (fun S1 H locs hW hS h => ?_)
  refine lv_aload_n hx hb dX12_gives_10 rfl (lv_at hl 0 rfl) ?_
  refine x_get F hK hW xc_X12 rd_d0 rd_0 5 (by decide) k_5_133 (gf_X12_5 _ _) dX12_gives_11 ?_
  refine lv_iload_n hx hb dX12_gives_14 rfl (lv_at hl 1 rfl) ?_
  refine lv_aload_n hx hb dX12_gives_15 rfl (lv_at hl 0 rfl) ?_
  refine x_get F hK hW xc_X12 rd_d0 rd_0 6 (by decide) k_5_134 (gf_X12_6 _ _) dX12_gives_16 ?_
  refine lv_iload_n hx hb dX12_gives_19 rfl (lv_at hl 1 rfl) ?_
  refine x_iald (t0 := 0) F hK hW rd_d7 rd_7 rfl dX12_gives_20 h (fun h => ?_)
  refine x_iast (t0 := 0) F hK hI hW hS rd_d6 rd_6 rfl dX12_gives_21 h (fun S2 H locs hW hS h => ?_)
  refine lv_iconst (v := (1 : Int32)) hx hb dX12_gives_22 (by decide) ?_
  exact x_zret F hr hlk hW hS rfl dX12_gives_23 h
/-! X12_rest -/
def r_rest_b11 (v1 : Int32) (v2 : Int32) (v3 : Int32) (S : xS) : Option (Int32 × xS) := if v3 = 0 then ((r_gives  S v1 (0 : Int32)).bind (fun (r_5, S5) => gz r_5 (some (r_5, S5)))) else (gq (¬ v3 = 0) ((r_gives  S v1 (jrem v2 v3)).bind (fun (r_4, S4) => gz r_4 (some (r_4, S4)))))
set_option maxHeartbeats 4000000 in
set_option maxRecDepth 100000 in
theorem m_r_rest_b11 {l : Launch} {D : va_G} {cI cZ cB : ClassId} {ad : Nat → Nat → Nat} (hI : xInj rDom ad) {p : Program} {e : Env} {s : State} {m : MethodId} {args : Array Value} {below : List Frame} {meth : Method} {c : Code} (F : CallFix p m c cX12_rest 4 s args (Cond.code yX12_rest cX12_rest 4 (some .boolean) :: xG) (yX12_rest).cls) (hr : meth.sig.returnType = (some .boolean)) (hlk : meth.locks = false) (hK : xK D vwCl (rTy cI cZ cB) [] [] s) {o : Int32 × xS} (v1 : Int32) (v2 : Int32) (v3 : Int32) (S : xS) {H : Heap} {locs : List Loc} {ls : Array Slot} (h : r_rest_b11 v1 v2 v3 S = some o) (hW : xW D vwCl rDom ad (rDe ad cI cZ cB) S H) (hS : va_S (xA rDom ad) s.heap H locs) (hl : lv_has ls 4 [(0, .ref (ad 0 0)), (1, .int v1), (2, .int v2), (3, .int v3)]) : W p l e { frames := 1, cells := 0, slots := 0, locals := 22 } s m args below meth c H locs 0 0 (MQ below (xQ D vwCl rDom ad (rDe ad cI cZ cB) (some (.int o.1)) o.2) args s 0 0 (xA rDom ad)) (F0 m 11 ls []) := by
  have hx := F.1
  have hb := F.2.1
  unfold r_rest_b11 at h
  refine lv_aload_n hx hb dX12_rest_11 rfl (lv_at hl 0 rfl) ?_
  refine lv_iload_n hx hb dX12_rest_12 rfl (lv_at hl 1 rfl) ?_
  refine lv_iload_n hx hb dX12_rest_13 rfl (lv_at hl 3 rfl) ?_
  refine lv_if_ne (tgt := 21) hx hb dX12_rest_14 (by decide) (fun c_2 => ?_) (fun c_2 => ?_)
  · replace h := (if_neg c_2).symm.trans h
    refine lv_iload_n hx hb dX12_rest_21 rfl (lv_at hl 2 rfl) ?_
    refine lv_iload_n hx hb dX12_rest_22 rfl (lv_at hl 3 rfl) ?_
    obtain ⟨hq_3, h⟩ := gq_use h
    refine x_irem hx hb dX12_rest_23 hq_3 ?_
    refine x_cVi (As := [.int v1, .int (jrem v2 v3)]) F xG_ok hK hW hS um_X12_gives k_6_208 (fun _ h1 => m_r_gives hI _ _ h1) rfl rd_d0 rd_0 rfl rfl hl.1 rfl rfl ⟨Nat.le_of_ble_eq_true rfl, Nat.le_of_ble_eq_true rfl⟩ ⟨Nat.zero_le _, Nat.zero_le _⟩ (Nat.le_of_ble_eq_true rfl) dX12_rest_24 h (fun r_4 S4 H locs hW hS h => ?_)
    obtain ⟨hz, h⟩ := gz_use h
    exact x_zret F hr hlk hW hS (z_nar hz) dX12_rest_27 h
  replace h := (if_pos c_2).symm.trans h
  refine lv_iconst (v := (0 : Int32)) hx hb dX12_rest_17 (by decide) ?_
  refine lv_goto (tgt := 24) hx hb dX12_rest_18 (by decide) ?_
  refine x_cVi (As := [.int v1, .int (0 : Int32)]) F xG_ok hK hW hS um_X12_gives k_6_208 (fun _ h1 => m_r_gives hI _ _ h1) rfl rd_d0 rd_0 rfl rfl hl.1 rfl rfl ⟨Nat.le_of_ble_eq_true rfl, Nat.le_of_ble_eq_true rfl⟩ ⟨Nat.zero_le _, Nat.zero_le _⟩ (Nat.le_of_ble_eq_true rfl) dX12_rest_24 h (fun r_5 S5 H locs hW hS h => ?_)
  obtain ⟨hz, h⟩ := gz_use h
  exact x_zret F hr hlk hW hS (z_nar hz) dX12_rest_27 h
def r_rest  (S : xS) (a1 : Int32) (a2 : Int32) (a3 : Int32) : Option (Int32 × xS) := if a3 = 0 then (gd a1 8 (xnm (sI S 0 16 (a1).toNatClampNeg (vp_nar .boolean (1 : Int32))) (fun S6 => r_rest_b11  a1 a2 a3 S6))) else (r_rest_b11  a1 a2 a3 S)
set_option maxHeartbeats 4000000 in
set_option maxRecDepth 100000 in
theorem m_r_rest {l : Launch} {D : va_G} {cI cZ cB : ClassId} {ad : Nat → Nat → Nat} (hI : xInj rDom ad) {S : xS} (a1 : Int32) (a2 : Int32) (a3 : Int32) {o : Int32 × xS} (h : r_rest  S a1 a2 a3 = some o) : Met l yX12_rest (Cond.code yX12_rest cX12_rest 4 (some .boolean) :: xG) { frames := 1, cells := 0, slots := 0, locals := 22 } (xPc D vwCl (rTy cI cZ cB) [] [] rDom ad (rDe ad cI cZ cB) [.ref (ad 0 0), .int a1, .int a2, .int a3] S) (xQ D vwCl rDom ad (rDe ad cI cZ cB) (some (.int o.1)) o.2) 0 0 (xA rDom ad) := by
  unfold r_rest at h
  refine x_enter (by decide) (Nat.le_of_ble_eq_true rfl) (fun p e s m below meth c F hr hlk hK hW hS ls hl => ?_)
  have hl : lv_has ls 4 [(0, .ref (ad 0 0)), (1, .int a1), (2, .int a2), (3, .int a3)] := hl
  have hx := F.1
  have hb := F.2.1
  refine lv_iload_n hx hb dX12_rest_0 rfl (lv_at hl 3 rfl) ?_
  refine lv_if_ne (tgt := 11) hx hb dX12_rest_1 (by decide) (fun c_1 => ?_) (fun c_1 => ?_)
  · replace h := (if_neg c_1).symm.trans h
    exact m_r_rest_b11 hI  F hr hlk hK _ _ _ _ h hW hS (lv_sub hl [0, 1, 2, 3] rfl)
  replace h := (if_pos c_1).symm.trans h
  refine lv_aload_n hx hb dX12_rest_4 rfl (lv_at hl 0 rfl) ?_
  refine x_get F hK hW xc_X12 rd_d0 rd_0 15 (by decide) k_5_143 (gf_X12_15 _ _) dX12_rest_5 ?_
  refine lv_iload_n hx hb dX12_rest_8 rfl (lv_at hl 1 rfl) ?_
  refine lv_iconst (v := (1 : Int32)) hx hb dX12_rest_9 (by decide) ?_
  refine x_zast (t0 := 1) F hK hI hW hS rd_d16 rd_16 rfl dX12_rest_10 h (fun S6 H locs hW hS h => ?_)
  exact m_r_rest_b11 hI  F hr hlk hK _ _ _ _ h hW hS (lv_sub hl [0, 1, 2, 3] rfl)
/-! X12_quotient -/
def r_quotient_b35 (v1 : Int32) (v2 : Int32) (v3 : Int32) (v4 : Int32) (S : xS) : Option (Int32 × xS) := if v4 = 0 then (gq (¬ v3 = 0) ((r_gives  S v1 (v2 / v3)).bind (fun (r_5, S5) => gz r_5 (some (r_5, S5))))) else ((r_gives  S v1 (0 : Int32)).bind (fun (r_6, S6) => gz r_6 (some (r_6, S6))))
set_option maxHeartbeats 4000000 in
set_option maxRecDepth 100000 in
theorem m_r_quotient_b35 {l : Launch} {D : va_G} {cI cZ cB : ClassId} {ad : Nat → Nat → Nat} (hI : xInj rDom ad) {p : Program} {e : Env} {s : State} {m : MethodId} {args : Array Value} {below : List Frame} {meth : Method} {c : Code} (F : CallFix p m c cX12_quotient 5 s args (Cond.code yX12_quotient cX12_quotient 5 (some .boolean) :: xG) (yX12_quotient).cls) (hr : meth.sig.returnType = (some .boolean)) (hlk : meth.locks = false) (hK : xK D vwCl (rTy cI cZ cB) [] [] s) {o : Int32 × xS} (v1 : Int32) (v2 : Int32) (v3 : Int32) (v4 : Int32) (S : xS) {H : Heap} {locs : List Loc} {ls : Array Slot} (h : r_quotient_b35 v1 v2 v3 v4 S = some o) (hW : xW D vwCl rDom ad (rDe ad cI cZ cB) S H) (hS : va_S (xA rDom ad) s.heap H locs) (hl : lv_has ls 5 [(0, .ref (ad 0 0)), (1, .int v1), (2, .int v2), (3, .int v3), (4, .int v4)]) : W p l e { frames := 1, cells := 0, slots := 0, locals := 22 } s m args below meth c H locs 0 0 (MQ below (xQ D vwCl rDom ad (rDe ad cI cZ cB) (some (.int o.1)) o.2) args s 0 0 (xA rDom ad)) (F0 m 35 ls []) := by
  have hx := F.1
  have hb := F.2.1
  unfold r_quotient_b35 at h
  refine lv_aload_n hx hb dX12_quotient_35 rfl (lv_at hl 0 rfl) ?_
  refine lv_iload_n hx hb dX12_quotient_36 rfl (lv_at hl 1 rfl) ?_
  refine lv_iload hx hb dX12_quotient_37 (lv_at hl 4 rfl) ?_
  refine lv_if_eq (tgt := 46) hx hb dX12_quotient_39 (by decide) (fun c_3 => ?_) (fun c_3 => ?_)
  · replace h := (if_pos c_3).symm.trans h
    refine lv_iload_n hx hb dX12_quotient_46 rfl (lv_at hl 2 rfl) ?_
    refine lv_iload_n hx hb dX12_quotient_47 rfl (lv_at hl 3 rfl) ?_
    obtain ⟨hq_4, h⟩ := gq_use h
    refine lv_idiv hx hb dX12_quotient_48 hq_4 ?_
    refine x_cVi (As := [.int v1, .int (v2 / v3)]) F xG_ok hK hW hS um_X12_gives k_6_208 (fun _ h1 => m_r_gives hI _ _ h1) rfl rd_d0 rd_0 rfl rfl hl.1 rfl rfl ⟨Nat.le_of_ble_eq_true rfl, Nat.le_of_ble_eq_true rfl⟩ ⟨Nat.zero_le _, Nat.zero_le _⟩ (Nat.le_of_ble_eq_true rfl) dX12_quotient_49 h (fun r_5 S5 H locs hW hS h => ?_)
    obtain ⟨hz, h⟩ := gz_use h
    exact x_zret F hr hlk hW hS (z_nar hz) dX12_quotient_52 h
  replace h := (if_neg c_3).symm.trans h
  refine lv_iconst (v := (0 : Int32)) hx hb dX12_quotient_42 (by decide) ?_
  refine lv_goto (tgt := 49) hx hb dX12_quotient_43 (by decide) ?_
  refine x_cVi (As := [.int v1, .int (0 : Int32)]) F xG_ok hK hW hS um_X12_gives k_6_208 (fun _ h1 => m_r_gives hI _ _ h1) rfl rd_d0 rd_0 rfl rfl hl.1 rfl rfl ⟨Nat.le_of_ble_eq_true rfl, Nat.le_of_ble_eq_true rfl⟩ ⟨Nat.zero_le _, Nat.zero_le _⟩ (Nat.le_of_ble_eq_true rfl) dX12_quotient_49 h (fun r_6 S6 H locs hW hS h => ?_)
  obtain ⟨hz, h⟩ := gz_use h
  exact x_zret F hr hlk hW hS (z_nar hz) dX12_quotient_52 h
def r_quotient_b21 (v1 : Int32) (v2 : Int32) (v3 : Int32) (t0 : Int32) (S : xS) : Option (Int32 × xS) := if t0 = 0 then (r_quotient_b35  v1 v2 v3 t0 S) else (gd v1 8 (xnm (sI S 0 16 (v1).toNatClampNeg (vp_nar .boolean (1 : Int32))) (fun S7 => r_quotient_b35  v1 v2 v3 t0 S7)))
set_option maxHeartbeats 4000000 in
set_option maxRecDepth 100000 in
theorem m_r_quotient_b21 {l : Launch} {D : va_G} {cI cZ cB : ClassId} {ad : Nat → Nat → Nat} (hI : xInj rDom ad) {p : Program} {e : Env} {s : State} {m : MethodId} {args : Array Value} {below : List Frame} {meth : Method} {c : Code} (F : CallFix p m c cX12_quotient 5 s args (Cond.code yX12_quotient cX12_quotient 5 (some .boolean) :: xG) (yX12_quotient).cls) (hr : meth.sig.returnType = (some .boolean)) (hlk : meth.locks = false) (hK : xK D vwCl (rTy cI cZ cB) [] [] s) {o : Int32 × xS} (v1 : Int32) (v2 : Int32) (v3 : Int32) (t0 : Int32) (S : xS) {H : Heap} {locs : List Loc} {ls : Array Slot} (h : r_quotient_b21 v1 v2 v3 t0 S = some o) (hW : xW D vwCl rDom ad (rDe ad cI cZ cB) S H) (hS : va_S (xA rDom ad) s.heap H locs) (hl : lv_has ls 5 [(0, .ref (ad 0 0)), (1, .int v1), (2, .int v2), (3, .int v3)]) : W p l e { frames := 1, cells := 0, slots := 0, locals := 22 } s m args below meth c H locs 0 0 (MQ below (xQ D vwCl rDom ad (rDe ad cI cZ cB) (some (.int o.1)) o.2) args s 0 0 (xA rDom ad)) (F0 m 21 ls [.int t0]) := by
  have hx := F.1
  have hb := F.2.1
  unfold r_quotient_b21 at h
  refine lv_istore (lv' := [(4, .int t0), (0, .ref (ad 0 0)), (1, .int v1), (2, .int v2), (3, .int v3)]) hx hb dX12_quotient_21 hl (by decide) rfl (fun ls hl => ?_)
  refine lv_iload hx hb dX12_quotient_23 (lv_at hl 0 rfl) ?_
  refine lv_if_eq (tgt := 35) hx hb dX12_quotient_25 (by decide) (fun c_2 => ?_) (fun c_2 => ?_)
  · replace h := (if_pos c_2).symm.trans h
    exact m_r_quotient_b35 hI  F hr hlk hK _ _ _ _ _ h hW hS (lv_sub hl [1, 2, 3, 4, 0] rfl)
  replace h := (if_neg c_2).symm.trans h
  refine lv_aload_n hx hb dX12_quotient_28 rfl (lv_at hl 1 rfl) ?_
  refine x_get F hK hW xc_X12 rd_d0 rd_0 15 (by decide) k_5_143 (gf_X12_15 _ _) dX12_quotient_29 ?_
  refine lv_iload_n hx hb dX12_quotient_32 rfl (lv_at hl 2 rfl) ?_
  refine lv_iconst (v := (1 : Int32)) hx hb dX12_quotient_33 (by decide) ?_
  refine x_zast (t0 := 1) F hK hI hW hS rd_d16 rd_16 rfl dX12_quotient_34 h (fun S7 H locs hW hS h => ?_)
  exact m_r_quotient_b35 hI  F hr hlk hK _ _ _ _ _ h hW hS (lv_sub hl [1, 2, 3, 4, 0] rfl)
def r_quotient_b16 (v1 : Int32) (v2 : Int32) (v3 : Int32) (S : xS) : Option (Int32 × xS) := r_quotient_b21  v1 v2 v3 (1 : Int32) S
set_option maxHeartbeats 4000000 in
set_option maxRecDepth 100000 in
theorem m_r_quotient_b16 {l : Launch} {D : va_G} {cI cZ cB : ClassId} {ad : Nat → Nat → Nat} (hI : xInj rDom ad) {p : Program} {e : Env} {s : State} {m : MethodId} {args : Array Value} {below : List Frame} {meth : Method} {c : Code} (F : CallFix p m c cX12_quotient 5 s args (Cond.code yX12_quotient cX12_quotient 5 (some .boolean) :: xG) (yX12_quotient).cls) (hr : meth.sig.returnType = (some .boolean)) (hlk : meth.locks = false) (hK : xK D vwCl (rTy cI cZ cB) [] [] s) {o : Int32 × xS} (v1 : Int32) (v2 : Int32) (v3 : Int32) (S : xS) {H : Heap} {locs : List Loc} {ls : Array Slot} (h : r_quotient_b16 v1 v2 v3 S = some o) (hW : xW D vwCl rDom ad (rDe ad cI cZ cB) S H) (hS : va_S (xA rDom ad) s.heap H locs) (hl : lv_has ls 5 [(0, .ref (ad 0 0)), (1, .int v1), (2, .int v2), (3, .int v3)]) : W p l e { frames := 1, cells := 0, slots := 0, locals := 22 } s m args below meth c H locs 0 0 (MQ below (xQ D vwCl rDom ad (rDe ad cI cZ cB) (some (.int o.1)) o.2) args s 0 0 (xA rDom ad)) (F0 m 16 ls []) := by
  have hx := F.1
  have hb := F.2.1
  unfold r_quotient_b16 at h
  refine lv_iconst (v := (1 : Int32)) hx hb dX12_quotient_16 (by decide) ?_
  refine lv_goto (tgt := 21) hx hb dX12_quotient_17 (by decide) ?_
  exact m_r_quotient_b21 hI  F hr hlk hK _ _ _ _ _ h hW hS (lv_sub hl [0, 1, 2, 3] rfl)
def r_quotient_b20 (v1 : Int32) (v2 : Int32) (v3 : Int32) (S : xS) : Option (Int32 × xS) := r_quotient_b21  v1 v2 v3 (0 : Int32) S
set_option maxHeartbeats 4000000 in
set_option maxRecDepth 100000 in
theorem m_r_quotient_b20 {l : Launch} {D : va_G} {cI cZ cB : ClassId} {ad : Nat → Nat → Nat} (hI : xInj rDom ad) {p : Program} {e : Env} {s : State} {m : MethodId} {args : Array Value} {below : List Frame} {meth : Method} {c : Code} (F : CallFix p m c cX12_quotient 5 s args (Cond.code yX12_quotient cX12_quotient 5 (some .boolean) :: xG) (yX12_quotient).cls) (hr : meth.sig.returnType = (some .boolean)) (hlk : meth.locks = false) (hK : xK D vwCl (rTy cI cZ cB) [] [] s) {o : Int32 × xS} (v1 : Int32) (v2 : Int32) (v3 : Int32) (S : xS) {H : Heap} {locs : List Loc} {ls : Array Slot} (h : r_quotient_b20 v1 v2 v3 S = some o) (hW : xW D vwCl rDom ad (rDe ad cI cZ cB) S H) (hS : va_S (xA rDom ad) s.heap H locs) (hl : lv_has ls 5 [(0, .ref (ad 0 0)), (1, .int v1), (2, .int v2), (3, .int v3)]) : W p l e { frames := 1, cells := 0, slots := 0, locals := 22 } s m args below meth c H locs 0 0 (MQ below (xQ D vwCl rDom ad (rDe ad cI cZ cB) (some (.int o.1)) o.2) args s 0 0 (xA rDom ad)) (F0 m 20 ls []) := by
  have hx := F.1
  have hb := F.2.1
  unfold r_quotient_b20 at h
  refine lv_iconst (v := (0 : Int32)) hx hb dX12_quotient_20 (by decide) ?_
  exact m_r_quotient_b21 hI  F hr hlk hK _ _ _ _ _ h hW hS (lv_sub hl [0, 1, 2, 3] rfl)
def r_quotient  (S : xS) (a1 : Int32) (a2 : Int32) (a3 : Int32) : Option (Int32 × xS) := if a3 = 0 then (r_quotient_b16  a1 a2 a3 S) else (if a2 = (-32768 : Int32) then (if a3 = (-1 : Int32) then (r_quotient_b16  a1 a2 a3 S) else (r_quotient_b20  a1 a2 a3 S)) else (r_quotient_b20  a1 a2 a3 S))
set_option maxHeartbeats 4000000 in
set_option maxRecDepth 100000 in
theorem m_r_quotient {l : Launch} {D : va_G} {cI cZ cB : ClassId} {ad : Nat → Nat → Nat} (hI : xInj rDom ad) {S : xS} (a1 : Int32) (a2 : Int32) (a3 : Int32) {o : Int32 × xS} (h : r_quotient  S a1 a2 a3 = some o) : Met l yX12_quotient (Cond.code yX12_quotient cX12_quotient 5 (some .boolean) :: xG) { frames := 1, cells := 0, slots := 0, locals := 22 } (xPc D vwCl (rTy cI cZ cB) [] [] rDom ad (rDe ad cI cZ cB) [.ref (ad 0 0), .int a1, .int a2, .int a3] S) (xQ D vwCl rDom ad (rDe ad cI cZ cB) (some (.int o.1)) o.2) 0 0 (xA rDom ad) := by
  unfold r_quotient at h
  refine x_enter (by decide) (Nat.le_of_ble_eq_true rfl) (fun p e s m below meth c F hr hlk hK hW hS ls hl => ?_)
  have hl : lv_has ls 5 [(0, .ref (ad 0 0)), (1, .int a1), (2, .int a2), (3, .int a3)] := hl
  have hx := F.1
  have hb := F.2.1
  refine lv_iload_n hx hb dX12_quotient_0 rfl (lv_at hl 3 rfl) ?_
  refine lv_if_eq (tgt := 16) hx hb dX12_quotient_1 (by decide) (fun c_1 => ?_) (fun c_1 => ?_)
  · replace h := (if_pos c_1).symm.trans h
    exact m_r_quotient_b16 hI  F hr hlk hK _ _ _ _ h hW hS (lv_sub hl [0, 1, 2, 3] rfl)
  replace h := (if_neg c_1).symm.trans h
  refine lv_iload_n hx hb dX12_quotient_4 rfl (lv_at hl 2 rfl) ?_
  refine lv_sipush (v := (-32768 : Int32)) hx hb dX12_quotient_5 (by decide) ?_
  refine lv_icmp_ne (tgt := 20) hx hb dX12_quotient_8 (by decide) (fun c_8 => ?_) (fun c_8 => ?_)
  · replace h := (if_neg c_8).symm.trans h
    exact m_r_quotient_b20 hI  F hr hlk hK _ _ _ _ h hW hS (lv_sub hl [0, 1, 2, 3] rfl)
  replace h := (if_pos c_8).symm.trans h
  refine lv_iload_n hx hb dX12_quotient_11 rfl (lv_at hl 3 rfl) ?_
  refine lv_iconst (v := (-1 : Int32)) hx hb dX12_quotient_12 (by decide) ?_
  refine lv_icmp_ne (tgt := 20) hx hb dX12_quotient_13 (by decide) (fun c_9 => ?_) (fun c_9 => ?_)
  · replace h := (if_neg c_9).symm.trans h
    exact m_r_quotient_b20 hI  F hr hlk hK _ _ _ _ h hW hS (lv_sub hl [0, 1, 2, 3] rfl)
  replace h := (if_pos c_9).symm.trans h
  exact m_r_quotient_b16 hI  F hr hlk hK _ _ _ _ h hW hS (lv_sub hl [0, 1, 2, 3] rfl)
/-! X12_bits -/
def r_bits_b4 : Nat → Int32 → Int32 → Int32 → Option (Int32)
  | 0, _, _, _ => none
  | fu + 1, v0, v1, v2 => if (16 : Int32) ≤ v2 then (some v1) else ((r_bits_b4 fu) v0 (v1 + ((v0 >>> (v2 &&& 31)) &&& (1 : Int32))) (v2 + (1 : Int32)))
set_option maxHeartbeats 4000000 in
set_option maxRecDepth 100000 in
theorem m_r_bits_b4 {l : Launch} {p : Program} {e : Env} {s : State} {m : MethodId} {args : Array Value} {below : List Frame} {meth : Method} {c : Code} (F : CallFix p m c cX12_bits 3 s args (Cond.code yX12_bits cX12_bits 3 (some .int) :: xG) (yX12_bits).cls) (hr : meth.sig.returnType = (some .int)) (hlk : meth.locks = false) {o : Int32} : ∀ (fu : Nat) (v0 : Int32) (v1 : Int32) (v2 : Int32) {locs : List Loc} {ls : Array Slot}, r_bits_b4 fu v0 v1 v2  = some o → va_S (fun _ => False) s.heap s.heap locs → lv_has ls 3 [(0, .int v0), (1, .int v1), (2, .int v2)] → W p l e { frames := 0, cells := 0, slots := 0, locals := 0 } s m args below meth c s.heap locs 0 0 (MQ below (xQs o) args s 0 0 (fun _ => False)) (F0 m 4 ls []) := by
  have hx := F.1
  have hb := F.2.1
  intro fu
  induction fu with
  | zero =>
    intro v0 v1 v2  locs ls h
    simp [r_bits_b4] at h
  | succ fu ih =>
    intro v0 v1 v2  locs ls h hS hl
    have hk4 := fun v0 v1 v2 locs ls (h : r_bits_b4 fu v0 v1 v2 = some o) hS hl => ih v0 v1 v2 (locs := locs) (ls := ls) h hS hl
    rw [r_bits_b4] at h
    refine lv_iload_n hx hb dX12_bits_4 rfl (lv_at hl 2 rfl) ?_
    refine lv_bipush (v := (16 : Int32)) hx hb dX12_bits_5 (by decide) ?_
    refine lv_icmp_ge (tgt := 24) hx hb dX12_bits_7 (by decide) (fun c_1 => ?_) (fun c_1 => ?_)
    · replace h := (if_pos c_1).symm.trans h
      refine lv_iload_n hx hb dX12_bits_24 rfl (lv_at hl 1 rfl) ?_
      exact x_siret F hr hlk hS dX12_bits_25 h
    replace h := (if_neg c_1).symm.trans h
    refine lv_iload_n hx hb dX12_bits_10 rfl (lv_at hl 1 rfl) ?_
    refine lv_iload_n hx hb dX12_bits_11 rfl (lv_at hl 0 rfl) ?_
    refine lv_iload_n hx hb dX12_bits_12 rfl (lv_at hl 2 rfl) ?_
    refine lv_ishr hx hb dX12_bits_13 ?_
    refine lv_iconst (v := (1 : Int32)) hx hb dX12_bits_14 (by decide) ?_
    refine lv_iand hx hb dX12_bits_15 ?_
    refine lv_iadd hx hb dX12_bits_16 ?_
    refine lv_istore_n (lv' := [(1, .int (v1 + ((v0 >>> (v2 &&& 31)) &&& (1 : Int32)))), (0, .int v0), (2, .int v2)]) hx hb dX12_bits_17 rfl hl (by decide) rfl (fun ls hl => ?_)
    refine lv_iinc (v := (v2 + (1 : Int32))) (lv' := [(2, .int (v2 + (1 : Int32))), (1, .int (v1 + ((v0 >>> (v2 &&& 31)) &&& (1 : Int32)))), (0, .int v0)]) hx hb dX12_bits_18 hl (k := 2) rfl rfl (by decide) rfl (fun ls hl => ?_)
    refine lv_goto (tgt := 4) hx hb dX12_bits_21 (by decide) ?_
    exact hk4 _ _ _ _ _ h hS (lv_sub hl [2, 1, 0] rfl)
def r_bits (a1 : Int32) : Option Int32 := r_bits_b4  (100000) a1 (0 : Int32) (0 : Int32)
set_option maxHeartbeats 4000000 in
set_option maxRecDepth 100000 in
theorem m_r_bits {l : Launch} (a1 : Int32) {o : Int32} (h : r_bits a1 = some o) : Met l yX12_bits (Cond.code yX12_bits cX12_bits 3 (some .int) :: xG) { frames := 0, cells := 0, slots := 0, locals := 0 } (va_Pc [.int a1] (fun _ => True)) (xQs o) 0 0 (fun _ => False) := by
  unfold r_bits at h
  refine x_sEnter (by decide) (Nat.le_of_ble_eq_true rfl) (fun p e s m below meth c F hr hlk hS ls hl => ?_)
  have hl : lv_has ls 3 [(0, .int a1)] := hl
  have hx := F.1
  have hb := F.2.1
  refine lv_iconst (v := (0 : Int32)) hx hb dX12_bits_0 (by decide) ?_
  refine lv_istore_n (lv' := [(1, .int (0 : Int32)), (0, .int a1)]) hx hb dX12_bits_1 rfl hl (by decide) rfl (fun ls hl => ?_)
  refine lv_iconst (v := (0 : Int32)) hx hb dX12_bits_2 (by decide) ?_
  refine lv_istore_n (lv' := [(2, .int (0 : Int32)), (1, .int (0 : Int32)), (0, .int a1)]) hx hb dX12_bits_3 rfl hl (by decide) rfl (fun ls hl => ?_)
  exact m_r_bits_b4 F hr hlk  (100000) _ _ _  h hS (lv_sub hl [2, 1, 0] rfl)
/-! X12_turned -/
def r_turned_b4 : Nat → Int32 → Int32 → Int32 → Int32 → Option (Int32)
  | 0, _, _, _, _ => none
  | fu + 1, v0, v1, v2, v3 => if v1 ≤ v3 then (some v2) else ((r_turned_b4 fu) v0 v1 ((v2 <<< ((1 : Int32) &&& 31)) ||| ((v0 >>> (v3 &&& 31)) &&& (1 : Int32))) (v3 + (1 : Int32)))
set_option maxHeartbeats 4000000 in
set_option maxRecDepth 100000 in
theorem m_r_turned_b4 {l : Launch} {p : Program} {e : Env} {s : State} {m : MethodId} {args : Array Value} {below : List Frame} {meth : Method} {c : Code} (F : CallFix p m c cX12_turned 4 s args (Cond.code yX12_turned cX12_turned 4 (some .int) :: xG) (yX12_turned).cls) (hr : meth.sig.returnType = (some .int)) (hlk : meth.locks = false) {o : Int32} : ∀ (fu : Nat) (v0 : Int32) (v1 : Int32) (v2 : Int32) (v3 : Int32) {locs : List Loc} {ls : Array Slot}, r_turned_b4 fu v0 v1 v2 v3  = some o → va_S (fun _ => False) s.heap s.heap locs → lv_has ls 4 [(0, .int v0), (1, .int v1), (2, .int v2), (3, .int v3)] → W p l e { frames := 0, cells := 0, slots := 0, locals := 0 } s m args below meth c s.heap locs 0 0 (MQ below (xQs o) args s 0 0 (fun _ => False)) (F0 m 4 ls []) := by
  have hx := F.1
  have hb := F.2.1
  intro fu
  induction fu with
  | zero =>
    intro v0 v1 v2 v3  locs ls h
    simp [r_turned_b4] at h
  | succ fu ih =>
    intro v0 v1 v2 v3  locs ls h hS hl
    have hk4 := fun v0 v1 v2 v3 locs ls (h : r_turned_b4 fu v0 v1 v2 v3 = some o) hS hl => ih v0 v1 v2 v3 (locs := locs) (ls := ls) h hS hl
    rw [r_turned_b4] at h
    refine lv_iload_n hx hb dX12_turned_4 rfl (lv_at hl 3 rfl) ?_
    refine lv_iload_n hx hb dX12_turned_5 rfl (lv_at hl 1 rfl) ?_
    refine lv_icmp_ge (tgt := 25) hx hb dX12_turned_6 (by decide) (fun c_1 => ?_) (fun c_1 => ?_)
    · replace h := (if_pos c_1).symm.trans h
      refine lv_iload_n hx hb dX12_turned_25 rfl (lv_at hl 2 rfl) ?_
      exact x_siret F hr hlk hS dX12_turned_26 h
    replace h := (if_neg c_1).symm.trans h
    refine lv_iload_n hx hb dX12_turned_9 rfl (lv_at hl 2 rfl) ?_
    refine lv_iconst (v := (1 : Int32)) hx hb dX12_turned_10 (by decide) ?_
    refine lv_ishl hx hb dX12_turned_11 ?_
    refine lv_iload_n hx hb dX12_turned_12 rfl (lv_at hl 0 rfl) ?_
    refine lv_iload_n hx hb dX12_turned_13 rfl (lv_at hl 3 rfl) ?_
    refine lv_ishr hx hb dX12_turned_14 ?_
    refine lv_iconst (v := (1 : Int32)) hx hb dX12_turned_15 (by decide) ?_
    refine lv_iand hx hb dX12_turned_16 ?_
    refine lv_ior hx hb dX12_turned_17 ?_
    refine lv_istore_n (lv' := [(2, .int ((v2 <<< ((1 : Int32) &&& 31)) ||| ((v0 >>> (v3 &&& 31)) &&& (1 : Int32)))), (0, .int v0), (1, .int v1), (3, .int v3)]) hx hb dX12_turned_18 rfl hl (by decide) rfl (fun ls hl => ?_)
    refine lv_iinc (v := (v3 + (1 : Int32))) (lv' := [(3, .int (v3 + (1 : Int32))), (2, .int ((v2 <<< ((1 : Int32) &&& 31)) ||| ((v0 >>> (v3 &&& 31)) &&& (1 : Int32)))), (0, .int v0), (1, .int v1)]) hx hb dX12_turned_19 hl (k := 3) rfl rfl (by decide) rfl (fun ls hl => ?_)
    refine lv_goto (tgt := 4) hx hb dX12_turned_22 (by decide) ?_
    exact hk4 _ _ _ _ _ _ h hS (lv_sub hl [2, 3, 1, 0] rfl)
def r_turned (a1 : Int32) (a2 : Int32) : Option Int32 := r_turned_b4  (100000) a1 a2 (0 : Int32) (0 : Int32)
set_option maxHeartbeats 4000000 in
set_option maxRecDepth 100000 in
theorem m_r_turned {l : Launch} (a1 : Int32) (a2 : Int32) {o : Int32} (h : r_turned a1 a2 = some o) : Met l yX12_turned (Cond.code yX12_turned cX12_turned 4 (some .int) :: xG) { frames := 0, cells := 0, slots := 0, locals := 0 } (va_Pc [.int a1, .int a2] (fun _ => True)) (xQs o) 0 0 (fun _ => False) := by
  unfold r_turned at h
  refine x_sEnter (by decide) (Nat.le_of_ble_eq_true rfl) (fun p e s m below meth c F hr hlk hS ls hl => ?_)
  have hl : lv_has ls 4 [(0, .int a1), (1, .int a2)] := hl
  have hx := F.1
  have hb := F.2.1
  refine lv_iconst (v := (0 : Int32)) hx hb dX12_turned_0 (by decide) ?_
  refine lv_istore_n (lv' := [(2, .int (0 : Int32)), (0, .int a1), (1, .int a2)]) hx hb dX12_turned_1 rfl hl (by decide) rfl (fun ls hl => ?_)
  refine lv_iconst (v := (0 : Int32)) hx hb dX12_turned_2 (by decide) ?_
  refine lv_istore_n (lv' := [(3, .int (0 : Int32)), (2, .int (0 : Int32)), (0, .int a1), (1, .int a2)]) hx hb dX12_turned_3 rfl hl (by decide) rfl (fun ls hl => ?_)
  exact m_r_turned_b4 F hr hlk  (100000) _ _ _ _  h hS (lv_sub hl [2, 3, 1, 0] rfl)
/-! X12_isLink -/
def r_isLink (a1 : Int32) : Option Int32 := if (a1 &&& (65534 : Int32)) < (32768 : Int32) then (some (0 : Int32)) else (if (32782 : Int32) < (a1 &&& (65534 : Int32)) then (some (0 : Int32)) else (some (1 : Int32)))
set_option maxHeartbeats 4000000 in
set_option maxRecDepth 100000 in
theorem m_r_isLink {l : Launch} (a1 : Int32) {o : Int32} (h : r_isLink a1 = some o) : Met l yX12_isLink (Cond.code yX12_isLink cX12_isLink 1 (some .boolean) :: xG) { frames := 0, cells := 0, slots := 0, locals := 0 } (va_Pc [.int a1] (fun _ => True)) (xQs o) 0 0 (fun _ => False) := by
  unfold r_isLink at h
  refine x_sEnter (by decide) (Nat.le_of_ble_eq_true rfl) (fun p e s m below meth c F hr hlk hS ls hl => ?_)
  have hl : lv_has ls 1 [(0, .int a1)] := hl
  have hx := F.1
  have hb := F.2.1
  refine lv_iload_n hx hb dX12_isLink_0 rfl (lv_at hl 0 rfl) ?_
  refine lv_ldc (v := (65534 : Int32)) hx hb F.2.2.2.1 (x_hts F _ k_6_103) dX12_isLink_1 ?_
  refine lv_iand hx hb dX12_isLink_3 ?_
  refine lv_ldc (v := (32768 : Int32)) hx hb F.2.2.2.1 (x_hts F _ k_5_126) dX12_isLink_4 ?_
  refine lv_icmp_lt (tgt := 23) hx hb dX12_isLink_6 (by decide) (fun c_1 => ?_) (fun c_1 => ?_)
  · replace h := (if_pos c_1).symm.trans h
    refine lv_iconst (v := (0 : Int32)) hx hb dX12_isLink_23 (by decide) ?_
    exact x_szret F hr hlk hS rfl dX12_isLink_24 h
  replace h := (if_neg c_1).symm.trans h
  refine lv_iload_n hx hb dX12_isLink_9 rfl (lv_at hl 0 rfl) ?_
  refine lv_ldc (v := (65534 : Int32)) hx hb F.2.2.2.1 (x_hts F _ k_6_103) dX12_isLink_10 ?_
  refine lv_iand hx hb dX12_isLink_12 ?_
  refine lv_ldcw (v := (32782 : Int32)) hx hb F.2.2.2.1 (x_hts F _ k_7_1) dX12_isLink_13 ?_
  refine lv_icmp_gt (tgt := 23) hx hb dX12_isLink_16 (by decide) (fun c_2 => ?_) (fun c_2 => ?_)
  · replace h := (if_pos c_2).symm.trans h
    refine lv_iconst (v := (0 : Int32)) hx hb dX12_isLink_23 (by decide) ?_
    exact x_szret F hr hlk hS rfl dX12_isLink_24 h
  replace h := (if_neg c_2).symm.trans h
  refine lv_iconst (v := (1 : Int32)) hx hb dX12_isLink_19 (by decide) ?_
  refine lv_goto (tgt := 24) hx hb dX12_isLink_20 (by decide) ?_
  exact x_szret F hr hlk hS rfl dX12_isLink_24 h
/-! X12_linkOf -/
def r_linkOf (a1 : Int32) (a2 : Int32) : Option Int32 := some (((4 : Int32) * a1) + (((a2 - (32768 : Int32)) / (2 : Int32)) &&& (3 : Int32)))
set_option maxHeartbeats 4000000 in
set_option maxRecDepth 100000 in
theorem m_r_linkOf {l : Launch} (a1 : Int32) (a2 : Int32) {o : Int32} (h : r_linkOf a1 a2 = some o) : Met l yX12_linkOf (Cond.code yX12_linkOf cX12_linkOf 2 (some .int) :: xG) { frames := 0, cells := 0, slots := 0, locals := 0 } (va_Pc [.int a1, .int a2] (fun _ => True)) (xQs o) 0 0 (fun _ => False) := by
  unfold r_linkOf at h
  refine x_sEnter (by decide) (Nat.le_of_ble_eq_true rfl) (fun p e s m below meth c F hr hlk hS ls hl => ?_)
  have hl : lv_has ls 2 [(0, .int a1), (1, .int a2)] := hl
  have hx := F.1
  have hb := F.2.1
  refine lv_iconst (v := (4 : Int32)) hx hb dX12_linkOf_0 (by decide) ?_
  refine lv_iload_n hx hb dX12_linkOf_1 rfl (lv_at hl 0 rfl) ?_
  refine lv_imul hx hb dX12_linkOf_2 ?_
  refine lv_iload_n hx hb dX12_linkOf_3 rfl (lv_at hl 1 rfl) ?_
  refine lv_ldc (v := (32768 : Int32)) hx hb F.2.2.2.1 (x_hts F _ k_5_126) dX12_linkOf_4 ?_
  refine lv_isub hx hb dX12_linkOf_6 ?_
  refine lv_iconst (v := (2 : Int32)) hx hb dX12_linkOf_7 (by decide) ?_
  refine lv_idiv hx hb dX12_linkOf_8 (by decide) ?_
  refine lv_iconst (v := (3 : Int32)) hx hb dX12_linkOf_9 (by decide) ?_
  refine lv_iand hx hb dX12_linkOf_10 ?_
  refine lv_iadd hx hb dX12_linkOf_11 ?_
  exact x_siret F hr hlk hS dX12_linkOf_12 h
/-! X12_resets -/
def r_resets_b121 (v3 : Int32) (t0 : Int32) (t1 : Int32) (S : xS) : Option (xS) := gd t1 8 (xnm (sI S 0 5 (t1).toNatClampNeg t0) (fun S6 => gd v3 33 (xnm (sI S6 0 47 (v3).toNatClampNeg (-1 : Int32)) (fun S7 => gd v3 33 (xnm (sI S7 0 48 (v3).toNatClampNeg (0 : Int32)) (fun S8 => gd v3 33 (xnm (sI S8 0 50 (v3).toNatClampNeg (-1 : Int32)) (fun S9 => gd v3 33 (xnm (sI S9 0 51 (v3).toNatClampNeg (-1 : Int32)) (fun S10 => some S10))))))))))
set_option maxHeartbeats 4000000 in
set_option maxRecDepth 100000 in
theorem m_r_resets_b121 {l : Launch} {D : va_G} {cI cZ cB : ClassId} {ad : Nat → Nat → Nat} (hI : xInj rDom ad) {p : Program} {e : Env} {s : State} {m : MethodId} {args : Array Value} {below : List Frame} {meth : Method} {c : Code} (F : CallFix p m c cX12_resets 4 s args (Cond.code yX12_resets cX12_resets 4 none :: xG) (yX12_resets).cls) (hr : meth.sig.returnType = none) (hlk : meth.locks = false) (hK : xK D vwCl (rTy cI cZ cB) [] [] s) {o : xS} (v3 : Int32) (t0 : Int32) (t1 : Int32) (S : xS) {H : Heap} {locs : List Loc} {ls : Array Slot} (h : r_resets_b121 v3 t0 t1 S = some o) (hW : xW D vwCl rDom ad (rDe ad cI cZ cB) S H) (hS : va_S (xA rDom ad) s.heap H locs) (hl : lv_has ls 4 [(0, .ref (ad 0 0)), (3, .int v3)]) : W p l e { frames := 2, cells := 0, slots := 0, locals := 48 } s m args below meth c H locs 0 0 (MQ below (xQ D vwCl rDom ad (rDe ad cI cZ cB) none o) args s 0 0 (xA rDom ad)) (F0 m 121 ls [.int t0, .int t1, .ref (ad 0 5)]) := by
  have hx := F.1
  have hb := F.2.1
  unfold r_resets_b121 at h
  refine x_iast (t0 := 0) F hK hI hW hS rd_d5 rd_5 rfl dX12_resets_121 h (fun S6 H locs hW hS h => ?_)
  refine lv_aload_n hx hb dX12_resets_122 rfl (lv_at hl 0 rfl) ?_
  refine x_get F hK hW xc_X12 rd_d0 rd_0 46 (by decide) k_5_174 (gf_X12_46 _ _) dX12_resets_123 ?_
  refine lv_iload_n hx hb dX12_resets_126 rfl (lv_at hl 1 rfl) ?_
  refine lv_iconst (v := (-1 : Int32)) hx hb dX12_resets_127 (by decide) ?_
  refine x_iast (t0 := 0) F hK hI hW hS rd_d47 rd_47 rfl dX12_resets_128 h (fun S7 H locs hW hS h => ?_)
  refine lv_aload_n hx hb dX12_resets_129 rfl (lv_at hl 0 rfl) ?_
  refine x_get F hK hW xc_X12 rd_d0 rd_0 47 (by decide) k_5_175 (gf_X12_47 _ _) dX12_resets_130 ?_
  refine lv_iload_n hx hb dX12_resets_133 rfl (lv_at hl 1 rfl) ?_
  refine lv_iconst (v := (0 : Int32)) hx hb dX12_resets_134 (by decide) ?_
  refine x_iast (t0 := 0) F hK hI hW hS rd_d48 rd_48 rfl dX12_resets_135 h (fun S8 H locs hW hS h => ?_)
  refine lv_aload_n hx hb dX12_resets_136 rfl (lv_at hl 0 rfl) ?_
  refine x_get F hK hW xc_X12 rd_d0 rd_0 49 (by decide) k_5_177 (gf_X12_49 _ _) dX12_resets_137 ?_
  refine lv_iload_n hx hb dX12_resets_140 rfl (lv_at hl 1 rfl) ?_
  refine lv_iconst (v := (-1 : Int32)) hx hb dX12_resets_141 (by decide) ?_
  refine x_iast (t0 := 0) F hK hI hW hS rd_d50 rd_50 rfl dX12_resets_142 h (fun S9 H locs hW hS h => ?_)
  refine lv_aload_n hx hb dX12_resets_143 rfl (lv_at hl 0 rfl) ?_
  refine x_get F hK hW xc_X12 rd_d0 rd_0 50 (by decide) k_5_178 (gf_X12_50 _ _) dX12_resets_144 ?_
  refine lv_iload_n hx hb dX12_resets_147 rfl (lv_at hl 1 rfl) ?_
  refine lv_iconst (v := (-1 : Int32)) hx hb dX12_resets_148 (by decide) ?_
  refine x_iast (t0 := 0) F hK hI hW hS rd_d51 rd_51 rfl dX12_resets_149 h (fun S10 H locs hW hS h => ?_)
  exact x_vret F hr hlk hW hS dX12_resets_150 h
def r_resets_b70 (v3 : Int32) (t0 : Int32) (t1 : Int32) (S : xS) : Option (xS) := gd t1 8 (xnm (sI S 0 5 (t1).toNatClampNeg t0) (fun S12 => gd v3 33 (xnm (sI S12 0 44 (v3).toNatClampNeg (-1 : Int32)) (fun S13 => gd v3 33 (xnm (sI S13 0 45 (v3).toNatClampNeg (0 : Int32)) (fun S14 => gd v3 33 (xnm (sI S14 0 42 (v3).toNatClampNeg (vp_nar .boolean (0 : Int32))) (fun S15 => some S15))))))))
set_option maxHeartbeats 4000000 in
set_option maxRecDepth 100000 in
theorem m_r_resets_b70 {l : Launch} {D : va_G} {cI cZ cB : ClassId} {ad : Nat → Nat → Nat} (hI : xInj rDom ad) {p : Program} {e : Env} {s : State} {m : MethodId} {args : Array Value} {below : List Frame} {meth : Method} {c : Code} (F : CallFix p m c cX12_resets 4 s args (Cond.code yX12_resets cX12_resets 4 none :: xG) (yX12_resets).cls) (hr : meth.sig.returnType = none) (hlk : meth.locks = false) (hK : xK D vwCl (rTy cI cZ cB) [] [] s) {o : xS} (v3 : Int32) (t0 : Int32) (t1 : Int32) (S : xS) {H : Heap} {locs : List Loc} {ls : Array Slot} (h : r_resets_b70 v3 t0 t1 S = some o) (hW : xW D vwCl rDom ad (rDe ad cI cZ cB) S H) (hS : va_S (xA rDom ad) s.heap H locs) (hl : lv_has ls 4 [(0, .ref (ad 0 0)), (3, .int v3)]) : W p l e { frames := 2, cells := 0, slots := 0, locals := 48 } s m args below meth c H locs 0 0 (MQ below (xQ D vwCl rDom ad (rDe ad cI cZ cB) none o) args s 0 0 (xA rDom ad)) (F0 m 70 ls [.int t0, .int t1, .ref (ad 0 5)]) := by
  have hx := F.1
  have hb := F.2.1
  unfold r_resets_b70 at h
  refine x_iast (t0 := 0) F hK hI hW hS rd_d5 rd_5 rfl dX12_resets_70 h (fun S12 H locs hW hS h => ?_)
  refine lv_aload_n hx hb dX12_resets_71 rfl (lv_at hl 0 rfl) ?_
  refine x_get F hK hW xc_X12 rd_d0 rd_0 43 (by decide) k_5_171 (gf_X12_43 _ _) dX12_resets_72 ?_
  refine lv_iload_n hx hb dX12_resets_75 rfl (lv_at hl 1 rfl) ?_
  refine lv_iconst (v := (-1 : Int32)) hx hb dX12_resets_76 (by decide) ?_
  refine x_iast (t0 := 0) F hK hI hW hS rd_d44 rd_44 rfl dX12_resets_77 h (fun S13 H locs hW hS h => ?_)
  refine lv_aload_n hx hb dX12_resets_78 rfl (lv_at hl 0 rfl) ?_
  refine x_get F hK hW xc_X12 rd_d0 rd_0 44 (by decide) k_5_172 (gf_X12_44 _ _) dX12_resets_79 ?_
  refine lv_iload_n hx hb dX12_resets_82 rfl (lv_at hl 1 rfl) ?_
  refine lv_iconst (v := (0 : Int32)) hx hb dX12_resets_83 (by decide) ?_
  refine x_iast (t0 := 0) F hK hI hW hS rd_d45 rd_45 rfl dX12_resets_84 h (fun S14 H locs hW hS h => ?_)
  refine lv_aload_n hx hb dX12_resets_85 rfl (lv_at hl 0 rfl) ?_
  refine x_get F hK hW xc_X12 rd_d0 rd_0 41 (by decide) k_5_169 (gf_X12_41 _ _) dX12_resets_86 ?_
  refine lv_iload_n hx hb dX12_resets_89 rfl (lv_at hl 1 rfl) ?_
  refine lv_iconst (v := (0 : Int32)) hx hb dX12_resets_90 (by decide) ?_
  refine x_zast (t0 := 1) F hK hI hW hS rd_d42 rd_42 rfl dX12_resets_91 h (fun S15 H locs hW hS h => ?_)
  refine lv_goto (tgt := 150) hx hb dX12_resets_92 (by decide) ?_
  exact x_vret F hr hlk hW hS dX12_resets_150 h
def r_resets  (S : xS) (a1 : Int32) (a2 : Int32) : Option (xS) := (r_isLink a2).bind (fun r_1 => if r_1 = 0 then ((r_word  S a1 a2).bind (fun (r_16, S16) => gd a1 8 (xnm (sI S16 0 5 (a1).toNatClampNeg r_16) (fun S17 => (r_wordTo  S17 a1 a2 (32768 : Int32)).bind (fun S18 => some S18))))) else ((r_linkOf a1 a2).bind (fun r_3 => if (32776 : Int32) ≤ (a2 &&& (65534 : Int32)) then (gd r_3 33 (if (xI S 0 47 (r_3).toNatClampNeg) = (-1 : Int32) then (r_resets_b121  r_3 (32768 : Int32) a1 S) else (gd r_3 33 (r_resets_b121  r_3 (xI S 0 47 (r_3).toNatClampNeg) a1 S)))) else (gd r_3 33 (if (xI S 0 44 (r_3).toNatClampNeg) = (-1 : Int32) then (r_resets_b70  r_3 (32768 : Int32) a1 S) else (gd r_3 33 (r_resets_b70  r_3 (xI S 0 44 (r_3).toNatClampNeg) a1 S)))))))
set_option maxHeartbeats 4000000 in
set_option maxRecDepth 100000 in
theorem m_r_resets {l : Launch} {D : va_G} {cI cZ cB : ClassId} {ad : Nat → Nat → Nat} (hI : xInj rDom ad) {S : xS} (a1 : Int32) (a2 : Int32) {o : xS} (h : r_resets  S a1 a2 = some o) : Met l yX12_resets (Cond.code yX12_resets cX12_resets 4 none :: xG) { frames := 2, cells := 0, slots := 0, locals := 48 } (xPc D vwCl (rTy cI cZ cB) [] [] rDom ad (rDe ad cI cZ cB) [.ref (ad 0 0), .int a1, .int a2] S) (xQ D vwCl rDom ad (rDe ad cI cZ cB) none o) 0 0 (xA rDom ad) := by
  unfold r_resets at h
  refine x_enter (by decide) (Nat.le_of_ble_eq_true rfl) (fun p e s m below meth c F hr hlk hK hW hS ls hl => ?_)
  have hl : lv_has ls 4 [(0, .ref (ad 0 0)), (1, .int a1), (2, .int a2)] := hl
  have hx := F.1
  have hb := F.2.1
  refine lv_iload_n hx hb dX12_resets_0 rfl (lv_at hl 2 rfl) ?_
  refine x_cSo (As := [.int a2]) F xG_ok hS um_X12_isLink k_6_238 (fun _ h1 => m_r_isLink _ h1) rfl rfl hl.1 rfl rfl ⟨Nat.le_of_ble_eq_true rfl, Nat.le_of_ble_eq_true rfl⟩ ⟨Nat.zero_le _, Nat.zero_le _⟩ (Nat.le_of_ble_eq_true rfl) dX12_resets_1 h (fun r_1 locs hS h => ?_)
  refine lv_if_ne (tgt := 28) hx hb dX12_resets_4 (by decide) (fun c_2 => ?_) (fun c_2 => ?_)
  · replace h := (if_neg c_2).symm.trans h
    refine lv_iload_n hx hb dX12_resets_28 rfl (lv_at hl 1 rfl) ?_
    refine lv_iload_n hx hb dX12_resets_29 rfl (lv_at hl 2 rfl) ?_
    refine x_cSo (As := [.int a1, .int a2]) F xG_ok hS um_X12_linkOf k_7_2 (fun _ h1 => m_r_linkOf _ _ h1) rfl rfl hl.1 rfl rfl ⟨Nat.le_of_ble_eq_true rfl, Nat.le_of_ble_eq_true rfl⟩ ⟨Nat.zero_le _, Nat.zero_le _⟩ (Nat.le_of_ble_eq_true rfl) dX12_resets_30 h (fun r_3 locs hS h => ?_)
    refine lv_istore_n (lv' := [(3, .int r_3), (0, .ref (ad 0 0)), (1, .int a1), (2, .int a2)]) hx hb dX12_resets_33 rfl hl (by decide) rfl (fun ls hl => ?_)
    refine lv_iload_n hx hb dX12_resets_34 rfl (lv_at hl 3 rfl) ?_
    refine lv_ldc (v := (65534 : Int32)) hx hb F.2.2.2.1 (x_hts F _ k_6_103) dX12_resets_35 ?_
    refine lv_iand hx hb dX12_resets_37 ?_
    refine lv_ldcw (v := (32776 : Int32)) hx hb F.2.2.2.1 (x_hts F _ k_6_172) dX12_resets_38 ?_
    refine lv_icmp_ge (tgt := 95) hx hb dX12_resets_41 (by decide) (fun c_4 => ?_) (fun c_4 => ?_)
    · replace h := (if_pos c_4).symm.trans h
      refine lv_aload_n hx hb dX12_resets_95 rfl (lv_at hl 1 rfl) ?_
      refine x_get F hK hW xc_X12 rd_d0 rd_0 4 (by decide) k_5_132 (gf_X12_4 _ _) dX12_resets_96 ?_
      refine lv_iload_n hx hb dX12_resets_99 rfl (lv_at hl 2 rfl) ?_
      refine lv_aload_n hx hb dX12_resets_100 rfl (lv_at hl 1 rfl) ?_
      refine x_get F hK hW xc_X12 rd_d0 rd_0 46 (by decide) k_5_174 (gf_X12_46 _ _) dX12_resets_101 ?_
      refine lv_iload_n hx hb dX12_resets_104 rfl (lv_at hl 0 rfl) ?_
      refine x_iald (t0 := 0) F hK hW rd_d47 rd_47 rfl dX12_resets_105 h (fun h => ?_)
      refine lv_iconst (v := (-1 : Int32)) hx hb dX12_resets_106 (by decide) ?_
      refine lv_icmp_ne (tgt := 115) hx hb dX12_resets_107 (by decide) (fun c_5 => ?_) (fun c_5 => ?_)
      · replace h := (if_neg c_5).symm.trans h
        refine lv_aload_n hx hb dX12_resets_115 rfl (lv_at hl 1 rfl) ?_
        refine x_get F hK hW xc_X12 rd_d0 rd_0 46 (by decide) k_5_174 (gf_X12_46 _ _) dX12_resets_116 ?_
        refine lv_iload_n hx hb dX12_resets_119 rfl (lv_at hl 0 rfl) ?_
        refine x_iald (t0 := 0) F hK hW rd_d47 rd_47 rfl dX12_resets_120 h (fun h => ?_)
        exact m_r_resets_b121 hI  F hr hlk hK _ _ _ _ h hW hS (lv_sub hl [1, 0] rfl)
      replace h := (if_pos c_5).symm.trans h
      refine lv_ldc (v := (32768 : Int32)) hx hb F.2.2.2.1 (x_hts F _ k_5_126) dX12_resets_110 ?_
      refine lv_goto (tgt := 121) hx hb dX12_resets_112 (by decide) ?_
      exact m_r_resets_b121 hI  F hr hlk hK _ _ _ _ h hW hS (lv_sub hl [1, 0] rfl)
    replace h := (if_neg c_4).symm.trans h
    refine lv_aload_n hx hb dX12_resets_44 rfl (lv_at hl 1 rfl) ?_
    refine x_get F hK hW xc_X12 rd_d0 rd_0 4 (by decide) k_5_132 (gf_X12_4 _ _) dX12_resets_45 ?_
    refine lv_iload_n hx hb dX12_resets_48 rfl (lv_at hl 2 rfl) ?_
    refine lv_aload_n hx hb dX12_resets_49 rfl (lv_at hl 1 rfl) ?_
    refine x_get F hK hW xc_X12 rd_d0 rd_0 43 (by decide) k_5_171 (gf_X12_43 _ _) dX12_resets_50 ?_
    refine lv_iload_n hx hb dX12_resets_53 rfl (lv_at hl 0 rfl) ?_
    refine x_iald (t0 := 0) F hK hW rd_d44 rd_44 rfl dX12_resets_54 h (fun h => ?_)
    refine lv_iconst (v := (-1 : Int32)) hx hb dX12_resets_55 (by decide) ?_
    refine lv_icmp_ne (tgt := 64) hx hb dX12_resets_56 (by decide) (fun c_11 => ?_) (fun c_11 => ?_)
    · replace h := (if_neg c_11).symm.trans h
      refine lv_aload_n hx hb dX12_resets_64 rfl (lv_at hl 1 rfl) ?_
      refine x_get F hK hW xc_X12 rd_d0 rd_0 43 (by decide) k_5_171 (gf_X12_43 _ _) dX12_resets_65 ?_
      refine lv_iload_n hx hb dX12_resets_68 rfl (lv_at hl 0 rfl) ?_
      refine x_iald (t0 := 0) F hK hW rd_d44 rd_44 rfl dX12_resets_69 h (fun h => ?_)
      exact m_r_resets_b70 hI  F hr hlk hK _ _ _ _ h hW hS (lv_sub hl [1, 0] rfl)
    replace h := (if_pos c_11).symm.trans h
    refine lv_ldc (v := (32768 : Int32)) hx hb F.2.2.2.1 (x_hts F _ k_5_126) dX12_resets_59 ?_
    refine lv_goto (tgt := 70) hx hb dX12_resets_61 (by decide) ?_
    exact m_r_resets_b70 hI  F hr hlk hK _ _ _ _ h hW hS (lv_sub hl [1, 0] rfl)
  replace h := (if_pos c_2).symm.trans h
  refine lv_aload_n hx hb dX12_resets_7 rfl (lv_at hl 0 rfl) ?_
  refine x_get F hK hW xc_X12 rd_d0 rd_0 4 (by decide) k_5_132 (gf_X12_4 _ _) dX12_resets_8 ?_
  refine lv_iload_n hx hb dX12_resets_11 rfl (lv_at hl 1 rfl) ?_
  refine lv_aload_n hx hb dX12_resets_12 rfl (lv_at hl 0 rfl) ?_
  refine lv_iload_n hx hb dX12_resets_13 rfl (lv_at hl 1 rfl) ?_
  refine lv_iload_n hx hb dX12_resets_14 rfl (lv_at hl 2 rfl) ?_
  refine x_cVi (As := [.int a1, .int a2]) F xG_ok hK hW hS um_X12_word k_6_149 (fun _ h1 => m_r_word hI _ _ h1) rfl rd_d0 rd_0 rfl rfl hl.1 rfl rfl ⟨Nat.le_of_ble_eq_true rfl, Nat.le_of_ble_eq_true rfl⟩ ⟨Nat.zero_le _, Nat.zero_le _⟩ (Nat.le_of_ble_eq_true rfl) dX12_resets_15 h (fun r_16 S16 H locs hW hS h => ?_)
  refine x_iast (t0 := 0) F hK hI hW hS rd_d5 rd_5 rfl dX12_resets_18 h (fun S17 H locs hW hS h => ?_)
  refine lv_aload_n hx hb dX12_resets_19 rfl (lv_at hl 0 rfl) ?_
  refine lv_iload_n hx hb dX12_resets_20 rfl (lv_at hl 1 rfl) ?_
  refine lv_iload_n hx hb dX12_resets_21 rfl (lv_at hl 2 rfl) ?_
  refine lv_ldc (v := (32768 : Int32)) hx hb F.2.2.2.1 (x_hts F _ k_5_126) dX12_resets_22 ?_
  refine x_cVv (As := [.int a1, .int a2, .int (32768 : Int32)]) F xG_ok hK hW hS um_X12_wordTo k_6_137 (fun _ h1 => m_r_wordTo hI _ _ _ h1) rfl rd_d0 rd_0 rfl rfl hl.1 rfl rfl ⟨Nat.le_of_ble_eq_true rfl, Nat.le_of_ble_eq_true rfl⟩ ⟨Nat.zero_le _, Nat.zero_le _⟩ (Nat.le_of_ble_eq_true rfl) dX12_resets_24 h (fun S18 H locs hW hS h => ?_)
  exact x_vret F hr hlk hW hS dX12_resets_27 h
