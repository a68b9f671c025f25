/-! X12_byteAt -/
def r_byteAt  (S : xS) (a1 : Int32) (a2 : Int32) : Option (Int32 × xS) := if (a2 &&& (65535 : Int32)) < (32768 : Int32) then (gd a1 8 (xnm (sI S 0 18 (a1).toNatClampNeg (vp_nar .boolean (1 : Int32))) (fun S2 => some ((0 : Int32), S2)))) else (if (a2 &&& (65535 : Int32)) < (36864 : Int32) then (gd ((((4096 : Int32) * a1) + (a2 &&& (65535 : Int32))) - (32768 : Int32)) 32768 (some (((xI S 0 4 (((((4096 : Int32) * a1) + (a2 &&& (65535 : Int32))) - (32768 : Int32))).toNatClampNeg) &&& (255 : Int32)), S))) else (gd a1 8 (xnm (sI S 0 18 (a1).toNatClampNeg (vp_nar .boolean (1 : Int32))) (fun S4 => some ((0 : Int32), S4)))))
set_option maxHeartbeats 4000000 in
set_option maxRecDepth 100000 in
theorem m_r_byteAt {l : Launch} {D : va_G} {cI cZ cB : ClassId} {ad : Nat → Nat → Nat} (hI : xInj rDom ad) {S : xS} (a1 : Int32) (a2 : Int32) {o : Int32 × xS} (h : r_byteAt  S a1 a2 = some o) : Met l yX12_byteAt (Cond.code yX12_byteAt cX12_byteAt 4 (some .int) :: xG) { frames := 0, cells := 0, slots := 0, locals := 0 } (xPc D vwCl (rTy cI cZ cB) [] [] rDom ad (rDe ad cI cZ cB) [.ref (ad 0 0), .int a1, .int a2] S) (xQ D vwCl rDom ad (rDe ad cI cZ cB) (some (.int o.1)) o.2) 0 0 (xA rDom ad) := by
  unfold r_byteAt at h
  refine x_enter (by decide) (Nat.le_of_ble_eq_true rfl) (fun p e s m below meth c F hr hlk hK hW hS ls hl => ?_)
  have hl : lv_has ls 4 [(0, .ref (ad 0 0)), (1, .int a1), (2, .int a2)] := hl
  have hx := F.1
  have hb := F.2.1
  refine lv_iload_n hx hb dX12_byteAt_0 rfl (lv_at hl 2 rfl) ?_
  refine lv_ldc (v := (65535 : Int32)) hx hb F.2.2.2.1 (x_hts F _ k_6_105) dX12_byteAt_1 ?_
  refine lv_iand hx hb dX12_byteAt_3 ?_
  refine lv_istore_n (lv' := [(3, .int (a2 &&& (65535 : Int32))), (0, .ref (ad 0 0)), (1, .int a1), (2, .int a2)]) hx hb dX12_byteAt_4 rfl hl (by decide) rfl (fun ls hl => ?_)
  refine lv_iload_n hx hb dX12_byteAt_5 rfl (lv_at hl 0 rfl) ?_
  refine lv_ldc (v := (32768 : Int32)) hx hb F.2.2.2.1 (x_hts F _ k_5_129) dX12_byteAt_6 ?_
  refine lv_icmp_lt (tgt := 17) hx hb dX12_byteAt_8 (by decide) (fun c_1 => ?_) (fun c_1 => ?_)
  · replace h := (if_pos c_1).symm.trans h
    refine lv_aload_n hx hb dX12_byteAt_17 rfl (lv_at hl 1 rfl) ?_
    refine x_get F hK hW xc_X12 rd_d0 rd_0 17 (by decide) k_5_148 (gf_X12_17 _ _) dX12_byteAt_18 ?_
    refine lv_iload_n hx hb dX12_byteAt_21 rfl (lv_at hl 2 rfl) ?_
    refine lv_iconst (v := (1 : Int32)) hx hb dX12_byteAt_22 (by decide) ?_
    refine x_zast (t0 := 1) F hK hI hW hS rd_d18 rd_18 rfl dX12_byteAt_23 h (fun S2 H locs hW hS h => ?_)
    refine lv_iconst (v := (0 : Int32)) hx hb dX12_byteAt_24 (by decide) ?_
    exact x_iret F hr hlk hW hS dX12_byteAt_25 h
  replace h := (if_neg c_1).symm.trans h
  refine lv_iload_n hx hb dX12_byteAt_11 rfl (lv_at hl 0 rfl) ?_
  refine lv_ldc (v := (36864 : Int32)) hx hb F.2.2.2.1 (x_hts F _ k_6_127) dX12_byteAt_12 ?_
  refine lv_icmp_lt (tgt := 26) hx hb dX12_byteAt_14 (by decide) (fun c_3 => ?_) (fun c_3 => ?_)
  · replace h := (if_pos c_3).symm.trans h
    refine lv_aload_n hx hb dX12_byteAt_26 rfl (lv_at hl 1 rfl) ?_
    refine x_get F hK hW xc_X12 rd_d0 rd_0 3 (by decide) k_5_134 (gf_X12_3 _ _) dX12_byteAt_27 ?_
    refine lv_sipush (v := (4096 : Int32)) hx hb dX12_byteAt_30 (by decide) ?_
    refine lv_iload_n hx hb dX12_byteAt_33 rfl (lv_at hl 2 rfl) ?_
    refine lv_imul hx hb dX12_byteAt_34 ?_
    refine lv_iload_n hx hb dX12_byteAt_35 rfl (lv_at hl 0 rfl) ?_
    refine lv_iadd hx hb dX12_byteAt_36 ?_
    refine lv_ldc (v := (32768 : Int32)) hx hb F.2.2.2.1 (x_hts F _ k_5_129) dX12_byteAt_37 ?_
    refine lv_isub hx hb dX12_byteAt_39 ?_
    refine x_bald (t0 := 2) F hK hW rd_d4 rd_4 rfl dX12_byteAt_40 h (fun h => ?_)
    refine lv_sipush (v := (255 : Int32)) hx hb dX12_byteAt_41 (by decide) ?_
    refine lv_iand hx hb dX12_byteAt_44 ?_
    exact x_iret F hr hlk hW hS dX12_byteAt_45 h
  replace h := (if_neg c_3).symm.trans h
  refine lv_aload_n hx hb dX12_byteAt_17 rfl (lv_at hl 1 rfl) ?_
  refine x_get F hK hW xc_X12 rd_d0 rd_0 17 (by decide) k_5_148 (gf_X12_17 _ _) dX12_byteAt_18 ?_
  refine lv_iload_n hx hb dX12_byteAt_21 rfl (lv_at hl 2 rfl) ?_
  refine lv_iconst (v := (1 : Int32)) hx hb dX12_byteAt_22 (by decide) ?_
  refine x_zast (t0 := 1) F hK hI hW hS rd_d18 rd_18 rfl dX12_byteAt_23 h (fun S4 H locs hW hS h => ?_)
  refine lv_iconst (v := (0 : Int32)) hx hb dX12_byteAt_24 (by decide) ?_
  exact x_iret F hr hlk hW hS dX12_byteAt_25 h
/-! X12_byteTo -/
def r_byteTo  (S : xS) (a1 : Int32) (a2 : Int32) (a3 : Int32) : Option (xS) := if (a2 &&& (65535 : Int32)) < (32768 : Int32) then (gd a1 8 (xnm (sI S 0 18 (a1).toNatClampNeg (vp_nar .boolean (1 : Int32))) (fun S2 => some S2))) else (if (a2 &&& (65535 : Int32)) < (36864 : Int32) then (gd ((((4096 : Int32) * a1) + (a2 &&& (65535 : Int32))) - (32768 : Int32)) 32768 (xnm (sI S 0 4 (((((4096 : Int32) * a1) + (a2 &&& (65535 : Int32))) - (32768 : Int32))).toNatClampNeg (vp_nar .byte (a3.toInt8.toInt32))) (fun S4 => some S4))) else (gd a1 8 (xnm (sI S 0 18 (a1).toNatClampNeg (vp_nar .boolean (1 : Int32))) (fun S5 => some S5))))
set_option maxHeartbeats 4000000 in
set_option maxRecDepth 100000 in
theorem m_r_byteTo {l : Launch} {D : va_G} {cI cZ cB : ClassId} {ad : Nat → Nat → Nat} (hI : xInj rDom ad) {S : xS} (a1 : Int32) (a2 : Int32) (a3 : Int32) {o : xS} (h : r_byteTo  S a1 a2 a3 = some o) : Met l yX12_byteTo (Cond.code yX12_byteTo cX12_byteTo 5 none :: xG) { frames := 0, cells := 0, slots := 0, locals := 0 } (xPc D vwCl (rTy cI cZ cB) [] [] rDom ad (rDe ad cI cZ cB) [.ref (ad 0 0), .int a1, .int a2, .int a3] S) (xQ D vwCl rDom ad (rDe ad cI cZ cB) none o) 0 0 (xA rDom ad) := by
  unfold r_byteTo at h
  refine x_enter (by decide) (Nat.le_of_ble_eq_true rfl) (fun p e s m below meth c F hr hlk hK hW hS ls hl => ?_)
  have hl : lv_has ls 5 [(0, .ref (ad 0 0)), (1, .int a1), (2, .int a2), (3, .int a3)] := hl
  have hx := F.1
  have hb := F.2.1
  refine lv_iload_n hx hb dX12_byteTo_0 rfl (lv_at hl 2 rfl) ?_
  refine lv_ldc (v := (65535 : Int32)) hx hb F.2.2.2.1 (x_hts F _ k_6_105) dX12_byteTo_1 ?_
  refine lv_iand hx hb dX12_byteTo_3 ?_
  refine lv_istore (lv' := [(4, .int (a2 &&& (65535 : Int32))), (0, .ref (ad 0 0)), (1, .int a1), (2, .int a2), (3, .int a3)]) hx hb dX12_byteTo_4 hl (by decide) rfl (fun ls hl => ?_)
  refine lv_iload hx hb dX12_byteTo_6 (lv_at hl 0 rfl) ?_
  refine lv_ldc (v := (32768 : Int32)) hx hb F.2.2.2.1 (x_hts F _ k_5_129) dX12_byteTo_8 ?_
  refine lv_icmp_lt (tgt := 20) hx hb dX12_byteTo_10 (by decide) (fun c_1 => ?_) (fun c_1 => ?_)
  · replace h := (if_pos c_1).symm.trans h
    refine lv_aload_n hx hb dX12_byteTo_20 rfl (lv_at hl 1 rfl) ?_
    refine x_get F hK hW xc_X12 rd_d0 rd_0 17 (by decide) k_5_148 (gf_X12_17 _ _) dX12_byteTo_21 ?_
    refine lv_iload_n hx hb dX12_byteTo_24 rfl (lv_at hl 2 rfl) ?_
    refine lv_iconst (v := (1 : Int32)) hx hb dX12_byteTo_25 (by decide) ?_
    refine x_zast (t0 := 1) F hK hI hW hS rd_d18 rd_18 rfl dX12_byteTo_26 h (fun S2 H locs hW hS h => ?_)
    refine lv_goto (tgt := 48) hx hb dX12_byteTo_27 (by decide) ?_
    exact x_vret F hr hlk hW hS dX12_byteTo_48 h
  replace h := (if_neg c_1).symm.trans h
  refine lv_iload hx hb dX12_byteTo_13 (lv_at hl 0 rfl) ?_
  refine lv_ldc (v := (36864 : Int32)) hx hb F.2.2.2.1 (x_hts F _ k_6_127) dX12_byteTo_15 ?_
  refine lv_icmp_lt (tgt := 30) hx hb dX12_byteTo_17 (by decide) (fun c_3 => ?_) (fun c_3 => ?_)
  · replace h := (if_pos c_3).symm.trans h
    refine lv_aload_n hx hb dX12_byteTo_30 rfl (lv_at hl 1 rfl) ?_
    refine x_get F hK hW xc_X12 rd_d0 rd_0 3 (by decide) k_5_134 (gf_X12_3 _ _) dX12_byteTo_31 ?_
    refine lv_sipush (v := (4096 : Int32)) hx hb dX12_byteTo_34 (by decide) ?_
    refine lv_iload_n hx hb dX12_byteTo_37 rfl (lv_at hl 2 rfl) ?_
    refine lv_imul hx hb dX12_byteTo_38 ?_
    refine lv_iload hx hb dX12_byteTo_39 (lv_at hl 0 rfl) ?_
    refine lv_iadd hx hb dX12_byteTo_41 ?_
    refine lv_ldc (v := (32768 : Int32)) hx hb F.2.2.2.1 (x_hts F _ k_5_129) dX12_byteTo_42 ?_
    refine lv_isub hx hb dX12_byteTo_44 ?_
    refine lv_iload_n hx hb dX12_byteTo_45 rfl (lv_at hl 4 rfl) ?_
    refine lv_i2b (v := a3.toInt8.toInt32) hx hb dX12_byteTo_46 rfl ?_
    refine x_bast (t0 := 2) F hK hI hW hS rd_d4 rd_4 rfl dX12_byteTo_47 h (fun S4 H locs hW hS h => ?_)
    exact x_vret F hr hlk hW hS dX12_byteTo_48 h
  replace h := (if_neg c_3).symm.trans h
  refine lv_aload_n hx hb dX12_byteTo_20 rfl (lv_at hl 1 rfl) ?_
  refine x_get F hK hW xc_X12 rd_d0 rd_0 17 (by decide) k_5_148 (gf_X12_17 _ _) dX12_byteTo_21 ?_
  refine lv_iload_n hx hb dX12_byteTo_24 rfl (lv_at hl 2 rfl) ?_
  refine lv_iconst (v := (1 : Int32)) hx hb dX12_byteTo_25 (by decide) ?_
  refine x_zast (t0 := 1) F hK hI hW hS rd_d18 rd_18 rfl dX12_byteTo_26 h (fun S5 H locs hW hS h => ?_)
  refine lv_goto (tgt := 48) hx hb dX12_byteTo_27 (by decide) ?_
  exact x_vret F hr hlk hW hS dX12_byteTo_48 h
/-! X12_word -/
def r_word  (S : xS) (a1 : Int32) (a2 : Int32) : Option (Int32 × xS) := (r_byteAt  S a1 (a2 &&& (65534 : Int32))).bind (fun (r_1, S1) => (r_byteAt  S1 a1 ((a2 &&& (65534 : Int32)) + (1 : Int32))).bind (fun (r_2, S2) => some (((r_2 <<< ((8 : Int32) &&& 31)) ||| r_1), S2)))
set_option maxHeartbeats 4000000 in
set_option maxRecDepth 100000 in
theorem m_r_word {l : Launch} {D : va_G} {cI cZ cB : ClassId} {ad : Nat → Nat → Nat} (hI : xInj rDom ad) {S : xS} (a1 : Int32) (a2 : Int32) {o : Int32 × xS} (h : r_word  S a1 a2 = some o) : Met l yX12_word (Cond.code yX12_word cX12_word 5 (some .int) :: xG) { frames := 1, cells := 0, slots := 0, locals := 23 } (xPc D vwCl (rTy cI cZ cB) [] [] rDom ad (rDe ad cI cZ cB) [.ref (ad 0 0), .int a1, .int a2] S) (xQ D vwCl rDom ad (rDe ad cI cZ cB) (some (.int o.1)) o.2) 0 0 (xA rDom ad) := by
  unfold r_word at h
  refine x_enter (by decide) (Nat.le_of_ble_eq_true rfl) (fun p e s m below meth c F hr hlk hK hW hS ls hl => ?_)
  have hl : lv_has ls 5 [(0, .ref (ad 0 0)), (1, .int a1), (2, .int a2)] := hl
  have hx := F.1
  have hb := F.2.1
  refine lv_iload_n hx hb dX12_word_0 rfl (lv_at hl 2 rfl) ?_
  refine lv_ldc (v := (65534 : Int32)) hx hb F.2.2.2.1 (x_hts F _ k_6_106) dX12_word_1 ?_
  refine lv_iand hx hb dX12_word_3 ?_
  refine lv_istore_n (lv' := [(3, .int (a2 &&& (65534 : Int32))), (0, .ref (ad 0 0)), (1, .int a1), (2, .int a2)]) hx hb dX12_word_4 rfl hl (by decide) rfl (fun ls hl => ?_)
  refine lv_aload_n hx hb dX12_word_5 rfl (lv_at hl 1 rfl) ?_
  refine lv_iload_n hx hb dX12_word_6 rfl (lv_at hl 2 rfl) ?_
  refine lv_iload_n hx hb dX12_word_7 rfl (lv_at hl 0 rfl) ?_
  refine x_cVi (As := [.int a1, .int (a2 &&& (65534 : Int32))]) F xG_ok hK hW hS um_X12_byteAt k_6_123 (fun _ h1 => m_r_byteAt hI _ _ h1) rfl rd_d0 rd_0 rfl rfl hl.1 rfl rfl ⟨Nat.le_of_ble_eq_true rfl, Nat.le_of_ble_eq_true rfl⟩ ⟨Nat.zero_le _, Nat.zero_le _⟩ (Nat.le_of_ble_eq_true rfl) dX12_word_8 h (fun r_1 S1 H locs hW hS h => ?_)
  refine lv_istore (lv' := [(4, .int r_1), (3, .int (a2 &&& (65534 : Int32))), (0, .ref (ad 0 0)), (1, .int a1), (2, .int a2)]) hx hb dX12_word_11 hl (by decide) rfl (fun ls hl => ?_)
  refine lv_aload_n hx hb dX12_word_13 rfl (lv_at hl 2 rfl) ?_
  refine lv_iload_n hx hb dX12_word_14 rfl (lv_at hl 3 rfl) ?_
  refine lv_iload_n hx hb dX12_word_15 rfl (lv_at hl 1 rfl) ?_
  refine lv_iconst (v := (1 : Int32)) hx hb dX12_word_16 (by decide) ?_
  refine lv_iadd hx hb dX12_word_17 ?_
  refine x_cVi (As := [.int a1, .int ((a2 &&& (65534 : Int32)) + (1 : Int32))]) F xG_ok hK hW hS um_X12_byteAt k_6_123 (fun _ h1 => m_r_byteAt hI _ _ h1) rfl rd_d0 rd_0 rfl rfl hl.1 rfl rfl ⟨Nat.le_of_ble_eq_true rfl, Nat.le_of_ble_eq_true rfl⟩ ⟨Nat.zero_le _, Nat.zero_le _⟩ (Nat.le_of_ble_eq_true rfl) dX12_word_18 h (fun r_2 S2 H locs hW hS h => ?_)
  refine lv_bipush (v := (8 : Int32)) hx hb dX12_word_21 (by decide) ?_
  refine lv_ishl hx hb dX12_word_23 ?_
  refine lv_iload hx hb dX12_word_24 (lv_at hl 0 rfl) ?_
  refine lv_ior hx hb dX12_word_26 ?_
  exact x_iret F hr hlk hW hS dX12_word_27 h
/-! X12_wordTo -/
def r_wordTo  (S : xS) (a1 : Int32) (a2 : Int32) (a3 : Int32) : Option (xS) := (r_byteTo  S a1 (a2 &&& (65534 : Int32)) a3).bind (fun S1 => (r_byteTo  S1 a1 ((a2 &&& (65534 : Int32)) + (1 : Int32)) (a3 >>> ((8 : Int32) &&& 31))).bind (fun S2 => some S2))
set_option maxHeartbeats 4000000 in
set_option maxRecDepth 100000 in
theorem m_r_wordTo {l : Launch} {D : va_G} {cI cZ cB : ClassId} {ad : Nat → Nat → Nat} (hI : xInj rDom ad) {S : xS} (a1 : Int32) (a2 : Int32) (a3 : Int32) {o : xS} (h : r_wordTo  S a1 a2 a3 = some o) : Met l yX12_wordTo (Cond.code yX12_wordTo cX12_wordTo 5 none :: xG) { frames := 1, cells := 0, slots := 0, locals := 24 } (xPc D vwCl (rTy cI cZ cB) [] [] rDom ad (rDe ad cI cZ cB) [.ref (ad 0 0), .int a1, .int a2, .int a3] S) (xQ D vwCl rDom ad (rDe ad cI cZ cB) none o) 0 0 (xA rDom ad) := by
  unfold r_wordTo at h
  refine x_enter (by decide) (Nat.le_of_ble_eq_true rfl) (fun p e s m below meth c F hr hlk hK hW hS ls hl => ?_)
  have hl : lv_has ls 5 [(0, .ref (ad 0 0)), (1, .int a1), (2, .int a2), (3, .int a3)] := hl
  have hx := F.1
  have hb := F.2.1
  refine lv_iload_n hx hb dX12_wordTo_0 rfl (lv_at hl 2 rfl) ?_
  refine lv_ldc (v := (65534 : Int32)) hx hb F.2.2.2.1 (x_hts F _ k_6_106) dX12_wordTo_1 ?_
  refine lv_iand hx hb dX12_wordTo_3 ?_
  refine lv_istore (lv' := [(4, .int (a2 &&& (65534 : Int32))), (0, .ref (ad 0 0)), (1, .int a1), (2, .int a2), (3, .int a3)]) hx hb dX12_wordTo_4 hl (by decide) rfl (fun ls hl => ?_)
  refine lv_aload_n hx hb dX12_wordTo_6 rfl (lv_at hl 1 rfl) ?_
  refine lv_iload_n hx hb dX12_wordTo_7 rfl (lv_at hl 2 rfl) ?_
  refine lv_iload hx hb dX12_wordTo_8 (lv_at hl 0 rfl) ?_
  refine lv_iload_n hx hb dX12_wordTo_10 rfl (lv_at hl 4 rfl) ?_
  refine x_cVv (As := [.int a1, .int (a2 &&& (65534 : Int32)), .int a3]) F xG_ok hK hW hS um_X12_byteTo k_6_144 (fun _ h1 => m_r_byteTo hI _ _ _ h1) rfl rd_d0 rd_0 rfl rfl hl.1 rfl rfl ⟨Nat.le_of_ble_eq_true rfl, Nat.le_of_ble_eq_true rfl⟩ ⟨Nat.zero_le _, Nat.zero_le _⟩ (Nat.le_of_ble_eq_true rfl) dX12_wordTo_11 h (fun S1 H locs hW hS h => ?_)
  refine lv_aload_n hx hb dX12_wordTo_14 rfl (lv_at hl 1 rfl) ?_
  refine lv_iload_n hx hb dX12_wordTo_15 rfl (lv_at hl 2 rfl) ?_
  refine lv_iload hx hb dX12_wordTo_16 (lv_at hl 0 rfl) ?_
  refine lv_iconst (v := (1 : Int32)) hx hb dX12_wordTo_18 (by decide) ?_
  refine lv_iadd hx hb dX12_wordTo_19 ?_
  refine lv_iload_n hx hb dX12_wordTo_20 rfl (lv_at hl 4 rfl) ?_
  refine lv_bipush (v := (8 : Int32)) hx hb dX12_wordTo_21 (by decide) ?_
  refine lv_ishr hx hb dX12_wordTo_23 ?_
  refine x_cVv (As := [.int a1, .int ((a2 &&& (65534 : Int32)) + (1 : Int32)), .int (a3 >>> ((8 : Int32) &&& 31))]) F xG_ok hK hW hS um_X12_byteTo k_6_144 (fun _ h1 => m_r_byteTo hI _ _ _ h1) rfl rd_d0 rd_0 rfl rfl hl.1 rfl rfl ⟨Nat.le_of_ble_eq_true rfl, Nat.le_of_ble_eq_true rfl⟩ ⟨Nat.zero_le _, Nat.zero_le _⟩ (Nat.le_of_ble_eq_true rfl) dX12_wordTo_24 h (fun S2 H locs hW hS h => ?_)
  exact x_vret F hr hlk hW hS dX12_wordTo_27 h
/-! X12_signed -/
def r_signed (a1 : Int32) : Option Int32 := if (a1 &&& (65535 : Int32)) ≤ (32767 : Int32) then (some (a1 &&& (65535 : Int32))) else (some ((a1 &&& (65535 : Int32)) - (65536 : Int32)))
set_option maxHeartbeats 4000000 in
set_option maxRecDepth 100000 in
theorem m_r_signed {l : Launch} (a1 : Int32) {o : Int32} (h : r_signed a1 = some o) : Met l yX12_signed (Cond.code yX12_signed cX12_signed 1 (some .int) :: xG) { frames := 0, cells := 0, slots := 0, locals := 0 } (va_Pc [.int a1] (fun _ => True)) (xQs o) 0 0 (fun _ => False) := by
  unfold r_signed at h
  refine x_sEnter (by decide) (Nat.le_of_ble_eq_true rfl) (fun p e s m below meth c F hr hlk hS ls hl => ?_)
  have hl : lv_has ls 1 [(0, .int a1)] := hl
  have hx := F.1
  have hb := F.2.1
  refine lv_iload_n hx hb dX12_signed_0 rfl (lv_at hl 0 rfl) ?_
  refine lv_ldc (v := (65535 : Int32)) hx hb F.2.2.2.1 (x_hts F _ k_6_105) dX12_signed_1 ?_
  refine lv_iand hx hb dX12_signed_3 ?_
  refine lv_sipush (v := (32767 : Int32)) hx hb dX12_signed_4 (by decide) ?_
  refine lv_icmp_le (tgt := 20) hx hb dX12_signed_7 (by decide) (fun c_1 => ?_) (fun c_1 => ?_)
  · replace h := (if_pos c_1).symm.trans h
    refine lv_iload_n hx hb dX12_signed_20 rfl (lv_at hl 0 rfl) ?_
    refine lv_ldc (v := (65535 : Int32)) hx hb F.2.2.2.1 (x_hts F _ k_6_105) dX12_signed_21 ?_
    refine lv_iand hx hb dX12_signed_23 ?_
    exact x_siret F hr hlk hS dX12_signed_24 h
  replace h := (if_neg c_1).symm.trans h
  refine lv_iload_n hx hb dX12_signed_10 rfl (lv_at hl 0 rfl) ?_
  refine lv_ldc (v := (65535 : Int32)) hx hb F.2.2.2.1 (x_hts F _ k_6_105) dX12_signed_11 ?_
  refine lv_iand hx hb dX12_signed_13 ?_
  refine lv_ldc (v := (65536 : Int32)) hx hb F.2.2.2.1 (x_hts F _ k_6_186) dX12_signed_14 ?_
  refine lv_isub hx hb dX12_signed_16 ?_
  refine lv_goto (tgt := 24) hx hb dX12_signed_17 (by decide) ?_
  exact x_siret F hr hlk hS dX12_signed_24 h
/-! X12_isLater -/
def r_isLater (a1 : Int32) (a2 : Int32) : Option Int32 := (r_signed (a1 - a2)).bind (fun r_1 => if r_1 ≤ 0 then (some (0 : Int32)) else (some (1 : Int32)))
set_option maxHeartbeats 4000000 in
set_option maxRecDepth 100000 in
theorem m_r_isLater {l : Launch} (a1 : Int32) (a2 : Int32) {o : Int32} (h : r_isLater a1 a2 = some o) : Met l yX12_isLater (Cond.code yX12_isLater cX12_isLater 2 (some .boolean) :: xG) { frames := 1, cells := 0, slots := 0, locals := 20 } (va_Pc [.int a1, .int a2] (fun _ => True)) (xQs o) 0 0 (fun _ => False) := by
  unfold r_isLater at h
  refine x_sEnter (by decide) (Nat.le_of_ble_eq_true rfl) (fun p e s m below meth c F hr hlk hS ls hl => ?_)
  have hl : lv_has ls 2 [(0, .int a1), (1, .int a2)] := hl
  have hx := F.1
  have hb := F.2.1
  refine lv_iload_n hx hb dX12_isLater_0 rfl (lv_at hl 0 rfl) ?_
  refine lv_iload_n hx hb dX12_isLater_1 rfl (lv_at hl 1 rfl) ?_
  refine lv_isub hx hb dX12_isLater_2 ?_
  refine x_cSi (As := [.int (a1 - a2)]) F xG_ok hS um_X12_signed rfl k_6_183 (fun _ h1 => m_r_signed _ h1) rfl rfl hl.1 rfl rfl ⟨Nat.le_of_ble_eq_true rfl, Nat.le_of_ble_eq_true rfl⟩ ⟨Nat.zero_le _, Nat.zero_le _⟩ (Nat.le_of_ble_eq_true rfl) dX12_isLater_3 h (fun r_1 locs hS h => ?_)
  refine lv_if_le (tgt := 13) hx hb dX12_isLater_6 (by decide) (fun c_2 => ?_) (fun c_2 => ?_)
  · replace h := (if_pos c_2).symm.trans h
    refine lv_iconst (v := (0 : Int32)) hx hb dX12_isLater_13 (by decide) ?_
    exact x_szret F hr hlk hS rfl dX12_isLater_14 h
  replace h := (if_neg c_2).symm.trans h
  refine lv_iconst (v := (1 : Int32)) hx hb dX12_isLater_9 (by decide) ?_
  refine lv_goto (tgt := 14) hx hb dX12_isLater_10 (by decide) ?_
  exact x_szret F hr hlk hS rfl dX12_isLater_14 h
/-! X12_stop -/
def r_stop  (S : xS) (a1 : Int32) (a2 : Int32) : Option (xS) := gd a1 8 (if (xI S 0 13 (a1).toNatClampNeg) = 0 then (gd a1 8 (xnm (sI S 0 13 (a1).toNatClampNeg a2) (fun S2 => some S2))) else (some S))
set_option maxHeartbeats 4000000 in
set_option maxRecDepth 100000 in
theorem m_r_stop {l : Launch} {D : va_G} {cI cZ cB : ClassId} {ad : Nat → Nat → Nat} (hI : xInj rDom ad) {S : xS} (a1 : Int32) (a2 : Int32) {o : xS} (h : r_stop  S a1 a2 = some o) : Met l yX12_stop (Cond.code yX12_stop cX12_stop 3 none :: xG) { frames := 0, cells := 0, slots := 0, locals := 0 } (xPc D vwCl (rTy cI cZ cB) [] [] rDom ad (rDe ad cI cZ cB) [.ref (ad 0 0), .int a1, .int a2] S) (xQ D vwCl rDom ad (rDe ad cI cZ cB) none o) 0 0 (xA rDom ad) := by
  unfold r_stop at h
  refine x_enter (by decide) (Nat.le_of_ble_eq_true rfl) (fun p e s m below meth c F hr hlk hK hW hS ls hl => ?_)
  have hl : lv_has ls 3 [(0, .ref (ad 0 0)), (1, .int a1), (2, .int a2)] := hl
  have hx := F.1
  have hb := F.2.1
  refine lv_aload_n hx hb dX12_stop_0 rfl (lv_at hl 0 rfl) ?_
  refine x_get F hK hW xc_X12 rd_d0 rd_0 12 (by decide) k_5_143 (gf_X12_12 _ _) dX12_stop_1 ?_
  refine lv_iload_n hx hb dX12_stop_4 rfl (lv_at hl 1 rfl) ?_
  refine x_iald (t0 := 0) F hK hW rd_d13 rd_13 rfl dX12_stop_5 h (fun h => ?_)
  refine lv_if_ne (tgt := 16) hx hb dX12_stop_6 (by decide) (fun c_1 => ?_) (fun c_1 => ?_)
  · replace h := (if_neg c_1).symm.trans h
    exact x_vret F hr hlk hW hS dX12_stop_16 h
  replace h := (if_pos c_1).symm.trans h
  refine lv_aload_n hx hb dX12_stop_9 rfl (lv_at hl 0 rfl) ?_
  refine x_get F hK hW xc_X12 rd_d0 rd_0 12 (by decide) k_5_143 (gf_X12_12 _ _) dX12_stop_10 ?_
  refine lv_iload_n hx hb dX12_stop_13 rfl (lv_at hl 1 rfl) ?_
  refine lv_iload_n hx hb dX12_stop_14 rfl (lv_at hl 2 rfl) ?_
  refine x_iast (t0 := 0) F hK hI hW hS rd_d13 rd_13 rfl dX12_stop_15 h (fun S2 H locs hW hS h => ?_)
  exact x_vret F hr hlk hW hS dX12_stop_16 h
/-! X12_push -/
def r_push  (S : xS) (a1 : Int32) (a2 : Int32) : Option (xS) := gd a1 8 (gd a1 8 (xnm (sI S 0 7 (a1).toNatClampNeg (xI S 0 6 (a1).toNatClampNeg)) (fun S1 => gd a1 8 (gd a1 8 (xnm (sI S1 0 6 (a1).toNatClampNeg (xI S1 0 5 (a1).toNatClampNeg)) (fun S2 => gd a1 8 (xnm (sI S2 0 5 (a1).toNatClampNeg (a2 &&& (65535 : Int32))) (fun S3 => some S3))))))))
set_option maxHeartbeats 4000000 in
set_option maxRecDepth 100000 in
theorem m_r_push {l : Launch} {D : va_G} {cI cZ cB : ClassId} {ad : Nat → Nat → Nat} (hI : xInj rDom ad) {S : xS} (a1 : Int32) (a2 : Int32) {o : xS} (h : r_push  S a1 a2 = some o) : Met l yX12_push (Cond.code yX12_push cX12_push 3 none :: xG) { frames := 0, cells := 0, slots := 0, locals := 0 } (xPc D vwCl (rTy cI cZ cB) [] [] rDom ad (rDe ad cI cZ cB) [.ref (ad 0 0), .int a1, .int a2] S) (xQ D vwCl rDom ad (rDe ad cI cZ cB) none o) 0 0 (xA rDom ad) := by
  unfold r_push at h
  refine x_enter (by decide) (Nat.le_of_ble_eq_true rfl) (fun p e s m below meth c F hr hlk hK hW hS ls hl => ?_)
  have hl : lv_has ls 3 [(0, .ref (ad 0 0)), (1, .int a1), (2, .int a2)] := hl
  have hx := F.1
  have hb := F.2.1
  refine lv_aload_n hx hb dX12_push_0 rfl (lv_at hl 0 rfl) ?_
  refine x_get F hK hW xc_X12 rd_d0 rd_0 6 (by decide) k_5_137 (gf_X12_6 _ _) dX12_push_1 ?_
  refine lv_iload_n hx hb dX12_push_4 rfl (lv_at hl 1 rfl) ?_
  refine lv_aload_n hx hb dX12_push_5 rfl (lv_at hl 0 rfl) ?_
  refine x_get F hK hW xc_X12 rd_d0 rd_0 5 (by decide) k_5_136 (gf_X12_5 _ _) dX12_push_6 ?_
  refine lv_iload_n hx hb dX12_push_9 rfl (lv_at hl 1 rfl) ?_
  refine x_iald (t0 := 0) F hK hW rd_d6 rd_6 rfl dX12_push_10 h (fun h => ?_)
  refine x_iast (t0 := 0) F hK hI hW hS rd_d7 rd_7 rfl dX12_push_11 h (fun S1 H locs hW hS h => ?_)
  refine lv_aload_n hx hb dX12_push_12 rfl (lv_at hl 0 rfl) ?_
  refine x_get F hK hW xc_X12 rd_d0 rd_0 5 (by decide) k_5_136 (gf_X12_5 _ _) dX12_push_13 ?_
  refine lv_iload_n hx hb dX12_push_16 rfl (lv_at hl 1 rfl) ?_
  refine lv_aload_n hx hb dX12_push_17 rfl (lv_at hl 0 rfl) ?_
  refine x_get F hK hW xc_X12 rd_d0 rd_0 4 (by decide) k_5_135 (gf_X12_4 _ _) dX12_push_18 ?_
  refine lv_iload_n hx hb dX12_push_21 rfl (lv_at hl 1 rfl) ?_
  refine x_iald (t0 := 0) F hK hW rd_d5 rd_5 rfl dX12_push_22 h (fun h => ?_)
  refine x_iast (t0 := 0) F hK hI hW hS rd_d6 rd_6 rfl dX12_push_23 h (fun S2 H locs hW hS h => ?_)
  refine lv_aload_n hx hb dX12_push_24 rfl (lv_at hl 0 rfl) ?_
  refine x_get F hK hW xc_X12 rd_d0 rd_0 4 (by decide) k_5_135 (gf_X12_4 _ _) dX12_push_25 ?_
  refine lv_iload_n hx hb dX12_push_28 rfl (lv_at hl 1 rfl) ?_
  refine lv_iload_n hx hb dX12_push_29 rfl (lv_at hl 2 rfl) ?_
  refine lv_ldc (v := (65535 : Int32)) hx hb F.2.2.2.1 (x_hts F _ k_6_105) dX12_push_30 ?_
  refine lv_iand hx hb dX12_push_32 ?_
  refine x_iast (t0 := 0) F hK hI hW hS rd_d5 rd_5 rfl dX12_push_33 h (fun S3 H locs hW hS h => ?_)
  exact x_vret F hr hlk hW hS dX12_push_34 h
/-! X12_pop -/
def r_pop  (S : xS) (a1 : Int32) : Option (xS) := gd a1 8 (gd a1 8 (xnm (sI S 0 5 (a1).toNatClampNeg (xI S 0 6 (a1).toNatClampNeg)) (fun S1 => gd a1 8 (gd a1 8 (xnm (sI S1 0 6 (a1).toNatClampNeg (xI S1 0 7 (a1).toNatClampNeg)) (fun S2 => some S2))))))
set_option maxHeartbeats 4000000 in
set_option maxRecDepth 100000 in
theorem m_r_pop {l : Launch} {D : va_G} {cI cZ cB : ClassId} {ad : Nat → Nat → Nat} (hI : xInj rDom ad) {S : xS} (a1 : Int32) {o : xS} (h : r_pop  S a1 = some o) : Met l yX12_pop (Cond.code yX12_pop cX12_pop 2 none :: xG) { frames := 0, cells := 0, slots := 0, locals := 0 } (xPc D vwCl (rTy cI cZ cB) [] [] rDom ad (rDe ad cI cZ cB) [.ref (ad 0 0), .int a1] S) (xQ D vwCl rDom ad (rDe ad cI cZ cB) none o) 0 0 (xA rDom ad) := by
  unfold r_pop at h
  refine x_enter (by decide) (Nat.le_of_ble_eq_true rfl) (fun p e s m below meth c F hr hlk hK hW hS ls hl => ?_)
  have hl : lv_has ls 2 [(0, .ref (ad 0 0)), (1, .int a1)] := hl
  have hx := F.1
  have hb := F.2.1
  refine lv_aload_n hx hb dX12_pop_0 rfl (lv_at hl 0 rfl) ?_
  refine x_get F hK hW xc_X12 rd_d0 rd_0 4 (by decide) k_5_135 (gf_X12_4 _ _) dX12_pop_1 ?_
  refine lv_iload_n hx hb dX12_pop_4 rfl (lv_at hl 1 rfl) ?_
  refine lv_aload_n hx hb dX12_pop_5 rfl (lv_at hl 0 rfl) ?_
  refine x_get F hK hW xc_X12 rd_d0 rd_0 5 (by decide) k_5_136 (gf_X12_5 _ _) dX12_pop_6 ?_
  refine lv_iload_n hx hb dX12_pop_9 rfl (lv_at hl 1 rfl) ?_
  refine x_iald (t0 := 0) F hK hW rd_d6 rd_6 rfl dX12_pop_10 h (fun h => ?_)
  refine x_iast (t0 := 0) F hK hI hW hS rd_d5 rd_5 rfl dX12_pop_11 h (fun S1 H locs hW hS h => ?_)
  refine lv_aload_n hx hb dX12_pop_12 rfl (lv_at hl 0 rfl) ?_
  refine x_get F hK hW xc_X12 rd_d0 rd_0 5 (by decide) k_5_136 (gf_X12_5 _ _) dX12_pop_13 ?_
  refine lv_iload_n hx hb dX12_pop_16 rfl (lv_at hl 1 rfl) ?_
  refine lv_aload_n hx hb dX12_pop_17 rfl (lv_at hl 0 rfl) ?_
  refine x_get F hK hW xc_X12 rd_d0 rd_0 6 (by decide) k_5_137 (gf_X12_6 _ _) dX12_pop_18 ?_
  refine lv_iload_n hx hb dX12_pop_21 rfl (lv_at hl 1 rfl) ?_
  refine x_iald (t0 := 0) F hK hW rd_d7 rd_7 rfl dX12_pop_22 h (fun h => ?_)
  refine x_iast (t0 := 0) F hK hI hW hS rd_d6 rd_6 rfl dX12_pop_23 h (fun S2 H locs hW hS h => ?_)
  exact x_vret F hr hlk hW hS dX12_pop_24 h
/-! X12_own -/
def r_own  (S : xS) (a1 : Int32) : Option (Int32 × xS) := gd a1 8 (gd a1 8 (some (((xI S 0 10 (a1).toNatClampNeg) ||| (xI S 0 11 (a1).toNatClampNeg)), S)))
set_option maxHeartbeats 4000000 in
set_option maxRecDepth 100000 in
theorem m_r_own {l : Launch} {D : va_G} {cI cZ cB : ClassId} {ad : Nat → Nat → Nat} (hI : xInj rDom ad) {S : xS} (a1 : Int32) {o : Int32 × xS} (h : r_own  S a1 = some o) : Met l yX12_own (Cond.code yX12_own cX12_own 2 (some .int) :: xG) { frames := 0, cells := 0, slots := 0, locals := 0 } (xPc D vwCl (rTy cI cZ cB) [] [] rDom ad (rDe ad cI cZ cB) [.ref (ad 0 0), .int a1] S) (xQ D vwCl rDom ad (rDe ad cI cZ cB) (some (.int o.1)) o.2) 0 0 (xA rDom ad) := by
  unfold r_own at h
  refine x_enter (by decide) (Nat.le_of_ble_eq_true rfl) (fun p e s m below meth c F hr hlk hK hW hS ls hl => ?_)
  have hl : lv_has ls 2 [(0, .ref (ad 0 0)), (1, .int a1)] := hl
  have hx := F.1
  have hb := F.2.1
  refine lv_aload_n hx hb dX12_own_0 rfl (lv_at hl 0 rfl) ?_
  refine x_get F hK hW xc_X12 rd_d0 rd_0 9 (by decide) k_5_140 (gf_X12_9 _ _) dX12_own_1 ?_
  refine lv_iload_n hx hb dX12_own_4 rfl (lv_at hl 1 rfl) ?_
  refine x_iald (t0 := 0) F hK hW rd_d10 rd_10 rfl dX12_own_5 h (fun h => ?_)
  refine lv_aload_n hx hb dX12_own_6 rfl (lv_at hl 0 rfl) ?_
  refine x_get F hK hW xc_X12 rd_d0 rd_0 10 (by decide) k_5_141 (gf_X12_10 _ _) dX12_own_7 ?_
  refine lv_iload_n hx hb dX12_own_10 rfl (lv_at hl 1 rfl) ?_
  refine x_iald (t0 := 0) F hK hW rd_d11 rd_11 rfl dX12_own_11 h (fun h => ?_)
  refine lv_ior hx hb dX12_own_12 ?_
  exact x_iret F hr hlk hW hS dX12_own_13 h
/-! X12_ready -/
def r_ready  (S : xS) (a1 : Int32) (a2 : Int32) : Option (xS) := gd (((2 : Int32) * a1) + (a2 &&& (1 : Int32))) 16 (if (xI S 0 19 ((((2 : Int32) * a1) + (a2 &&& (1 : Int32)))).toNatClampNeg) = (32768 : Int32) then (gd (((2 : Int32) * a1) + (a2 &&& (1 : Int32))) 16 (xnm (sI S 0 19 ((((2 : Int32) * a1) + (a2 &&& (1 : Int32)))).toNatClampNeg (a2 &&& (65534 : Int32))) (fun S4 => gd (((2 : Int32) * a1) + (a2 &&& (1 : Int32))) 16 (xnm (sI S4 0 20 ((((2 : Int32) * a1) + (a2 &&& (1 : Int32)))).toNatClampNeg (a2 &&& (65534 : Int32))) (fun S5 => some S5))))) else (gd (((2 : Int32) * a1) + (a2 &&& (1 : Int32))) 16 ((r_wordTo  S a1 ((xI S 0 20 ((((2 : Int32) * a1) + (a2 &&& (1 : Int32)))).toNatClampNeg) - (4 : Int32)) (a2 &&& (65534 : Int32))).bind (fun S2 => gd (((2 : Int32) * a1) + (a2 &&& (1 : Int32))) 16 (xnm (sI S2 0 20 ((((2 : Int32) * a1) + (a2 &&& (1 : Int32)))).toNatClampNeg (a2 &&& (65534 : Int32))) (fun S3 => some S3))))))
set_option maxHeartbeats 4000000 in
set_option maxRecDepth 100000 in
theorem m_r_ready {l : Launch} {D : va_G} {cI cZ cB : ClassId} {ad : Nat → Nat → Nat} (hI : xInj rDom ad) {S : xS} (a1 : Int32) (a2 : Int32) {o : xS} (h : r_ready  S a1 a2 = some o) : Met l yX12_ready (Cond.code yX12_ready cX12_ready 5 none :: xG) { frames := 2, cells := 0, slots := 0, locals := 48 } (xPc D vwCl (rTy cI cZ cB) [] [] rDom ad (rDe ad cI cZ cB) [.ref (ad 0 0), .int a1, .int a2] S) (xQ D vwCl rDom ad (rDe ad cI cZ cB) none o) 0 0 (xA rDom ad) := by
  unfold r_ready at h
  refine x_enter (by decide) (Nat.le_of_ble_eq_true rfl) (fun p e s m below meth c F hr hlk hK hW hS ls hl => ?_)
  have hl : lv_has ls 5 [(0, .ref (ad 0 0)), (1, .int a1), (2, .int a2)] := hl
  have hx := F.1
  have hb := F.2.1
  refine lv_iconst (v := (2 : Int32)) hx hb dX12_ready_0 (by decide) ?_
  refine lv_iload_n hx hb dX12_ready_1 rfl (lv_at hl 1 rfl) ?_
  refine lv_imul hx hb dX12_ready_2 ?_
  refine lv_iload_n hx hb dX12_ready_3 rfl (lv_at hl 2 rfl) ?_
  refine lv_iconst (v := (1 : Int32)) hx hb dX12_ready_4 (by decide) ?_
  refine lv_iand hx hb dX12_ready_5 ?_
  refine lv_iadd hx hb dX12_ready_6 ?_
  refine lv_istore_n (lv' := [(3, .int (((2 : Int32) * a1) + (a2 &&& (1 : Int32)))), (0, .ref (ad 0 0)), (1, .int a1), (2, .int a2)]) hx hb dX12_ready_7 rfl hl (by decide) rfl (fun ls hl => ?_)
  refine lv_iload_n hx hb dX12_ready_8 rfl (lv_at hl 3 rfl) ?_
  refine lv_ldc (v := (65534 : Int32)) hx hb F.2.2.2.1 (x_hts F _ k_6_106) dX12_ready_9 ?_
  refine lv_iand hx hb dX12_ready_11 ?_
  refine lv_istore (lv' := [(4, .int (a2 &&& (65534 : Int32))), (3, .int (((2 : Int32) * a1) + (a2 &&& (1 : Int32)))), (0, .ref (ad 0 0)), (1, .int a1), (2, .int a2)]) hx hb dX12_ready_12 hl (by decide) rfl (fun ls hl => ?_)
  refine lv_aload_n hx hb dX12_ready_14 rfl (lv_at hl 2 rfl) ?_
  refine x_get F hK hW xc_X12 rd_d0 rd_0 18 (by decide) k_5_149 (gf_X12_18 _ _) dX12_ready_15 ?_
  refine lv_iload_n hx hb dX12_ready_18 rfl (lv_at hl 1 rfl) ?_
  refine x_iald (t0 := 0) F hK hW rd_d19 rd_19 rfl dX12_ready_19 h (fun h => ?_)
  refine lv_ldc (v := (32768 : Int32)) hx hb F.2.2.2.1 (x_hts F _ k_5_129) dX12_ready_20 ?_
  refine lv_icmp_ne (tgt := 36) hx hb dX12_ready_22 (by decide) (fun c_1 => ?_) (fun c_1 => ?_)
  · replace h := (if_neg c_1).symm.trans h
    refine lv_aload_n hx hb dX12_ready_36 rfl (lv_at hl 2 rfl) ?_
    refine lv_iload_n hx hb dX12_ready_37 rfl (lv_at hl 3 rfl) ?_
    refine lv_aload_n hx hb dX12_ready_38 rfl (lv_at hl 2 rfl) ?_
    refine x_get F hK hW xc_X12 rd_d0 rd_0 19 (by decide) k_5_150 (gf_X12_19 _ _) dX12_ready_39 ?_
    refine lv_iload_n hx hb dX12_ready_42 rfl (lv_at hl 1 rfl) ?_
    refine x_iald (t0 := 0) F hK hW rd_d20 rd_20 rfl dX12_ready_43 h (fun h => ?_)
    refine lv_iconst (v := (4 : Int32)) hx hb dX12_ready_44 (by decide) ?_
    refine lv_isub hx hb dX12_ready_45 ?_
    refine lv_iload hx hb dX12_ready_46 (lv_at hl 0 rfl) ?_
    refine x_cVv (As := [.int a1, .int ((xI S 0 20 ((((2 : Int32) * a1) + (a2 &&& (1 : Int32)))).toNatClampNeg) - (4 : Int32)), .int (a2 &&& (65534 : Int32))]) F xG_ok hK hW hS um_X12_wordTo k_6_140 (fun _ h1 => m_r_wordTo hI _ _ _ h1) rfl rd_d0 rd_0 rfl rfl hl.1 rfl rfl ⟨Nat.le_of_ble_eq_true rfl, Nat.le_of_ble_eq_true rfl⟩ ⟨Nat.zero_le _, Nat.zero_le _⟩ (Nat.le_of_ble_eq_true rfl) dX12_ready_48 h (fun S2 H locs hW hS h => ?_)
    refine lv_aload_n hx hb dX12_ready_51 rfl (lv_at hl 2 rfl) ?_
    refine x_get F hK hW xc_X12 rd_d0 rd_0 19 (by decide) k_5_150 (gf_X12_19 _ _) dX12_ready_52 ?_
    refine lv_iload_n hx hb dX12_ready_55 rfl (lv_at hl 1 rfl) ?_
    refine lv_iload hx hb dX12_ready_56 (lv_at hl 0 rfl) ?_
    refine x_iast (t0 := 0) F hK hI hW hS rd_d20 rd_20 rfl dX12_ready_58 h (fun S3 H locs hW hS h => ?_)
    exact x_vret F hr hlk hW hS dX12_ready_59 h
  replace h := (if_pos c_1).symm.trans h
  refine lv_aload_n hx hb dX12_ready_25 rfl (lv_at hl 2 rfl) ?_
  refine x_get F hK hW xc_X12 rd_d0 rd_0 18 (by decide) k_5_149 (gf_X12_18 _ _) dX12_ready_26 ?_
  refine lv_iload_n hx hb dX12_ready_29 rfl (lv_at hl 1 rfl) ?_
  refine lv_iload hx hb dX12_ready_30 (lv_at hl 0 rfl) ?_
  refine x_iast (t0 := 0) F hK hI hW hS rd_d19 rd_19 rfl dX12_ready_32 h (fun S4 H locs hW hS h => ?_)
  refine lv_goto (tgt := 51) hx hb dX12_ready_33 (by decide) ?_
  refine lv_aload_n hx hb dX12_ready_51 rfl (lv_at hl 2 rfl) ?_
  refine x_get F hK hW xc_X12 rd_d0 rd_0 19 (by decide) k_5_150 (gf_X12_19 _ _) dX12_ready_52 ?_
  refine lv_iload_n hx hb dX12_ready_55 rfl (lv_at hl 1 rfl) ?_
  refine lv_iload hx hb dX12_ready_56 (lv_at hl 0 rfl) ?_
  refine x_iast (t0 := 0) F hK hI hW hS rd_d20 rd_20 rfl dX12_ready_58 h (fun S5 H locs hW hS h => ?_)
  exact x_vret F hr hlk hW hS dX12_ready_59 h
