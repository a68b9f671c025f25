/-! X12_peek -/
def r_peek  (S : xS) (a1 : Int32) (a2 : Int32) : Option (Int32 × xS) := xnm (sI S 0 0 0 (0 : Int32)) (fun S1 => (r_isNode  S1 a1).bind (fun (r_2, S2) => if r_2 = 0 then (some ((-1 : Int32), S2)) else (if a2 < (32768 : Int32) then (some ((-1 : Int32), S2)) else (if (36864 : Int32) ≤ a2 then (some ((-1 : Int32), S2)) else (gd ((((4096 : Int32) * a1) + a2) - (32768 : Int32)) 32768 (some (((xI S2 0 4 (((((4096 : Int32) * a1) + a2) - (32768 : Int32))).toNatClampNeg) &&& (255 : Int32)), S2)))))))
set_option maxHeartbeats 4000000 in
set_option maxRecDepth 100000 in
theorem m_r_peek {l : Launch} {D : va_G} {cI cZ cB : ClassId} {ad : Nat → Nat → Nat} (hI : xInj rDom ad) {S : xS} (a1 : Int32) (a2 : Int32) {o : Int32 × xS} (h : r_peek  S a1 a2 = some o) : Met l yX12_peek (Cond.code yX12_peek cX12_peek 3 (some .int) :: xG) { frames := 1, cells := 0, slots := 0, locals := 21 } (xPc D vwCl (rTy cI cZ cB) [] [] rDom ad (rDe ad cI cZ cB) [.ref (ad 0 0), .int a1, .int a2] S) (xQ D vwCl rDom ad (rDe ad cI cZ cB) (some (.int o.1)) o.2) 0 0 (xA rDom ad) := by
  unfold r_peek at h
  refine x_enter (by decide) (Nat.le_of_ble_eq_true rfl) (fun p e s m below meth c F hr hlk hK hW hS ls hl => ?_)
  have hl : lv_has ls 3 [(0, .ref (ad 0 0)), (1, .int a1), (2, .int a2)] := hl
  have hx := F.1
  have hb := F.2.1
  refine lv_aload_n hx hb dX12_peek_0 rfl (lv_at hl 0 rfl) ?_
  refine lv_iconst (v := (0 : Int32)) hx hb dX12_peek_1 (by decide) ?_
  refine x_put F hK hI hW hS xc_X12 rd_d0 rd_0 0 (by decide) k_5_128 rfl (v := (0 : Int32)) rfl rfl (fun _ _ => rfl) (fun _ _ => Nat.le_of_ble_eq_true rfl) dX12_peek_2 h (fun S1 H locs hW hS h => ?_)
  refine lv_aload_n hx hb dX12_peek_5 rfl (lv_at hl 0 rfl) ?_
  refine lv_iload_n hx hb dX12_peek_6 rfl (lv_at hl 1 rfl) ?_
  refine x_cVi (As := [.int a1]) F xG_ok hK hW hS um_X12_isNode k_6_85 (fun _ h1 => m_r_isNode hI _ h1) rfl rd_d0 rd_0 rfl rfl hl.1 rfl rfl ⟨Nat.le_of_ble_eq_true rfl, Nat.le_of_ble_eq_true rfl⟩ ⟨Nat.zero_le _, Nat.zero_le _⟩ (Nat.le_of_ble_eq_true rfl) dX12_peek_7 h (fun r_2 S2 H locs hW hS h => ?_)
  refine lv_if_eq (tgt := 47) hx hb dX12_peek_10 (by decide) (fun c_3 => ?_) (fun c_3 => ?_)
  · replace h := (if_pos c_3).symm.trans h
    refine lv_iconst (v := (-1 : Int32)) hx hb dX12_peek_47 (by decide) ?_
    exact x_iret F hr hlk hW hS dX12_peek_48 h
  replace h := (if_neg c_3).symm.trans h
  refine lv_iload_n hx hb dX12_peek_13 rfl (lv_at hl 2 rfl) ?_
  refine lv_ldc (v := (32768 : Int32)) hx hb F.2.2.2.1 (x_hts F _ k_5_126) dX12_peek_14 ?_
  refine lv_icmp_lt (tgt := 47) hx hb dX12_peek_16 (by decide) (fun c_4 => ?_) (fun c_4 => ?_)
  · replace h := (if_pos c_4).symm.trans h
    refine lv_iconst (v := (-1 : Int32)) hx hb dX12_peek_47 (by decide) ?_
    exact x_iret F hr hlk hW hS dX12_peek_48 h
  replace h := (if_neg c_4).symm.trans h
  refine lv_iload_n hx hb dX12_peek_19 rfl (lv_at hl 2 rfl) ?_
  refine lv_ldc (v := (36864 : Int32)) hx hb F.2.2.2.1 (x_hts F _ k_6_124) dX12_peek_20 ?_
  refine lv_icmp_ge (tgt := 47) hx hb dX12_peek_22 (by decide) (fun c_5 => ?_) (fun c_5 => ?_)
  · replace h := (if_pos c_5).symm.trans h
    refine lv_iconst (v := (-1 : Int32)) hx hb dX12_peek_47 (by decide) ?_
    exact x_iret F hr hlk hW hS dX12_peek_48 h
  replace h := (if_neg c_5).symm.trans h
  refine lv_aload_n hx hb dX12_peek_25 rfl (lv_at hl 0 rfl) ?_
  refine x_get F hK hW xc_X12 rd_d0 rd_0 3 (by decide) k_5_131 (gf_X12_3 _ _) dX12_peek_26 ?_
  refine lv_sipush (v := (4096 : Int32)) hx hb dX12_peek_29 (by decide) ?_
  refine lv_iload_n hx hb dX12_peek_32 rfl (lv_at hl 1 rfl) ?_
  refine lv_imul hx hb dX12_peek_33 ?_
  refine lv_iload_n hx hb dX12_peek_34 rfl (lv_at hl 2 rfl) ?_
  refine lv_iadd hx hb dX12_peek_35 ?_
  refine lv_ldc (v := (32768 : Int32)) hx hb F.2.2.2.1 (x_hts F _ k_5_126) dX12_peek_36 ?_
  refine lv_isub hx hb dX12_peek_38 ?_
  refine x_bald (t0 := 2) F hK hW rd_d4 rd_4 rfl dX12_peek_39 h (fun h => ?_)
  refine lv_sipush (v := (255 : Int32)) hx hb dX12_peek_40 (by decide) ?_
  refine lv_iand hx hb dX12_peek_43 ?_
  refine lv_goto (tgt := 48) hx hb dX12_peek_44 (by decide) ?_
  exact x_iret F hr hlk hW hS dX12_peek_48 h
/-! X12_link -/
def r_link  (S : xS) (a1 : Int32) (a2 : Int32) (a3 : Int32) : Option (Int32 × xS) := xnm (sI S 0 0 0 (0 : Int32)) (fun S1 => (r_isEnd  S1 a1 a2).bind (fun (r_2, S2) => if r_2 = 0 then (some ((-2 : Int32), S2)) else (if a3 = (0 : Int32) then (gd (((4 : Int32) * a1) + a2) 33 (some ((xI S2 0 45 ((((4 : Int32) * a1) + a2)).toNatClampNeg), S2))) else (if a3 = (1 : Int32) then (gd (((4 : Int32) * a1) + a2) 33 (some ((xI S2 0 48 ((((4 : Int32) * a1) + a2)).toNatClampNeg), S2))) else (if a3 = (2 : Int32) then (gd (((4 : Int32) * a1) + a2) 33 (some ((xI S2 0 50 ((((4 : Int32) * a1) + a2)).toNatClampNeg), S2))) else (if a3 = (3 : Int32) then (gd (((4 : Int32) * a1) + a2) 33 (if (xI S2 0 51 ((((4 : Int32) * a1) + a2)).toNatClampNeg) = (-1 : Int32) then (some ((0 : Int32), S2)) else (some ((1 : Int32), S2)))) else (if a3 = (4 : Int32) then (gd (((4 : Int32) * a1) + a2) 33 (if (xI S2 0 36 ((((4 : Int32) * a1) + a2)).toNatClampNeg) ≤ 0 then (some ((0 : Int32), S2)) else (gd (((4 : Int32) * a1) + a2) 33 (some ((xI S2 0 37 ((((4 : Int32) * a1) + a2)).toNatClampNeg), S2))))) else (if a3 = (5 : Int32) then (gd (((4 : Int32) * a1) + a2) 33 (some ((xI S2 0 38 ((((4 : Int32) * a1) + a2)).toNatClampNeg), S2))) else (if a3 = (6 : Int32) then (gd (((4 : Int32) * a1) + a2) 33 (if (xI S2 0 33 ((((4 : Int32) * a1) + a2)).toNatClampNeg) = (-1 : Int32) then (some ((-1 : Int32), S2)) else (gd (((4 : Int32) * a1) + a2) 33 (if (xI S2 0 33 ((((4 : Int32) * a1) + a2)).toNatClampNeg) = (32 : Int32) then (some ((8 : Int32), S2)) else (gd (((4 : Int32) * a1) + a2) 33 (some (((xI S2 0 33 ((((4 : Int32) * a1) + a2)).toNatClampNeg) / (4 : Int32)), S2))))))) else (some ((-3 : Int32), S2)))))))))))
set_option maxHeartbeats 4000000 in
set_option maxRecDepth 100000 in
theorem m_r_link {l : Launch} {D : va_G} {cI cZ cB : ClassId} {ad : Nat → Nat → Nat} (hI : xInj rDom ad) {S : xS} (a1 : Int32) (a2 : Int32) (a3 : Int32) {o : Int32 × xS} (h : r_link  S a1 a2 a3 = some o) : Met l yX12_link (Cond.code yX12_link cX12_link 5 (some .int) :: xG) { frames := 2, cells := 0, slots := 0, locals := 43 } (xPc D vwCl (rTy cI cZ cB) [] [] rDom ad (rDe ad cI cZ cB) [.ref (ad 0 0), .int a1, .int a2, .int a3] S) (xQ D vwCl rDom ad (rDe ad cI cZ cB) (some (.int o.1)) o.2) 0 0 (xA rDom ad) := by
  unfold r_link at h
  refine x_enter (by decide) (Nat.le_of_ble_eq_true rfl) (fun p e s m below meth c F hr hlk hK hW hS ls hl => ?_)
  have hl : lv_has ls 5 [(0, .ref (ad 0 0)), (1, .int a1), (2, .int a2), (3, .int a3)] := hl
  have hx := F.1
  have hb := F.2.1
  refine lv_aload_n hx hb dX12_link_0 rfl (lv_at hl 0 rfl) ?_
  refine lv_iconst (v := (0 : Int32)) hx hb dX12_link_1 (by decide) ?_
  refine x_put F hK hI hW hS xc_X12 rd_d0 rd_0 0 (by decide) k_5_128 rfl (v := (0 : Int32)) rfl rfl (fun _ _ => rfl) (fun _ _ => Nat.le_of_ble_eq_true rfl) dX12_link_2 h (fun S1 H locs hW hS h => ?_)
  refine lv_aload_n hx hb dX12_link_5 rfl (lv_at hl 0 rfl) ?_
  refine lv_iload_n hx hb dX12_link_6 rfl (lv_at hl 1 rfl) ?_
  refine lv_iload_n hx hb dX12_link_7 rfl (lv_at hl 2 rfl) ?_
  refine x_cVi (As := [.int a1, .int a2]) F xG_ok hK hW hS um_X12_isEnd k_6_81 (fun _ h1 => m_r_isEnd hI _ _ h1) rfl rd_d0 rd_0 rfl rfl hl.1 rfl rfl ⟨Nat.le_of_ble_eq_true rfl, Nat.le_of_ble_eq_true rfl⟩ ⟨Nat.zero_le _, Nat.zero_le _⟩ (Nat.le_of_ble_eq_true rfl) dX12_link_8 h (fun r_2 S2 H locs hW hS h => ?_)
  refine lv_if_ne (tgt := 17) hx hb dX12_link_11 (by decide) (fun c_3 => ?_) (fun c_3 => ?_)
  · replace h := (if_neg c_3).symm.trans h
    refine lv_iconst (v := (4 : Int32)) hx hb dX12_link_17 (by decide) ?_
    refine lv_iload_n hx hb dX12_link_18 rfl (lv_at hl 1 rfl) ?_
    refine lv_imul hx hb dX12_link_19 ?_
    refine lv_iload_n hx hb dX12_link_20 rfl (lv_at hl 2 rfl) ?_
    refine lv_iadd hx hb dX12_link_21 ?_
    refine lv_istore (lv' := [(4, .int (((4 : Int32) * a1) + a2)), (0, .ref (ad 0 0)), (1, .int a1), (2, .int a2), (3, .int a3)]) hx hb dX12_link_22 hl (by decide) rfl (fun ls hl => ?_)
    refine lv_iload_n hx hb dX12_link_24 rfl (lv_at hl 4 rfl) ?_
    by_cases c_4_0 : a3 = (0 : Int32)
    · replace h := (if_pos c_4_0).symm.trans h
      refine lv_tableIn (tgt := 68) (off := 43) hx hb dX12_link_25 (by rw [c_4_0]; decide) (by rw [c_4_0]; decide) (by rw [c_4_0]; decide) (by decide) ?_
      refine lv_aload_n hx hb dX12_link_68 rfl (lv_at hl 1 rfl) ?_
      refine x_get F hK hW xc_X12 rd_d0 rd_0 44 (by decide) k_5_172 (gf_X12_44 _ _) dX12_link_69 ?_
      refine lv_iload hx hb dX12_link_72 (lv_at hl 0 rfl) ?_
      refine x_iald (t0 := 0) F hK hW rd_d45 rd_45 rfl dX12_link_74 h (fun h => ?_)
      exact x_iret F hr hlk hW hS dX12_link_75 h
    replace h := (if_neg c_4_0).symm.trans h
    have hn_4_0 := x_swN (z := 0) c_4_0 x_sw0 rfl
    by_cases c_4_1 : a3 = (1 : Int32)
    · replace h := (if_pos c_4_1).symm.trans h
      refine lv_tableIn (tgt := 76) (off := 51) hx hb dX12_link_25 (by rw [c_4_1]; decide) (by rw [c_4_1]; decide) (by rw [c_4_1]; decide) (by decide) ?_
      refine lv_aload_n hx hb dX12_link_76 rfl (lv_at hl 1 rfl) ?_
      refine x_get F hK hW xc_X12 rd_d0 rd_0 47 (by decide) k_5_175 (gf_X12_47 _ _) dX12_link_77 ?_
      refine lv_iload hx hb dX12_link_80 (lv_at hl 0 rfl) ?_
      refine x_iald (t0 := 0) F hK hW rd_d48 rd_48 rfl dX12_link_82 h (fun h => ?_)
      exact x_iret F hr hlk hW hS dX12_link_83 h
    replace h := (if_neg c_4_1).symm.trans h
    have hn_4_1 := x_swN (z := 1) c_4_1 hn_4_0 rfl
    by_cases c_4_2 : a3 = (2 : Int32)
    · replace h := (if_pos c_4_2).symm.trans h
      refine lv_tableIn (tgt := 84) (off := 59) hx hb dX12_link_25 (by rw [c_4_2]; decide) (by rw [c_4_2]; decide) (by rw [c_4_2]; decide) (by decide) ?_
      refine lv_aload_n hx hb dX12_link_84 rfl (lv_at hl 1 rfl) ?_
      refine x_get F hK hW xc_X12 rd_d0 rd_0 49 (by decide) k_5_177 (gf_X12_49 _ _) dX12_link_85 ?_
      refine lv_iload hx hb dX12_link_88 (lv_at hl 0 rfl) ?_
      refine x_iald (t0 := 0) F hK hW rd_d50 rd_50 rfl dX12_link_90 h (fun h => ?_)
      exact x_iret F hr hlk hW hS dX12_link_91 h
    replace h := (if_neg c_4_2).symm.trans h
    have hn_4_2 := x_swN (z := 2) c_4_2 hn_4_1 rfl
    by_cases c_4_3 : a3 = (3 : Int32)
    · replace h := (if_pos c_4_3).symm.trans h
      refine lv_tableIn (tgt := 92) (off := 67) hx hb dX12_link_25 (by rw [c_4_3]; decide) (by rw [c_4_3]; decide) (by rw [c_4_3]; decide) (by decide) ?_
      refine lv_aload_n hx hb dX12_link_92 rfl (lv_at hl 1 rfl) ?_
      refine x_get F hK hW xc_X12 rd_d0 rd_0 50 (by decide) k_5_178 (gf_X12_50 _ _) dX12_link_93 ?_
      refine lv_iload hx hb dX12_link_96 (lv_at hl 0 rfl) ?_
      refine x_iald (t0 := 0) F hK hW rd_d51 rd_51 rfl dX12_link_98 h (fun h => ?_)
      refine lv_iconst (v := (-1 : Int32)) hx hb dX12_link_99 (by decide) ?_
      refine lv_icmp_eq (tgt := 107) hx hb dX12_link_100 (by decide) (fun c_5 => ?_) (fun c_5 => ?_)
      · replace h := (if_pos c_5).symm.trans h
        refine lv_iconst (v := (0 : Int32)) hx hb dX12_link_107 (by decide) ?_
        exact x_iret F hr hlk hW hS dX12_link_108 h
      replace h := (if_neg c_5).symm.trans h
      refine lv_iconst (v := (1 : Int32)) hx hb dX12_link_103 (by decide) ?_
      refine lv_goto (tgt := 108) hx hb dX12_link_104 (by decide) ?_
      exact x_iret F hr hlk hW hS dX12_link_108 h
    replace h := (if_neg c_4_3).symm.trans h
    have hn_4_3 := x_swN (z := 3) c_4_3 hn_4_2 rfl
    by_cases c_4_4 : a3 = (4 : Int32)
    · replace h := (if_pos c_4_4).symm.trans h
      refine lv_tableIn (tgt := 109) (off := 84) hx hb dX12_link_25 (by rw [c_4_4]; decide) (by rw [c_4_4]; decide) (by rw [c_4_4]; decide) (by decide) ?_
      refine lv_aload_n hx hb dX12_link_109 rfl (lv_at hl 1 rfl) ?_
      refine x_get F hK hW xc_X12 rd_d0 rd_0 35 (by decide) k_5_163 (gf_X12_35 _ _) dX12_link_110 ?_
      refine lv_iload hx hb dX12_link_113 (lv_at hl 0 rfl) ?_
      refine x_iald (t0 := 0) F hK hW rd_d36 rd_36 rfl dX12_link_115 h (fun h => ?_)
      refine lv_if_le (tgt := 129) hx hb dX12_link_116 (by decide) (fun c_6 => ?_) (fun c_6 => ?_)
      · replace h := (if_pos c_6).symm.trans h
        refine lv_iconst (v := (0 : Int32)) hx hb dX12_link_129 (by decide) ?_
        exact x_iret F hr hlk hW hS dX12_link_130 h
      replace h := (if_neg c_6).symm.trans h
      refine lv_aload_n hx hb dX12_link_119 rfl (lv_at hl 1 rfl) ?_
      refine x_get F hK hW xc_X12 rd_d0 rd_0 36 (by decide) k_5_164 (gf_X12_36 _ _) dX12_link_120 ?_
      refine lv_iload hx hb dX12_link_123 (lv_at hl 0 rfl) ?_
      refine x_iald (t0 := 0) F hK hW rd_d37 rd_37 rfl dX12_link_125 h (fun h => ?_)
      refine lv_goto (tgt := 130) hx hb dX12_link_126 (by decide) ?_
      exact x_iret F hr hlk hW hS dX12_link_130 h
    replace h := (if_neg c_4_4).symm.trans h
    have hn_4_4 := x_swN (z := 4) c_4_4 hn_4_3 rfl
    by_cases c_4_5 : a3 = (5 : Int32)
    · replace h := (if_pos c_4_5).symm.trans h
      refine lv_tableIn (tgt := 131) (off := 106) hx hb dX12_link_25 (by rw [c_4_5]; decide) (by rw [c_4_5]; decide) (by rw [c_4_5]; decide) (by decide) ?_
      refine lv_aload_n hx hb dX12_link_131 rfl (lv_at hl 1 rfl) ?_
      refine x_get F hK hW xc_X12 rd_d0 rd_0 37 (by decide) k_5_165 (gf_X12_37 _ _) dX12_link_132 ?_
      refine lv_iload hx hb dX12_link_135 (lv_at hl 0 rfl) ?_
      refine x_iald (t0 := 0) F hK hW rd_d38 rd_38 rfl dX12_link_137 h (fun h => ?_)
      exact x_iret F hr hlk hW hS dX12_link_138 h
    replace h := (if_neg c_4_5).symm.trans h
    have hn_4_5 := x_swN (z := 5) c_4_5 hn_4_4 rfl
    by_cases c_4_6 : a3 = (6 : Int32)
    · replace h := (if_pos c_4_6).symm.trans h
      refine lv_tableIn (tgt := 139) (off := 114) hx hb dX12_link_25 (by rw [c_4_6]; decide) (by rw [c_4_6]; decide) (by rw [c_4_6]; decide) (by decide) ?_
      refine lv_aload_n hx hb dX12_link_139 rfl (lv_at hl 1 rfl) ?_
      refine x_get F hK hW xc_X12 rd_d0 rd_0 32 (by decide) k_5_160 (gf_X12_32 _ _) dX12_link_140 ?_
      refine lv_iload hx hb dX12_link_143 (lv_at hl 0 rfl) ?_
      refine x_iald (t0 := 0) F hK hW rd_d33 rd_33 rfl dX12_link_145 h (fun h => ?_)
      refine lv_iconst (v := (-1 : Int32)) hx hb dX12_link_146 (by decide) ?_
      refine lv_icmp_ne (tgt := 154) hx hb dX12_link_147 (by decide) (fun c_7 => ?_) (fun c_7 => ?_)
      · replace h := (if_neg c_7).symm.trans h
        refine lv_aload_n hx hb dX12_link_154 rfl (lv_at hl 1 rfl) ?_
        refine x_get F hK hW xc_X12 rd_d0 rd_0 32 (by decide) k_5_160 (gf_X12_32 _ _) dX12_link_155 ?_
        refine lv_iload hx hb dX12_link_158 (lv_at hl 0 rfl) ?_
        refine x_iald (t0 := 0) F hK hW rd_d33 rd_33 rfl dX12_link_160 h (fun h => ?_)
        refine lv_bipush (v := (32 : Int32)) hx hb dX12_link_161 (by decide) ?_
        refine lv_icmp_ne (tgt := 171) hx hb dX12_link_163 (by decide) (fun c_8 => ?_) (fun c_8 => ?_)
        · replace h := (if_neg c_8).symm.trans h
          refine lv_aload_n hx hb dX12_link_171 rfl (lv_at hl 1 rfl) ?_
          refine x_get F hK hW xc_X12 rd_d0 rd_0 32 (by decide) k_5_160 (gf_X12_32 _ _) dX12_link_172 ?_
          refine lv_iload hx hb dX12_link_175 (lv_at hl 0 rfl) ?_
          refine x_iald (t0 := 0) F hK hW rd_d33 rd_33 rfl dX12_link_177 h (fun h => ?_)
          refine lv_iconst (v := (4 : Int32)) hx hb dX12_link_178 (by decide) ?_
          refine lv_idiv hx hb dX12_link_179 (by decide) ?_
          exact x_iret F hr hlk hW hS dX12_link_180 h
        replace h := (if_pos c_8).symm.trans h
        refine lv_bipush (v := (8 : Int32)) hx hb dX12_link_166 (by decide) ?_
        refine lv_goto (tgt := 180) hx hb dX12_link_168 (by decide) ?_
        exact x_iret F hr hlk hW hS dX12_link_180 h
      replace h := (if_pos c_7).symm.trans h
      refine lv_iconst (v := (-1 : Int32)) hx hb dX12_link_150 (by decide) ?_
      refine lv_goto (tgt := 180) hx hb dX12_link_151 (by decide) ?_
      exact x_iret F hr hlk hW hS dX12_link_180 h
    replace h := (if_neg c_4_6).symm.trans h
    have hn_4_6 := x_swN (z := 6) c_4_6 hn_4_5 rfl
    refine x_tblD (tgt := 181) hx hb dX12_link_25 hn_4_6 (by decide) (by decide) (by decide) ?_
    refine lv_bipush (v := (-3 : Int32)) hx hb dX12_link_181 (by decide) ?_
    exact x_iret F hr hlk hW hS dX12_link_183 h
  replace h := (if_pos c_3).symm.trans h
  refine lv_bipush (v := (-2 : Int32)) hx hb dX12_link_14 (by decide) ?_
  exact x_iret F hr hlk hW hS dX12_link_16 h
/-! X12_out_ -/
def r_out_  (S : xS) (a1 : Int32) : Option (Int32 × xS) := xnm (sI S 0 0 0 (0 : Int32)) (fun S1 => if a1 < 0 then (some ((-1 : Int32), S1)) else (if (xI S1 0 0 61) ≤ a1 then (some ((-1 : Int32), S1)) else (gd a1 4096 (some (((xI S1 0 59 (a1).toNatClampNeg) &&& (255 : Int32)), S1)))))
set_option maxHeartbeats 4000000 in
set_option maxRecDepth 100000 in
theorem m_r_out_ {l : Launch} {D : va_G} {cI cZ cB : ClassId} {ad : Nat → Nat → Nat} (hI : xInj rDom ad) {S : xS} (a1 : Int32) {o : Int32 × xS} (h : r_out_  S a1 = some o) : Met l yX12_out_ (Cond.code yX12_out_ cX12_out_ 2 (some .int) :: xG) { frames := 0, cells := 0, slots := 0, locals := 0 } (xPc D vwCl (rTy cI cZ cB) [] [] rDom ad (rDe ad cI cZ cB) [.ref (ad 0 0), .int a1] S) (xQ D vwCl rDom ad (rDe ad cI cZ cB) (some (.int o.1)) o.2) 0 0 (xA rDom ad) := by
  unfold r_out_ at h
  refine x_enter (by decide) (Nat.le_of_ble_eq_true rfl) (fun p e s m below meth c F hr hlk hK hW hS ls hl => ?_)
  have hl : lv_has ls 2 [(0, .ref (ad 0 0)), (1, .int a1)] := hl
  have hx := F.1
  have hb := F.2.1
  refine lv_aload_n hx hb dX12_out__0 rfl (lv_at hl 0 rfl) ?_
  refine lv_iconst (v := (0 : Int32)) hx hb dX12_out__1 (by decide) ?_
  refine x_put F hK hI hW hS xc_X12 rd_d0 rd_0 0 (by decide) k_5_128 rfl (v := (0 : Int32)) rfl rfl (fun _ _ => rfl) (fun _ _ => Nat.le_of_ble_eq_true rfl) dX12_out__2 h (fun S1 H locs hW hS h => ?_)
  refine lv_iload_n hx hb dX12_out__5 rfl (lv_at hl 1 rfl) ?_
  refine lv_if_lt (tgt := 30) hx hb dX12_out__6 (by decide) (fun c_2 => ?_) (fun c_2 => ?_)
  · replace h := (if_pos c_2).symm.trans h
    refine lv_iconst (v := (-1 : Int32)) hx hb dX12_out__30 (by decide) ?_
    exact x_iret F hr hlk hW hS dX12_out__31 h
  replace h := (if_neg c_2).symm.trans h
  refine lv_iload_n hx hb dX12_out__9 rfl (lv_at hl 1 rfl) ?_
  refine lv_aload_n hx hb dX12_out__10 rfl (lv_at hl 0 rfl) ?_
  refine x_get F hK hW xc_X12 rd_d0 rd_0 61 (by decide) k_5_189 (gf_X12_61 _ _) dX12_out__11 ?_
  refine lv_icmp_ge (tgt := 30) hx hb dX12_out__14 (by decide) (fun c_3 => ?_) (fun c_3 => ?_)
  · replace h := (if_pos c_3).symm.trans h
    refine lv_iconst (v := (-1 : Int32)) hx hb dX12_out__30 (by decide) ?_
    exact x_iret F hr hlk hW hS dX12_out__31 h
  replace h := (if_neg c_3).symm.trans h
  refine lv_aload_n hx hb dX12_out__17 rfl (lv_at hl 0 rfl) ?_
  refine x_get F hK hW xc_X12 rd_d0 rd_0 58 (by decide) k_5_186 (gf_X12_58 _ _) dX12_out__18 ?_
  refine lv_iload_n hx hb dX12_out__21 rfl (lv_at hl 1 rfl) ?_
  refine x_bald (t0 := 2) F hK hW rd_d59 rd_59 rfl dX12_out__22 h (fun h => ?_)
  refine lv_sipush (v := (255 : Int32)) hx hb dX12_out__23 (by decide) ?_
  refine lv_iand hx hb dX12_out__26 ?_
  refine lv_goto (tgt := 31) hx hb dX12_out__27 (by decide) ?_
  exact x_iret F hr hlk hW hS dX12_out__31 h
