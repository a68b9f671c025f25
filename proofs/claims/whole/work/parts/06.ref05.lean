/-! X12_step -/
def r_step_b203 (v1 : Int32) (v3 : Int32) (S : xS) : Option (xS) := gd v1 8 (xnm (sI S 0 18 (v1).toNatClampNeg (vp_nar .boolean (0 : Int32))) (fun S12 => gd v1 8 (if (xI S12 0 16 (v1).toNatClampNeg) = 0 then (some S12) else (if v3 = 0 then (gd v1 8 (if (xI S12 0 17 (v1).toNatClampNeg) = 0 then (some S12) else ((r_stop  S12 v1 (6 : Int32)).bind (fun S16 => some S16)))) else (some S12)))))
set_option maxHeartbeats 4000000 in
set_option maxRecDepth 100000 in
theorem m_r_step_b203 {l : Launch} {D : va_G} {cI cZ cB : ClassId} {ad : Nat → Nat → Nat} (hI : xInj rDom ad) {p : Program} {e : Env} {s : State} {m : MethodId} {args : Array Value} {below : List Frame} {meth : Method} {c : Code} (F : CallFix p m c cX12_step 5 s args (Cond.code yX12_step cX12_step 5 none :: xG) (yX12_step).cls) (hr : meth.sig.returnType = none) (hlk : meth.locks = false) (hK : xK D vwCl (rTy cI cZ cB) [] [] s) {o : xS} (v1 : Int32) (v3 : Int32) (S : xS) {H : Heap} {locs : List Loc} {ls : Array Slot} (h : r_step_b203 v1 v3 S = some o) (hW : xW D vwCl rDom ad (rDe ad cI cZ cB) S H) (hS : va_S (xA rDom ad) s.heap H locs) (hl : lv_has ls 5 [(0, .ref (ad 0 0)), (1, .int v1), (3, .int v3)]) : W p l e { frames := 7, cells := 0, slots := 0, locals := 173 } s m args below meth c H locs 0 0 (MQ below (xQ D vwCl rDom ad (rDe ad cI cZ cB) none o) args s 0 0 (xA rDom ad)) (F0 m 203 ls []) := by
  have hx := F.1
  have hb := F.2.1
  unfold r_step_b203 at h
  refine lv_aload_n hx hb dX12_step_203 rfl (lv_at hl 0 rfl) ?_
  refine x_get F hK hW xc_X12 rd_d0 rd_0 17 (by decide) k_5_145 (gf_X12_17 _ _) dX12_step_204 ?_
  refine lv_iload_n hx hb dX12_step_207 rfl (lv_at hl 1 rfl) ?_
  refine lv_iconst (v := (0 : Int32)) hx hb dX12_step_208 (by decide) ?_
  refine x_zast (t0 := 1) F hK hI hW hS rd_d18 rd_18 rfl dX12_step_209 h (fun S12 H locs hW hS h => ?_)
  refine lv_aload_n hx hb dX12_step_210 rfl (lv_at hl 0 rfl) ?_
  refine x_get F hK hW xc_X12 rd_d0 rd_0 15 (by decide) k_5_143 (gf_X12_15 _ _) dX12_step_211 ?_
  refine lv_iload_n hx hb dX12_step_214 rfl (lv_at hl 1 rfl) ?_
  refine x_zald (t0 := 1) F hK hW rd_d16 rd_16 rfl dX12_step_215 h (fun h => ?_)
  refine lv_if_eq (tgt := 239) hx hb dX12_step_216 (by decide) (fun c_13 => ?_) (fun c_13 => ?_)
  · replace h := (if_pos c_13).symm.trans h
    exact x_vret F hr hlk hW hS dX12_step_239 h
  replace h := (if_neg c_13).symm.trans h
  refine lv_iload_n hx hb dX12_step_219 rfl (lv_at hl 2 rfl) ?_
  refine lv_if_ne (tgt := 239) hx hb dX12_step_220 (by decide) (fun c_14 => ?_) (fun c_14 => ?_)
  · replace h := (if_neg c_14).symm.trans h
    exact x_vret F hr hlk hW hS dX12_step_239 h
  replace h := (if_pos c_14).symm.trans h
  refine lv_aload_n hx hb dX12_step_223 rfl (lv_at hl 0 rfl) ?_
  refine x_get F hK hW xc_X12 rd_d0 rd_0 16 (by decide) k_5_144 (gf_X12_16 _ _) dX12_step_224 ?_
  refine lv_iload_n hx hb dX12_step_227 rfl (lv_at hl 1 rfl) ?_
  refine x_zald (t0 := 1) F hK hW rd_d17 rd_17 rfl dX12_step_228 h (fun h => ?_)
  refine lv_if_eq (tgt := 239) hx hb dX12_step_229 (by decide) (fun c_15 => ?_) (fun c_15 => ?_)
  · replace h := (if_pos c_15).symm.trans h
    exact x_vret F hr hlk hW hS dX12_step_239 h
  replace h := (if_neg c_15).symm.trans h
  refine lv_aload_n hx hb dX12_step_232 rfl (lv_at hl 0 rfl) ?_
  refine lv_iload_n hx hb dX12_step_233 rfl (lv_at hl 1 rfl) ?_
  refine lv_bipush (v := (6 : Int32)) hx hb dX12_step_234 (by decide) ?_
  refine x_cVv (As := [.int v1, .int (6 : Int32)]) F xG_ok hK hW hS um_X12_stop k_6_184 (fun _ h1 => m_r_stop hI _ _ h1) rfl rd_d0 rd_0 rfl rfl hl.1 rfl rfl ⟨Nat.le_of_ble_eq_true rfl, Nat.le_of_ble_eq_true rfl⟩ ⟨Nat.zero_le _, Nat.zero_le _⟩ (Nat.le_of_ble_eq_true rfl) dX12_step_236 h (fun S16 H locs hW hS h => ?_)
  exact x_vret F hr hlk hW hS dX12_step_239 h
def r_step_b188 (v1 : Int32) (v3 : Int32) (S : xS) : Option (xS) := gd v1 8 (if (xI S 0 18 (v1).toNatClampNeg) = 0 then (r_step_b203  v1 v3 S) else ((r_stop  S v1 (2 : Int32)).bind (fun S17 => r_step_b203  v1 v3 S17)))
set_option maxHeartbeats 4000000 in
set_option maxRecDepth 100000 in
theorem m_r_step_b188 {l : Launch} {D : va_G} {cI cZ cB : ClassId} {ad : Nat → Nat → Nat} (hI : xInj rDom ad) {p : Program} {e : Env} {s : State} {m : MethodId} {args : Array Value} {below : List Frame} {meth : Method} {c : Code} (F : CallFix p m c cX12_step 5 s args (Cond.code yX12_step cX12_step 5 none :: xG) (yX12_step).cls) (hr : meth.sig.returnType = none) (hlk : meth.locks = false) (hK : xK D vwCl (rTy cI cZ cB) [] [] s) {o : xS} (v1 : Int32) (v3 : Int32) (S : xS) {H : Heap} {locs : List Loc} {ls : Array Slot} (h : r_step_b188 v1 v3 S = some o) (hW : xW D vwCl rDom ad (rDe ad cI cZ cB) S H) (hS : va_S (xA rDom ad) s.heap H locs) (hl : lv_has ls 5 [(0, .ref (ad 0 0)), (1, .int v1), (3, .int v3)]) : W p l e { frames := 7, cells := 0, slots := 0, locals := 173 } s m args below meth c H locs 0 0 (MQ below (xQ D vwCl rDom ad (rDe ad cI cZ cB) none o) args s 0 0 (xA rDom ad)) (F0 m 188 ls []) := by
  have hx := F.1
  have hb := F.2.1
  unfold r_step_b188 at h
  refine lv_aload_n hx hb dX12_step_188 rfl (lv_at hl 0 rfl) ?_
  refine x_get F hK hW xc_X12 rd_d0 rd_0 17 (by decide) k_5_145 (gf_X12_17 _ _) dX12_step_189 ?_
  refine lv_iload_n hx hb dX12_step_192 rfl (lv_at hl 1 rfl) ?_
  refine x_zald (t0 := 1) F hK hW rd_d18 rd_18 rfl dX12_step_193 h (fun h => ?_)
  refine lv_if_eq (tgt := 203) hx hb dX12_step_194 (by decide) (fun c_11 => ?_) (fun c_11 => ?_)
  · replace h := (if_pos c_11).symm.trans h
    exact m_r_step_b203 hI  F hr hlk hK _ _ _ h hW hS (lv_sub hl [0, 1, 2] rfl)
  replace h := (if_neg c_11).symm.trans h
  refine lv_aload_n hx hb dX12_step_197 rfl (lv_at hl 0 rfl) ?_
  refine lv_iload_n hx hb dX12_step_198 rfl (lv_at hl 1 rfl) ?_
  refine lv_iconst (v := (2 : Int32)) hx hb dX12_step_199 (by decide) ?_
  refine x_cVv (As := [.int v1, .int (2 : Int32)]) F xG_ok hK hW hS um_X12_stop k_6_184 (fun _ h1 => m_r_stop hI _ _ h1) rfl rd_d0 rd_0 rfl rfl hl.1 rfl rfl ⟨Nat.le_of_ble_eq_true rfl, Nat.le_of_ble_eq_true rfl⟩ ⟨Nat.zero_le _, Nat.zero_le _⟩ (Nat.le_of_ble_eq_true rfl) dX12_step_200 h (fun S17 H locs hW hS h => ?_)
  exact m_r_step_b203 hI  F hr hlk hK _ _ _ h hW hS (lv_sub hl [0, 1, 2] rfl)
def r_step_b187 (v1 : Int32) (v3 : Int32) (t0 : Int32) (t1 : Int32) (S : xS) : Option (xS) := gd t1 8 (xnm (sI S 0 8 (t1).toNatClampNeg t0) (fun S10 => r_step_b188  v1 v3 S10))
set_option maxHeartbeats 4000000 in
set_option maxRecDepth 100000 in
theorem m_r_step_b187 {l : Launch} {D : va_G} {cI cZ cB : ClassId} {ad : Nat → Nat → Nat} (hI : xInj rDom ad) {p : Program} {e : Env} {s : State} {m : MethodId} {args : Array Value} {below : List Frame} {meth : Method} {c : Code} (F : CallFix p m c cX12_step 5 s args (Cond.code yX12_step cX12_step 5 none :: xG) (yX12_step).cls) (hr : meth.sig.returnType = none) (hlk : meth.locks = false) (hK : xK D vwCl (rTy cI cZ cB) [] [] s) {o : xS} (v1 : Int32) (v3 : Int32) (t0 : Int32) (t1 : Int32) (S : xS) {H : Heap} {locs : List Loc} {ls : Array Slot} (h : r_step_b187 v1 v3 t0 t1 S = some o) (hW : xW D vwCl rDom ad (rDe ad cI cZ cB) S H) (hS : va_S (xA rDom ad) s.heap H locs) (hl : lv_has ls 5 [(0, .ref (ad 0 0)), (1, .int v1), (3, .int v3)]) : W p l e { frames := 7, cells := 0, slots := 0, locals := 173 } s m args below meth c H locs 0 0 (MQ below (xQ D vwCl rDom ad (rDe ad cI cZ cB) none o) args s 0 0 (xA rDom ad)) (F0 m 187 ls [.int t0, .int t1, .ref (ad 0 8)]) := by
  have hx := F.1
  have hb := F.2.1
  unfold r_step_b187 at h
  refine x_iast (t0 := 0) F hK hI hW hS rd_d8 rd_8 rfl dX12_step_187 h (fun S10 H locs hW hS h => ?_)
  exact m_r_step_b188 hI  F hr hlk hK _ _ _ h hW hS (lv_sub hl [0, 1, 2] rfl)
def r_step_b62 (v1 : Int32) (v2 : Int32) (S : xS) : Option (xS) := gd v1 8 (gd v1 8 (gd v1 8 (xnm (sI S 0 15 (v1).toNatClampNeg ((xI S 0 15 (v1).toNatClampNeg) + (1 : Int32))) (fun S5 => if (v2 >>> ((4 : Int32) &&& 31)) = (15 : Int32) then (gd v1 8 ((r_operates  S5 v1 (xI S5 0 8 (v1).toNatClampNeg)).bind (fun (r_18, S18) => if r_18 = 0 then ((r_stop  S18 v1 (1 : Int32)).bind (fun S20 => r_step_b188  v1 (xI S 0 16 (v1).toNatClampNeg) S20)) else (gd v1 8 (xnm (sI S18 0 8 (v1).toNatClampNeg (0 : Int32)) (fun S21 => r_step_b188  v1 (xI S 0 16 (v1).toNatClampNeg) S21)))))) else (gd v1 8 ((r_direct  S5 v1 (v2 >>> ((4 : Int32) &&& 31)) (xI S5 0 8 (v1).toNatClampNeg)).bind (fun S7 => if (v2 >>> ((4 : Int32) &&& 31)) = (2 : Int32) then (gd v1 8 (r_step_b187  v1 (xI S 0 16 (v1).toNatClampNeg) (((xI S7 0 8 (v1).toNatClampNeg) <<< ((4 : Int32) &&& 31)) &&& (65535 : Int32)) v1 S7)) else (if (v2 >>> ((4 : Int32) &&& 31)) = (6 : Int32) then (gd v1 8 (r_step_b187  v1 (xI S 0 16 (v1).toNatClampNeg) ((((65535 : Int32) - (xI S7 0 8 (v1).toNatClampNeg)) <<< ((4 : Int32) &&& 31)) &&& (65535 : Int32)) v1 S7)) else (r_step_b187  v1 (xI S 0 16 (v1).toNatClampNeg) (0 : Int32) v1 S7)))))))))
set_option maxHeartbeats 4000000 in
set_option maxRecDepth 100000 in
theorem m_r_step_b62 {l : Launch} {D : va_G} {cI cZ cB : ClassId} {ad : Nat → Nat → Nat} (hI : xInj rDom ad) {p : Program} {e : Env} {s : State} {m : MethodId} {args : Array Value} {below : List Frame} {meth : Method} {c : Code} (F : CallFix p m c cX12_step 5 s args (Cond.code yX12_step cX12_step 5 none :: xG) (yX12_step).cls) (hr : meth.sig.returnType = none) (hlk : meth.locks = false) (hK : xK D vwCl (rTy cI cZ cB) [] [] s) {o : xS} (v1 : Int32) (v2 : Int32) (S : xS) {H : Heap} {locs : List Loc} {ls : Array Slot} (h : r_step_b62 v1 v2 S = some o) (hW : xW D vwCl rDom ad (rDe ad cI cZ cB) S H) (hS : va_S (xA rDom ad) s.heap H locs) (hl : lv_has ls 5 [(0, .ref (ad 0 0)), (1, .int v1), (2, .int v2)]) : W p l e { frames := 7, cells := 0, slots := 0, locals := 173 } s m args below meth c H locs 0 0 (MQ below (xQ D vwCl rDom ad (rDe ad cI cZ cB) none o) args s 0 0 (xA rDom ad)) (F0 m 62 ls []) := by
  have hx := F.1
  have hb := F.2.1
  unfold r_step_b62 at h
  refine lv_aload_n hx hb dX12_step_62 rfl (lv_at hl 0 rfl) ?_
  refine x_get F hK hW xc_X12 rd_d0 rd_0 15 (by decide) k_5_143 (gf_X12_15 _ _) dX12_step_63 ?_
  refine lv_iload_n hx hb dX12_step_66 rfl (lv_at hl 1 rfl) ?_
  refine x_zald (t0 := 1) F hK hW rd_d16 rd_16 rfl dX12_step_67 h (fun h => ?_)
  refine lv_istore_n (lv' := [(3, .int (xI S 0 16 (v1).toNatClampNeg)), (0, .ref (ad 0 0)), (1, .int v1), (2, .int v2)]) hx hb dX12_step_68 rfl hl (by decide) rfl (fun ls hl => ?_)
  refine lv_aload_n hx hb dX12_step_69 rfl (lv_at hl 1 rfl) ?_
  refine x_get F hK hW xc_X12 rd_d0 rd_0 14 (by decide) k_5_142 (gf_X12_14 _ _) dX12_step_70 ?_
  refine lv_iload_n hx hb dX12_step_73 rfl (lv_at hl 2 rfl) ?_
  refine lv_dup2_11 hx hb dX12_step_74 rfl rfl ?_
  refine x_iald (t0 := 0) F hK hW rd_d15 rd_15 rfl dX12_step_75 h (fun h => ?_)
  refine lv_iconst (v := (1 : Int32)) hx hb dX12_step_76 (by decide) ?_
  refine lv_iadd hx hb dX12_step_77 ?_
  refine x_iast (t0 := 0) F hK hI hW hS rd_d15 rd_15 rfl dX12_step_78 h (fun S5 H locs hW hS h => ?_)
  refine lv_iload_n hx hb dX12_step_79 rfl (lv_at hl 3 rfl) ?_
  refine lv_iconst (v := (4 : Int32)) hx hb dX12_step_80 (by decide) ?_
  refine lv_ishr hx hb dX12_step_81 ?_
  refine lv_istore (lv' := [(4, .int (v2 >>> ((4 : Int32) &&& 31))), (3, .int (xI S 0 16 (v1).toNatClampNeg)), (0, .ref (ad 0 0)), (1, .int v1), (2, .int v2)]) hx hb dX12_step_82 hl (by decide) rfl (fun ls hl => ?_)
  refine lv_iload hx hb dX12_step_84 (lv_at hl 0 rfl) ?_
  refine lv_bipush (v := (15 : Int32)) hx hb dX12_step_86 (by decide) ?_
  refine lv_icmp_ne (tgt := 124) hx hb dX12_step_88 (by decide) (fun c_6 => ?_) (fun c_6 => ?_)
  · replace h := (if_neg c_6).symm.trans h
    refine lv_aload_n hx hb dX12_step_124 rfl (lv_at hl 2 rfl) ?_
    refine lv_iload_n hx hb dX12_step_125 rfl (lv_at hl 3 rfl) ?_
    refine lv_iload hx hb dX12_step_126 (lv_at hl 0 rfl) ?_
    refine lv_aload_n hx hb dX12_step_128 rfl (lv_at hl 2 rfl) ?_
    refine x_get F hK hW xc_X12 rd_d0 rd_0 7 (by decide) k_5_135 (gf_X12_7 _ _) dX12_step_129 ?_
    refine lv_iload_n hx hb dX12_step_132 rfl (lv_at hl 3 rfl) ?_
    refine x_iald (t0 := 0) F hK hW rd_d8 rd_8 rfl dX12_step_133 h (fun h => ?_)
    refine x_cVv (As := [.int v1, .int (v2 >>> ((4 : Int32) &&& 31)), .int (xI S5 0 8 (v1).toNatClampNeg)]) F xG_ok hK hW hS um_X12_direct k_7_122 (fun _ h1 => m_r_direct hI _ _ _ h1) rfl rd_d0 rd_0 rfl rfl hl.1 rfl rfl ⟨Nat.le_of_ble_eq_true rfl, Nat.le_of_ble_eq_true rfl⟩ ⟨Nat.zero_le _, Nat.zero_le _⟩ (Nat.le_of_ble_eq_true rfl) dX12_step_134 h (fun S7 H locs hW hS h => ?_)
    refine lv_aload_n hx hb dX12_step_137 rfl (lv_at hl 2 rfl) ?_
    refine x_get F hK hW xc_X12 rd_d0 rd_0 7 (by decide) k_5_135 (gf_X12_7 _ _) dX12_step_138 ?_
    refine lv_iload_n hx hb dX12_step_141 rfl (lv_at hl 3 rfl) ?_
    refine lv_iload hx hb dX12_step_142 (lv_at hl 0 rfl) ?_
    refine lv_iconst (v := (2 : Int32)) hx hb dX12_step_144 (by decide) ?_
    refine lv_icmp_ne (tgt := 162) hx hb dX12_step_145 (by decide) (fun c_8 => ?_) (fun c_8 => ?_)
    · replace h := (if_neg c_8).symm.trans h
      refine lv_iload hx hb dX12_step_162 (lv_at hl 0 rfl) ?_
      refine lv_bipush (v := (6 : Int32)) hx hb dX12_step_164 (by decide) ?_
      refine lv_icmp_ne (tgt := 186) hx hb dX12_step_166 (by decide) (fun c_9 => ?_) (fun c_9 => ?_)
      · replace h := (if_neg c_9).symm.trans h
        refine lv_iconst (v := (0 : Int32)) hx hb dX12_step_186 (by decide) ?_
        exact m_r_step_b187 hI  F hr hlk hK _ _ _ _ _ h hW hS (lv_sub hl [2, 3, 1] rfl)
      replace h := (if_pos c_9).symm.trans h
      refine lv_ldc (v := (65535 : Int32)) hx hb F.2.2.2.1 (x_hts F _ k_6_102) dX12_step_169 ?_
      refine lv_aload_n hx hb dX12_step_171 rfl (lv_at hl 2 rfl) ?_
      refine x_get F hK hW xc_X12 rd_d0 rd_0 7 (by decide) k_5_135 (gf_X12_7 _ _) dX12_step_172 ?_
      refine lv_iload_n hx hb dX12_step_175 rfl (lv_at hl 3 rfl) ?_
      refine x_iald (t0 := 0) F hK hW rd_d8 rd_8 rfl dX12_step_176 h (fun h => ?_)
      refine lv_isub hx hb dX12_step_177 ?_
      refine lv_iconst (v := (4 : Int32)) hx hb dX12_step_178 (by decide) ?_
      refine lv_ishl hx hb dX12_step_179 ?_
      refine lv_ldc (v := (65535 : Int32)) hx hb F.2.2.2.1 (x_hts F _ k_6_102) dX12_step_180 ?_
      refine lv_iand hx hb dX12_step_182 ?_
      refine lv_goto (tgt := 187) hx hb dX12_step_183 (by decide) ?_
      exact m_r_step_b187 hI  F hr hlk hK _ _ _ _ _ h hW hS (lv_sub hl [2, 3, 1] rfl)
    replace h := (if_pos c_8).symm.trans h
    refine lv_aload_n hx hb dX12_step_148 rfl (lv_at hl 2 rfl) ?_
    refine x_get F hK hW xc_X12 rd_d0 rd_0 7 (by decide) k_5_135 (gf_X12_7 _ _) dX12_step_149 ?_
    refine lv_iload_n hx hb dX12_step_152 rfl (lv_at hl 3 rfl) ?_
    refine x_iald (t0 := 0) F hK hW rd_d8 rd_8 rfl dX12_step_153 h (fun h => ?_)
    refine lv_iconst (v := (4 : Int32)) hx hb dX12_step_154 (by decide) ?_
    refine lv_ishl hx hb dX12_step_155 ?_
    refine lv_ldc (v := (65535 : Int32)) hx hb F.2.2.2.1 (x_hts F _ k_6_102) dX12_step_156 ?_
    refine lv_iand hx hb dX12_step_158 ?_
    refine lv_goto (tgt := 187) hx hb dX12_step_159 (by decide) ?_
    exact m_r_step_b187 hI  F hr hlk hK _ _ _ _ _ h hW hS (lv_sub hl [2, 3, 1] rfl)
  replace h := (if_pos c_6).symm.trans h
  refine lv_aload_n hx hb dX12_step_91 rfl (lv_at hl 2 rfl) ?_
  refine lv_iload_n hx hb dX12_step_92 rfl (lv_at hl 3 rfl) ?_
  refine lv_aload_n hx hb dX12_step_93 rfl (lv_at hl 2 rfl) ?_
  refine x_get F hK hW xc_X12 rd_d0 rd_0 7 (by decide) k_5_135 (gf_X12_7 _ _) dX12_step_94 ?_
  refine lv_iload_n hx hb dX12_step_97 rfl (lv_at hl 3 rfl) ?_
  refine x_iald (t0 := 0) F hK hW rd_d8 rd_8 rfl dX12_step_98 h (fun h => ?_)
  refine x_cVi (As := [.int v1, .int (xI S5 0 8 (v1).toNatClampNeg)]) F xG_ok hK hW hS um_X12_operates k_6_204 (fun _ h1 => m_r_operates hI _ _ h1) rfl rd_d0 rd_0 rfl rfl hl.1 rfl rfl ⟨Nat.le_of_ble_eq_true rfl, Nat.le_of_ble_eq_true rfl⟩ ⟨Nat.zero_le _, Nat.zero_le _⟩ (Nat.le_of_ble_eq_true rfl) dX12_step_99 h (fun r_18 S18 H locs hW hS h => ?_)
  refine lv_if_eq (tgt := 115) hx hb dX12_step_102 (by decide) (fun c_19 => ?_) (fun c_19 => ?_)
  · replace h := (if_pos c_19).symm.trans h
    refine lv_aload_n hx hb dX12_step_115 rfl (lv_at hl 2 rfl) ?_
    refine lv_iload_n hx hb dX12_step_116 rfl (lv_at hl 3 rfl) ?_
    refine lv_iconst (v := (1 : Int32)) hx hb dX12_step_117 (by decide) ?_
    refine x_cVv (As := [.int v1, .int (1 : Int32)]) F xG_ok hK hW hS um_X12_stop k_6_184 (fun _ h1 => m_r_stop hI _ _ h1) rfl rd_d0 rd_0 rfl rfl hl.1 rfl rfl ⟨Nat.le_of_ble_eq_true rfl, Nat.le_of_ble_eq_true rfl⟩ ⟨Nat.zero_le _, Nat.zero_le _⟩ (Nat.le_of_ble_eq_true rfl) dX12_step_118 h (fun S20 H locs hW hS h => ?_)
    refine lv_goto (tgt := 188) hx hb dX12_step_121 (by decide) ?_
    exact m_r_step_b188 hI  F hr hlk hK _ _ _ h hW hS (lv_sub hl [2, 3, 1] rfl)
  replace h := (if_neg c_19).symm.trans h
  refine lv_aload_n hx hb dX12_step_105 rfl (lv_at hl 2 rfl) ?_
  refine x_get F hK hW xc_X12 rd_d0 rd_0 7 (by decide) k_5_135 (gf_X12_7 _ _) dX12_step_106 ?_
  refine lv_iload_n hx hb dX12_step_109 rfl (lv_at hl 3 rfl) ?_
  refine lv_iconst (v := (0 : Int32)) hx hb dX12_step_110 (by decide) ?_
  refine x_iast (t0 := 0) F hK hI hW hS rd_d8 rd_8 rfl dX12_step_111 h (fun S21 H locs hW hS h => ?_)
  refine lv_goto (tgt := 188) hx hb dX12_step_112 (by decide) ?_
  exact m_r_step_b188 hI  F hr hlk hK _ _ _ h hW hS (lv_sub hl [2, 3, 1] rfl)
def r_step  (S : xS) (a1 : Int32) : Option (xS) := gd a1 8 ((r_byteAt  S a1 (xI S 0 9 (a1).toNatClampNeg)).bind (fun (r_1, S1) => gd a1 8 (gd a1 8 (xnm (sI S1 0 9 (a1).toNatClampNeg (((xI S1 0 9 (a1).toNatClampNeg) + (1 : Int32)) &&& (65535 : Int32))) (fun S2 => gd a1 8 (gd a1 8 (xnm (sI S2 0 8 (a1).toNatClampNeg ((xI S2 0 8 (a1).toNatClampNeg) ||| (r_1 &&& (15 : Int32)))) (fun S3 => gd a1 8 (if (xI S3 0 11 (a1).toNatClampNeg) = (1 : Int32) then (gd a1 8 (gd a1 8 (xnm (sI S3 0 12 (a1).toNatClampNeg ((xI S3 0 12 (a1).toNatClampNeg) + (1 : Int32))) (fun S22 => r_step_b62  a1 r_1 S22)))) else (r_step_b62  a1 r_1 S3))))))))))
set_option maxHeartbeats 4000000 in
set_option maxRecDepth 100000 in
theorem m_r_step {l : Launch} {D : va_G} {cI cZ cB : ClassId} {ad : Nat → Nat → Nat} (hI : xInj rDom ad) {S : xS} (a1 : Int32) {o : xS} (h : r_step  S a1 = some o) : Met l yX12_step (Cond.code yX12_step cX12_step 5 none :: xG) { frames := 7, cells := 0, slots := 0, locals := 173 } (xPc D vwCl (rTy cI cZ cB) [] [] rDom ad (rDe ad cI cZ cB) [.ref (ad 0 0), .int a1] S) (xQ D vwCl rDom ad (rDe ad cI cZ cB) none o) 0 0 (xA rDom ad) := by
  unfold r_step at h
  refine x_enter (by decide) (Nat.le_of_ble_eq_true rfl) (fun p e s m below meth c F hr hlk hK hW hS ls hl => ?_)
  have hl : lv_has ls 5 [(0, .ref (ad 0 0)), (1, .int a1)] := hl
  have hx := F.1
  have hb := F.2.1
  refine lv_aload_n hx hb dX12_step_0 rfl (lv_at hl 0 rfl) ?_
  refine lv_iload_n hx hb dX12_step_1 rfl (lv_at hl 1 rfl) ?_
  refine lv_aload_n hx hb dX12_step_2 rfl (lv_at hl 0 rfl) ?_
  refine x_get F hK hW xc_X12 rd_d0 rd_0 8 (by decide) k_5_136 (gf_X12_8 _ _) dX12_step_3 ?_
  refine lv_iload_n hx hb dX12_step_6 rfl (lv_at hl 1 rfl) ?_
  refine x_iald (t0 := 0) F hK hW rd_d9 rd_9 rfl dX12_step_7 h (fun h => ?_)
  refine x_cVi (As := [.int a1, .int (xI S 0 9 (a1).toNatClampNeg)]) F xG_ok hK hW hS um_X12_byteAt k_6_120 (fun _ h1 => m_r_byteAt hI _ _ h1) rfl rd_d0 rd_0 rfl rfl hl.1 rfl rfl ⟨Nat.le_of_ble_eq_true rfl, Nat.le_of_ble_eq_true rfl⟩ ⟨Nat.zero_le _, Nat.zero_le _⟩ (Nat.le_of_ble_eq_true rfl) dX12_step_8 h (fun r_1 S1 H locs hW hS h => ?_)
  refine lv_istore_n (lv' := [(2, .int r_1), (0, .ref (ad 0 0)), (1, .int a1)]) hx hb dX12_step_11 rfl hl (by decide) rfl (fun ls hl => ?_)
  refine lv_aload_n hx hb dX12_step_12 rfl (lv_at hl 1 rfl) ?_
  refine x_get F hK hW xc_X12 rd_d0 rd_0 8 (by decide) k_5_136 (gf_X12_8 _ _) dX12_step_13 ?_
  refine lv_iload_n hx hb dX12_step_16 rfl (lv_at hl 2 rfl) ?_
  refine lv_aload_n hx hb dX12_step_17 rfl (lv_at hl 1 rfl) ?_
  refine x_get F hK hW xc_X12 rd_d0 rd_0 8 (by decide) k_5_136 (gf_X12_8 _ _) dX12_step_18 ?_
  refine lv_iload_n hx hb dX12_step_21 rfl (lv_at hl 2 rfl) ?_
  refine x_iald (t0 := 0) F hK hW rd_d9 rd_9 rfl dX12_step_22 h (fun h => ?_)
  refine lv_iconst (v := (1 : Int32)) hx hb dX12_step_23 (by decide) ?_
  refine lv_iadd hx hb dX12_step_24 ?_
  refine lv_ldc (v := (65535 : Int32)) hx hb F.2.2.2.1 (x_hts F _ k_6_102) dX12_step_25 ?_
  refine lv_iand hx hb dX12_step_27 ?_
  refine x_iast (t0 := 0) F hK hI hW hS rd_d9 rd_9 rfl dX12_step_28 h (fun S2 H locs hW hS h => ?_)
  refine lv_aload_n hx hb dX12_step_29 rfl (lv_at hl 1 rfl) ?_
  refine x_get F hK hW xc_X12 rd_d0 rd_0 7 (by decide) k_5_135 (gf_X12_7 _ _) dX12_step_30 ?_
  refine lv_iload_n hx hb dX12_step_33 rfl (lv_at hl 2 rfl) ?_
  refine lv_dup2_11 hx hb dX12_step_34 rfl rfl ?_
  refine x_iald (t0 := 0) F hK hW rd_d8 rd_8 rfl dX12_step_35 h (fun h => ?_)
  refine lv_iload_n hx hb dX12_step_36 rfl (lv_at hl 0 rfl) ?_
  refine lv_bipush (v := (15 : Int32)) hx hb dX12_step_37 (by decide) ?_
  refine lv_iand hx hb dX12_step_39 ?_
  refine lv_ior hx hb dX12_step_40 ?_
  refine x_iast (t0 := 0) F hK hI hW hS rd_d8 rd_8 rfl dX12_step_41 h (fun S3 H locs hW hS h => ?_)
  refine lv_aload_n hx hb dX12_step_42 rfl (lv_at hl 1 rfl) ?_
  refine x_get F hK hW xc_X12 rd_d0 rd_0 10 (by decide) k_5_138 (gf_X12_10 _ _) dX12_step_43 ?_
  refine lv_iload_n hx hb dX12_step_46 rfl (lv_at hl 2 rfl) ?_
  refine x_iald (t0 := 0) F hK hW rd_d11 rd_11 rfl dX12_step_47 h (fun h => ?_)
  refine lv_iconst (v := (1 : Int32)) hx hb dX12_step_48 (by decide) ?_
  refine lv_icmp_ne (tgt := 62) hx hb dX12_step_49 (by decide) (fun c_4 => ?_) (fun c_4 => ?_)
  · replace h := (if_neg c_4).symm.trans h
    exact m_r_step_b62 hI  F hr hlk hK _ _ _ h hW hS (lv_sub hl [1, 2, 0] rfl)
  replace h := (if_pos c_4).symm.trans h
  refine lv_aload_n hx hb dX12_step_52 rfl (lv_at hl 1 rfl) ?_
  refine x_get F hK hW xc_X12 rd_d0 rd_0 11 (by decide) k_5_139 (gf_X12_11 _ _) dX12_step_53 ?_
  refine lv_iload_n hx hb dX12_step_56 rfl (lv_at hl 2 rfl) ?_
  refine lv_dup2_11 hx hb dX12_step_57 rfl rfl ?_
  refine x_iald (t0 := 0) F hK hW rd_d12 rd_12 rfl dX12_step_58 h (fun h => ?_)
  refine lv_iconst (v := (1 : Int32)) hx hb dX12_step_59 (by decide) ?_
  refine lv_iadd hx hb dX12_step_60 ?_
  refine x_iast (t0 := 0) F hK hI hW hS rd_d12 rd_12 rfl dX12_step_61 h (fun S22 H locs hW hS h => ?_)
  exact m_r_step_b62 hI  F hr hlk hK _ _ _ h hW hS (lv_sub hl [1, 2, 0] rfl)
/-! X12_sets -/
def r_sets_b150 (K31 : Int32 → Int32 → Int32 → Int32 → Int32 → Int32 → xS → Option (xS)) (v1 : Int32) (v2 : Int32) (v3 : Int32) (v4 : Int32) (v5 : Int32) (v6 : Int32) (S : xS) : Option (xS) := K31 v1 v2 v3 v4 v5 (v6 + (1 : Int32)) S
set_option maxHeartbeats 4000000 in
set_option maxRecDepth 100000 in
theorem m_r_sets_b150 {l : Launch} {D : va_G} {cI cZ cB : ClassId} {ad : Nat → Nat → Nat} (hI : xInj rDom ad) {p : Program} {e : Env} {s : State} {m : MethodId} {args : Array Value} {below : List Frame} {meth : Method} {c : Code} (F : CallFix p m c cX12_sets 8 s args (Cond.code yX12_sets cX12_sets 8 none :: xG) (yX12_sets).cls) (hr : meth.sig.returnType = none) (hlk : meth.locks = false) (hK : xK D vwCl (rTy cI cZ cB) [] [] s) {o : xS} {K31 : Int32 → Int32 → Int32 → Int32 → Int32 → Int32 → xS → Option (xS)} (hk31 : ∀ (v1 : Int32) (v2 : Int32) (v3 : Int32) (v4 : Int32) (v5 : Int32) (v6 : Int32) (S : xS) (H : Heap) (locs : List Loc) (ls : Array Slot), K31 v1 v2 v3 v4 v5 v6 S = some o → xW D vwCl rDom ad (rDe ad cI cZ cB) S H → va_S (xA rDom ad) s.heap H locs → lv_has ls 8 [(0, .ref (ad 0 0)), (1, .int v1), (2, .int v2), (3, .int v3), (4, .int v4), (5, .int v5), (6, .int v6)] → W p l e { frames := 3, cells := 0, slots := 0, locals := 72 } s m args below meth c H locs 0 0 (MQ below (xQ D vwCl rDom ad (rDe ad cI cZ cB) none o) args s 0 0 (xA rDom ad)) (F0 m 31 ls [])) (v1 : Int32) (v2 : Int32) (v3 : Int32) (v4 : Int32) (v5 : Int32) (v6 : Int32) (S : xS) {H : Heap} {locs : List Loc} {ls : Array Slot} (h : r_sets_b150 K31 v1 v2 v3 v4 v5 v6 S = some o) (hW : xW D vwCl rDom ad (rDe ad cI cZ cB) S H) (hS : va_S (xA rDom ad) s.heap H locs) (hl : lv_has ls 8 [(0, .ref (ad 0 0)), (1, .int v1), (2, .int v2), (3, .int v3), (4, .int v4), (5, .int v5), (6, .int v6)]) : W p l e { frames := 3, cells := 0, slots := 0, locals := 72 } s m args below meth c H locs 0 0 (MQ below (xQ D vwCl rDom ad (rDe ad cI cZ cB) none o) args s 0 0 (xA rDom ad)) (F0 m 150 ls []) := by
  have hx := F.1
  have hb := F.2.1
  unfold r_sets_b150 at h
  refine lv_iinc (v := (v6 + (1 : Int32))) (lv' := [(6, .int (v6 + (1 : Int32))), (0, .ref (ad 0 0)), (1, .int v1), (2, .int v2), (3, .int v3), (4, .int v4), (5, .int v5)]) hx hb dX12_sets_150 hl (k := 6) rfl rfl (by decide) rfl (fun ls hl => ?_)
  refine lv_goto (tgt := 31) hx hb dX12_sets_153 (by decide) ?_
  exact hk31 _ _ _ _ _ _ _ _ _ _ h hW hS (lv_sub hl [1, 2, 3, 4, 5, 6, 0] rfl)
def r_sets_b114 (K31 : Int32 → Int32 → Int32 → Int32 → Int32 → Int32 → xS → Option (xS)) (v1 : Int32) (v2 : Int32) (v3 : Int32) (v4 : Int32) (v5 : Int32) (v6 : Int32) (v7 : Int32) (S : xS) : Option (xS) := gd (((64 : Int32) * v1) + v4) 512 (xnm (sI S 0 31 ((((64 : Int32) * v1) + v4)).toNatClampNeg v7) (fun S5 => gd v6 512 (gd (((64 : Int32) * v1) + v4) 512 (xnm (sI S5 0 32 ((((64 : Int32) * v1) + v4)).toNatClampNeg (xI S5 0 32 (v6).toNatClampNeg)) (fun S6 => r_sets_b150  K31 v1 v2 v3 (v4 + (1 : Int32)) v5 v6 S6)))))
set_option maxHeartbeats 4000000 in
set_option maxRecDepth 100000 in
theorem m_r_sets_b114 {l : Launch} {D : va_G} {cI cZ cB : ClassId} {ad : Nat → Nat → Nat} (hI : xInj rDom ad) {p : Program} {e : Env} {s : State} {m : MethodId} {args : Array Value} {below : List Frame} {meth : Method} {c : Code} (F : CallFix p m c cX12_sets 8 s args (Cond.code yX12_sets cX12_sets 8 none :: xG) (yX12_sets).cls) (hr : meth.sig.returnType = none) (hlk : meth.locks = false) (hK : xK D vwCl (rTy cI cZ cB) [] [] s) {o : xS} {K31 : Int32 → Int32 → Int32 → Int32 → Int32 → Int32 → xS → Option (xS)} (hk31 : ∀ (v1 : Int32) (v2 : Int32) (v3 : Int32) (v4 : Int32) (v5 : Int32) (v6 : Int32) (S : xS) (H : Heap) (locs : List Loc) (ls : Array Slot), K31 v1 v2 v3 v4 v5 v6 S = some o → xW D vwCl rDom ad (rDe ad cI cZ cB) S H → va_S (xA rDom ad) s.heap H locs → lv_has ls 8 [(0, .ref (ad 0 0)), (1, .int v1), (2, .int v2), (3, .int v3), (4, .int v4), (5, .int v5), (6, .int v6)] → W p l e { frames := 3, cells := 0, slots := 0, locals := 72 } s m args below meth c H locs 0 0 (MQ below (xQ D vwCl rDom ad (rDe ad cI cZ cB) none o) args s 0 0 (xA rDom ad)) (F0 m 31 ls [])) (v1 : Int32) (v2 : Int32) (v3 : Int32) (v4 : Int32) (v5 : Int32) (v6 : Int32) (v7 : Int32) (S : xS) {H : Heap} {locs : List Loc} {ls : Array Slot} (h : r_sets_b114 K31 v1 v2 v3 v4 v5 v6 v7 S = some o) (hW : xW D vwCl rDom ad (rDe ad cI cZ cB) S H) (hS : va_S (xA rDom ad) s.heap H locs) (hl : lv_has ls 8 [(0, .ref (ad 0 0)), (1, .int v1), (2, .int v2), (3, .int v3), (4, .int v4), (5, .int v5), (6, .int v6), (7, .int v7)]) : W p l e { frames := 3, cells := 0, slots := 0, locals := 72 } s m args below meth c H locs 0 0 (MQ below (xQ D vwCl rDom ad (rDe ad cI cZ cB) none o) args s 0 0 (xA rDom ad)) (F0 m 114 ls []) := by
  have hx := F.1
  have hb := F.2.1
  unfold r_sets_b114 at h
  refine lv_aload_n hx hb dX12_sets_114 rfl (lv_at hl 0 rfl) ?_
  refine x_get F hK hW xc_X12 rd_d0 rd_0 30 (by decide) k_5_158 (gf_X12_30 _ _) dX12_sets_115 ?_
  refine lv_bipush (v := (64 : Int32)) hx hb dX12_sets_118 (by decide) ?_
  refine lv_iload_n hx hb dX12_sets_120 rfl (lv_at hl 1 rfl) ?_
  refine lv_imul hx hb dX12_sets_121 ?_
  refine lv_iload hx hb dX12_sets_122 (lv_at hl 4 rfl) ?_
  refine lv_iadd hx hb dX12_sets_124 ?_
  refine lv_iload hx hb dX12_sets_125 (lv_at hl 7 rfl) ?_
  refine x_iast (t0 := 0) F hK hI hW hS rd_d31 rd_31 rfl dX12_sets_127 h (fun S5 H locs hW hS h => ?_)
  refine lv_aload_n hx hb dX12_sets_128 rfl (lv_at hl 0 rfl) ?_
  refine x_get F hK hW xc_X12 rd_d0 rd_0 31 (by decide) k_5_159 (gf_X12_31 _ _) dX12_sets_129 ?_
  refine lv_bipush (v := (64 : Int32)) hx hb dX12_sets_132 (by decide) ?_
  refine lv_iload_n hx hb dX12_sets_134 rfl (lv_at hl 1 rfl) ?_
  refine lv_imul hx hb dX12_sets_135 ?_
  refine lv_iload hx hb dX12_sets_136 (lv_at hl 4 rfl) ?_
  refine lv_iadd hx hb dX12_sets_138 ?_
  refine lv_aload_n hx hb dX12_sets_139 rfl (lv_at hl 0 rfl) ?_
  refine x_get F hK hW xc_X12 rd_d0 rd_0 31 (by decide) k_5_159 (gf_X12_31 _ _) dX12_sets_140 ?_
  refine lv_iload hx hb dX12_sets_143 (lv_at hl 6 rfl) ?_
  refine x_iald (t0 := 0) F hK hW rd_d32 rd_32 rfl dX12_sets_145 h (fun h => ?_)
  refine x_iast (t0 := 0) F hK hI hW hS rd_d32 rd_32 rfl dX12_sets_146 h (fun S6 H locs hW hS h => ?_)
  refine lv_iinc (v := (v4 + (1 : Int32))) (lv' := [(4, .int (v4 + (1 : Int32))), (0, .ref (ad 0 0)), (1, .int v1), (2, .int v2), (3, .int v3), (5, .int v5), (6, .int v6), (7, .int v7)]) hx hb dX12_sets_147 hl (k := 4) rfl rfl (by decide) rfl (fun ls hl => ?_)
  exact m_r_sets_b150 hI  F hr hlk hK hk31 _ _ _ _ _ _ _ h hW hS (lv_sub hl [1, 2, 3, 4, 0, 5, 6] rfl)
def r_sets_b31 : Nat → Int32 → Int32 → Int32 → Int32 → Int32 → Int32 → xS → Option (xS)
  | 0, _, _, _, _, _, _, _ => none
  | fu + 1, v1, v2, v3, v4, v5, v6, S => if (((64 : Int32) * v1) + v5) ≤ v6 then (gd v1 8 (xnm (sI S 0 30 (v1).toNatClampNeg v4) (fun S3 => some S3))) else (gd v6 512 (if ((xI S 0 31 (v6).toNatClampNeg) &&& (1 : Int32)) = v2 then (gd v6 512 ((r_isLater v3 (xI S 0 32 (v6).toNatClampNeg)).bind (fun r_7 => if r_7 = 0 then (r_sets_b114  (r_sets_b31 fu) v1 v2 v3 v4 v5 v6 (xI S 0 31 (v6).toNatClampNeg) S) else ((r_wordTo  S v1 (((xI S 0 31 (v6).toNatClampNeg) &&& (65534 : Int32)) - (6 : Int32)) (32771 : Int32)).bind (fun S9 => (r_wordTo  S9 v1 (((xI S 0 31 (v6).toNatClampNeg) &&& (65534 : Int32)) - (10 : Int32)) v3).bind (fun S10 => (r_ready  S10 v1 (xI S 0 31 (v6).toNatClampNeg)).bind (fun S11 => r_sets_b150  (r_sets_b31 fu) v1 v2 v3 v4 v5 v6 S11))))))) else (r_sets_b114  (r_sets_b31 fu) v1 v2 v3 v4 v5 v6 (xI S 0 31 (v6).toNatClampNeg) S)))
set_option maxHeartbeats 4000000 in
set_option maxRecDepth 100000 in
theorem m_r_sets_b31 {l : Launch} {D : va_G} {cI cZ cB : ClassId} {ad : Nat → Nat → Nat} (hI : xInj rDom ad) {p : Program} {e : Env} {s : State} {m : MethodId} {args : Array Value} {below : List Frame} {meth : Method} {c : Code} (F : CallFix p m c cX12_sets 8 s args (Cond.code yX12_sets cX12_sets 8 none :: xG) (yX12_sets).cls) (hr : meth.sig.returnType = none) (hlk : meth.locks = false) (hK : xK D vwCl (rTy cI cZ cB) [] [] s) {o : xS} : ∀ (fu : Nat) (v1 : Int32) (v2 : Int32) (v3 : Int32) (v4 : Int32) (v5 : Int32) (v6 : Int32) (S : xS) {H : Heap} {locs : List Loc} {ls : Array Slot}, r_sets_b31 fu v1 v2 v3 v4 v5 v6 S = some o → xW D vwCl rDom ad (rDe ad cI cZ cB) S H → va_S (xA rDom ad) s.heap H locs → lv_has ls 8 [(0, .ref (ad 0 0)), (1, .int v1), (2, .int v2), (3, .int v3), (4, .int v4), (5, .int v5), (6, .int v6)] → W p l e { frames := 3, cells := 0, slots := 0, locals := 72 } s m args below meth c H locs 0 0 (MQ below (xQ D vwCl rDom ad (rDe ad cI cZ cB) none o) args s 0 0 (xA rDom ad)) (F0 m 31 ls []) := by
  have hx := F.1
  have hb := F.2.1
  intro fu
  induction fu with
  | zero =>
    intro v1 v2 v3 v4 v5 v6 S H locs ls h
    simp [r_sets_b31] at h
  | succ fu ih =>
    intro v1 v2 v3 v4 v5 v6 S H locs ls h hW hS hl
    have hk31 := fun v1 v2 v3 v4 v5 v6 S H locs ls (h : r_sets_b31 fu v1 v2 v3 v4 v5 v6 S = some o) hW hS hl => ih v1 v2 v3 v4 v5 v6 S (H := H) (locs := locs) (ls := ls) h hW hS hl
    rw [r_sets_b31] at h
    refine lv_iload hx hb dX12_sets_31 (lv_at hl 6 rfl) ?_
    refine lv_bipush (v := (64 : Int32)) hx hb dX12_sets_33 (by decide) ?_
    refine lv_iload_n hx hb dX12_sets_35 rfl (lv_at hl 1 rfl) ?_
    refine lv_imul hx hb dX12_sets_36 ?_
    refine lv_iload hx hb dX12_sets_37 (lv_at hl 5 rfl) ?_
    refine lv_iadd hx hb dX12_sets_39 ?_
    refine lv_icmp_ge (tgt := 156) hx hb dX12_sets_40 (by decide) (fun c_2 => ?_) (fun c_2 => ?_)
    · replace h := (if_pos c_2).symm.trans h
      refine lv_aload_n hx hb dX12_sets_156 rfl (lv_at hl 0 rfl) ?_
      refine x_get F hK hW xc_X12 rd_d0 rd_0 29 (by decide) k_5_157 (gf_X12_29 _ _) dX12_sets_157 ?_
      refine lv_iload_n hx hb dX12_sets_160 rfl (lv_at hl 1 rfl) ?_
      refine lv_iload hx hb dX12_sets_161 (lv_at hl 4 rfl) ?_
      refine x_iast (t0 := 0) F hK hI hW hS rd_d30 rd_30 rfl dX12_sets_163 h (fun S3 H locs hW hS h => ?_)
      exact x_vret F hr hlk hW hS dX12_sets_164 h
    replace h := (if_neg c_2).symm.trans h
    refine lv_aload_n hx hb dX12_sets_43 rfl (lv_at hl 0 rfl) ?_
    refine x_get F hK hW xc_X12 rd_d0 rd_0 30 (by decide) k_5_158 (gf_X12_30 _ _) dX12_sets_44 ?_
    refine lv_iload hx hb dX12_sets_47 (lv_at hl 6 rfl) ?_
    refine x_iald (t0 := 0) F hK hW rd_d31 rd_31 rfl dX12_sets_49 h (fun h => ?_)
    refine lv_istore (lv' := [(7, .int (xI S 0 31 (v6).toNatClampNeg)), (0, .ref (ad 0 0)), (1, .int v1), (2, .int v2), (3, .int v3), (4, .int v4), (5, .int v5), (6, .int v6)]) hx hb dX12_sets_50 hl (by decide) rfl (fun ls hl => ?_)
    refine lv_iload hx hb dX12_sets_52 (lv_at hl 0 rfl) ?_
    refine lv_iconst (v := (1 : Int32)) hx hb dX12_sets_54 (by decide) ?_
    refine lv_iand hx hb dX12_sets_55 ?_
    refine lv_iload_n hx hb dX12_sets_56 rfl (lv_at hl 3 rfl) ?_
    refine lv_icmp_ne (tgt := 114) hx hb dX12_sets_57 (by decide) (fun c_4 => ?_) (fun c_4 => ?_)
    · replace h := (if_neg c_4).symm.trans h
      exact m_r_sets_b114 hI  F hr hlk hK hk31 _ _ _ _ _ _ _ _ h hW hS (lv_sub hl [1, 2, 3, 4, 5, 6, 7, 0] rfl)
    replace h := (if_pos c_4).symm.trans h
    refine lv_iload_n hx hb dX12_sets_60 rfl (lv_at hl 4 rfl) ?_
    refine lv_aload_n hx hb dX12_sets_61 rfl (lv_at hl 1 rfl) ?_
    refine x_get F hK hW xc_X12 rd_d0 rd_0 31 (by decide) k_5_159 (gf_X12_31 _ _) dX12_sets_62 ?_
    refine lv_iload hx hb dX12_sets_65 (lv_at hl 7 rfl) ?_
    refine x_iald (t0 := 0) F hK hW rd_d32 rd_32 rfl dX12_sets_67 h (fun h => ?_)
    refine x_cSo (As := [.int v3, .int (xI S 0 32 (v6).toNatClampNeg)]) F xG_ok hS um_X12_isLater k_6_177 (fun _ h1 => m_r_isLater _ _ h1) rfl rfl hl.1 rfl rfl ⟨Nat.le_of_ble_eq_true rfl, Nat.le_of_ble_eq_true rfl⟩ ⟨Nat.zero_le _, Nat.zero_le _⟩ (Nat.le_of_ble_eq_true rfl) dX12_sets_68 h (fun r_7 locs hS h => ?_)
    refine lv_if_eq (tgt := 114) hx hb dX12_sets_71 (by decide) (fun c_8 => ?_) (fun c_8 => ?_)
    · replace h := (if_pos c_8).symm.trans h
      exact m_r_sets_b114 hI  F hr hlk hK hk31 _ _ _ _ _ _ _ _ h hW hS (lv_sub hl [1, 2, 3, 4, 5, 6, 7, 0] rfl)
    replace h := (if_neg c_8).symm.trans h
    refine lv_aload_n hx hb dX12_sets_74 rfl (lv_at hl 1 rfl) ?_
    refine lv_iload_n hx hb dX12_sets_75 rfl (lv_at hl 2 rfl) ?_
    refine lv_iload hx hb dX12_sets_76 (lv_at hl 0 rfl) ?_
    refine lv_ldc (v := (65534 : Int32)) hx hb F.2.2.2.1 (x_hts F _ k_6_103) dX12_sets_78 ?_
    refine lv_iand hx hb dX12_sets_80 ?_
    refine lv_bipush (v := (6 : Int32)) hx hb dX12_sets_81 (by decide) ?_
    refine lv_isub hx hb dX12_sets_83 ?_
    refine lv_ldcw (v := (32771 : Int32)) hx hb F.2.2.2.1 (x_hts F _ k_6_159) dX12_sets_84 ?_
    refine x_cVv (As := [.int v1, .int (((xI S 0 31 (v6).toNatClampNeg) &&& (65534 : Int32)) - (6 : Int32)), .int (32771 : Int32)]) F xG_ok hK hW hS um_X12_wordTo k_6_137 (fun _ h1 => m_r_wordTo hI _ _ _ h1) rfl rd_d0 rd_0 rfl rfl hl.1 rfl rfl ⟨Nat.le_of_ble_eq_true rfl, Nat.le_of_ble_eq_true rfl⟩ ⟨Nat.zero_le _, Nat.zero_le _⟩ (Nat.le_of_ble_eq_true rfl) dX12_sets_87 h (fun S9 H locs hW hS h => ?_)
    refine lv_aload_n hx hb dX12_sets_90 rfl (lv_at hl 1 rfl) ?_
    refine lv_iload_n hx hb dX12_sets_91 rfl (lv_at hl 2 rfl) ?_
    refine lv_iload hx hb dX12_sets_92 (lv_at hl 0 rfl) ?_
    refine lv_ldc (v := (65534 : Int32)) hx hb F.2.2.2.1 (x_hts F _ k_6_103) dX12_sets_94 ?_
    refine lv_iand hx hb dX12_sets_96 ?_
    refine lv_bipush (v := (10 : Int32)) hx hb dX12_sets_97 (by decide) ?_
    refine lv_isub hx hb dX12_sets_99 ?_
    refine lv_iload_n hx hb dX12_sets_100 rfl (lv_at hl 4 rfl) ?_
    refine x_cVv (As := [.int v1, .int (((xI S 0 31 (v6).toNatClampNeg) &&& (65534 : Int32)) - (10 : Int32)), .int v3]) F xG_ok hK hW hS um_X12_wordTo k_6_137 (fun _ h1 => m_r_wordTo hI _ _ _ h1) rfl rd_d0 rd_0 rfl rfl hl.1 rfl rfl ⟨Nat.le_of_ble_eq_true rfl, Nat.le_of_ble_eq_true rfl⟩ ⟨Nat.zero_le _, Nat.zero_le _⟩ (Nat.le_of_ble_eq_true rfl) dX12_sets_101 h (fun S10 H locs hW hS h => ?_)
    refine lv_aload_n hx hb dX12_sets_104 rfl (lv_at hl 1 rfl) ?_
    refine lv_iload_n hx hb dX12_sets_105 rfl (lv_at hl 2 rfl) ?_
    refine lv_iload hx hb dX12_sets_106 (lv_at hl 0 rfl) ?_
    refine x_cVv (As := [.int v1, .int (xI S 0 31 (v6).toNatClampNeg)]) F xG_ok hK hW hS um_X12_ready k_6_133 (fun _ h1 => m_r_ready hI _ _ h1) rfl rd_d0 rd_0 rfl rfl hl.1 rfl rfl ⟨Nat.le_of_ble_eq_true rfl, Nat.le_of_ble_eq_true rfl⟩ ⟨Nat.zero_le _, Nat.zero_le _⟩ (Nat.le_of_ble_eq_true rfl) dX12_sets_108 h (fun S11 H locs hW hS h => ?_)
    refine lv_goto (tgt := 150) hx hb dX12_sets_111 (by decide) ?_
    exact m_r_sets_b150 hI  F hr hlk hK hk31 _ _ _ _ _ _ _ h hW hS (lv_sub hl [1, 2, 3, 4, 5, 6, 7] rfl)
def r_sets  (S : xS) (a1 : Int32) (a2 : Int32) (a3 : Int32) : Option (xS) := gd (((2 : Int32) * a1) + a2) 16 (xnm (sI S 0 21 ((((2 : Int32) * a1) + a2)).toNatClampNeg (a3 &&& (65535 : Int32))) (fun S1 => gd a1 8 (r_sets_b31  (100000) a1 a2 a3 (0 : Int32) (xI S1 0 30 (a1).toNatClampNeg) ((64 : Int32) * a1) S1)))
set_option maxHeartbeats 4000000 in
set_option maxRecDepth 100000 in
theorem m_r_sets {l : Launch} {D : va_G} {cI cZ cB : ClassId} {ad : Nat → Nat → Nat} (hI : xInj rDom ad) {S : xS} (a1 : Int32) (a2 : Int32) (a3 : Int32) {o : xS} (h : r_sets  S a1 a2 a3 = some o) : Met l yX12_sets (Cond.code yX12_sets cX12_sets 8 none :: xG) { frames := 3, cells := 0, slots := 0, locals := 72 } (xPc D vwCl (rTy cI cZ cB) [] [] rDom ad (rDe ad cI cZ cB) [.ref (ad 0 0), .int a1, .int a2, .int a3] S) (xQ D vwCl rDom ad (rDe ad cI cZ cB) none o) 0 0 (xA rDom ad) := by
  unfold r_sets at h
  refine x_enter (by decide) (Nat.le_of_ble_eq_true rfl) (fun p e s m below meth c F hr hlk hK hW hS ls hl => ?_)
  have hl : lv_has ls 8 [(0, .ref (ad 0 0)), (1, .int a1), (2, .int a2), (3, .int a3)] := hl
  have hx := F.1
  have hb := F.2.1
  refine lv_aload_n hx hb dX12_sets_0 rfl (lv_at hl 0 rfl) ?_
  refine x_get F hK hW xc_X12 rd_d0 rd_0 20 (by decide) k_5_148 (gf_X12_20 _ _) dX12_sets_1 ?_
  refine lv_iconst (v := (2 : Int32)) hx hb dX12_sets_4 (by decide) ?_
  refine lv_iload_n hx hb dX12_sets_5 rfl (lv_at hl 1 rfl) ?_
  refine lv_imul hx hb dX12_sets_6 ?_
  refine lv_iload_n hx hb dX12_sets_7 rfl (lv_at hl 2 rfl) ?_
  refine lv_iadd hx hb dX12_sets_8 ?_
  refine lv_iload_n hx hb dX12_sets_9 rfl (lv_at hl 3 rfl) ?_
  refine lv_ldc (v := (65535 : Int32)) hx hb F.2.2.2.1 (x_hts F _ k_6_102) dX12_sets_10 ?_
  refine lv_iand hx hb dX12_sets_12 ?_
  refine x_iast (t0 := 0) F hK hI hW hS rd_d21 rd_21 rfl dX12_sets_13 h (fun S1 H locs hW hS h => ?_)
  refine lv_iconst (v := (0 : Int32)) hx hb dX12_sets_14 (by decide) ?_
  refine lv_istore (lv' := [(4, .int (0 : Int32)), (0, .ref (ad 0 0)), (1, .int a1), (2, .int a2), (3, .int a3)]) hx hb dX12_sets_15 hl (by decide) rfl (fun ls hl => ?_)
  refine lv_aload_n hx hb dX12_sets_17 rfl (lv_at hl 1 rfl) ?_
  refine x_get F hK hW xc_X12 rd_d0 rd_0 29 (by decide) k_5_157 (gf_X12_29 _ _) dX12_sets_18 ?_
  refine lv_iload_n hx hb dX12_sets_21 rfl (lv_at hl 2 rfl) ?_
  refine x_iald (t0 := 0) F hK hW rd_d30 rd_30 rfl dX12_sets_22 h (fun h => ?_)
  refine lv_istore (lv' := [(5, .int (xI S1 0 30 (a1).toNatClampNeg)), (4, .int (0 : Int32)), (0, .ref (ad 0 0)), (1, .int a1), (2, .int a2), (3, .int a3)]) hx hb dX12_sets_23 hl (by decide) rfl (fun ls hl => ?_)
  refine lv_bipush (v := (64 : Int32)) hx hb dX12_sets_25 (by decide) ?_
  refine lv_iload_n hx hb dX12_sets_27 rfl (lv_at hl 3 rfl) ?_
  refine lv_imul hx hb dX12_sets_28 ?_
  refine lv_istore (lv' := [(6, .int ((64 : Int32) * a1)), (5, .int (xI S1 0 30 (a1).toNatClampNeg)), (4, .int (0 : Int32)), (0, .ref (ad 0 0)), (1, .int a1), (2, .int a2), (3, .int a3)]) hx hb dX12_sets_29 hl (by decide) rfl (fun ls hl => ?_)
  exact m_r_sets_b31 hI  F hr hlk hK (100000) _ _ _ _ _ _ _ h hW hS (lv_sub hl [3, 4, 5, 6, 2, 1, 0] rfl)
/-! X12_goes -/
def r_goes  (S : xS) (a1 : Int32) : Option (Int32 × xS) := if a1 = (32 : Int32) then (gd ((xI S 0 0 59) &&& (4095 : Int32)) 4096 (some (((xI S 0 58 (((xI S 0 0 59) &&& (4095 : Int32))).toNatClampNeg) &&& (255 : Int32)), S))) else (gd a1 33 (if (xI S 0 43 (a1).toNatClampNeg) = 0 then (gd a1 33 ((r_byteAt  S (a1 / (4 : Int32)) (xI S 0 46 (a1).toNatClampNeg)).bind (fun (r_3, S3) => some (r_3, S3)))) else (gd a1 33 (if (xI S 0 45 (a1).toNatClampNeg) = (2 : Int32) then (gd a1 33 (some (((xI S 0 46 (a1).toNatClampNeg) &&& (255 : Int32)), S))) else (gd a1 33 (some ((((xI S 0 46 (a1).toNatClampNeg) >>> ((8 : Int32) &&& 31)) &&& (255 : Int32)), S)))))))
set_option maxHeartbeats 4000000 in
set_option maxRecDepth 100000 in
theorem m_r_goes {l : Launch} {D : va_G} {cI cZ cB : ClassId} {ad : Nat → Nat → Nat} (hI : xInj rDom ad) {S : xS} (a1 : Int32) {o : Int32 × xS} (h : r_goes  S a1 = some o) : Met l yX12_goes (Cond.code yX12_goes cX12_goes 2 (some .int) :: xG) { frames := 1, cells := 0, slots := 0, locals := 23 } (xPc D vwCl (rTy cI cZ cB) [] [] rDom ad (rDe ad cI cZ cB) [.ref (ad 0 0), .int a1] S) (xQ D vwCl rDom ad (rDe ad cI cZ cB) (some (.int o.1)) o.2) 0 0 (xA rDom ad) := by
  unfold r_goes at h
  refine x_enter (by decide) (Nat.le_of_ble_eq_true rfl) (fun p e s m below meth c F hr hlk hK hW hS ls hl => ?_)
  have hl : lv_has ls 2 [(0, .ref (ad 0 0)), (1, .int a1)] := hl
  have hx := F.1
  have hb := F.2.1
  refine lv_iload_n hx hb dX12_goes_0 rfl (lv_at hl 1 rfl) ?_
  refine lv_bipush (v := (32 : Int32)) hx hb dX12_goes_1 (by decide) ?_
  refine lv_icmp_ne (tgt := 24) hx hb dX12_goes_3 (by decide) (fun c_1 => ?_) (fun c_1 => ?_)
  · replace h := (if_neg c_1).symm.trans h
    refine lv_aload_n hx hb dX12_goes_24 rfl (lv_at hl 0 rfl) ?_
    refine x_get F hK hW xc_X12 rd_d0 rd_0 42 (by decide) k_5_170 (gf_X12_42 _ _) dX12_goes_25 ?_
    refine lv_iload_n hx hb dX12_goes_28 rfl (lv_at hl 1 rfl) ?_
    refine x_zald (t0 := 1) F hK hW rd_d43 rd_43 rfl dX12_goes_29 h (fun h => ?_)
    refine lv_if_eq (tgt := 68) hx hb dX12_goes_30 (by decide) (fun c_2 => ?_) (fun c_2 => ?_)
    · replace h := (if_pos c_2).symm.trans h
      refine lv_aload_n hx hb dX12_goes_68 rfl (lv_at hl 0 rfl) ?_
      refine lv_iload_n hx hb dX12_goes_69 rfl (lv_at hl 1 rfl) ?_
      refine lv_iconst (v := (4 : Int32)) hx hb dX12_goes_70 (by decide) ?_
      refine lv_idiv hx hb dX12_goes_71 (by decide) ?_
      refine lv_aload_n hx hb dX12_goes_72 rfl (lv_at hl 0 rfl) ?_
      refine x_get F hK hW xc_X12 rd_d0 rd_0 45 (by decide) k_5_173 (gf_X12_45 _ _) dX12_goes_73 ?_
      refine lv_iload_n hx hb dX12_goes_76 rfl (lv_at hl 1 rfl) ?_
      refine x_iald (t0 := 0) F hK hW rd_d46 rd_46 rfl dX12_goes_77 h (fun h => ?_)
      refine x_cVi (As := [.int (a1 / (4 : Int32)), .int (xI S 0 46 (a1).toNatClampNeg)]) F xG_ok hK hW hS um_X12_byteAt k_6_120 (fun _ h1 => m_r_byteAt hI _ _ h1) rfl rd_d0 rd_0 rfl rfl hl.1 rfl rfl ⟨Nat.le_of_ble_eq_true rfl, Nat.le_of_ble_eq_true rfl⟩ ⟨Nat.zero_le _, Nat.zero_le _⟩ (Nat.le_of_ble_eq_true rfl) dX12_goes_78 h (fun r_3 S3 H locs hW hS h => ?_)
      exact x_iret F hr hlk hW hS dX12_goes_81 h
    replace h := (if_neg c_2).symm.trans h
    refine lv_aload_n hx hb dX12_goes_33 rfl (lv_at hl 0 rfl) ?_
    refine x_get F hK hW xc_X12 rd_d0 rd_0 44 (by decide) k_5_172 (gf_X12_44 _ _) dX12_goes_34 ?_
    refine lv_iload_n hx hb dX12_goes_37 rfl (lv_at hl 1 rfl) ?_
    refine x_iald (t0 := 0) F hK hW rd_d45 rd_45 rfl dX12_goes_38 h (fun h => ?_)
    refine lv_iconst (v := (2 : Int32)) hx hb dX12_goes_39 (by decide) ?_
    refine lv_icmp_ne (tgt := 52) hx hb dX12_goes_40 (by decide) (fun c_4 => ?_) (fun c_4 => ?_)
    · replace h := (if_neg c_4).symm.trans h
      refine lv_aload_n hx hb dX12_goes_52 rfl (lv_at hl 0 rfl) ?_
      refine x_get F hK hW xc_X12 rd_d0 rd_0 45 (by decide) k_5_173 (gf_X12_45 _ _) dX12_goes_53 ?_
      refine lv_iload_n hx hb dX12_goes_56 rfl (lv_at hl 1 rfl) ?_
      refine x_iald (t0 := 0) F hK hW rd_d46 rd_46 rfl dX12_goes_57 h (fun h => ?_)
      refine lv_bipush (v := (8 : Int32)) hx hb dX12_goes_58 (by decide) ?_
      refine lv_ishr hx hb dX12_goes_60 ?_
      refine lv_sipush (v := (255 : Int32)) hx hb dX12_goes_61 (by decide) ?_
      refine lv_iand hx hb dX12_goes_64 ?_
      refine lv_goto (tgt := 81) hx hb dX12_goes_65 (by decide) ?_
      exact x_iret F hr hlk hW hS dX12_goes_81 h
    replace h := (if_pos c_4).symm.trans h
    refine lv_aload_n hx hb dX12_goes_43 rfl (lv_at hl 0 rfl) ?_
    refine x_get F hK hW xc_X12 rd_d0 rd_0 45 (by decide) k_5_173 (gf_X12_45 _ _) dX12_goes_44 ?_
    refine lv_iload_n hx hb dX12_goes_47 rfl (lv_at hl 1 rfl) ?_
    refine x_iald (t0 := 0) F hK hW rd_d46 rd_46 rfl dX12_goes_48 h (fun h => ?_)
    refine lv_goto (tgt := 61) hx hb dX12_goes_49 (by decide) ?_
    refine lv_sipush (v := (255 : Int32)) hx hb dX12_goes_61 (by decide) ?_
    refine lv_iand hx hb dX12_goes_64 ?_
    refine lv_goto (tgt := 81) hx hb dX12_goes_65 (by decide) ?_
    exact x_iret F hr hlk hW hS dX12_goes_81 h
  replace h := (if_pos c_1).symm.trans h
  refine lv_aload_n hx hb dX12_goes_6 rfl (lv_at hl 0 rfl) ?_
  refine x_get F hK hW xc_X12 rd_d0 rd_0 57 (by decide) k_5_185 (gf_X12_57 _ _) dX12_goes_7 ?_
  refine lv_aload_n hx hb dX12_goes_10 rfl (lv_at hl 0 rfl) ?_
  refine x_get F hK hW xc_X12 rd_d0 rd_0 59 (by decide) k_5_187 (gf_X12_59 _ _) dX12_goes_11 ?_
  refine lv_sipush (v := (4095 : Int32)) hx hb dX12_goes_14 (by decide) ?_
  refine lv_iand hx hb dX12_goes_17 ?_
  refine x_bald (t0 := 2) F hK hW rd_d58 rd_58 rfl dX12_goes_18 h (fun h => ?_)
  refine lv_sipush (v := (255 : Int32)) hx hb dX12_goes_19 (by decide) ?_
  refine lv_iand hx hb dX12_goes_22 ?_
  exact x_iret F hr hlk hW hS dX12_goes_23 h
/-! X12_puts -/
def r_puts_b112 (v1 : Int32) (S : xS) : Option (Int32 × xS) := gd v1 33 (gd v1 33 (gd v1 33 (gd v1 33 (xnm (sI S 0 37 (v1).toNatClampNeg ((xI S 0 37 (v1).toNatClampNeg) + (1 : Int32))) (fun S2 => gd v1 33 (gd v1 33 (if (xI S2 0 37 (v1).toNatClampNeg) = (xI S2 0 36 (v1).toNatClampNeg) then (gd v1 33 (xnm (sI S2 0 36 (v1).toNatClampNeg (0 : Int32)) (fun S4 => gd v1 33 (xnm (sI S4 0 37 (v1).toNatClampNeg (0 : Int32)) (fun S5 => some ((((xI S 0 35 (v1).toNatClampNeg) >>> ((xI S 0 37 (v1).toNatClampNeg) &&& 31)) &&& (1 : Int32)), S5)))))) else (some ((((xI S 0 35 (v1).toNatClampNeg) >>> ((xI S 0 37 (v1).toNatClampNeg) &&& 31)) &&& (1 : Int32)), S2)))))))))
set_option maxHeartbeats 4000000 in
set_option maxRecDepth 100000 in
theorem m_r_puts_b112 {l : Launch} {D : va_G} {cI cZ cB : ClassId} {ad : Nat → Nat → Nat} (hI : xInj rDom ad) {p : Program} {e : Env} {s : State} {m : MethodId} {args : Array Value} {below : List Frame} {meth : Method} {c : Code} (F : CallFix p m c cX12_puts 3 s args (Cond.code yX12_puts cX12_puts 3 (some .int) :: xG) (yX12_puts).cls) (hr : meth.sig.returnType = (some .int)) (hlk : meth.locks = false) (hK : xK D vwCl (rTy cI cZ cB) [] [] s) {o : Int32 × xS} (v1 : Int32) (S : xS) {H : Heap} {locs : List Loc} {ls : Array Slot} (h : r_puts_b112 v1 S = some o) (hW : xW D vwCl rDom ad (rDe ad cI cZ cB) S H) (hS : va_S (xA rDom ad) s.heap H locs) (hl : lv_has ls 3 [(0, .ref (ad 0 0)), (1, .int v1)]) : W p l e { frames := 2, cells := 0, slots := 0, locals := 44 } s m args below meth c H locs 0 0 (MQ below (xQ D vwCl rDom ad (rDe ad cI cZ cB) (some (.int o.1)) o.2) args s 0 0 (xA rDom ad)) (F0 m 112 ls []) := by
  have hx := F.1
  have hb := F.2.1
  unfold r_puts_b112 at h
  refine lv_aload_n hx hb dX12_puts_112 rfl (lv_at hl 0 rfl) ?_
  refine x_get F hK hW xc_X12 rd_d0 rd_0 34 (by decide) k_5_162 (gf_X12_34 _ _) dX12_puts_113 ?_
  refine lv_iload_n hx hb dX12_puts_116 rfl (lv_at hl 1 rfl) ?_
  refine x_iald (t0 := 0) F hK hW rd_d35 rd_35 rfl dX12_puts_117 h (fun h => ?_)
  refine lv_aload_n hx hb dX12_puts_118 rfl (lv_at hl 0 rfl) ?_
  refine x_get F hK hW xc_X12 rd_d0 rd_0 36 (by decide) k_5_164 (gf_X12_36 _ _) dX12_puts_119 ?_
  refine lv_iload_n hx hb dX12_puts_122 rfl (lv_at hl 1 rfl) ?_
  refine x_iald (t0 := 0) F hK hW rd_d37 rd_37 rfl dX12_puts_123 h (fun h => ?_)
  refine lv_ishr hx hb dX12_puts_124 ?_
  refine lv_iconst (v := (1 : Int32)) hx hb dX12_puts_125 (by decide) ?_
  refine lv_iand hx hb dX12_puts_126 ?_
  refine lv_istore_n (lv' := [(2, .int (((xI S 0 35 (v1).toNatClampNeg) >>> ((xI S 0 37 (v1).toNatClampNeg) &&& 31)) &&& (1 : Int32))), (0, .ref (ad 0 0)), (1, .int v1)]) hx hb dX12_puts_127 rfl hl (by decide) rfl (fun ls hl => ?_)
  refine lv_aload_n hx hb dX12_puts_128 rfl (lv_at hl 1 rfl) ?_
  refine x_get F hK hW xc_X12 rd_d0 rd_0 36 (by decide) k_5_164 (gf_X12_36 _ _) dX12_puts_129 ?_
  refine lv_iload_n hx hb dX12_puts_132 rfl (lv_at hl 2 rfl) ?_
  refine lv_dup2_11 hx hb dX12_puts_133 rfl rfl ?_
  refine x_iald (t0 := 0) F hK hW rd_d37 rd_37 rfl dX12_puts_134 h (fun h => ?_)
  refine lv_iconst (v := (1 : Int32)) hx hb dX12_puts_135 (by decide) ?_
  refine lv_iadd hx hb dX12_puts_136 ?_
  refine x_iast (t0 := 0) F hK hI hW hS rd_d37 rd_37 rfl dX12_puts_137 h (fun S2 H locs hW hS h => ?_)
  refine lv_aload_n hx hb dX12_puts_138 rfl (lv_at hl 1 rfl) ?_
  refine x_get F hK hW xc_X12 rd_d0 rd_0 36 (by decide) k_5_164 (gf_X12_36 _ _) dX12_puts_139 ?_
  refine lv_iload_n hx hb dX12_puts_142 rfl (lv_at hl 2 rfl) ?_
  refine x_iald (t0 := 0) F hK hW rd_d37 rd_37 rfl dX12_puts_143 h (fun h => ?_)
  refine lv_aload_n hx hb dX12_puts_144 rfl (lv_at hl 1 rfl) ?_
  refine x_get F hK hW xc_X12 rd_d0 rd_0 35 (by decide) k_5_163 (gf_X12_35 _ _) dX12_puts_145 ?_
  refine lv_iload_n hx hb dX12_puts_148 rfl (lv_at hl 2 rfl) ?_
  refine x_iald (t0 := 0) F hK hW rd_d36 rd_36 rfl dX12_puts_149 h (fun h => ?_)
  refine lv_icmp_ne (tgt := 167) hx hb dX12_puts_150 (by decide) (fun c_3 => ?_) (fun c_3 => ?_)
  · replace h := (if_neg c_3).symm.trans h
    refine lv_iload_n hx hb dX12_puts_167 rfl (lv_at hl 0 rfl) ?_
    exact x_iret F hr hlk hW hS dX12_puts_168 h
  replace h := (if_pos c_3).symm.trans h
  refine lv_aload_n hx hb dX12_puts_153 rfl (lv_at hl 1 rfl) ?_
  refine x_get F hK hW xc_X12 rd_d0 rd_0 35 (by decide) k_5_163 (gf_X12_35 _ _) dX12_puts_154 ?_
  refine lv_iload_n hx hb dX12_puts_157 rfl (lv_at hl 2 rfl) ?_
  refine lv_iconst (v := (0 : Int32)) hx hb dX12_puts_158 (by decide) ?_
  refine x_iast (t0 := 0) F hK hI hW hS rd_d36 rd_36 rfl dX12_puts_159 h (fun S4 H locs hW hS h => ?_)
  refine lv_aload_n hx hb dX12_puts_160 rfl (lv_at hl 1 rfl) ?_
  refine x_get F hK hW xc_X12 rd_d0 rd_0 36 (by decide) k_5_164 (gf_X12_36 _ _) dX12_puts_161 ?_
  refine lv_iload_n hx hb dX12_puts_164 rfl (lv_at hl 2 rfl) ?_
  refine lv_iconst (v := (0 : Int32)) hx hb dX12_puts_165 (by decide) ?_
  refine x_iast (t0 := 0) F hK hI hW hS rd_d37 rd_37 rfl dX12_puts_166 h (fun S5 H locs hW hS h => ?_)
  refine lv_iload_n hx hb dX12_puts_167 rfl (lv_at hl 0 rfl) ?_
  exact x_iret F hr hlk hW hS dX12_puts_168 h
def r_puts  (S : xS) (a1 : Int32) : Option (Int32 × xS) := gd a1 33 (if (xI S 0 36 (a1).toNatClampNeg) = 0 then (gd a1 33 (xnm (sI S 0 37 (a1).toNatClampNeg (0 : Int32)) (fun S6 => gd a1 33 (if (xI S6 0 40 (a1).toNatClampNeg) ≤ 0 then (gd a1 33 (if (xI S6 0 41 (a1).toNatClampNeg) = 0 then (gd a1 33 (if (xI S6 0 45 (a1).toNatClampNeg) ≤ 0 then (some ((0 : Int32), S6)) else (gd a1 33 (xnm (sI S6 0 41 (a1).toNatClampNeg (vp_nar .boolean (1 : Int32))) (fun S10 => gd a1 33 (xnm (sI S10 0 42 (a1).toNatClampNeg (vp_nar .boolean (1 : Int32))) (fun S11 => (r_goes  S11 a1).bind (fun (r_12, S12) => gd a1 33 (xnm (sI S12 0 35 (a1).toNatClampNeg ((3 : Int32) ||| (r_12 <<< ((2 : Int32) &&& 31)))) (fun S13 => gd a1 33 (xnm (sI S13 0 36 (a1).toNatClampNeg (11 : Int32)) (fun S14 => r_puts_b112  a1 S14)))))))))))) else (some ((0 : Int32), S6)))) else (gd a1 33 (gd a1 33 (xnm (sI S6 0 40 (a1).toNatClampNeg ((xI S6 0 40 (a1).toNatClampNeg) - (1 : Int32))) (fun S15 => gd a1 33 (xnm (sI S15 0 35 (a1).toNatClampNeg (1 : Int32)) (fun S16 => gd a1 33 (xnm (sI S16 0 36 (a1).toNatClampNeg (2 : Int32)) (fun S17 => r_puts_b112  a1 S17)))))))))))) else (r_puts_b112  a1 S))
set_option maxHeartbeats 4000000 in
set_option maxRecDepth 100000 in
theorem m_r_puts {l : Launch} {D : va_G} {cI cZ cB : ClassId} {ad : Nat → Nat → Nat} (hI : xInj rDom ad) {S : xS} (a1 : Int32) {o : Int32 × xS} (h : r_puts  S a1 = some o) : Met l yX12_puts (Cond.code yX12_puts cX12_puts 3 (some .int) :: xG) { frames := 2, cells := 0, slots := 0, locals := 44 } (xPc D vwCl (rTy cI cZ cB) [] [] rDom ad (rDe ad cI cZ cB) [.ref (ad 0 0), .int a1] S) (xQ D vwCl rDom ad (rDe ad cI cZ cB) (some (.int o.1)) o.2) 0 0 (xA rDom ad) := by
  unfold r_puts at h
  refine x_enter (by decide) (Nat.le_of_ble_eq_true rfl) (fun p e s m below meth c F hr hlk hK hW hS ls hl => ?_)
  have hl : lv_has ls 3 [(0, .ref (ad 0 0)), (1, .int a1)] := hl
  have hx := F.1
  have hb := F.2.1
  refine lv_aload_n hx hb dX12_puts_0 rfl (lv_at hl 0 rfl) ?_
  refine x_get F hK hW xc_X12 rd_d0 rd_0 35 (by decide) k_5_163 (gf_X12_35 _ _) dX12_puts_1 ?_
  refine lv_iload_n hx hb dX12_puts_4 rfl (lv_at hl 1 rfl) ?_
  refine x_iald (t0 := 0) F hK hW rd_d36 rd_36 rfl dX12_puts_5 h (fun h => ?_)
  refine lv_if_ne (tgt := 112) hx hb dX12_puts_6 (by decide) (fun c_1 => ?_) (fun c_1 => ?_)
  · replace h := (if_neg c_1).symm.trans h
    exact m_r_puts_b112 hI  F hr hlk hK _ _ h hW hS (lv_sub hl [0, 1] rfl)
  replace h := (if_pos c_1).symm.trans h
  refine lv_aload_n hx hb dX12_puts_9 rfl (lv_at hl 0 rfl) ?_
  refine x_get F hK hW xc_X12 rd_d0 rd_0 36 (by decide) k_5_164 (gf_X12_36 _ _) dX12_puts_10 ?_
  refine lv_iload_n hx hb dX12_puts_13 rfl (lv_at hl 1 rfl) ?_
  refine lv_iconst (v := (0 : Int32)) hx hb dX12_puts_14 (by decide) ?_
  refine x_iast (t0 := 0) F hK hI hW hS rd_d37 rd_37 rfl dX12_puts_15 h (fun S6 H locs hW hS h => ?_)
  refine lv_aload_n hx hb dX12_puts_16 rfl (lv_at hl 0 rfl) ?_
  refine x_get F hK hW xc_X12 rd_d0 rd_0 39 (by decide) k_5_167 (gf_X12_39 _ _) dX12_puts_17 ?_
  refine lv_iload_n hx hb dX12_puts_20 rfl (lv_at hl 1 rfl) ?_
  refine x_iald (t0 := 0) F hK hW rd_d40 rd_40 rfl dX12_puts_21 h (fun h => ?_)
  refine lv_if_le (tgt := 52) hx hb dX12_puts_22 (by decide) (fun c_7 => ?_) (fun c_7 => ?_)
  · replace h := (if_pos c_7).symm.trans h
    refine lv_aload_n hx hb dX12_puts_52 rfl (lv_at hl 0 rfl) ?_
    refine x_get F hK hW xc_X12 rd_d0 rd_0 40 (by decide) k_5_168 (gf_X12_40 _ _) dX12_puts_53 ?_
    refine lv_iload_n hx hb dX12_puts_56 rfl (lv_at hl 1 rfl) ?_
    refine x_zald (t0 := 1) F hK hW rd_d41 rd_41 rfl dX12_puts_57 h (fun h => ?_)
    refine lv_if_ne (tgt := 110) hx hb dX12_puts_58 (by decide) (fun c_8 => ?_) (fun c_8 => ?_)
    · replace h := (if_neg c_8).symm.trans h
      refine lv_iconst (v := (0 : Int32)) hx hb dX12_puts_110 (by decide) ?_
      exact x_iret F hr hlk hW hS dX12_puts_111 h
    replace h := (if_pos c_8).symm.trans h
    refine lv_aload_n hx hb dX12_puts_61 rfl (lv_at hl 0 rfl) ?_
    refine x_get F hK hW xc_X12 rd_d0 rd_0 44 (by decide) k_5_172 (gf_X12_44 _ _) dX12_puts_62 ?_
    refine lv_iload_n hx hb dX12_puts_65 rfl (lv_at hl 1 rfl) ?_
    refine x_iald (t0 := 0) F hK hW rd_d45 rd_45 rfl dX12_puts_66 h (fun h => ?_)
    refine lv_if_le (tgt := 110) hx hb dX12_puts_67 (by decide) (fun c_9 => ?_) (fun c_9 => ?_)
    · replace h := (if_pos c_9).symm.trans h
      refine lv_iconst (v := (0 : Int32)) hx hb dX12_puts_110 (by decide) ?_
      exact x_iret F hr hlk hW hS dX12_puts_111 h
    replace h := (if_neg c_9).symm.trans h
    refine lv_aload_n hx hb dX12_puts_70 rfl (lv_at hl 0 rfl) ?_
    refine x_get F hK hW xc_X12 rd_d0 rd_0 40 (by decide) k_5_168 (gf_X12_40 _ _) dX12_puts_71 ?_
    refine lv_iload_n hx hb dX12_puts_74 rfl (lv_at hl 1 rfl) ?_
    refine lv_iconst (v := (1 : Int32)) hx hb dX12_puts_75 (by decide) ?_
    refine x_zast (t0 := 1) F hK hI hW hS rd_d41 rd_41 rfl dX12_puts_76 h (fun S10 H locs hW hS h => ?_)
    refine lv_aload_n hx hb dX12_puts_77 rfl (lv_at hl 0 rfl) ?_
    refine x_get F hK hW xc_X12 rd_d0 rd_0 41 (by decide) k_5_169 (gf_X12_41 _ _) dX12_puts_78 ?_
    refine lv_iload_n hx hb dX12_puts_81 rfl (lv_at hl 1 rfl) ?_
    refine lv_iconst (v := (1 : Int32)) hx hb dX12_puts_82 (by decide) ?_
    refine x_zast (t0 := 1) F hK hI hW hS rd_d42 rd_42 rfl dX12_puts_83 h (fun S11 H locs hW hS h => ?_)
    refine lv_aload_n hx hb dX12_puts_84 rfl (lv_at hl 0 rfl) ?_
    refine x_get F hK hW xc_X12 rd_d0 rd_0 34 (by decide) k_5_162 (gf_X12_34 _ _) dX12_puts_85 ?_
    refine lv_iload_n hx hb dX12_puts_88 rfl (lv_at hl 1 rfl) ?_
    refine lv_iconst (v := (3 : Int32)) hx hb dX12_puts_89 (by decide) ?_
    refine lv_aload_n hx hb dX12_puts_90 rfl (lv_at hl 0 rfl) ?_
    refine lv_iload_n hx hb dX12_puts_91 rfl (lv_at hl 1 rfl) ?_
    refine x_cVi (As := [.int a1]) F xG_ok hK hW hS um_X12_goes k_6_116 (fun _ h1 => m_r_goes hI _ h1) rfl rd_d0 rd_0 rfl rfl hl.1 rfl rfl ⟨Nat.le_of_ble_eq_true rfl, Nat.le_of_ble_eq_true rfl⟩ ⟨Nat.zero_le _, Nat.zero_le _⟩ (Nat.le_of_ble_eq_true rfl) dX12_puts_92 h (fun r_12 S12 H locs hW hS h => ?_)
    refine lv_iconst (v := (2 : Int32)) hx hb dX12_puts_95 (by decide) ?_
    refine lv_ishl hx hb dX12_puts_96 ?_
    refine lv_ior hx hb dX12_puts_97 ?_
    refine x_iast (t0 := 0) F hK hI hW hS rd_d35 rd_35 rfl dX12_puts_98 h (fun S13 H locs hW hS h => ?_)
    refine lv_aload_n hx hb dX12_puts_99 rfl (lv_at hl 0 rfl) ?_
    refine x_get F hK hW xc_X12 rd_d0 rd_0 35 (by decide) k_5_163 (gf_X12_35 _ _) dX12_puts_100 ?_
    refine lv_iload_n hx hb dX12_puts_103 rfl (lv_at hl 1 rfl) ?_
    refine lv_bipush (v := (11 : Int32)) hx hb dX12_puts_104 (by decide) ?_
    refine x_iast (t0 := 0) F hK hI hW hS rd_d36 rd_36 rfl dX12_puts_106 h (fun S14 H locs hW hS h => ?_)
    refine lv_goto (tgt := 112) hx hb dX12_puts_107 (by decide) ?_
    exact m_r_puts_b112 hI  F hr hlk hK _ _ h hW hS (lv_sub hl [0, 1] rfl)
  replace h := (if_neg c_7).symm.trans h
  refine lv_aload_n hx hb dX12_puts_25 rfl (lv_at hl 0 rfl) ?_
  refine x_get F hK hW xc_X12 rd_d0 rd_0 39 (by decide) k_5_167 (gf_X12_39 _ _) dX12_puts_26 ?_
  refine lv_iload_n hx hb dX12_puts_29 rfl (lv_at hl 1 rfl) ?_
  refine lv_dup2_11 hx hb dX12_puts_30 rfl rfl ?_
  refine x_iald (t0 := 0) F hK hW rd_d40 rd_40 rfl dX12_puts_31 h (fun h => ?_)
  refine lv_iconst (v := (1 : Int32)) hx hb dX12_puts_32 (by decide) ?_
  refine lv_isub hx hb dX12_puts_33 ?_
  refine x_iast (t0 := 0) F hK hI hW hS rd_d40 rd_40 rfl dX12_puts_34 h (fun S15 H locs hW hS h => ?_)
  refine lv_aload_n hx hb dX12_puts_35 rfl (lv_at hl 0 rfl) ?_
  refine x_get F hK hW xc_X12 rd_d0 rd_0 34 (by decide) k_5_162 (gf_X12_34 _ _) dX12_puts_36 ?_
  refine lv_iload_n hx hb dX12_puts_39 rfl (lv_at hl 1 rfl) ?_
  refine lv_iconst (v := (1 : Int32)) hx hb dX12_puts_40 (by decide) ?_
  refine x_iast (t0 := 0) F hK hI hW hS rd_d35 rd_35 rfl dX12_puts_41 h (fun S16 H locs hW hS h => ?_)
  refine lv_aload_n hx hb dX12_puts_42 rfl (lv_at hl 0 rfl) ?_
  refine x_get F hK hW xc_X12 rd_d0 rd_0 35 (by decide) k_5_163 (gf_X12_35 _ _) dX12_puts_43 ?_
  refine lv_iload_n hx hb dX12_puts_46 rfl (lv_at hl 1 rfl) ?_
  refine lv_iconst (v := (2 : Int32)) hx hb dX12_puts_47 (by decide) ?_
  refine x_iast (t0 := 0) F hK hI hW hS rd_d36 rd_36 rfl dX12_puts_48 h (fun S17 H locs hW hS h => ?_)
  refine lv_goto (tgt := 112) hx hb dX12_puts_49 (by decide) ?_
  exact m_r_puts_b112 hI  F hr hlk hK _ _ h hW hS (lv_sub hl [0, 1] rfl)
/-! X12_acknowledged -/
def r_acknowledged_b80 (v1 : Int32) (S : xS) : Option (xS) := gd v1 33 (if (xI S 0 45 (v1).toNatClampNeg) ≤ 0 then (gd v1 33 (if (xI S 0 43 (v1).toNatClampNeg) = 0 then (gd v1 33 (gd v1 33 (xnm (sI S 0 44 (v1).toNatClampNeg (-1 : Int32)) (fun S9 => (r_ready  S9 (v1 / (4 : Int32)) (xI S 0 44 (v1).toNatClampNeg)).bind (fun S10 => some S10))))) else (gd v1 33 (xnm (sI S 0 43 (v1).toNatClampNeg (vp_nar .boolean (0 : Int32))) (fun S11 => gd (v1 / (4 : Int32)) 8 (xnm (sI S11 0 53 ((v1 / (4 : Int32))).toNatClampNeg (-1 : Int32)) (fun S12 => gd (v1 / (4 : Int32)) 8 (xnm (sI S12 0 54 ((v1 / (4 : Int32))).toNatClampNeg (-1 : Int32)) (fun S13 => some S13))))))))) else (some S))
set_option maxHeartbeats 4000000 in
set_option maxRecDepth 100000 in
theorem m_r_acknowledged_b80 {l : Launch} {D : va_G} {cI cZ cB : ClassId} {ad : Nat → Nat → Nat} (hI : xInj rDom ad) {p : Program} {e : Env} {s : State} {m : MethodId} {args : Array Value} {below : List Frame} {meth : Method} {c : Code} (F : CallFix p m c cX12_acknowledged 4 s args (Cond.code yX12_acknowledged cX12_acknowledged 4 none :: xG) (yX12_acknowledged).cls) (hr : meth.sig.returnType = none) (hlk : meth.locks = false) (hK : xK D vwCl (rTy cI cZ cB) [] [] s) {o : xS} (v1 : Int32) (S : xS) {H : Heap} {locs : List Loc} {ls : Array Slot} (h : r_acknowledged_b80 v1 S = some o) (hW : xW D vwCl rDom ad (rDe ad cI cZ cB) S H) (hS : va_S (xA rDom ad) s.heap H locs) (hl : lv_has ls 4 [(0, .ref (ad 0 0)), (1, .int v1)]) : W p l e { frames := 3, cells := 0, slots := 0, locals := 72 } s m args below meth c H locs 0 0 (MQ below (xQ D vwCl rDom ad (rDe ad cI cZ cB) none o) args s 0 0 (xA rDom ad)) (F0 m 80 ls []) := by
  have hx := F.1
  have hb := F.2.1
  unfold r_acknowledged_b80 at h
  refine lv_aload_n hx hb dX12_acknowledged_80 rfl (lv_at hl 0 rfl) ?_
  refine x_get F hK hW xc_X12 rd_d0 rd_0 44 (by decide) k_5_172 (gf_X12_44 _ _) dX12_acknowledged_81 ?_
  refine lv_iload_n hx hb dX12_acknowledged_84 rfl (lv_at hl 1 rfl) ?_
  refine x_iald (t0 := 0) F hK hW rd_d45 rd_45 rfl dX12_acknowledged_85 h (fun h => ?_)
  refine lv_if_le (tgt := 90) hx hb dX12_acknowledged_86 (by decide) (fun c_7 => ?_) (fun c_7 => ?_)
  · replace h := (if_pos c_7).symm.trans h
    refine lv_iload_n hx hb dX12_acknowledged_90 rfl (lv_at hl 1 rfl) ?_
    refine lv_iconst (v := (4 : Int32)) hx hb dX12_acknowledged_91 (by decide) ?_
    refine lv_idiv hx hb dX12_acknowledged_92 (by decide) ?_
    refine lv_istore_n (lv' := [(2, .int (v1 / (4 : Int32))), (0, .ref (ad 0 0)), (1, .int v1)]) hx hb dX12_acknowledged_93 rfl hl (by decide) rfl (fun ls hl => ?_)
    refine lv_aload_n hx hb dX12_acknowledged_94 rfl (lv_at hl 1 rfl) ?_
    refine x_get F hK hW xc_X12 rd_d0 rd_0 42 (by decide) k_5_170 (gf_X12_42 _ _) dX12_acknowledged_95 ?_
    refine lv_iload_n hx hb dX12_acknowledged_98 rfl (lv_at hl 2 rfl) ?_
    refine x_zald (t0 := 1) F hK hW rd_d43 rd_43 rfl dX12_acknowledged_99 h (fun h => ?_)
    refine lv_if_eq (tgt := 125) hx hb dX12_acknowledged_100 (by decide) (fun c_8 => ?_) (fun c_8 => ?_)
    · replace h := (if_pos c_8).symm.trans h
      refine lv_aload_n hx hb dX12_acknowledged_125 rfl (lv_at hl 1 rfl) ?_
      refine x_get F hK hW xc_X12 rd_d0 rd_0 43 (by decide) k_5_171 (gf_X12_43 _ _) dX12_acknowledged_126 ?_
      refine lv_iload_n hx hb dX12_acknowledged_129 rfl (lv_at hl 2 rfl) ?_
      refine x_iald (t0 := 0) F hK hW rd_d44 rd_44 rfl dX12_acknowledged_130 h (fun h => ?_)
      refine lv_istore_n (lv' := [(3, .int (xI S 0 44 (v1).toNatClampNeg)), (2, .int (v1 / (4 : Int32))), (0, .ref (ad 0 0)), (1, .int v1)]) hx hb dX12_acknowledged_131 rfl hl (by decide) rfl (fun ls hl => ?_)
      refine lv_aload_n hx hb dX12_acknowledged_132 rfl (lv_at hl 2 rfl) ?_
      refine x_get F hK hW xc_X12 rd_d0 rd_0 43 (by decide) k_5_171 (gf_X12_43 _ _) dX12_acknowledged_133 ?_
      refine lv_iload_n hx hb dX12_acknowledged_136 rfl (lv_at hl 3 rfl) ?_
      refine lv_iconst (v := (-1 : Int32)) hx hb dX12_acknowledged_137 (by decide) ?_
      refine x_iast (t0 := 0) F hK hI hW hS rd_d44 rd_44 rfl dX12_acknowledged_138 h (fun S9 H locs hW hS h => ?_)
      refine lv_aload_n hx hb dX12_acknowledged_139 rfl (lv_at hl 2 rfl) ?_
      refine lv_iload_n hx hb dX12_acknowledged_140 rfl (lv_at hl 1 rfl) ?_
      refine lv_iload_n hx hb dX12_acknowledged_141 rfl (lv_at hl 0 rfl) ?_
      refine x_cVv (As := [.int (v1 / (4 : Int32)), .int (xI S 0 44 (v1).toNatClampNeg)]) F xG_ok hK hW hS um_X12_ready k_6_133 (fun _ h1 => m_r_ready hI _ _ h1) rfl rd_d0 rd_0 rfl rfl hl.1 rfl rfl ⟨Nat.le_of_ble_eq_true rfl, Nat.le_of_ble_eq_true rfl⟩ ⟨Nat.zero_le _, Nat.zero_le _⟩ (Nat.le_of_ble_eq_true rfl) dX12_acknowledged_142 h (fun S10 H locs hW hS h => ?_)
      exact x_vret F hr hlk hW hS dX12_acknowledged_145 h
    replace h := (if_neg c_8).symm.trans h
    refine lv_aload_n hx hb dX12_acknowledged_103 rfl (lv_at hl 1 rfl) ?_
    refine x_get F hK hW xc_X12 rd_d0 rd_0 42 (by decide) k_5_170 (gf_X12_42 _ _) dX12_acknowledged_104 ?_
    refine lv_iload_n hx hb dX12_acknowledged_107 rfl (lv_at hl 2 rfl) ?_
    refine lv_iconst (v := (0 : Int32)) hx hb dX12_acknowledged_108 (by decide) ?_
    refine x_zast (t0 := 1) F hK hI hW hS rd_d43 rd_43 rfl dX12_acknowledged_109 h (fun S11 H locs hW hS h => ?_)
    refine lv_aload_n hx hb dX12_acknowledged_110 rfl (lv_at hl 1 rfl) ?_
    refine x_get F hK hW xc_X12 rd_d0 rd_0 52 (by decide) k_5_180 (gf_X12_52 _ _) dX12_acknowledged_111 ?_
    refine lv_iload_n hx hb dX12_acknowledged_114 rfl (lv_at hl 0 rfl) ?_
    refine lv_iconst (v := (-1 : Int32)) hx hb dX12_acknowledged_115 (by decide) ?_
    refine x_iast (t0 := 0) F hK hI hW hS rd_d53 rd_53 rfl dX12_acknowledged_116 h (fun S12 H locs hW hS h => ?_)
    refine lv_aload_n hx hb dX12_acknowledged_117 rfl (lv_at hl 1 rfl) ?_
    refine x_get F hK hW xc_X12 rd_d0 rd_0 53 (by decide) k_5_181 (gf_X12_53 _ _) dX12_acknowledged_118 ?_
    refine lv_iload_n hx hb dX12_acknowledged_121 rfl (lv_at hl 0 rfl) ?_
    refine lv_iconst (v := (-1 : Int32)) hx hb dX12_acknowledged_122 (by decide) ?_
    refine x_iast (t0 := 0) F hK hI hW hS rd_d54 rd_54 rfl dX12_acknowledged_123 h (fun S13 H locs hW hS h => ?_)
    exact x_vret F hr hlk hW hS dX12_acknowledged_124 h
  replace h := (if_neg c_7).symm.trans h
  exact x_vret F hr hlk hW hS dX12_acknowledged_89 h
def r_acknowledged  (S : xS) (a1 : Int32) : Option (xS) := gd a1 33 (if (xI S 0 41 (a1).toNatClampNeg) = 0 then (some S) else (gd a1 33 (xnm (sI S 0 41 (a1).toNatClampNeg (vp_nar .boolean (0 : Int32))) (fun S2 => gd a1 33 (if (xI S2 0 42 (a1).toNatClampNeg) = 0 then (some S2) else (gd a1 33 (gd a1 33 (xnm (sI S2 0 45 (a1).toNatClampNeg ((xI S2 0 45 (a1).toNatClampNeg) - (1 : Int32))) (fun S4 => if a1 = (32 : Int32) then (xnm (sI S4 0 0 59 ((xI S4 0 0 59) + (1 : Int32))) (fun S15 => some S15)) else (gd a1 33 (if (xI S4 0 43 (a1).toNatClampNeg) = 0 then (gd a1 33 (gd a1 33 (xnm (sI S4 0 46 (a1).toNatClampNeg (((xI S4 0 46 (a1).toNatClampNeg) + (1 : Int32)) &&& (65535 : Int32))) (fun S14 => r_acknowledged_b80  a1 S14)))) else (r_acknowledged_b80  a1 S4))))))))))))
set_option maxHeartbeats 4000000 in
set_option maxRecDepth 100000 in
theorem m_r_acknowledged {l : Launch} {D : va_G} {cI cZ cB : ClassId} {ad : Nat → Nat → Nat} (hI : xInj rDom ad) {S : xS} (a1 : Int32) {o : xS} (h : r_acknowledged  S a1 = some o) : Met l yX12_acknowledged (Cond.code yX12_acknowledged cX12_acknowledged 4 none :: xG) { frames := 3, cells := 0, slots := 0, locals := 72 } (xPc D vwCl (rTy cI cZ cB) [] [] rDom ad (rDe ad cI cZ cB) [.ref (ad 0 0), .int a1] S) (xQ D vwCl rDom ad (rDe ad cI cZ cB) none o) 0 0 (xA rDom ad) := by
  unfold r_acknowledged at h
  refine x_enter (by decide) (Nat.le_of_ble_eq_true rfl) (fun p e s m below meth c F hr hlk hK hW hS ls hl => ?_)
  have hl : lv_has ls 4 [(0, .ref (ad 0 0)), (1, .int a1)] := hl
  have hx := F.1
  have hb := F.2.1
  refine lv_aload_n hx hb dX12_acknowledged_0 rfl (lv_at hl 0 rfl) ?_
  refine x_get F hK hW xc_X12 rd_d0 rd_0 40 (by decide) k_5_168 (gf_X12_40 _ _) dX12_acknowledged_1 ?_
  refine lv_iload_n hx hb dX12_acknowledged_4 rfl (lv_at hl 1 rfl) ?_
  refine x_zald (t0 := 1) F hK hW rd_d41 rd_41 rfl dX12_acknowledged_5 h (fun h => ?_)
  refine lv_if_ne (tgt := 10) hx hb dX12_acknowledged_6 (by decide) (fun c_1 => ?_) (fun c_1 => ?_)
  · replace h := (if_neg c_1).symm.trans h
    refine lv_aload_n hx hb dX12_acknowledged_10 rfl (lv_at hl 0 rfl) ?_
    refine x_get F hK hW xc_X12 rd_d0 rd_0 40 (by decide) k_5_168 (gf_X12_40 _ _) dX12_acknowledged_11 ?_
    refine lv_iload_n hx hb dX12_acknowledged_14 rfl (lv_at hl 1 rfl) ?_
    refine lv_iconst (v := (0 : Int32)) hx hb dX12_acknowledged_15 (by decide) ?_
    refine x_zast (t0 := 1) F hK hI hW hS rd_d41 rd_41 rfl dX12_acknowledged_16 h (fun S2 H locs hW hS h => ?_)
    refine lv_aload_n hx hb dX12_acknowledged_17 rfl (lv_at hl 0 rfl) ?_
    refine x_get F hK hW xc_X12 rd_d0 rd_0 41 (by decide) k_5_169 (gf_X12_41 _ _) dX12_acknowledged_18 ?_
    refine lv_iload_n hx hb dX12_acknowledged_21 rfl (lv_at hl 1 rfl) ?_
    refine x_zald (t0 := 1) F hK hW rd_d42 rd_42 rfl dX12_acknowledged_22 h (fun h => ?_)
    refine lv_if_ne (tgt := 27) hx hb dX12_acknowledged_23 (by decide) (fun c_3 => ?_) (fun c_3 => ?_)
    · replace h := (if_neg c_3).symm.trans h
      refine lv_aload_n hx hb dX12_acknowledged_27 rfl (lv_at hl 0 rfl) ?_
      refine x_get F hK hW xc_X12 rd_d0 rd_0 44 (by decide) k_5_172 (gf_X12_44 _ _) dX12_acknowledged_28 ?_
      refine lv_iload_n hx hb dX12_acknowledged_31 rfl (lv_at hl 1 rfl) ?_
      refine lv_dup2_11 hx hb dX12_acknowledged_32 rfl rfl ?_
      refine x_iald (t0 := 0) F hK hW rd_d45 rd_45 rfl dX12_acknowledged_33 h (fun h => ?_)
      refine lv_iconst (v := (1 : Int32)) hx hb dX12_acknowledged_34 (by decide) ?_
      refine lv_isub hx hb dX12_acknowledged_35 ?_
      refine x_iast (t0 := 0) F hK hI hW hS rd_d45 rd_45 rfl dX12_acknowledged_36 h (fun S4 H locs hW hS h => ?_)
      refine lv_iload_n hx hb dX12_acknowledged_37 rfl (lv_at hl 1 rfl) ?_
      refine lv_bipush (v := (32 : Int32)) hx hb dX12_acknowledged_38 (by decide) ?_
      refine lv_icmp_ne (tgt := 54) hx hb dX12_acknowledged_40 (by decide) (fun c_5 => ?_) (fun c_5 => ?_)
      · replace h := (if_neg c_5).symm.trans h
        refine lv_aload_n hx hb dX12_acknowledged_54 rfl (lv_at hl 0 rfl) ?_
        refine x_get F hK hW xc_X12 rd_d0 rd_0 42 (by decide) k_5_170 (gf_X12_42 _ _) dX12_acknowledged_55 ?_
        refine lv_iload_n hx hb dX12_acknowledged_58 rfl (lv_at hl 1 rfl) ?_
        refine x_zald (t0 := 1) F hK hW rd_d43 rd_43 rfl dX12_acknowledged_59 h (fun h => ?_)
        refine lv_if_ne (tgt := 80) hx hb dX12_acknowledged_60 (by decide) (fun c_6 => ?_) (fun c_6 => ?_)
        · replace h := (if_neg c_6).symm.trans h
          exact m_r_acknowledged_b80 hI  F hr hlk hK _ _ h hW hS (lv_sub hl [0, 1] rfl)
        replace h := (if_pos c_6).symm.trans h
        refine lv_aload_n hx hb dX12_acknowledged_63 rfl (lv_at hl 0 rfl) ?_
        refine x_get F hK hW xc_X12 rd_d0 rd_0 45 (by decide) k_5_173 (gf_X12_45 _ _) dX12_acknowledged_64 ?_
        refine lv_iload_n hx hb dX12_acknowledged_67 rfl (lv_at hl 1 rfl) ?_
        refine lv_aload_n hx hb dX12_acknowledged_68 rfl (lv_at hl 0 rfl) ?_
        refine x_get F hK hW xc_X12 rd_d0 rd_0 45 (by decide) k_5_173 (gf_X12_45 _ _) dX12_acknowledged_69 ?_
        refine lv_iload_n hx hb dX12_acknowledged_72 rfl (lv_at hl 1 rfl) ?_
        refine x_iald (t0 := 0) F hK hW rd_d46 rd_46 rfl dX12_acknowledged_73 h (fun h => ?_)
        refine lv_iconst (v := (1 : Int32)) hx hb dX12_acknowledged_74 (by decide) ?_
        refine lv_iadd hx hb dX12_acknowledged_75 ?_
        refine lv_ldc (v := (65535 : Int32)) hx hb F.2.2.2.1 (x_hts F _ k_6_102) dX12_acknowledged_76 ?_
        refine lv_iand hx hb dX12_acknowledged_78 ?_
        refine x_iast (t0 := 0) F hK hI hW hS rd_d46 rd_46 rfl dX12_acknowledged_79 h (fun S14 H locs hW hS h => ?_)
        exact m_r_acknowledged_b80 hI  F hr hlk hK _ _ h hW hS (lv_sub hl [0, 1] rfl)
      replace h := (if_pos c_5).symm.trans h
      refine lv_aload_n hx hb dX12_acknowledged_43 rfl (lv_at hl 0 rfl) ?_
      refine lv_dup hx hb dX12_acknowledged_44 rfl ?_
      refine x_get F hK hW xc_X12 rd_d0 rd_0 59 (by decide) k_5_187 (gf_X12_59 _ _) dX12_acknowledged_45 ?_
      refine lv_iconst (v := (1 : Int32)) hx hb dX12_acknowledged_48 (by decide) ?_
      refine lv_iadd hx hb dX12_acknowledged_49 ?_
      refine x_put F hK hI hW hS xc_X12 rd_d0 rd_0 59 (by decide) k_5_187 rfl (v := ((xI S4 0 0 59) + (1 : Int32))) rfl rfl (fun _ _ => rfl) (fun _ _ => Nat.le_of_ble_eq_true rfl) dX12_acknowledged_50 h (fun S15 H locs hW hS h => ?_)
      exact x_vret F hr hlk hW hS dX12_acknowledged_53 h
    replace h := (if_pos c_3).symm.trans h
    exact x_vret F hr hlk hW hS dX12_acknowledged_26 h
  replace h := (if_pos c_1).symm.trans h
  exact x_vret F hr hlk hW hS dX12_acknowledged_9 h
/-! X12_comes -/
def r_comes  (S : xS) (a1 : Int32) (a2 : Int32) : Option (xS) := if a1 = (32 : Int32) then (gd a1 33 (gd a1 33 (xnm (sI S 0 40 (a1).toNatClampNeg ((xI S 0 40 (a1).toNatClampNeg) + (1 : Int32))) (fun S18 => if (4096 : Int32) ≤ (xI S18 0 0 61) then (some S18) else (gd (xI S18 0 0 61) 4096 (xnm (sI S18 0 59 ((xI S18 0 0 61)).toNatClampNeg (vp_nar .byte (a2.toInt8.toInt32))) (fun S20 => xnm (sI S20 0 0 61 ((xI S20 0 0 61) + (1 : Int32))) (fun S21 => some S21)))))))) else (gd a1 33 (if (xI S 0 47 (a1).toNatClampNeg) = (-1 : Int32) then (gd a1 33 (xnm (sI S 0 50 (a1).toNatClampNeg a2) (fun S3 => gd a1 33 (if (xI S3 0 51 (a1).toNatClampNeg) = (-1 : Int32) then (some S3) else (gd a1 33 (gd a1 33 (xnm (sI S3 0 51 (a1).toNatClampNeg (-1 : Int32)) (fun S5 => (r_word  S5 (a1 / (4 : Int32)) (((xI S3 0 51 (a1).toNatClampNeg) &&& (65534 : Int32)) - (6 : Int32))).bind (fun (r_6, S6) => if r_6 = (32769 : Int32) then ((r_finds  S6 (a1 / (4 : Int32)) (xI S3 0 51 (a1).toNatClampNeg) r_6).bind (fun S8 => some S8)) else (if r_6 = (32770 : Int32) then ((r_finds  S6 (a1 / (4 : Int32)) (xI S3 0 51 (a1).toNatClampNeg) r_6).bind (fun S10 => some S10)) else (some S6))))))))))) else (gd a1 33 ((r_byteTo  S (a1 / (4 : Int32)) (xI S 0 49 (a1).toNatClampNeg) a2).bind (fun S11 => gd a1 33 (gd a1 33 (xnm (sI S11 0 49 (a1).toNatClampNeg (((xI S11 0 49 (a1).toNatClampNeg) + (1 : Int32)) &&& (65535 : Int32))) (fun S12 => gd a1 33 (gd a1 33 (xnm (sI S12 0 48 (a1).toNatClampNeg ((xI S12 0 48 (a1).toNatClampNeg) - (1 : Int32))) (fun S13 => gd a1 33 (gd a1 33 (xnm (sI S13 0 40 (a1).toNatClampNeg ((xI S13 0 40 (a1).toNatClampNeg) + (1 : Int32))) (fun S14 => gd a1 33 (if (xI S14 0 48 (a1).toNatClampNeg) ≤ 0 then (gd a1 33 (gd a1 33 (xnm (sI S14 0 47 (a1).toNatClampNeg (-1 : Int32)) (fun S16 => (r_ready  S16 (a1 / (4 : Int32)) (xI S14 0 47 (a1).toNatClampNeg)).bind (fun S17 => some S17))))) else (some S14))))))))))))))))
set_option maxHeartbeats 4000000 in
set_option maxRecDepth 100000 in
theorem m_r_comes {l : Launch} {D : va_G} {cI cZ cB : ClassId} {ad : Nat → Nat → Nat} (hI : xInj rDom ad) {S : xS} (a1 : Int32) (a2 : Int32) {o : xS} (h : r_comes  S a1 a2 = some o) : Met l yX12_comes (Cond.code yX12_comes cX12_comes 6 none :: xG) { frames := 4, cells := 0, slots := 0, locals := 95 } (xPc D vwCl (rTy cI cZ cB) [] [] rDom ad (rDe ad cI cZ cB) [.ref (ad 0 0), .int a1, .int a2] S) (xQ D vwCl rDom ad (rDe ad cI cZ cB) none o) 0 0 (xA rDom ad) := by
  unfold r_comes at h
  refine x_enter (by decide) (Nat.le_of_ble_eq_true rfl) (fun p e s m below meth c F hr hlk hK hW hS ls hl => ?_)
  have hl : lv_has ls 6 [(0, .ref (ad 0 0)), (1, .int a1), (2, .int a2)] := hl
  have hx := F.1
  have hb := F.2.1
  refine lv_iload_n hx hb dX12_comes_0 rfl (lv_at hl 1 rfl) ?_
  refine lv_bipush (v := (32 : Int32)) hx hb dX12_comes_1 (by decide) ?_
  refine lv_icmp_ne (tgt := 48) hx hb dX12_comes_3 (by decide) (fun c_1 => ?_) (fun c_1 => ?_)
  · replace h := (if_neg c_1).symm.trans h
    refine lv_iload_n hx hb dX12_comes_48 rfl (lv_at hl 1 rfl) ?_
    refine lv_iconst (v := (4 : Int32)) hx hb dX12_comes_49 (by decide) ?_
    refine lv_idiv hx hb dX12_comes_50 (by decide) ?_
    refine lv_istore_n (lv' := [(3, .int (a1 / (4 : Int32))), (0, .ref (ad 0 0)), (1, .int a1), (2, .int a2)]) hx hb dX12_comes_51 rfl hl (by decide) rfl (fun ls hl => ?_)
    refine lv_aload_n hx hb dX12_comes_52 rfl (lv_at hl 1 rfl) ?_
    refine x_get F hK hW xc_X12 rd_d0 rd_0 46 (by decide) k_5_174 (gf_X12_46 _ _) dX12_comes_53 ?_
    refine lv_iload_n hx hb dX12_comes_56 rfl (lv_at hl 2 rfl) ?_
    refine x_iald (t0 := 0) F hK hW rd_d47 rd_47 rfl dX12_comes_57 h (fun h => ?_)
    refine lv_iconst (v := (-1 : Int32)) hx hb dX12_comes_58 (by decide) ?_
    refine lv_icmp_eq (tgt := 144) hx hb dX12_comes_59 (by decide) (fun c_2 => ?_) (fun c_2 => ?_)
    · replace h := (if_pos c_2).symm.trans h
      refine lv_aload_n hx hb dX12_comes_144 rfl (lv_at hl 1 rfl) ?_
      refine x_get F hK hW xc_X12 rd_d0 rd_0 49 (by decide) k_5_177 (gf_X12_49 _ _) dX12_comes_145 ?_
      refine lv_iload_n hx hb dX12_comes_148 rfl (lv_at hl 2 rfl) ?_
      refine lv_iload_n hx hb dX12_comes_149 rfl (lv_at hl 3 rfl) ?_
      refine x_iast (t0 := 0) F hK hI hW hS rd_d50 rd_50 rfl dX12_comes_150 h (fun S3 H locs hW hS h => ?_)
      refine lv_aload_n hx hb dX12_comes_151 rfl (lv_at hl 1 rfl) ?_
      refine x_get F hK hW xc_X12 rd_d0 rd_0 50 (by decide) k_5_178 (gf_X12_50 _ _) dX12_comes_152 ?_
      refine lv_iload_n hx hb dX12_comes_155 rfl (lv_at hl 2 rfl) ?_
      refine x_iald (t0 := 0) F hK hW rd_d51 rd_51 rfl dX12_comes_156 h (fun h => ?_)
      refine lv_iconst (v := (-1 : Int32)) hx hb dX12_comes_157 (by decide) ?_
      refine lv_icmp_ne (tgt := 162) hx hb dX12_comes_158 (by decide) (fun c_4 => ?_) (fun c_4 => ?_)
      · replace h := (if_neg c_4).symm.trans h
        refine lv_aload_n hx hb dX12_comes_162 rfl (lv_at hl 1 rfl) ?_
        refine x_get F hK hW xc_X12 rd_d0 rd_0 50 (by decide) k_5_178 (gf_X12_50 _ _) dX12_comes_163 ?_
        refine lv_iload_n hx hb dX12_comes_166 rfl (lv_at hl 2 rfl) ?_
        refine x_iald (t0 := 0) F hK hW rd_d51 rd_51 rfl dX12_comes_167 h (fun h => ?_)
        refine lv_istore (lv' := [(4, .int (xI S3 0 51 (a1).toNatClampNeg)), (3, .int (a1 / (4 : Int32))), (0, .ref (ad 0 0)), (1, .int a1), (2, .int a2)]) hx hb dX12_comes_168 hl (by decide) rfl (fun ls hl => ?_)
        refine lv_aload_n hx hb dX12_comes_170 rfl (lv_at hl 2 rfl) ?_
        refine x_get F hK hW xc_X12 rd_d0 rd_0 50 (by decide) k_5_178 (gf_X12_50 _ _) dX12_comes_171 ?_
        refine lv_iload_n hx hb dX12_comes_174 rfl (lv_at hl 3 rfl) ?_
        refine lv_iconst (v := (-1 : Int32)) hx hb dX12_comes_175 (by decide) ?_
        refine x_iast (t0 := 0) F hK hI hW hS rd_d51 rd_51 rfl dX12_comes_176 h (fun S5 H locs hW hS h => ?_)
        refine lv_aload_n hx hb dX12_comes_177 rfl (lv_at hl 2 rfl) ?_
        refine lv_iload_n hx hb dX12_comes_178 rfl (lv_at hl 1 rfl) ?_
        refine lv_iload hx hb dX12_comes_179 (lv_at hl 0 rfl) ?_
        refine lv_ldc (v := (65534 : Int32)) hx hb F.2.2.2.1 (x_hts F _ k_6_103) dX12_comes_181 ?_
        refine lv_iand hx hb dX12_comes_183 ?_
        refine lv_bipush (v := (6 : Int32)) hx hb dX12_comes_184 (by decide) ?_
        refine lv_isub hx hb dX12_comes_186 ?_
        refine x_cVi (As := [.int (a1 / (4 : Int32)), .int (((xI S3 0 51 (a1).toNatClampNeg) &&& (65534 : Int32)) - (6 : Int32))]) F xG_ok hK hW hS um_X12_word k_6_149 (fun _ h1 => m_r_word hI _ _ h1) rfl rd_d0 rd_0 rfl rfl hl.1 rfl rfl ⟨Nat.le_of_ble_eq_true rfl, Nat.le_of_ble_eq_true rfl⟩ ⟨Nat.zero_le _, Nat.zero_le _⟩ (Nat.le_of_ble_eq_true rfl) dX12_comes_187 h (fun r_6 S6 H locs hW hS h => ?_)
        refine lv_istore (lv' := [(5, .int r_6), (4, .int (xI S3 0 51 (a1).toNatClampNeg)), (3, .int (a1 / (4 : Int32))), (0, .ref (ad 0 0)), (1, .int a1), (2, .int a2)]) hx hb dX12_comes_190 hl (by decide) rfl (fun ls hl => ?_)
        refine lv_iload hx hb dX12_comes_192 (lv_at hl 0 rfl) ?_
        refine lv_ldcw (v := (32769 : Int32)) hx hb F.2.2.2.1 (x_hts F _ k_6_153) dX12_comes_194 ?_
        refine lv_icmp_eq (tgt := 208) hx hb dX12_comes_197 (by decide) (fun c_7 => ?_) (fun c_7 => ?_)
        · replace h := (if_pos c_7).symm.trans h
          refine lv_aload_n hx hb dX12_comes_208 rfl (lv_at hl 3 rfl) ?_
          refine lv_iload_n hx hb dX12_comes_209 rfl (lv_at hl 2 rfl) ?_
          refine lv_iload hx hb dX12_comes_210 (lv_at hl 1 rfl) ?_
          refine lv_iload hx hb dX12_comes_212 (lv_at hl 0 rfl) ?_
          refine x_cVv (As := [.int (a1 / (4 : Int32)), .int (xI S3 0 51 (a1).toNatClampNeg), .int r_6]) F xG_ok hK hW hS um_X12_finds k_6_155 (fun _ h1 => m_r_finds hI _ _ _ h1) rfl rd_d0 rd_0 rfl rfl hl.1 rfl rfl ⟨Nat.le_of_ble_eq_true rfl, Nat.le_of_ble_eq_true rfl⟩ ⟨Nat.zero_le _, Nat.zero_le _⟩ (Nat.le_of_ble_eq_true rfl) dX12_comes_214 h (fun S8 H locs hW hS h => ?_)
          exact x_vret F hr hlk hW hS dX12_comes_217 h
        replace h := (if_neg c_7).symm.trans h
        refine lv_iload hx hb dX12_comes_200 (lv_at hl 0 rfl) ?_
        refine lv_ldcw (v := (32770 : Int32)) hx hb F.2.2.2.1 (x_hts F _ k_6_154) dX12_comes_202 ?_
        refine lv_icmp_ne (tgt := 217) hx hb dX12_comes_205 (by decide) (fun c_9 => ?_) (fun c_9 => ?_)
        · replace h := (if_neg c_9).symm.trans h
          exact x_vret F hr hlk hW hS dX12_comes_217 h
        replace h := (if_pos c_9).symm.trans h
        refine lv_aload_n hx hb dX12_comes_208 rfl (lv_at hl 3 rfl) ?_
        refine lv_iload_n hx hb dX12_comes_209 rfl (lv_at hl 2 rfl) ?_
        refine lv_iload hx hb dX12_comes_210 (lv_at hl 1 rfl) ?_
        refine lv_iload hx hb dX12_comes_212 (lv_at hl 0 rfl) ?_
        refine x_cVv (As := [.int (a1 / (4 : Int32)), .int (xI S3 0 51 (a1).toNatClampNeg), .int r_6]) F xG_ok hK hW hS um_X12_finds k_6_155 (fun _ h1 => m_r_finds hI _ _ _ h1) rfl rd_d0 rd_0 rfl rfl hl.1 rfl rfl ⟨Nat.le_of_ble_eq_true rfl, Nat.le_of_ble_eq_true rfl⟩ ⟨Nat.zero_le _, Nat.zero_le _⟩ (Nat.le_of_ble_eq_true rfl) dX12_comes_214 h (fun S10 H locs hW hS h => ?_)
        exact x_vret F hr hlk hW hS dX12_comes_217 h
      replace h := (if_pos c_4).symm.trans h
      exact x_vret F hr hlk hW hS dX12_comes_161 h
    replace h := (if_neg c_2).symm.trans h
    refine lv_aload_n hx hb dX12_comes_62 rfl (lv_at hl 1 rfl) ?_
    refine lv_iload_n hx hb dX12_comes_63 rfl (lv_at hl 0 rfl) ?_
    refine lv_aload_n hx hb dX12_comes_64 rfl (lv_at hl 1 rfl) ?_
    refine x_get F hK hW xc_X12 rd_d0 rd_0 48 (by decide) k_5_176 (gf_X12_48 _ _) dX12_comes_65 ?_
    refine lv_iload_n hx hb dX12_comes_68 rfl (lv_at hl 2 rfl) ?_
    refine x_iald (t0 := 0) F hK hW rd_d49 rd_49 rfl dX12_comes_69 h (fun h => ?_)
    refine lv_iload_n hx hb dX12_comes_70 rfl (lv_at hl 3 rfl) ?_
    refine x_cVv (As := [.int (a1 / (4 : Int32)), .int (xI S 0 49 (a1).toNatClampNeg), .int a2]) F xG_ok hK hW hS um_X12_byteTo k_6_141 (fun _ h1 => m_r_byteTo hI _ _ _ h1) rfl rd_d0 rd_0 rfl rfl hl.1 rfl rfl ⟨Nat.le_of_ble_eq_true rfl, Nat.le_of_ble_eq_true rfl⟩ ⟨Nat.zero_le _, Nat.zero_le _⟩ (Nat.le_of_ble_eq_true rfl) dX12_comes_71 h (fun S11 H locs hW hS h => ?_)
    refine lv_aload_n hx hb dX12_comes_74 rfl (lv_at hl 1 rfl) ?_
    refine x_get F hK hW xc_X12 rd_d0 rd_0 48 (by decide) k_5_176 (gf_X12_48 _ _) dX12_comes_75 ?_
    refine lv_iload_n hx hb dX12_comes_78 rfl (lv_at hl 2 rfl) ?_
    refine lv_aload_n hx hb dX12_comes_79 rfl (lv_at hl 1 rfl) ?_
    refine x_get F hK hW xc_X12 rd_d0 rd_0 48 (by decide) k_5_176 (gf_X12_48 _ _) dX12_comes_80 ?_
    refine lv_iload_n hx hb dX12_comes_83 rfl (lv_at hl 2 rfl) ?_
    refine x_iald (t0 := 0) F hK hW rd_d49 rd_49 rfl dX12_comes_84 h (fun h => ?_)
    refine lv_iconst (v := (1 : Int32)) hx hb dX12_comes_85 (by decide) ?_
    refine lv_iadd hx hb dX12_comes_86 ?_
    refine lv_ldc (v := (65535 : Int32)) hx hb F.2.2.2.1 (x_hts F _ k_6_102) dX12_comes_87 ?_
    refine lv_iand hx hb dX12_comes_89 ?_
    refine x_iast (t0 := 0) F hK hI hW hS rd_d49 rd_49 rfl dX12_comes_90 h (fun S12 H locs hW hS h => ?_)
    refine lv_aload_n hx hb dX12_comes_91 rfl (lv_at hl 1 rfl) ?_
    refine x_get F hK hW xc_X12 rd_d0 rd_0 47 (by decide) k_5_175 (gf_X12_47 _ _) dX12_comes_92 ?_
    refine lv_iload_n hx hb dX12_comes_95 rfl (lv_at hl 2 rfl) ?_
    refine lv_dup2_11 hx hb dX12_comes_96 rfl rfl ?_
    refine x_iald (t0 := 0) F hK hW rd_d48 rd_48 rfl dX12_comes_97 h (fun h => ?_)
    refine lv_iconst (v := (1 : Int32)) hx hb dX12_comes_98 (by decide) ?_
    refine lv_isub hx hb dX12_comes_99 ?_
    refine x_iast (t0 := 0) F hK hI hW hS rd_d48 rd_48 rfl dX12_comes_100 h (fun S13 H locs hW hS h => ?_)
    refine lv_aload_n hx hb dX12_comes_101 rfl (lv_at hl 1 rfl) ?_
    refine x_get F hK hW xc_X12 rd_d0 rd_0 39 (by decide) k_5_167 (gf_X12_39 _ _) dX12_comes_102 ?_
    refine lv_iload_n hx hb dX12_comes_105 rfl (lv_at hl 2 rfl) ?_
    refine lv_dup2_11 hx hb dX12_comes_106 rfl rfl ?_
    refine x_iald (t0 := 0) F hK hW rd_d40 rd_40 rfl dX12_comes_107 h (fun h => ?_)
    refine lv_iconst (v := (1 : Int32)) hx hb dX12_comes_108 (by decide) ?_
    refine lv_iadd hx hb dX12_comes_109 ?_
    refine x_iast (t0 := 0) F hK hI hW hS rd_d40 rd_40 rfl dX12_comes_110 h (fun S14 H locs hW hS h => ?_)
    refine lv_aload_n hx hb dX12_comes_111 rfl (lv_at hl 1 rfl) ?_
    refine x_get F hK hW xc_X12 rd_d0 rd_0 47 (by decide) k_5_175 (gf_X12_47 _ _) dX12_comes_112 ?_
    refine lv_iload_n hx hb dX12_comes_115 rfl (lv_at hl 2 rfl) ?_
    refine x_iald (t0 := 0) F hK hW rd_d48 rd_48 rfl dX12_comes_116 h (fun h => ?_)
    refine lv_if_le (tgt := 121) hx hb dX12_comes_117 (by decide) (fun c_15 => ?_) (fun c_15 => ?_)
    · replace h := (if_pos c_15).symm.trans h
      refine lv_aload_n hx hb dX12_comes_121 rfl (lv_at hl 1 rfl) ?_
      refine x_get F hK hW xc_X12 rd_d0 rd_0 46 (by decide) k_5_174 (gf_X12_46 _ _) dX12_comes_122 ?_
      refine lv_iload_n hx hb dX12_comes_125 rfl (lv_at hl 2 rfl) ?_
      refine x_iald (t0 := 0) F hK hW rd_d47 rd_47 rfl dX12_comes_126 h (fun h => ?_)
      refine lv_istore (lv' := [(4, .int (xI S14 0 47 (a1).toNatClampNeg)), (3, .int (a1 / (4 : Int32))), (0, .ref (ad 0 0)), (1, .int a1), (2, .int a2)]) hx hb dX12_comes_127 hl (by decide) rfl (fun ls hl => ?_)
      refine lv_aload_n hx hb dX12_comes_129 rfl (lv_at hl 2 rfl) ?_
      refine x_get F hK hW xc_X12 rd_d0 rd_0 46 (by decide) k_5_174 (gf_X12_46 _ _) dX12_comes_130 ?_
      refine lv_iload_n hx hb dX12_comes_133 rfl (lv_at hl 3 rfl) ?_
      refine lv_iconst (v := (-1 : Int32)) hx hb dX12_comes_134 (by decide) ?_
      refine x_iast (t0 := 0) F hK hI hW hS rd_d47 rd_47 rfl dX12_comes_135 h (fun S16 H locs hW hS h => ?_)
      refine lv_aload_n hx hb dX12_comes_136 rfl (lv_at hl 2 rfl) ?_
      refine lv_iload_n hx hb dX12_comes_137 rfl (lv_at hl 1 rfl) ?_
      refine lv_iload hx hb dX12_comes_138 (lv_at hl 0 rfl) ?_
      refine x_cVv (As := [.int (a1 / (4 : Int32)), .int (xI S14 0 47 (a1).toNatClampNeg)]) F xG_ok hK hW hS um_X12_ready k_6_133 (fun _ h1 => m_r_ready hI _ _ h1) rfl rd_d0 rd_0 rfl rfl hl.1 rfl rfl ⟨Nat.le_of_ble_eq_true rfl, Nat.le_of_ble_eq_true rfl⟩ ⟨Nat.zero_le _, Nat.zero_le _⟩ (Nat.le_of_ble_eq_true rfl) dX12_comes_140 h (fun S17 H locs hW hS h => ?_)
      exact x_vret F hr hlk hW hS dX12_comes_143 h
    replace h := (if_neg c_15).symm.trans h
    exact x_vret F hr hlk hW hS dX12_comes_120 h
  replace h := (if_pos c_1).symm.trans h
  refine lv_aload_n hx hb dX12_comes_6 rfl (lv_at hl 0 rfl) ?_
  refine x_get F hK hW xc_X12 rd_d0 rd_0 39 (by decide) k_5_167 (gf_X12_39 _ _) dX12_comes_7 ?_
  refine lv_iload_n hx hb dX12_comes_10 rfl (lv_at hl 1 rfl) ?_
  refine lv_dup2_11 hx hb dX12_comes_11 rfl rfl ?_
  refine x_iald (t0 := 0) F hK hW rd_d40 rd_40 rfl dX12_comes_12 h (fun h => ?_)
  refine lv_iconst (v := (1 : Int32)) hx hb dX12_comes_13 (by decide) ?_
  refine lv_iadd hx hb dX12_comes_14 ?_
  refine x_iast (t0 := 0) F hK hI hW hS rd_d40 rd_40 rfl dX12_comes_15 h (fun S18 H locs hW hS h => ?_)
  refine lv_aload_n hx hb dX12_comes_16 rfl (lv_at hl 0 rfl) ?_
  refine x_get F hK hW xc_X12 rd_d0 rd_0 61 (by decide) k_5_189 (gf_X12_61 _ _) dX12_comes_17 ?_
  refine lv_sipush (v := (4096 : Int32)) hx hb dX12_comes_20 (by decide) ?_
  refine lv_icmp_ge (tgt := 47) hx hb dX12_comes_23 (by decide) (fun c_19 => ?_) (fun c_19 => ?_)
  · replace h := (if_pos c_19).symm.trans h
    exact x_vret F hr hlk hW hS dX12_comes_47 h
  replace h := (if_neg c_19).symm.trans h
  refine lv_aload_n hx hb dX12_comes_26 rfl (lv_at hl 0 rfl) ?_
  refine x_get F hK hW xc_X12 rd_d0 rd_0 58 (by decide) k_5_186 (gf_X12_58 _ _) dX12_comes_27 ?_
  refine lv_aload_n hx hb dX12_comes_30 rfl (lv_at hl 0 rfl) ?_
  refine x_get F hK hW xc_X12 rd_d0 rd_0 61 (by decide) k_5_189 (gf_X12_61 _ _) dX12_comes_31 ?_
  refine lv_iload_n hx hb dX12_comes_34 rfl (lv_at hl 2 rfl) ?_
  refine lv_i2b (v := a2.toInt8.toInt32) hx hb dX12_comes_35 rfl ?_
  refine x_bast (t0 := 2) F hK hI hW hS rd_d59 rd_59 rfl dX12_comes_36 h (fun S20 H locs hW hS h => ?_)
  refine lv_aload_n hx hb dX12_comes_37 rfl (lv_at hl 0 rfl) ?_
  refine lv_dup hx hb dX12_comes_38 rfl ?_
  refine x_get F hK hW xc_X12 rd_d0 rd_0 61 (by decide) k_5_189 (gf_X12_61 _ _) dX12_comes_39 ?_
  refine lv_iconst (v := (1 : Int32)) hx hb dX12_comes_42 (by decide) ?_
  refine lv_iadd hx hb dX12_comes_43 ?_
  refine x_put F hK hI hW hS xc_X12 rd_d0 rd_0 61 (by decide) k_5_189 rfl (v := ((xI S20 0 0 61) + (1 : Int32))) rfl rfl (fun _ _ => rfl) (fun _ _ => Nat.le_of_ble_eq_true rfl) dX12_comes_44 h (fun S21 H locs hW hS h => ?_)
  exact x_vret F hr hlk hW hS dX12_comes_47 h
/-! X12_reads -/
def r_reads_b47 (v1 : Int32) (v2 : Int32) (t0 : Int32) (t1 : Int32) (S : xS) : Option (xS) := gd t1 33 (xnm (sI S 0 38 (t1).toNatClampNeg t0) (fun S9 => if v2 = 0 then ((r_acknowledged  S9 v1).bind (fun S11 => some S11)) else (some S9)))
set_option maxHeartbeats 4000000 in
set_option maxRecDepth 100000 in
theorem m_r_reads_b47 {l : Launch} {D : va_G} {cI cZ cB : ClassId} {ad : Nat → Nat → Nat} (hI : xInj rDom ad) {p : Program} {e : Env} {s : State} {m : MethodId} {args : Array Value} {below : List Frame} {meth : Method} {c : Code} (F : CallFix p m c cX12_reads 4 s args (Cond.code yX12_reads cX12_reads 4 none :: xG) (yX12_reads).cls) (hr : meth.sig.returnType = none) (hlk : meth.locks = false) (hK : xK D vwCl (rTy cI cZ cB) [] [] s) {o : xS} (v1 : Int32) (v2 : Int32) (t0 : Int32) (t1 : Int32) (S : xS) {H : Heap} {locs : List Loc} {ls : Array Slot} (h : r_reads_b47 v1 v2 t0 t1 S = some o) (hW : xW D vwCl rDom ad (rDe ad cI cZ cB) S H) (hS : va_S (xA rDom ad) s.heap H locs) (hl : lv_has ls 4 [(0, .ref (ad 0 0)), (1, .int v1), (2, .int v2)]) : W p l e { frames := 5, cells := 0, slots := 0, locals := 120 } s m args below meth c H locs 0 0 (MQ below (xQ D vwCl rDom ad (rDe ad cI cZ cB) none o) args s 0 0 (xA rDom ad)) (F0 m 47 ls [.int t0, .int t1, .ref (ad 0 38)]) := by
  have hx := F.1
  have hb := F.2.1
  unfold r_reads_b47 at h
  refine x_iast (t0 := 0) F hK hI hW hS rd_d38 rd_38 rfl dX12_reads_47 h (fun S9 H locs hW hS h => ?_)
  refine lv_iload_n hx hb dX12_reads_48 rfl (lv_at hl 2 rfl) ?_
  refine lv_if_ne (tgt := 111) hx hb dX12_reads_49 (by decide) (fun c_10 => ?_) (fun c_10 => ?_)
  · replace h := (if_neg c_10).symm.trans h
    exact x_vret F hr hlk hW hS dX12_reads_111 h
  replace h := (if_pos c_10).symm.trans h
  refine lv_aload_n hx hb dX12_reads_52 rfl (lv_at hl 0 rfl) ?_
  refine lv_iload_n hx hb dX12_reads_53 rfl (lv_at hl 1 rfl) ?_
  refine x_cVv (As := [.int v1]) F xG_ok hK hW hS um_X12_acknowledged k_6_129 (fun _ h1 => m_r_acknowledged hI _ h1) rfl rd_d0 rd_0 rfl rfl hl.1 rfl rfl ⟨Nat.le_of_ble_eq_true rfl, Nat.le_of_ble_eq_true rfl⟩ ⟨Nat.zero_le _, Nat.zero_le _⟩ (Nat.le_of_ble_eq_true rfl) dX12_reads_54 h (fun S11 H locs hW hS h => ?_)
  refine lv_goto (tgt := 111) hx hb dX12_reads_57 (by decide) ?_
  exact x_vret F hr hlk hW hS dX12_reads_111 h
def r_reads  (S : xS) (a1 : Int32) (a2 : Int32) : Option (xS) := gd a1 33 (if (xI S 0 38 (a1).toNatClampNeg) = 0 then (gd a1 33 (xnm (sI S 0 38 (a1).toNatClampNeg a2) (fun S12 => gd a1 33 (xnm (sI S12 0 39 (a1).toNatClampNeg (0 : Int32)) (fun S13 => some S13))))) else (if (xI S 0 38 (a1).toNatClampNeg) = (1 : Int32) then (if a2 = 0 then (r_reads_b47  a1 a2 (0 : Int32) a1 S) else (r_reads_b47  a1 a2 (2 : Int32) a1 S)) else (if (10 : Int32) ≤ (xI S 0 38 (a1).toNatClampNeg) then (gd a1 33 (xnm (sI S 0 38 (a1).toNatClampNeg (0 : Int32)) (fun S4 => gd a1 33 ((r_comes  S4 a1 (xI S4 0 39 (a1).toNatClampNeg)).bind (fun S5 => some S5))))) else (gd a1 33 (gd a1 33 (xnm (sI S 0 39 (a1).toNatClampNeg ((xI S 0 39 (a1).toNatClampNeg) ||| (a2 <<< (((xI S 0 38 (a1).toNatClampNeg) - (2 : Int32)) &&& 31)))) (fun S6 => gd a1 33 (gd a1 33 (xnm (sI S6 0 38 (a1).toNatClampNeg ((xI S6 0 38 (a1).toNatClampNeg) + (1 : Int32))) (fun S7 => some S7))))))))))
set_option maxHeartbeats 4000000 in
set_option maxRecDepth 100000 in
theorem m_r_reads {l : Launch} {D : va_G} {cI cZ cB : ClassId} {ad : Nat → Nat → Nat} (hI : xInj rDom ad) {S : xS} (a1 : Int32) (a2 : Int32) {o : xS} (h : r_reads  S a1 a2 = some o) : Met l yX12_reads (Cond.code yX12_reads cX12_reads 4 none :: xG) { frames := 5, cells := 0, slots := 0, locals := 120 } (xPc D vwCl (rTy cI cZ cB) [] [] rDom ad (rDe ad cI cZ cB) [.ref (ad 0 0), .int a1, .int a2] S) (xQ D vwCl rDom ad (rDe ad cI cZ cB) none o) 0 0 (xA rDom ad) := by
  unfold r_reads at h
  refine x_enter (by decide) (Nat.le_of_ble_eq_true rfl) (fun p e s m below meth c F hr hlk hK hW hS ls hl => ?_)
  have hl : lv_has ls 4 [(0, .ref (ad 0 0)), (1, .int a1), (2, .int a2)] := hl
  have hx := F.1
  have hb := F.2.1
  refine lv_aload_n hx hb dX12_reads_0 rfl (lv_at hl 0 rfl) ?_
  refine x_get F hK hW xc_X12 rd_d0 rd_0 37 (by decide) k_5_165 (gf_X12_37 _ _) dX12_reads_1 ?_
  refine lv_iload_n hx hb dX12_reads_4 rfl (lv_at hl 1 rfl) ?_
  refine x_iald (t0 := 0) F hK hW rd_d38 rd_38 rfl dX12_reads_5 h (fun h => ?_)
  refine lv_istore_n (lv' := [(3, .int (xI S 0 38 (a1).toNatClampNeg)), (0, .ref (ad 0 0)), (1, .int a1), (2, .int a2)]) hx hb dX12_reads_6 rfl hl (by decide) rfl (fun ls hl => ?_)
  refine lv_iload_n hx hb dX12_reads_7 rfl (lv_at hl 0 rfl) ?_
  refine lv_if_ne (tgt := 28) hx hb dX12_reads_8 (by decide) (fun c_1 => ?_) (fun c_1 => ?_)
  · replace h := (if_neg c_1).symm.trans h
    refine lv_iload_n hx hb dX12_reads_28 rfl (lv_at hl 0 rfl) ?_
    refine lv_iconst (v := (1 : Int32)) hx hb dX12_reads_29 (by decide) ?_
    refine lv_icmp_ne (tgt := 60) hx hb dX12_reads_30 (by decide) (fun c_2 => ?_) (fun c_2 => ?_)
    · replace h := (if_neg c_2).symm.trans h
      refine lv_iload_n hx hb dX12_reads_60 rfl (lv_at hl 0 rfl) ?_
      refine lv_bipush (v := (10 : Int32)) hx hb dX12_reads_61 (by decide) ?_
      refine lv_icmp_ge (tgt := 93) hx hb dX12_reads_63 (by decide) (fun c_3 => ?_) (fun c_3 => ?_)
      · replace h := (if_pos c_3).symm.trans h
        refine lv_aload_n hx hb dX12_reads_93 rfl (lv_at hl 1 rfl) ?_
        refine x_get F hK hW xc_X12 rd_d0 rd_0 37 (by decide) k_5_165 (gf_X12_37 _ _) dX12_reads_94 ?_
        refine lv_iload_n hx hb dX12_reads_97 rfl (lv_at hl 2 rfl) ?_
        refine lv_iconst (v := (0 : Int32)) hx hb dX12_reads_98 (by decide) ?_
        refine x_iast (t0 := 0) F hK hI hW hS rd_d38 rd_38 rfl dX12_reads_99 h (fun S4 H locs hW hS h => ?_)
        refine lv_aload_n hx hb dX12_reads_100 rfl (lv_at hl 1 rfl) ?_
        refine lv_iload_n hx hb dX12_reads_101 rfl (lv_at hl 2 rfl) ?_
        refine lv_aload_n hx hb dX12_reads_102 rfl (lv_at hl 1 rfl) ?_
        refine x_get F hK hW xc_X12 rd_d0 rd_0 38 (by decide) k_5_166 (gf_X12_38 _ _) dX12_reads_103 ?_
        refine lv_iload_n hx hb dX12_reads_106 rfl (lv_at hl 2 rfl) ?_
        refine x_iald (t0 := 0) F hK hW rd_d39 rd_39 rfl dX12_reads_107 h (fun h => ?_)
        refine x_cVv (As := [.int a1, .int (xI S4 0 39 (a1).toNatClampNeg)]) F xG_ok hK hW hS um_X12_comes k_6_145 (fun _ h1 => m_r_comes hI _ _ h1) rfl rd_d0 rd_0 rfl rfl hl.1 rfl rfl ⟨Nat.le_of_ble_eq_true rfl, Nat.le_of_ble_eq_true rfl⟩ ⟨Nat.zero_le _, Nat.zero_le _⟩ (Nat.le_of_ble_eq_true rfl) dX12_reads_108 h (fun S5 H locs hW hS h => ?_)
        exact x_vret F hr hlk hW hS dX12_reads_111 h
      replace h := (if_neg c_3).symm.trans h
      refine lv_aload_n hx hb dX12_reads_66 rfl (lv_at hl 1 rfl) ?_
      refine x_get F hK hW xc_X12 rd_d0 rd_0 38 (by decide) k_5_166 (gf_X12_38 _ _) dX12_reads_67 ?_
      refine lv_iload_n hx hb dX12_reads_70 rfl (lv_at hl 2 rfl) ?_
      refine lv_dup2_11 hx hb dX12_reads_71 rfl rfl ?_
      refine x_iald (t0 := 0) F hK hW rd_d39 rd_39 rfl dX12_reads_72 h (fun h => ?_)
      refine lv_iload_n hx hb dX12_reads_73 rfl (lv_at hl 3 rfl) ?_
      refine lv_iload_n hx hb dX12_reads_74 rfl (lv_at hl 0 rfl) ?_
      refine lv_iconst (v := (2 : Int32)) hx hb dX12_reads_75 (by decide) ?_
      refine lv_isub hx hb dX12_reads_76 ?_
      refine lv_ishl hx hb dX12_reads_77 ?_
      refine lv_ior hx hb dX12_reads_78 ?_
      refine x_iast (t0 := 0) F hK hI hW hS rd_d39 rd_39 rfl dX12_reads_79 h (fun S6 H locs hW hS h => ?_)
      refine lv_aload_n hx hb dX12_reads_80 rfl (lv_at hl 1 rfl) ?_
      refine x_get F hK hW xc_X12 rd_d0 rd_0 37 (by decide) k_5_165 (gf_X12_37 _ _) dX12_reads_81 ?_
      refine lv_iload_n hx hb dX12_reads_84 rfl (lv_at hl 2 rfl) ?_
      refine lv_dup2_11 hx hb dX12_reads_85 rfl rfl ?_
      refine x_iald (t0 := 0) F hK hW rd_d38 rd_38 rfl dX12_reads_86 h (fun h => ?_)
      refine lv_iconst (v := (1 : Int32)) hx hb dX12_reads_87 (by decide) ?_
      refine lv_iadd hx hb dX12_reads_88 ?_
      refine x_iast (t0 := 0) F hK hI hW hS rd_d38 rd_38 rfl dX12_reads_89 h (fun S7 H locs hW hS h => ?_)
      refine lv_goto (tgt := 111) hx hb dX12_reads_90 (by decide) ?_
      exact x_vret F hr hlk hW hS dX12_reads_111 h
    replace h := (if_pos c_2).symm.trans h
    refine lv_aload_n hx hb dX12_reads_33 rfl (lv_at hl 1 rfl) ?_
    refine x_get F hK hW xc_X12 rd_d0 rd_0 37 (by decide) k_5_165 (gf_X12_37 _ _) dX12_reads_34 ?_
    refine lv_iload_n hx hb dX12_reads_37 rfl (lv_at hl 2 rfl) ?_
    refine lv_iload_n hx hb dX12_reads_38 rfl (lv_at hl 3 rfl) ?_
    refine lv_if_ne (tgt := 46) hx hb dX12_reads_39 (by decide) (fun c_8 => ?_) (fun c_8 => ?_)
    · replace h := (if_neg c_8).symm.trans h
      refine lv_iconst (v := (2 : Int32)) hx hb dX12_reads_46 (by decide) ?_
      exact m_r_reads_b47 hI  F hr hlk hK _ _ _ _ _ h hW hS (lv_sub hl [1, 2, 3] rfl)
    replace h := (if_pos c_8).symm.trans h
    refine lv_iconst (v := (0 : Int32)) hx hb dX12_reads_42 (by decide) ?_
    refine lv_goto (tgt := 47) hx hb dX12_reads_43 (by decide) ?_
    exact m_r_reads_b47 hI  F hr hlk hK _ _ _ _ _ h hW hS (lv_sub hl [1, 2, 3] rfl)
  replace h := (if_pos c_1).symm.trans h
  refine lv_aload_n hx hb dX12_reads_11 rfl (lv_at hl 1 rfl) ?_
  refine x_get F hK hW xc_X12 rd_d0 rd_0 37 (by decide) k_5_165 (gf_X12_37 _ _) dX12_reads_12 ?_
  refine lv_iload_n hx hb dX12_reads_15 rfl (lv_at hl 2 rfl) ?_
  refine lv_iload_n hx hb dX12_reads_16 rfl (lv_at hl 3 rfl) ?_
  refine x_iast (t0 := 0) F hK hI hW hS rd_d38 rd_38 rfl dX12_reads_17 h (fun S12 H locs hW hS h => ?_)
  refine lv_aload_n hx hb dX12_reads_18 rfl (lv_at hl 1 rfl) ?_
  refine x_get F hK hW xc_X12 rd_d0 rd_0 38 (by decide) k_5_166 (gf_X12_38 _ _) dX12_reads_19 ?_
  refine lv_iload_n hx hb dX12_reads_22 rfl (lv_at hl 2 rfl) ?_
  refine lv_iconst (v := (0 : Int32)) hx hb dX12_reads_23 (by decide) ?_
  refine x_iast (t0 := 0) F hK hI hW hS rd_d39 rd_39 rfl dX12_reads_24 h (fun S13 H locs hW hS h => ?_)
  refine lv_goto (tgt := 111) hx hb dX12_reads_25 (by decide) ?_
  exact x_vret F hr hlk hW hS dX12_reads_111 h
/-! X12_begins -/
def r_begins  (S : xS) (a1 : Int32) (a2 : Int32) : Option (xS) := gd a1 8 (xnm (sI S 0 52 (a1).toNatClampNeg (vp_nar .boolean (0 : Int32))) (fun S1 => gd a1 8 (xnm (sI S1 0 11 (a1).toNatClampNeg (1 : Int32)) (fun S2 => gd a1 8 (xnm (sI S2 0 9 (a1).toNatClampNeg (32804 : Int32)) (fun S3 => gd a1 8 (gd a1 8 (xnm (sI S3 0 10 (a1).toNatClampNeg ((((32804 : Int32) + (xI S3 0 54 (a1).toNatClampNeg)) + (1 : Int32)) &&& (65534 : Int32))) (fun S4 => gd a1 8 (xnm (sI S4 0 5 (a1).toNatClampNeg (32768 : Int32)) (fun S5 => gd a1 8 (xnm (sI S5 0 6 (a1).toNatClampNeg (32769 : Int32)) (fun S6 => gd a1 8 (xnm (sI S6 0 7 (a1).toNatClampNeg ((32776 : Int32) + ((2 : Int32) * (jrem a2 (4 : Int32))))) (fun S7 => gd a1 8 (xnm (sI S7 0 8 (a1).toNatClampNeg (0 : Int32)) (fun S8 => gd a1 8 (xnm (sI S8 0 12 (a1).toNatClampNeg (0 : Int32)) (fun S9 => some S9)))))))))))))))))))
set_option maxHeartbeats 4000000 in
set_option maxRecDepth 100000 in
theorem m_r_begins {l : Launch} {D : va_G} {cI cZ cB : ClassId} {ad : Nat → Nat → Nat} (hI : xInj rDom ad) {S : xS} (a1 : Int32) (a2 : Int32) {o : xS} (h : r_begins  S a1 a2 = some o) : Met l yX12_begins (Cond.code yX12_begins cX12_begins 3 none :: xG) { frames := 0, cells := 0, slots := 0, locals := 0 } (xPc D vwCl (rTy cI cZ cB) [] [] rDom ad (rDe ad cI cZ cB) [.ref (ad 0 0), .int a1, .int a2] S) (xQ D vwCl rDom ad (rDe ad cI cZ cB) none o) 0 0 (xA rDom ad) := by
  unfold r_begins at h
  refine x_enter (by decide) (Nat.le_of_ble_eq_true rfl) (fun p e s m below meth c F hr hlk hK hW hS ls hl => ?_)
  have hl : lv_has ls 3 [(0, .ref (ad 0 0)), (1, .int a1), (2, .int a2)] := hl
  have hx := F.1
  have hb := F.2.1
  refine lv_aload_n hx hb dX12_begins_0 rfl (lv_at hl 0 rfl) ?_
  refine x_get F hK hW xc_X12 rd_d0 rd_0 51 (by decide) k_5_179 (gf_X12_51 _ _) dX12_begins_1 ?_
  refine lv_iload_n hx hb dX12_begins_4 rfl (lv_at hl 1 rfl) ?_
  refine lv_iconst (v := (0 : Int32)) hx hb dX12_begins_5 (by decide) ?_
  refine x_zast (t0 := 1) F hK hI hW hS rd_d52 rd_52 rfl dX12_begins_6 h (fun S1 H locs hW hS h => ?_)
  refine lv_aload_n hx hb dX12_begins_7 rfl (lv_at hl 0 rfl) ?_
  refine x_get F hK hW xc_X12 rd_d0 rd_0 10 (by decide) k_5_138 (gf_X12_10 _ _) dX12_begins_8 ?_
  refine lv_iload_n hx hb dX12_begins_11 rfl (lv_at hl 1 rfl) ?_
  refine lv_iconst (v := (1 : Int32)) hx hb dX12_begins_12 (by decide) ?_
  refine x_iast (t0 := 0) F hK hI hW hS rd_d11 rd_11 rfl dX12_begins_13 h (fun S2 H locs hW hS h => ?_)
  refine lv_aload_n hx hb dX12_begins_14 rfl (lv_at hl 0 rfl) ?_
  refine x_get F hK hW xc_X12 rd_d0 rd_0 8 (by decide) k_5_136 (gf_X12_8 _ _) dX12_begins_15 ?_
  refine lv_iload_n hx hb dX12_begins_18 rfl (lv_at hl 1 rfl) ?_
  refine lv_ldc (v := (32804 : Int32)) hx hb F.2.2.2.1 (x_hts F _ k_5_127) dX12_begins_19 ?_
  refine x_iast (t0 := 0) F hK hI hW hS rd_d9 rd_9 rfl dX12_begins_21 h (fun S3 H locs hW hS h => ?_)
  refine lv_aload_n hx hb dX12_begins_22 rfl (lv_at hl 0 rfl) ?_
  refine x_get F hK hW xc_X12 rd_d0 rd_0 9 (by decide) k_5_137 (gf_X12_9 _ _) dX12_begins_23 ?_
  refine lv_iload_n hx hb dX12_begins_26 rfl (lv_at hl 1 rfl) ?_
  refine lv_ldc (v := (32804 : Int32)) hx hb F.2.2.2.1 (x_hts F _ k_5_127) dX12_begins_27 ?_
  refine lv_aload_n hx hb dX12_begins_29 rfl (lv_at hl 0 rfl) ?_
  refine x_get F hK hW xc_X12 rd_d0 rd_0 53 (by decide) k_5_181 (gf_X12_53 _ _) dX12_begins_30 ?_
  refine lv_iload_n hx hb dX12_begins_33 rfl (lv_at hl 1 rfl) ?_
  refine x_iald (t0 := 0) F hK hW rd_d54 rd_54 rfl dX12_begins_34 h (fun h => ?_)
  refine lv_iadd hx hb dX12_begins_35 ?_
  refine lv_iconst (v := (1 : Int32)) hx hb dX12_begins_36 (by decide) ?_
  refine lv_iadd hx hb dX12_begins_37 ?_
  refine lv_ldc (v := (65534 : Int32)) hx hb F.2.2.2.1 (x_hts F _ k_6_103) dX12_begins_38 ?_
  refine lv_iand hx hb dX12_begins_40 ?_
  refine x_iast (t0 := 0) F hK hI hW hS rd_d10 rd_10 rfl dX12_begins_41 h (fun S4 H locs hW hS h => ?_)
  refine lv_aload_n hx hb dX12_begins_42 rfl (lv_at hl 0 rfl) ?_
  refine x_get F hK hW xc_X12 rd_d0 rd_0 4 (by decide) k_5_132 (gf_X12_4 _ _) dX12_begins_43 ?_
  refine lv_iload_n hx hb dX12_begins_46 rfl (lv_at hl 1 rfl) ?_
  refine lv_ldc (v := (32768 : Int32)) hx hb F.2.2.2.1 (x_hts F _ k_5_126) dX12_begins_47 ?_
  refine x_iast (t0 := 0) F hK hI hW hS rd_d5 rd_5 rfl dX12_begins_49 h (fun S5 H locs hW hS h => ?_)
  refine lv_aload_n hx hb dX12_begins_50 rfl (lv_at hl 0 rfl) ?_
  refine x_get F hK hW xc_X12 rd_d0 rd_0 5 (by decide) k_5_133 (gf_X12_5 _ _) dX12_begins_51 ?_
  refine lv_iload_n hx hb dX12_begins_54 rfl (lv_at hl 1 rfl) ?_
  refine lv_ldcw (v := (32769 : Int32)) hx hb F.2.2.2.1 (x_hts F _ k_6_153) dX12_begins_55 ?_
  refine x_iast (t0 := 0) F hK hI hW hS rd_d6 rd_6 rfl dX12_begins_58 h (fun S6 H locs hW hS h => ?_)
  refine lv_aload_n hx hb dX12_begins_59 rfl (lv_at hl 0 rfl) ?_
  refine x_get F hK hW xc_X12 rd_d0 rd_0 6 (by decide) k_5_134 (gf_X12_6 _ _) dX12_begins_60 ?_
  refine lv_iload_n hx hb dX12_begins_63 rfl (lv_at hl 1 rfl) ?_
  refine lv_ldcw (v := (32776 : Int32)) hx hb F.2.2.2.1 (x_hts F _ k_6_172) dX12_begins_64 ?_
  refine lv_iconst (v := (2 : Int32)) hx hb dX12_begins_67 (by decide) ?_
  refine lv_iload_n hx hb dX12_begins_68 rfl (lv_at hl 2 rfl) ?_
  refine lv_iconst (v := (4 : Int32)) hx hb dX12_begins_69 (by decide) ?_
  refine x_irem hx hb dX12_begins_70 (by decide) ?_
  refine lv_imul hx hb dX12_begins_71 ?_
  refine lv_iadd hx hb dX12_begins_72 ?_
  refine x_iast (t0 := 0) F hK hI hW hS rd_d7 rd_7 rfl dX12_begins_73 h (fun S7 H locs hW hS h => ?_)
  refine lv_aload_n hx hb dX12_begins_74 rfl (lv_at hl 0 rfl) ?_
  refine x_get F hK hW xc_X12 rd_d0 rd_0 7 (by decide) k_5_135 (gf_X12_7 _ _) dX12_begins_75 ?_
  refine lv_iload_n hx hb dX12_begins_78 rfl (lv_at hl 1 rfl) ?_
  refine lv_iconst (v := (0 : Int32)) hx hb dX12_begins_79 (by decide) ?_
  refine x_iast (t0 := 0) F hK hI hW hS rd_d8 rd_8 rfl dX12_begins_80 h (fun S8 H locs hW hS h => ?_)
  refine lv_aload_n hx hb dX12_begins_81 rfl (lv_at hl 0 rfl) ?_
  refine x_get F hK hW xc_X12 rd_d0 rd_0 11 (by decide) k_5_139 (gf_X12_11 _ _) dX12_begins_82 ?_
  refine lv_iload_n hx hb dX12_begins_85 rfl (lv_at hl 1 rfl) ?_
  refine lv_iconst (v := (0 : Int32)) hx hb dX12_begins_86 (by decide) ?_
  refine x_iast (t0 := 0) F hK hI hW hS rd_d12 rd_12 rfl dX12_begins_87 h (fun S9 H locs hW hS h => ?_)
  exact x_vret F hr hlk hW hS dX12_begins_88 h
/-! X12_boot -/
def r_boot_b298 (v1 : Int32) (v2 : Int32) (v4 : Int32) (S : xS) : Option (xS) := gd v1 8 (if (xI S 0 54 (v1).toNatClampNeg) = (1 : Int32) then (if v4 = (1 : Int32) then (gd v2 33 (xnm (sI S 0 43 (v2).toNatClampNeg (vp_nar .boolean (1 : Int32))) (fun S15 => gd v1 8 ((r_word  S15 v1 (xI S15 0 56 (v1).toNatClampNeg)).bind (fun (r_16, S16) => gd v2 33 (xnm (sI S16 0 46 (v2).toNatClampNeg r_16) (fun S17 => gd v2 33 (xnm (sI S17 0 45 (v2).toNatClampNeg (2 : Int32)) (fun S18 => some S18))))))))) else (some S)) else (some S))
set_option maxHeartbeats 4000000 in
set_option maxRecDepth 100000 in
theorem m_r_boot_b298 {l : Launch} {D : va_G} {cI cZ cB : ClassId} {ad : Nat → Nat → Nat} (hI : xInj rDom ad) {p : Program} {e : Env} {s : State} {m : MethodId} {args : Array Value} {below : List Frame} {meth : Method} {c : Code} (F : CallFix p m c cX12_boot 5 s args (Cond.code yX12_boot cX12_boot 5 none :: xG) (yX12_boot).cls) (hr : meth.sig.returnType = none) (hlk : meth.locks = false) (hK : xK D vwCl (rTy cI cZ cB) [] [] s) {o : xS} (v1 : Int32) (v2 : Int32) (v4 : Int32) (S : xS) {H : Heap} {locs : List Loc} {ls : Array Slot} (h : r_boot_b298 v1 v2 v4 S = some o) (hW : xW D vwCl rDom ad (rDe ad cI cZ cB) S H) (hS : va_S (xA rDom ad) s.heap H locs) (hl : lv_has ls 5 [(0, .ref (ad 0 0)), (1, .int v1), (2, .int v2), (4, .int v4)]) : W p l e { frames := 2, cells := 0, slots := 0, locals := 48 } s m args below meth c H locs 0 0 (MQ below (xQ D vwCl rDom ad (rDe ad cI cZ cB) none o) args s 0 0 (xA rDom ad)) (F0 m 298 ls []) := by
  have hx := F.1
  have hb := F.2.1
  unfold r_boot_b298 at h
  refine lv_aload_n hx hb dX12_boot_298 rfl (lv_at hl 0 rfl) ?_
  refine x_get F hK hW xc_X12 rd_d0 rd_0 53 (by decide) k_5_181 (gf_X12_53 _ _) dX12_boot_299 ?_
  refine lv_iload_n hx hb dX12_boot_302 rfl (lv_at hl 1 rfl) ?_
  refine x_iald (t0 := 0) F hK hW rd_d54 rd_54 rfl dX12_boot_303 h (fun h => ?_)
  refine lv_iconst (v := (1 : Int32)) hx hb dX12_boot_304 (by decide) ?_
  refine lv_icmp_ne (tgt := 345) hx hb dX12_boot_305 (by decide) (fun c_13 => ?_) (fun c_13 => ?_)
  · replace h := (if_neg c_13).symm.trans h
    exact x_vret F hr hlk hW hS dX12_boot_345 h
  replace h := (if_pos c_13).symm.trans h
  refine lv_iload hx hb dX12_boot_308 (lv_at hl 3 rfl) ?_
  refine lv_iconst (v := (1 : Int32)) hx hb dX12_boot_310 (by decide) ?_
  refine lv_icmp_ne (tgt := 345) hx hb dX12_boot_311 (by decide) (fun c_14 => ?_) (fun c_14 => ?_)
  · replace h := (if_neg c_14).symm.trans h
    exact x_vret F hr hlk hW hS dX12_boot_345 h
  replace h := (if_pos c_14).symm.trans h
  refine lv_aload_n hx hb dX12_boot_314 rfl (lv_at hl 0 rfl) ?_
  refine x_get F hK hW xc_X12 rd_d0 rd_0 42 (by decide) k_5_170 (gf_X12_42 _ _) dX12_boot_315 ?_
  refine lv_iload_n hx hb dX12_boot_318 rfl (lv_at hl 2 rfl) ?_
  refine lv_iconst (v := (1 : Int32)) hx hb dX12_boot_319 (by decide) ?_
  refine x_zast (t0 := 1) F hK hI hW hS rd_d43 rd_43 rfl dX12_boot_320 h (fun S15 H locs hW hS h => ?_)
  refine lv_aload_n hx hb dX12_boot_321 rfl (lv_at hl 0 rfl) ?_
  refine x_get F hK hW xc_X12 rd_d0 rd_0 45 (by decide) k_5_173 (gf_X12_45 _ _) dX12_boot_322 ?_
  refine lv_iload_n hx hb dX12_boot_325 rfl (lv_at hl 2 rfl) ?_
  refine lv_aload_n hx hb dX12_boot_326 rfl (lv_at hl 0 rfl) ?_
  refine lv_iload_n hx hb dX12_boot_327 rfl (lv_at hl 1 rfl) ?_
  refine lv_aload_n hx hb dX12_boot_328 rfl (lv_at hl 0 rfl) ?_
  refine x_get F hK hW xc_X12 rd_d0 rd_0 55 (by decide) k_5_183 (gf_X12_55 _ _) dX12_boot_329 ?_
  refine lv_iload_n hx hb dX12_boot_332 rfl (lv_at hl 1 rfl) ?_
  refine x_iald (t0 := 0) F hK hW rd_d56 rd_56 rfl dX12_boot_333 h (fun h => ?_)
  refine x_cVi (As := [.int v1, .int (xI S15 0 56 (v1).toNatClampNeg)]) F xG_ok hK hW hS um_X12_word k_6_149 (fun _ h1 => m_r_word hI _ _ h1) rfl rd_d0 rd_0 rfl rfl hl.1 rfl rfl ⟨Nat.le_of_ble_eq_true rfl, Nat.le_of_ble_eq_true rfl⟩ ⟨Nat.zero_le _, Nat.zero_le _⟩ (Nat.le_of_ble_eq_true rfl) dX12_boot_334 h (fun r_16 S16 H locs hW hS h => ?_)
  refine x_iast (t0 := 0) F hK hI hW hS rd_d46 rd_46 rfl dX12_boot_337 h (fun S17 H locs hW hS h => ?_)
  refine lv_aload_n hx hb dX12_boot_338 rfl (lv_at hl 0 rfl) ?_
  refine x_get F hK hW xc_X12 rd_d0 rd_0 44 (by decide) k_5_172 (gf_X12_44 _ _) dX12_boot_339 ?_
  refine lv_iload_n hx hb dX12_boot_342 rfl (lv_at hl 2 rfl) ?_
  refine lv_iconst (v := (2 : Int32)) hx hb dX12_boot_343 (by decide) ?_
  refine x_iast (t0 := 0) F hK hI hW hS rd_d45 rd_45 rfl dX12_boot_344 h (fun S18 H locs hW hS h => ?_)
  exact x_vret F hr hlk hW hS dX12_boot_345 h
def r_boot_b252 (v1 : Int32) (v2 : Int32) (v4 : Int32) (S : xS) : Option (xS) := gd v1 8 (if (xI S 0 54 (v1).toNatClampNeg) = 0 then (if v4 = (3 : Int32) then (gd v1 8 (gd v1 8 ((r_wordTo  S v1 (xI S 0 56 (v1).toNatClampNeg) (xI S 0 57 (v1).toNatClampNeg)).bind (fun S20 => gd v1 8 (xnm (sI S20 0 53 (v1).toNatClampNeg (-1 : Int32)) (fun S21 => gd v1 8 (xnm (sI S21 0 54 (v1).toNatClampNeg (-1 : Int32)) (fun S22 => r_boot_b298  v1 v2 v4 S22)))))))) else (r_boot_b298  v1 v2 v4 S)) else (r_boot_b298  v1 v2 v4 S))
set_option maxHeartbeats 4000000 in
set_option maxRecDepth 100000 in
theorem m_r_boot_b252 {l : Launch} {D : va_G} {cI cZ cB : ClassId} {ad : Nat → Nat → Nat} (hI : xInj rDom ad) {p : Program} {e : Env} {s : State} {m : MethodId} {args : Array Value} {below : List Frame} {meth : Method} {c : Code} (F : CallFix p m c cX12_boot 5 s args (Cond.code yX12_boot cX12_boot 5 none :: xG) (yX12_boot).cls) (hr : meth.sig.returnType = none) (hlk : meth.locks = false) (hK : xK D vwCl (rTy cI cZ cB) [] [] s) {o : xS} (v1 : Int32) (v2 : Int32) (v4 : Int32) (S : xS) {H : Heap} {locs : List Loc} {ls : Array Slot} (h : r_boot_b252 v1 v2 v4 S = some o) (hW : xW D vwCl rDom ad (rDe ad cI cZ cB) S H) (hS : va_S (xA rDom ad) s.heap H locs) (hl : lv_has ls 5 [(0, .ref (ad 0 0)), (1, .int v1), (2, .int v2), (4, .int v4)]) : W p l e { frames := 2, cells := 0, slots := 0, locals := 48 } s m args below meth c H locs 0 0 (MQ below (xQ D vwCl rDom ad (rDe ad cI cZ cB) none o) args s 0 0 (xA rDom ad)) (F0 m 252 ls []) := by
  have hx := F.1
  have hb := F.2.1
  unfold r_boot_b252 at h
  refine lv_aload_n hx hb dX12_boot_252 rfl (lv_at hl 0 rfl) ?_
  refine x_get F hK hW xc_X12 rd_d0 rd_0 53 (by decide) k_5_181 (gf_X12_53 _ _) dX12_boot_253 ?_
  refine lv_iload_n hx hb dX12_boot_256 rfl (lv_at hl 1 rfl) ?_
  refine x_iald (t0 := 0) F hK hW rd_d54 rd_54 rfl dX12_boot_257 h (fun h => ?_)
  refine lv_if_ne (tgt := 298) hx hb dX12_boot_258 (by decide) (fun c_12 => ?_) (fun c_12 => ?_)
  · replace h := (if_neg c_12).symm.trans h
    exact m_r_boot_b298 hI  F hr hlk hK _ _ _ _ h hW hS (lv_sub hl [0, 1, 2, 3] rfl)
  replace h := (if_pos c_12).symm.trans h
  refine lv_iload hx hb dX12_boot_261 (lv_at hl 3 rfl) ?_
  refine lv_iconst (v := (3 : Int32)) hx hb dX12_boot_263 (by decide) ?_
  refine lv_icmp_ne (tgt := 298) hx hb dX12_boot_264 (by decide) (fun c_19 => ?_) (fun c_19 => ?_)
  · replace h := (if_neg c_19).symm.trans h
    exact m_r_boot_b298 hI  F hr hlk hK _ _ _ _ h hW hS (lv_sub hl [0, 1, 2, 3] rfl)
  replace h := (if_pos c_19).symm.trans h
  refine lv_aload_n hx hb dX12_boot_267 rfl (lv_at hl 0 rfl) ?_
  refine lv_iload_n hx hb dX12_boot_268 rfl (lv_at hl 1 rfl) ?_
  refine lv_aload_n hx hb dX12_boot_269 rfl (lv_at hl 0 rfl) ?_
  refine x_get F hK hW xc_X12 rd_d0 rd_0 55 (by decide) k_5_183 (gf_X12_55 _ _) dX12_boot_270 ?_
  refine lv_iload_n hx hb dX12_boot_273 rfl (lv_at hl 1 rfl) ?_
  refine x_iald (t0 := 0) F hK hW rd_d56 rd_56 rfl dX12_boot_274 h (fun h => ?_)
  refine lv_aload_n hx hb dX12_boot_275 rfl (lv_at hl 0 rfl) ?_
  refine x_get F hK hW xc_X12 rd_d0 rd_0 56 (by decide) k_5_184 (gf_X12_56 _ _) dX12_boot_276 ?_
  refine lv_iload_n hx hb dX12_boot_279 rfl (lv_at hl 1 rfl) ?_
  refine x_iald (t0 := 0) F hK hW rd_d57 rd_57 rfl dX12_boot_280 h (fun h => ?_)
  refine x_cVv (As := [.int v1, .int (xI S 0 56 (v1).toNatClampNeg), .int (xI S 0 57 (v1).toNatClampNeg)]) F xG_ok hK hW hS um_X12_wordTo k_6_137 (fun _ h1 => m_r_wordTo hI _ _ _ h1) rfl rd_d0 rd_0 rfl rfl hl.1 rfl rfl ⟨Nat.le_of_ble_eq_true rfl, Nat.le_of_ble_eq_true rfl⟩ ⟨Nat.zero_le _, Nat.zero_le _⟩ (Nat.le_of_ble_eq_true rfl) dX12_boot_281 h (fun S20 H locs hW hS h => ?_)
  refine lv_aload_n hx hb dX12_boot_284 rfl (lv_at hl 0 rfl) ?_
  refine x_get F hK hW xc_X12 rd_d0 rd_0 52 (by decide) k_5_180 (gf_X12_52 _ _) dX12_boot_285 ?_
  refine lv_iload_n hx hb dX12_boot_288 rfl (lv_at hl 1 rfl) ?_
  refine lv_iconst (v := (-1 : Int32)) hx hb dX12_boot_289 (by decide) ?_
  refine x_iast (t0 := 0) F hK hI hW hS rd_d53 rd_53 rfl dX12_boot_290 h (fun S21 H locs hW hS h => ?_)
  refine lv_aload_n hx hb dX12_boot_291 rfl (lv_at hl 0 rfl) ?_
  refine x_get F hK hW xc_X12 rd_d0 rd_0 53 (by decide) k_5_181 (gf_X12_53 _ _) dX12_boot_292 ?_
  refine lv_iload_n hx hb dX12_boot_295 rfl (lv_at hl 1 rfl) ?_
  refine lv_iconst (v := (-1 : Int32)) hx hb dX12_boot_296 (by decide) ?_
  refine x_iast (t0 := 0) F hK hI hW hS rd_d54 rd_54 rfl dX12_boot_297 h (fun S22 H locs hW hS h => ?_)
  exact m_r_boot_b298 hI  F hr hlk hK _ _ _ _ h hW hS (lv_sub hl [0, 1, 2, 3] rfl)
def r_boot_b43 (v1 : Int32) (S : xS) : Option (xS) := gd v1 8 (if (xI S 0 53 (v1).toNatClampNeg) = (-1 : Int32) then (some S) else (gd v1 8 (gd (((4 : Int32) * v1) + (xI S 0 53 (v1).toNatClampNeg)) 33 (if (xI S 0 50 ((((4 : Int32) * v1) + (xI S 0 53 (v1).toNatClampNeg))).toNatClampNeg) = (-1 : Int32) then (some S) else (gd (((4 : Int32) * v1) + (xI S 0 53 (v1).toNatClampNeg)) 33 (if (xI S 0 43 ((((4 : Int32) * v1) + (xI S 0 53 (v1).toNatClampNeg))).toNatClampNeg) = 0 then (gd (((4 : Int32) * v1) + (xI S 0 53 (v1).toNatClampNeg)) 33 (gd (((4 : Int32) * v1) + (xI S 0 53 (v1).toNatClampNeg)) 33 (xnm (sI S 0 50 ((((4 : Int32) * v1) + (xI S 0 53 (v1).toNatClampNeg))).toNatClampNeg (-1 : Int32)) (fun S5 => gd (((4 : Int32) * v1) + (xI S 0 53 (v1).toNatClampNeg)) 33 (gd (((4 : Int32) * v1) + (xI S 0 53 (v1).toNatClampNeg)) 33 (xnm (sI S5 0 40 ((((4 : Int32) * v1) + (xI S 0 53 (v1).toNatClampNeg))).toNatClampNeg ((xI S5 0 40 ((((4 : Int32) * v1) + (xI S 0 53 (v1).toNatClampNeg))).toNatClampNeg) + (1 : Int32))) (fun S6 => gd v1 8 (if (xI S6 0 54 (v1).toNatClampNeg) = (-1 : Int32) then (gd v1 8 (xnm (sI S6 0 54 (v1).toNatClampNeg (xI S 0 50 ((((4 : Int32) * v1) + (xI S 0 53 (v1).toNatClampNeg))).toNatClampNeg)) (fun S27 => gd v1 8 (xnm (sI S27 0 55 (v1).toNatClampNeg (0 : Int32)) (fun S28 => gd v1 8 (xnm (sI S28 0 56 (v1).toNatClampNeg (0 : Int32)) (fun S29 => gd v1 8 (xnm (sI S29 0 57 (v1).toNatClampNeg (0 : Int32)) (fun S30 => some S30))))))))) else (gd v1 8 (gd v1 8 (gd v1 8 (xnm (sI S6 0 55 (v1).toNatClampNeg ((xI S6 0 55 (v1).toNatClampNeg) + (1 : Int32))) (fun S8 => gd v1 8 (if (xI S8 0 54 (v1).toNatClampNeg) ≤ (1 : Int32) then (if (2 : Int32) ≤ (xI S6 0 55 (v1).toNatClampNeg) then (gd v1 8 (gd v1 8 (xnm (sI S8 0 57 (v1).toNatClampNeg ((xI S8 0 57 (v1).toNatClampNeg) ||| ((xI S 0 50 ((((4 : Int32) * v1) + (xI S 0 53 (v1).toNatClampNeg))).toNatClampNeg) <<< (((8 : Int32) * ((xI S6 0 55 (v1).toNatClampNeg) - (2 : Int32))) &&& 31)))) (fun S11 => r_boot_b252  v1 (((4 : Int32) * v1) + (xI S 0 53 (v1).toNatClampNeg)) (xI S6 0 55 (v1).toNatClampNeg) S11)))) else (gd v1 8 (gd v1 8 (xnm (sI S8 0 56 (v1).toNatClampNeg ((xI S8 0 56 (v1).toNatClampNeg) ||| ((xI S 0 50 ((((4 : Int32) * v1) + (xI S 0 53 (v1).toNatClampNeg))).toNatClampNeg) <<< (((8 : Int32) * (xI S6 0 55 (v1).toNatClampNeg)) &&& 31)))) (fun S23 => r_boot_b252  v1 (((4 : Int32) * v1) + (xI S 0 53 (v1).toNatClampNeg)) (xI S6 0 55 (v1).toNatClampNeg) S23))))) else ((r_byteTo  S8 v1 ((32804 : Int32) + (xI S6 0 55 (v1).toNatClampNeg)) (xI S 0 50 ((((4 : Int32) * v1) + (xI S 0 53 (v1).toNatClampNeg))).toNatClampNeg)).bind (fun S24 => gd v1 8 (gd v1 8 (if (xI S24 0 55 (v1).toNatClampNeg) = (xI S24 0 54 (v1).toNatClampNeg) then ((r_begins  S24 v1 (((4 : Int32) * v1) + (xI S 0 53 (v1).toNatClampNeg))).bind (fun S26 => some S26)) else (some S24))))))))))))))))))) else (some S)))))))
set_option maxHeartbeats 4000000 in
set_option maxRecDepth 100000 in
theorem m_r_boot_b43 {l : Launch} {D : va_G} {cI cZ cB : ClassId} {ad : Nat → Nat → Nat} (hI : xInj rDom ad) {p : Program} {e : Env} {s : State} {m : MethodId} {args : Array Value} {below : List Frame} {meth : Method} {c : Code} (F : CallFix p m c cX12_boot 5 s args (Cond.code yX12_boot cX12_boot 5 none :: xG) (yX12_boot).cls) (hr : meth.sig.returnType = none) (hlk : meth.locks = false) (hK : xK D vwCl (rTy cI cZ cB) [] [] s) {o : xS} (v1 : Int32) (S : xS) {H : Heap} {locs : List Loc} {ls : Array Slot} (h : r_boot_b43 v1 S = some o) (hW : xW D vwCl rDom ad (rDe ad cI cZ cB) S H) (hS : va_S (xA rDom ad) s.heap H locs) (hl : lv_has ls 5 [(0, .ref (ad 0 0)), (1, .int v1)]) : W p l e { frames := 2, cells := 0, slots := 0, locals := 48 } s m args below meth c H locs 0 0 (MQ below (xQ D vwCl rDom ad (rDe ad cI cZ cB) none o) args s 0 0 (xA rDom ad)) (F0 m 43 ls []) := by
  have hx := F.1
  have hb := F.2.1
  unfold r_boot_b43 at h
  refine lv_aload_n hx hb dX12_boot_43 rfl (lv_at hl 0 rfl) ?_
  refine x_get F hK hW xc_X12 rd_d0 rd_0 52 (by decide) k_5_180 (gf_X12_52 _ _) dX12_boot_44 ?_
  refine lv_iload_n hx hb dX12_boot_47 rfl (lv_at hl 1 rfl) ?_
  refine x_iald (t0 := 0) F hK hW rd_d53 rd_53 rfl dX12_boot_48 h (fun h => ?_)
  refine lv_iconst (v := (-1 : Int32)) hx hb dX12_boot_49 (by decide) ?_
  refine lv_icmp_ne (tgt := 54) hx hb dX12_boot_50 (by decide) (fun c_2 => ?_) (fun c_2 => ?_)
  · replace h := (if_neg c_2).symm.trans h
    refine lv_iconst (v := (4 : Int32)) hx hb dX12_boot_54 (by decide) ?_
    refine lv_iload_n hx hb dX12_boot_55 rfl (lv_at hl 1 rfl) ?_
    refine lv_imul hx hb dX12_boot_56 ?_
    refine lv_aload_n hx hb dX12_boot_57 rfl (lv_at hl 0 rfl) ?_
    refine x_get F hK hW xc_X12 rd_d0 rd_0 52 (by decide) k_5_180 (gf_X12_52 _ _) dX12_boot_58 ?_
    refine lv_iload_n hx hb dX12_boot_61 rfl (lv_at hl 1 rfl) ?_
    refine x_iald (t0 := 0) F hK hW rd_d53 rd_53 rfl dX12_boot_62 h (fun h => ?_)
    refine lv_iadd hx hb dX12_boot_63 ?_
    refine lv_istore_n (lv' := [(2, .int (((4 : Int32) * v1) + (xI S 0 53 (v1).toNatClampNeg))), (0, .ref (ad 0 0)), (1, .int v1)]) hx hb dX12_boot_64 rfl hl (by decide) rfl (fun ls hl => ?_)
    refine lv_aload_n hx hb dX12_boot_65 rfl (lv_at hl 1 rfl) ?_
    refine x_get F hK hW xc_X12 rd_d0 rd_0 49 (by decide) k_5_177 (gf_X12_49 _ _) dX12_boot_66 ?_
    refine lv_iload_n hx hb dX12_boot_69 rfl (lv_at hl 0 rfl) ?_
    refine x_iald (t0 := 0) F hK hW rd_d50 rd_50 rfl dX12_boot_70 h (fun h => ?_)
    refine lv_iconst (v := (-1 : Int32)) hx hb dX12_boot_71 (by decide) ?_
    refine lv_icmp_eq (tgt := 84) hx hb dX12_boot_72 (by decide) (fun c_3 => ?_) (fun c_3 => ?_)
    · replace h := (if_pos c_3).symm.trans h
      exact x_vret F hr hlk hW hS dX12_boot_84 h
    replace h := (if_neg c_3).symm.trans h
    refine lv_aload_n hx hb dX12_boot_75 rfl (lv_at hl 1 rfl) ?_
    refine x_get F hK hW xc_X12 rd_d0 rd_0 42 (by decide) k_5_170 (gf_X12_42 _ _) dX12_boot_76 ?_
    refine lv_iload_n hx hb dX12_boot_79 rfl (lv_at hl 0 rfl) ?_
    refine x_zald (t0 := 1) F hK hW rd_d43 rd_43 rfl dX12_boot_80 h (fun h => ?_)
    refine lv_if_eq (tgt := 85) hx hb dX12_boot_81 (by decide) (fun c_4 => ?_) (fun c_4 => ?_)
    · replace h := (if_pos c_4).symm.trans h
      refine lv_aload_n hx hb dX12_boot_85 rfl (lv_at hl 1 rfl) ?_
      refine x_get F hK hW xc_X12 rd_d0 rd_0 49 (by decide) k_5_177 (gf_X12_49 _ _) dX12_boot_86 ?_
      refine lv_iload_n hx hb dX12_boot_89 rfl (lv_at hl 0 rfl) ?_
      refine x_iald (t0 := 0) F hK hW rd_d50 rd_50 rfl dX12_boot_90 h (fun h => ?_)
      refine lv_istore_n (lv' := [(3, .int (xI S 0 50 ((((4 : Int32) * v1) + (xI S 0 53 (v1).toNatClampNeg))).toNatClampNeg)), (2, .int (((4 : Int32) * v1) + (xI S 0 53 (v1).toNatClampNeg))), (0, .ref (ad 0 0)), (1, .int v1)]) hx hb dX12_boot_91 rfl hl (by decide) rfl (fun ls hl => ?_)
      refine lv_aload_n hx hb dX12_boot_92 rfl (lv_at hl 2 rfl) ?_
      refine x_get F hK hW xc_X12 rd_d0 rd_0 49 (by decide) k_5_177 (gf_X12_49 _ _) dX12_boot_93 ?_
      refine lv_iload_n hx hb dX12_boot_96 rfl (lv_at hl 1 rfl) ?_
      refine lv_iconst (v := (-1 : Int32)) hx hb dX12_boot_97 (by decide) ?_
      refine x_iast (t0 := 0) F hK hI hW hS rd_d50 rd_50 rfl dX12_boot_98 h (fun S5 H locs hW hS h => ?_)
      refine lv_aload_n hx hb dX12_boot_99 rfl (lv_at hl 2 rfl) ?_
      refine x_get F hK hW xc_X12 rd_d0 rd_0 39 (by decide) k_5_167 (gf_X12_39 _ _) dX12_boot_100 ?_
      refine lv_iload_n hx hb dX12_boot_103 rfl (lv_at hl 1 rfl) ?_
      refine lv_dup2_11 hx hb dX12_boot_104 rfl rfl ?_
      refine x_iald (t0 := 0) F hK hW rd_d40 rd_40 rfl dX12_boot_105 h (fun h => ?_)
      refine lv_iconst (v := (1 : Int32)) hx hb dX12_boot_106 (by decide) ?_
      refine lv_iadd hx hb dX12_boot_107 ?_
      refine x_iast (t0 := 0) F hK hI hW hS rd_d40 rd_40 rfl dX12_boot_108 h (fun S6 H locs hW hS h => ?_)
      refine lv_aload_n hx hb dX12_boot_109 rfl (lv_at hl 2 rfl) ?_
      refine x_get F hK hW xc_X12 rd_d0 rd_0 53 (by decide) k_5_181 (gf_X12_53 _ _) dX12_boot_110 ?_
      refine lv_iload_n hx hb dX12_boot_113 rfl (lv_at hl 3 rfl) ?_
      refine x_iald (t0 := 0) F hK hW rd_d54 rd_54 rfl dX12_boot_114 h (fun h => ?_)
      refine lv_iconst (v := (-1 : Int32)) hx hb dX12_boot_115 (by decide) ?_
      refine lv_icmp_ne (tgt := 148) hx hb dX12_boot_116 (by decide) (fun c_7 => ?_) (fun c_7 => ?_)
      · replace h := (if_neg c_7).symm.trans h
        refine lv_aload_n hx hb dX12_boot_148 rfl (lv_at hl 2 rfl) ?_
        refine x_get F hK hW xc_X12 rd_d0 rd_0 54 (by decide) k_5_182 (gf_X12_54 _ _) dX12_boot_149 ?_
        refine lv_iload_n hx hb dX12_boot_152 rfl (lv_at hl 3 rfl) ?_
        refine x_iald (t0 := 0) F hK hW rd_d55 rd_55 rfl dX12_boot_153 h (fun h => ?_)
        refine lv_istore (lv' := [(4, .int (xI S6 0 55 (v1).toNatClampNeg)), (3, .int (xI S 0 50 ((((4 : Int32) * v1) + (xI S 0 53 (v1).toNatClampNeg))).toNatClampNeg)), (2, .int (((4 : Int32) * v1) + (xI S 0 53 (v1).toNatClampNeg))), (0, .ref (ad 0 0)), (1, .int v1)]) hx hb dX12_boot_154 hl (by decide) rfl (fun ls hl => ?_)
        refine lv_aload_n hx hb dX12_boot_156 rfl (lv_at hl 3 rfl) ?_
        refine x_get F hK hW xc_X12 rd_d0 rd_0 54 (by decide) k_5_182 (gf_X12_54 _ _) dX12_boot_157 ?_
        refine lv_iload_n hx hb dX12_boot_160 rfl (lv_at hl 4 rfl) ?_
        refine lv_dup2_11 hx hb dX12_boot_161 rfl rfl ?_
        refine x_iald (t0 := 0) F hK hW rd_d55 rd_55 rfl dX12_boot_162 h (fun h => ?_)
        refine lv_iconst (v := (1 : Int32)) hx hb dX12_boot_163 (by decide) ?_
        refine lv_iadd hx hb dX12_boot_164 ?_
        refine x_iast (t0 := 0) F hK hI hW hS rd_d55 rd_55 rfl dX12_boot_165 h (fun S8 H locs hW hS h => ?_)
        refine lv_aload_n hx hb dX12_boot_166 rfl (lv_at hl 3 rfl) ?_
        refine x_get F hK hW xc_X12 rd_d0 rd_0 53 (by decide) k_5_181 (gf_X12_53 _ _) dX12_boot_167 ?_
        refine lv_iload_n hx hb dX12_boot_170 rfl (lv_at hl 4 rfl) ?_
        refine x_iald (t0 := 0) F hK hW rd_d54 rd_54 rfl dX12_boot_171 h (fun h => ?_)
        refine lv_iconst (v := (1 : Int32)) hx hb dX12_boot_172 (by decide) ?_
        refine lv_icmp_le (tgt := 209) hx hb dX12_boot_173 (by decide) (fun c_9 => ?_) (fun c_9 => ?_)
        · replace h := (if_pos c_9).symm.trans h
          refine lv_iload hx hb dX12_boot_209 (lv_at hl 0 rfl) ?_
          refine lv_iconst (v := (2 : Int32)) hx hb dX12_boot_211 (by decide) ?_
          refine lv_icmp_ge (tgt := 234) hx hb dX12_boot_212 (by decide) (fun c_10 => ?_) (fun c_10 => ?_)
          · replace h := (if_pos c_10).symm.trans h
            refine lv_aload_n hx hb dX12_boot_234 rfl (lv_at hl 3 rfl) ?_
            refine x_get F hK hW xc_X12 rd_d0 rd_0 56 (by decide) k_5_184 (gf_X12_56 _ _) dX12_boot_235 ?_
            refine lv_iload_n hx hb dX12_boot_238 rfl (lv_at hl 4 rfl) ?_
            refine lv_dup2_11 hx hb dX12_boot_239 rfl rfl ?_
            refine x_iald (t0 := 0) F hK hW rd_d57 rd_57 rfl dX12_boot_240 h (fun h => ?_)
            refine lv_iload_n hx hb dX12_boot_241 rfl (lv_at hl 1 rfl) ?_
            refine lv_bipush (v := (8 : Int32)) hx hb dX12_boot_242 (by decide) ?_
            refine lv_iload hx hb dX12_boot_244 (lv_at hl 0 rfl) ?_
            refine lv_iconst (v := (2 : Int32)) hx hb dX12_boot_246 (by decide) ?_
            refine lv_isub hx hb dX12_boot_247 ?_
            refine lv_imul hx hb dX12_boot_248 ?_
            refine lv_ishl hx hb dX12_boot_249 ?_
            refine lv_ior hx hb dX12_boot_250 ?_
            refine x_iast (t0 := 0) F hK hI hW hS rd_d57 rd_57 rfl dX12_boot_251 h (fun S11 H locs hW hS h => ?_)
            exact m_r_boot_b252 hI  F hr hlk hK _ _ _ _ h hW hS (lv_sub hl [3, 4, 2, 0] rfl)
          replace h := (if_neg c_10).symm.trans h
          refine lv_aload_n hx hb dX12_boot_215 rfl (lv_at hl 3 rfl) ?_
          refine x_get F hK hW xc_X12 rd_d0 rd_0 55 (by decide) k_5_183 (gf_X12_55 _ _) dX12_boot_216 ?_
          refine lv_iload_n hx hb dX12_boot_219 rfl (lv_at hl 4 rfl) ?_
          refine lv_dup2_11 hx hb dX12_boot_220 rfl rfl ?_
          refine x_iald (t0 := 0) F hK hW rd_d56 rd_56 rfl dX12_boot_221 h (fun h => ?_)
          refine lv_iload_n hx hb dX12_boot_222 rfl (lv_at hl 1 rfl) ?_
          refine lv_bipush (v := (8 : Int32)) hx hb dX12_boot_223 (by decide) ?_
          refine lv_iload hx hb dX12_boot_225 (lv_at hl 0 rfl) ?_
          refine lv_imul hx hb dX12_boot_227 ?_
          refine lv_ishl hx hb dX12_boot_228 ?_
          refine lv_ior hx hb dX12_boot_229 ?_
          refine x_iast (t0 := 0) F hK hI hW hS rd_d56 rd_56 rfl dX12_boot_230 h (fun S23 H locs hW hS h => ?_)
          refine lv_goto (tgt := 252) hx hb dX12_boot_231 (by decide) ?_
          exact m_r_boot_b252 hI  F hr hlk hK _ _ _ _ h hW hS (lv_sub hl [3, 4, 2, 0] rfl)
        replace h := (if_neg c_9).symm.trans h
        refine lv_aload_n hx hb dX12_boot_176 rfl (lv_at hl 3 rfl) ?_
        refine lv_iload_n hx hb dX12_boot_177 rfl (lv_at hl 4 rfl) ?_
        refine lv_ldc (v := (32804 : Int32)) hx hb F.2.2.2.1 (x_hts F _ k_5_127) dX12_boot_178 ?_
        refine lv_iload hx hb dX12_boot_180 (lv_at hl 0 rfl) ?_
        refine lv_iadd hx hb dX12_boot_182 ?_
        refine lv_iload_n hx hb dX12_boot_183 rfl (lv_at hl 1 rfl) ?_
        refine x_cVv (As := [.int v1, .int ((32804 : Int32) + (xI S6 0 55 (v1).toNatClampNeg)), .int (xI S 0 50 ((((4 : Int32) * v1) + (xI S 0 53 (v1).toNatClampNeg))).toNatClampNeg)]) F xG_ok hK hW hS um_X12_byteTo k_6_141 (fun _ h1 => m_r_byteTo hI _ _ _ h1) rfl rd_d0 rd_0 rfl rfl hl.1 rfl rfl ⟨Nat.le_of_ble_eq_true rfl, Nat.le_of_ble_eq_true rfl⟩ ⟨Nat.zero_le _, Nat.zero_le _⟩ (Nat.le_of_ble_eq_true rfl) dX12_boot_184 h (fun S24 H locs hW hS h => ?_)
        refine lv_aload_n hx hb dX12_boot_187 rfl (lv_at hl 3 rfl) ?_
        refine x_get F hK hW xc_X12 rd_d0 rd_0 54 (by decide) k_5_182 (gf_X12_54 _ _) dX12_boot_188 ?_
        refine lv_iload_n hx hb dX12_boot_191 rfl (lv_at hl 4 rfl) ?_
        refine x_iald (t0 := 0) F hK hW rd_d55 rd_55 rfl dX12_boot_192 h (fun h => ?_)
        refine lv_aload_n hx hb dX12_boot_193 rfl (lv_at hl 3 rfl) ?_
        refine x_get F hK hW xc_X12 rd_d0 rd_0 53 (by decide) k_5_181 (gf_X12_53 _ _) dX12_boot_194 ?_
        refine lv_iload_n hx hb dX12_boot_197 rfl (lv_at hl 4 rfl) ?_
        refine x_iald (t0 := 0) F hK hW rd_d54 rd_54 rfl dX12_boot_198 h (fun h => ?_)
        refine lv_icmp_ne (tgt := 208) hx hb dX12_boot_199 (by decide) (fun c_25 => ?_) (fun c_25 => ?_)
        · replace h := (if_neg c_25).symm.trans h
          exact x_vret F hr hlk hW hS dX12_boot_208 h
        replace h := (if_pos c_25).symm.trans h
        refine lv_aload_n hx hb dX12_boot_202 rfl (lv_at hl 3 rfl) ?_
        refine lv_iload_n hx hb dX12_boot_203 rfl (lv_at hl 4 rfl) ?_
        refine lv_iload_n hx hb dX12_boot_204 rfl (lv_at hl 2 rfl) ?_
        refine x_cVv (As := [.int v1, .int (((4 : Int32) * v1) + (xI S 0 53 (v1).toNatClampNeg))]) F xG_ok hK hW hS um_X12_begins k_6_168 (fun _ h1 => m_r_begins hI _ _ h1) rfl rd_d0 rd_0 rfl rfl hl.1 rfl rfl ⟨Nat.le_of_ble_eq_true rfl, Nat.le_of_ble_eq_true rfl⟩ ⟨Nat.zero_le _, Nat.zero_le _⟩ (Nat.le_of_ble_eq_true rfl) dX12_boot_205 h (fun S26 H locs hW hS h => ?_)
        exact x_vret F hr hlk hW hS dX12_boot_208 h
      replace h := (if_pos c_7).symm.trans h
      refine lv_aload_n hx hb dX12_boot_119 rfl (lv_at hl 2 rfl) ?_
      refine x_get F hK hW xc_X12 rd_d0 rd_0 53 (by decide) k_5_181 (gf_X12_53 _ _) dX12_boot_120 ?_
      refine lv_iload_n hx hb dX12_boot_123 rfl (lv_at hl 3 rfl) ?_
      refine lv_iload_n hx hb dX12_boot_124 rfl (lv_at hl 0 rfl) ?_
      refine x_iast (t0 := 0) F hK hI hW hS rd_d54 rd_54 rfl dX12_boot_125 h (fun S27 H locs hW hS h => ?_)
      refine lv_aload_n hx hb dX12_boot_126 rfl (lv_at hl 2 rfl) ?_
      refine x_get F hK hW xc_X12 rd_d0 rd_0 54 (by decide) k_5_182 (gf_X12_54 _ _) dX12_boot_127 ?_
      refine lv_iload_n hx hb dX12_boot_130 rfl (lv_at hl 3 rfl) ?_
      refine lv_iconst (v := (0 : Int32)) hx hb dX12_boot_131 (by decide) ?_
      refine x_iast (t0 := 0) F hK hI hW hS rd_d55 rd_55 rfl dX12_boot_132 h (fun S28 H locs hW hS h => ?_)
      refine lv_aload_n hx hb dX12_boot_133 rfl (lv_at hl 2 rfl) ?_
      refine x_get F hK hW xc_X12 rd_d0 rd_0 55 (by decide) k_5_183 (gf_X12_55 _ _) dX12_boot_134 ?_
      refine lv_iload_n hx hb dX12_boot_137 rfl (lv_at hl 3 rfl) ?_
      refine lv_iconst (v := (0 : Int32)) hx hb dX12_boot_138 (by decide) ?_
      refine x_iast (t0 := 0) F hK hI hW hS rd_d56 rd_56 rfl dX12_boot_139 h (fun S29 H locs hW hS h => ?_)
      refine lv_aload_n hx hb dX12_boot_140 rfl (lv_at hl 2 rfl) ?_
      refine x_get F hK hW xc_X12 rd_d0 rd_0 56 (by decide) k_5_184 (gf_X12_56 _ _) dX12_boot_141 ?_
      refine lv_iload_n hx hb dX12_boot_144 rfl (lv_at hl 3 rfl) ?_
      refine lv_iconst (v := (0 : Int32)) hx hb dX12_boot_145 (by decide) ?_
      refine x_iast (t0 := 0) F hK hI hW hS rd_d57 rd_57 rfl dX12_boot_146 h (fun S30 H locs hW hS h => ?_)
      exact x_vret F hr hlk hW hS dX12_boot_147 h
    replace h := (if_neg c_4).symm.trans h
    exact x_vret F hr hlk hW hS dX12_boot_84 h
  replace h := (if_pos c_2).symm.trans h
  exact x_vret F hr hlk hW hS dX12_boot_53 h
def r_boot_b37 (K12 : Int32 → Int32 → xS → Option (xS)) (v1 : Int32) (v2 : Int32) (S : xS) : Option (xS) := K12 v1 (v2 + (-1 : Int32)) S
set_option maxHeartbeats 4000000 in
set_option maxRecDepth 100000 in
theorem m_r_boot_b37 {l : Launch} {D : va_G} {cI cZ cB : ClassId} {ad : Nat → Nat → Nat} (hI : xInj rDom ad) {p : Program} {e : Env} {s : State} {m : MethodId} {args : Array Value} {below : List Frame} {meth : Method} {c : Code} (F : CallFix p m c cX12_boot 5 s args (Cond.code yX12_boot cX12_boot 5 none :: xG) (yX12_boot).cls) (hr : meth.sig.returnType = none) (hlk : meth.locks = false) (hK : xK D vwCl (rTy cI cZ cB) [] [] s) {o : xS} {K12 : Int32 → Int32 → xS → Option (xS)} (hk12 : ∀ (v1 : Int32) (v2 : Int32) (S : xS) (H : Heap) (locs : List Loc) (ls : Array Slot), K12 v1 v2 S = some o → xW D vwCl rDom ad (rDe ad cI cZ cB) S H → va_S (xA rDom ad) s.heap H locs → lv_has ls 5 [(0, .ref (ad 0 0)), (1, .int v1), (2, .int v2)] → W p l e { frames := 2, cells := 0, slots := 0, locals := 48 } s m args below meth c H locs 0 0 (MQ below (xQ D vwCl rDom ad (rDe ad cI cZ cB) none o) args s 0 0 (xA rDom ad)) (F0 m 12 ls [])) (v1 : Int32) (v2 : Int32) (S : xS) {H : Heap} {locs : List Loc} {ls : Array Slot} (h : r_boot_b37 K12 v1 v2 S = some o) (hW : xW D vwCl rDom ad (rDe ad cI cZ cB) S H) (hS : va_S (xA rDom ad) s.heap H locs) (hl : lv_has ls 5 [(0, .ref (ad 0 0)), (1, .int v1), (2, .int v2)]) : W p l e { frames := 2, cells := 0, slots := 0, locals := 48 } s m args below meth c H locs 0 0 (MQ below (xQ D vwCl rDom ad (rDe ad cI cZ cB) none o) args s 0 0 (xA rDom ad)) (F0 m 37 ls []) := by
  have hx := F.1
  have hb := F.2.1
  unfold r_boot_b37 at h
  refine lv_iinc (v := (v2 + (-1 : Int32))) (lv' := [(2, .int (v2 + (-1 : Int32))), (0, .ref (ad 0 0)), (1, .int v1)]) hx hb dX12_boot_37 hl (k := 2) rfl rfl (by decide) rfl (fun ls hl => ?_)
  refine lv_goto (tgt := 12) hx hb dX12_boot_40 (by decide) ?_
  exact hk12 _ _ _ _ _ _ h hW hS (lv_sub hl [1, 2, 0] rfl)
def r_boot_b12 : Nat → Int32 → Int32 → xS → Option (xS)
  | 0, _, _, _ => none
  | fu + 1, v1, v2, S => if v2 < 0 then (r_boot_b43  v1 S) else (gd (((4 : Int32) * v1) + v2) 33 (if (xI S 0 50 ((((4 : Int32) * v1) + v2)).toNatClampNeg) = (-1 : Int32) then (r_boot_b37  (r_boot_b12 fu) v1 v2 S) else (gd v1 8 (xnm (sI S 0 53 (v1).toNatClampNeg v2) (fun S33 => r_boot_b37  (r_boot_b12 fu) v1 v2 S33)))))
set_option maxHeartbeats 4000000 in
set_option maxRecDepth 100000 in
theorem m_r_boot_b12 {l : Launch} {D : va_G} {cI cZ cB : ClassId} {ad : Nat → Nat → Nat} (hI : xInj rDom ad) {p : Program} {e : Env} {s : State} {m : MethodId} {args : Array Value} {below : List Frame} {meth : Method} {c : Code} (F : CallFix p m c cX12_boot 5 s args (Cond.code yX12_boot cX12_boot 5 none :: xG) (yX12_boot).cls) (hr : meth.sig.returnType = none) (hlk : meth.locks = false) (hK : xK D vwCl (rTy cI cZ cB) [] [] s) {o : xS} : ∀ (fu : Nat) (v1 : Int32) (v2 : Int32) (S : xS) {H : Heap} {locs : List Loc} {ls : Array Slot}, r_boot_b12 fu v1 v2 S = some o → xW D vwCl rDom ad (rDe ad cI cZ cB) S H → va_S (xA rDom ad) s.heap H locs → lv_has ls 5 [(0, .ref (ad 0 0)), (1, .int v1), (2, .int v2)] → W p l e { frames := 2, cells := 0, slots := 0, locals := 48 } s m args below meth c H locs 0 0 (MQ below (xQ D vwCl rDom ad (rDe ad cI cZ cB) none o) args s 0 0 (xA rDom ad)) (F0 m 12 ls []) := by
  have hx := F.1
  have hb := F.2.1
  intro fu
  induction fu with
  | zero =>
    intro v1 v2 S H locs ls h
    simp [r_boot_b12] at h
  | succ fu ih =>
    intro v1 v2 S H locs ls h hW hS hl
    have hk12 := fun v1 v2 S H locs ls (h : r_boot_b12 fu v1 v2 S = some o) hW hS hl => ih v1 v2 S (H := H) (locs := locs) (ls := ls) h hW hS hl
    rw [r_boot_b12] at h
    refine lv_iload_n hx hb dX12_boot_12 rfl (lv_at hl 2 rfl) ?_
    refine lv_if_lt (tgt := 43) hx hb dX12_boot_13 (by decide) (fun c_31 => ?_) (fun c_31 => ?_)
    · replace h := (if_pos c_31).symm.trans h
      exact m_r_boot_b43 hI  F hr hlk hK _ _ h hW hS (lv_sub hl [0, 1] rfl)
    replace h := (if_neg c_31).symm.trans h
    refine lv_aload_n hx hb dX12_boot_16 rfl (lv_at hl 0 rfl) ?_
    refine x_get F hK hW xc_X12 rd_d0 rd_0 49 (by decide) k_5_177 (gf_X12_49 _ _) dX12_boot_17 ?_
    refine lv_iconst (v := (4 : Int32)) hx hb dX12_boot_20 (by decide) ?_
    refine lv_iload_n hx hb dX12_boot_21 rfl (lv_at hl 1 rfl) ?_
    refine lv_imul hx hb dX12_boot_22 ?_
    refine lv_iload_n hx hb dX12_boot_23 rfl (lv_at hl 2 rfl) ?_
    refine lv_iadd hx hb dX12_boot_24 ?_
    refine x_iald (t0 := 0) F hK hW rd_d50 rd_50 rfl dX12_boot_25 h (fun h => ?_)
    refine lv_iconst (v := (-1 : Int32)) hx hb dX12_boot_26 (by decide) ?_
    refine lv_icmp_eq (tgt := 37) hx hb dX12_boot_27 (by decide) (fun c_32 => ?_) (fun c_32 => ?_)
    · replace h := (if_pos c_32).symm.trans h
      exact m_r_boot_b37 hI  F hr hlk hK hk12 _ _ _ h hW hS (lv_sub hl [0, 1, 2] rfl)
    replace h := (if_neg c_32).symm.trans h
    refine lv_aload_n hx hb dX12_boot_30 rfl (lv_at hl 0 rfl) ?_
    refine x_get F hK hW xc_X12 rd_d0 rd_0 52 (by decide) k_5_180 (gf_X12_52 _ _) dX12_boot_31 ?_
    refine lv_iload_n hx hb dX12_boot_34 rfl (lv_at hl 1 rfl) ?_
    refine lv_iload_n hx hb dX12_boot_35 rfl (lv_at hl 2 rfl) ?_
    refine x_iast (t0 := 0) F hK hI hW hS rd_d53 rd_53 rfl dX12_boot_36 h (fun S33 H locs hW hS h => ?_)
    exact m_r_boot_b37 hI  F hr hlk hK hk12 _ _ _ h hW hS (lv_sub hl [0, 1, 2] rfl)
def r_boot  (S : xS) (a1 : Int32) : Option (xS) := gd a1 8 (if (xI S 0 53 (a1).toNatClampNeg) = (-1 : Int32) then (r_boot_b12  (100000) a1 (3 : Int32) S) else (r_boot_b43  a1 S))
set_option maxHeartbeats 4000000 in
set_option maxRecDepth 100000 in
theorem m_r_boot {l : Launch} {D : va_G} {cI cZ cB : ClassId} {ad : Nat → Nat → Nat} (hI : xInj rDom ad) {S : xS} (a1 : Int32) {o : xS} (h : r_boot  S a1 = some o) : Met l yX12_boot (Cond.code yX12_boot cX12_boot 5 none :: xG) { frames := 2, cells := 0, slots := 0, locals := 48 } (xPc D vwCl (rTy cI cZ cB) [] [] rDom ad (rDe ad cI cZ cB) [.ref (ad 0 0), .int a1] S) (xQ D vwCl rDom ad (rDe ad cI cZ cB) none o) 0 0 (xA rDom ad) := by
  unfold r_boot at h
  refine x_enter (by decide) (Nat.le_of_ble_eq_true rfl) (fun p e s m below meth c F hr hlk hK hW hS ls hl => ?_)
  have hl : lv_has ls 5 [(0, .ref (ad 0 0)), (1, .int a1)] := hl
  have hx := F.1
  have hb := F.2.1
  refine lv_aload_n hx hb dX12_boot_0 rfl (lv_at hl 0 rfl) ?_
  refine x_get F hK hW xc_X12 rd_d0 rd_0 52 (by decide) k_5_180 (gf_X12_52 _ _) dX12_boot_1 ?_
  refine lv_iload_n hx hb dX12_boot_4 rfl (lv_at hl 1 rfl) ?_
  refine x_iald (t0 := 0) F hK hW rd_d53 rd_53 rfl dX12_boot_5 h (fun h => ?_)
  refine lv_iconst (v := (-1 : Int32)) hx hb dX12_boot_6 (by decide) ?_
  refine lv_icmp_ne (tgt := 43) hx hb dX12_boot_7 (by decide) (fun c_1 => ?_) (fun c_1 => ?_)
  · replace h := (if_neg c_1).symm.trans h
    exact m_r_boot_b43 hI  F hr hlk hK _ _ h hW hS (lv_sub hl [0, 1] rfl)
  replace h := (if_pos c_1).symm.trans h
  refine lv_iconst (v := (3 : Int32)) hx hb dX12_boot_10 (by decide) ?_
  refine lv_istore_n (lv' := [(2, .int (3 : Int32)), (0, .ref (ad 0 0)), (1, .int a1)]) hx hb dX12_boot_11 rfl hl (by decide) rfl (fun ls hl => ?_)
  exact m_r_boot_b12 hI  F hr hlk hK (100000) _ _ _ h hW hS (lv_sub hl [1, 2, 0] rfl)
