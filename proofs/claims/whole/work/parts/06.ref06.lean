/-! X12_executes -/
def r_executes  (S : xS) (a1 : Int32) : Option (xS) := gd a1 8 (if (xI S 0 14 (a1).toNatClampNeg) ≤ 0 then (gd a1 8 (if (xI S 0 13 (a1).toNatClampNeg) = 0 then ((r_next  S a1).bind (fun S3 => gd a1 8 (if (xI S3 0 18 (a1).toNatClampNeg) = 0 then (gd a1 8 (if (xI S3 0 11 (a1).toNatClampNeg) = (2 : Int32) then (some S3) else ((r_step  S3 a1).bind (fun S6 => some S6)))) else (gd a1 8 (xnm (sI S3 0 18 (a1).toNatClampNeg (vp_nar .boolean (0 : Int32))) (fun S7 => (r_stop  S7 a1 (2 : Int32)).bind (fun S8 => some S8))))))) else (some S))) else (gd a1 8 (gd a1 8 (xnm (sI S 0 14 (a1).toNatClampNeg ((xI S 0 14 (a1).toNatClampNeg) - (1 : Int32))) (fun S9 => some S9)))))
set_option maxHeartbeats 4000000 in
set_option maxRecDepth 100000 in
theorem m_r_executes {l : Launch} {D : va_G} {cI cZ cB : ClassId} {ad : Nat → Nat → Nat} (hI : xInj rDom ad) {S : xS} (a1 : Int32) {o : xS} (h : r_executes  S a1 = some o) : Met l yX12_executes (Cond.code yX12_executes cX12_executes 2 none :: xG) { frames := 8, cells := 0, slots := 0, locals := 197 } (xPc D vwCl (rTy cI cZ cB) [] [] rDom ad (rDe ad cI cZ cB) [.ref (ad 0 0), .int a1] S) (xQ D vwCl rDom ad (rDe ad cI cZ cB) none o) 0 0 (xA rDom ad) := by
  unfold r_executes at h
  refine x_enter (by decide) (Nat.le_of_ble_eq_true rfl) (fun p e s m below meth c F hr hlk hK hW hS ls hl => ?_)
  have hl : lv_has ls 2 [(0, .ref (ad 0 0)), (1, .int a1)] := hl
  have hx := F.1
  have hb := F.2.1
  refine lv_aload_n hx hb dX12_executes_0 rfl (lv_at hl 0 rfl) ?_
  refine x_get F hK hW xc_X12 rd_d0 rd_0 13 (by decide) k_5_141 (gf_X12_13 _ _) dX12_executes_1 ?_
  refine lv_iload_n hx hb dX12_executes_4 rfl (lv_at hl 1 rfl) ?_
  refine x_iald (t0 := 0) F hK hW rd_d14 rd_14 rfl dX12_executes_5 h (fun h => ?_)
  refine lv_if_le (tgt := 20) hx hb dX12_executes_6 (by decide) (fun c_1 => ?_) (fun c_1 => ?_)
  · replace h := (if_pos c_1).symm.trans h
    refine lv_aload_n hx hb dX12_executes_20 rfl (lv_at hl 0 rfl) ?_
    refine x_get F hK hW xc_X12 rd_d0 rd_0 12 (by decide) k_5_140 (gf_X12_12 _ _) dX12_executes_21 ?_
    refine lv_iload_n hx hb dX12_executes_24 rfl (lv_at hl 1 rfl) ?_
    refine x_iald (t0 := 0) F hK hW rd_d13 rd_13 rfl dX12_executes_25 h (fun h => ?_)
    refine lv_if_eq (tgt := 30) hx hb dX12_executes_26 (by decide) (fun c_2 => ?_) (fun c_2 => ?_)
    · replace h := (if_pos c_2).symm.trans h
      refine lv_aload_n hx hb dX12_executes_30 rfl (lv_at hl 0 rfl) ?_
      refine lv_iload_n hx hb dX12_executes_31 rfl (lv_at hl 1 rfl) ?_
      refine x_cVv (As := [.int a1]) F xG_ok hK hW hS um_X12_next k_6_192 (fun _ h1 => m_r_next hI _ h1) rfl rd_d0 rd_0 rfl rfl hl.1 rfl rfl ⟨Nat.le_of_ble_eq_true rfl, Nat.le_of_ble_eq_true rfl⟩ ⟨Nat.zero_le _, Nat.zero_le _⟩ (Nat.le_of_ble_eq_true rfl) dX12_executes_32 h (fun S3 H locs hW hS h => ?_)
      refine lv_aload_n hx hb dX12_executes_35 rfl (lv_at hl 0 rfl) ?_
      refine x_get F hK hW xc_X12 rd_d0 rd_0 17 (by decide) k_5_145 (gf_X12_17 _ _) dX12_executes_36 ?_
      refine lv_iload_n hx hb dX12_executes_39 rfl (lv_at hl 1 rfl) ?_
      refine x_zald (t0 := 1) F hK hW rd_d18 rd_18 rfl dX12_executes_40 h (fun h => ?_)
      refine lv_if_eq (tgt := 58) hx hb dX12_executes_41 (by decide) (fun c_4 => ?_) (fun c_4 => ?_)
      · replace h := (if_pos c_4).symm.trans h
        refine lv_aload_n hx hb dX12_executes_58 rfl (lv_at hl 0 rfl) ?_
        refine x_get F hK hW xc_X12 rd_d0 rd_0 10 (by decide) k_5_138 (gf_X12_10 _ _) dX12_executes_59 ?_
        refine lv_iload_n hx hb dX12_executes_62 rfl (lv_at hl 1 rfl) ?_
        refine x_iald (t0 := 0) F hK hW rd_d11 rd_11 rfl dX12_executes_63 h (fun h => ?_)
        refine lv_iconst (v := (2 : Int32)) hx hb dX12_executes_64 (by decide) ?_
        refine lv_icmp_eq (tgt := 73) hx hb dX12_executes_65 (by decide) (fun c_5 => ?_) (fun c_5 => ?_)
        · replace h := (if_pos c_5).symm.trans h
          exact x_vret F hr hlk hW hS dX12_executes_73 h
        replace h := (if_neg c_5).symm.trans h
        refine lv_aload_n hx hb dX12_executes_68 rfl (lv_at hl 0 rfl) ?_
        refine lv_iload_n hx hb dX12_executes_69 rfl (lv_at hl 1 rfl) ?_
        refine x_cVv (As := [.int a1]) F xG_ok hK hW hS um_X12_step k_6_200 (fun _ h1 => m_r_step hI _ h1) rfl rd_d0 rd_0 rfl rfl hl.1 rfl rfl ⟨Nat.le_of_ble_eq_true rfl, Nat.le_of_ble_eq_true rfl⟩ ⟨Nat.zero_le _, Nat.zero_le _⟩ (Nat.le_of_ble_eq_true rfl) dX12_executes_70 h (fun S6 H locs hW hS h => ?_)
        exact x_vret F hr hlk hW hS dX12_executes_73 h
      replace h := (if_neg c_4).symm.trans h
      refine lv_aload_n hx hb dX12_executes_44 rfl (lv_at hl 0 rfl) ?_
      refine x_get F hK hW xc_X12 rd_d0 rd_0 17 (by decide) k_5_145 (gf_X12_17 _ _) dX12_executes_45 ?_
      refine lv_iload_n hx hb dX12_executes_48 rfl (lv_at hl 1 rfl) ?_
      refine lv_iconst (v := (0 : Int32)) hx hb dX12_executes_49 (by decide) ?_
      refine x_zast (t0 := 1) F hK hI hW hS rd_d18 rd_18 rfl dX12_executes_50 h (fun S7 H locs hW hS h => ?_)
      refine lv_aload_n hx hb dX12_executes_51 rfl (lv_at hl 0 rfl) ?_
      refine lv_iload_n hx hb dX12_executes_52 rfl (lv_at hl 1 rfl) ?_
      refine lv_iconst (v := (2 : Int32)) hx hb dX12_executes_53 (by decide) ?_
      refine x_cVv (As := [.int a1, .int (2 : Int32)]) F xG_ok hK hW hS um_X12_stop k_6_184 (fun _ h1 => m_r_stop hI _ _ h1) rfl rd_d0 rd_0 rfl rfl hl.1 rfl rfl ⟨Nat.le_of_ble_eq_true rfl, Nat.le_of_ble_eq_true rfl⟩ ⟨Nat.zero_le _, Nat.zero_le _⟩ (Nat.le_of_ble_eq_true rfl) dX12_executes_54 h (fun S8 H locs hW hS h => ?_)
      exact x_vret F hr hlk hW hS dX12_executes_57 h
    replace h := (if_neg c_2).symm.trans h
    exact x_vret F hr hlk hW hS dX12_executes_29 h
  replace h := (if_neg c_1).symm.trans h
  refine lv_aload_n hx hb dX12_executes_9 rfl (lv_at hl 0 rfl) ?_
  refine x_get F hK hW xc_X12 rd_d0 rd_0 13 (by decide) k_5_141 (gf_X12_13 _ _) dX12_executes_10 ?_
  refine lv_iload_n hx hb dX12_executes_13 rfl (lv_at hl 1 rfl) ?_
  refine lv_dup2_11 hx hb dX12_executes_14 rfl rfl ?_
  refine x_iald (t0 := 0) F hK hW rd_d14 rd_14 rfl dX12_executes_15 h (fun h => ?_)
  refine lv_iconst (v := (1 : Int32)) hx hb dX12_executes_16 (by decide) ?_
  refine lv_isub hx hb dX12_executes_17 ?_
  refine x_iast (t0 := 0) F hK hI hW hS rd_d14 rd_14 rfl dX12_executes_18 h (fun S9 H locs hW hS h => ?_)
  exact x_vret F hr hlk hW hS dX12_executes_19 h
/-! X12_tick -/
def r_tick_b272 : Nat → Int32 → xS → Option (xS)
  | 0, _, _ => none
  | fu + 1, v1, S => if (xI S 0 0 1) ≤ v1 then (some S) else ((r_executes  S v1).bind (fun S12 => (r_tick_b272 fu) (v1 + (1 : Int32)) S12))
set_option maxHeartbeats 4000000 in
set_option maxRecDepth 100000 in
theorem m_r_tick_b272 {l : Launch} {D : va_G} {cI cZ cB : ClassId} {ad : Nat → Nat → Nat} (hI : xInj rDom ad) {p : Program} {e : Env} {s : State} {m : MethodId} {args : Array Value} {below : List Frame} {meth : Method} {c : Code} (F : CallFix p m c cX12_tick 2 s args (Cond.code yX12_tick cX12_tick 2 none :: xG) (yX12_tick).cls) (hr : meth.sig.returnType = none) (hlk : meth.locks = false) (hK : xK D vwCl (rTy cI cZ cB) [] [] s) {o : xS} : ∀ (fu : Nat) (v1 : Int32) (S : xS) {H : Heap} {locs : List Loc} {ls : Array Slot}, r_tick_b272 fu v1 S = some o → xW D vwCl rDom ad (rDe ad cI cZ cB) S H → va_S (xA rDom ad) s.heap H locs → lv_has ls 2 [(0, .ref (ad 0 0)), (1, .int v1)] → W p l e { frames := 9, cells := 0, slots := 0, locals := 218 } s m args below meth c H locs 0 0 (MQ below (xQ D vwCl rDom ad (rDe ad cI cZ cB) none o) args s 0 0 (xA rDom ad)) (F0 m 272 ls []) := by
  have hx := F.1
  have hb := F.2.1
  intro fu
  induction fu with
  | zero =>
    intro v1 S H locs ls h
    simp [r_tick_b272] at h
  | succ fu ih =>
    intro v1 S H locs ls h hW hS hl
    have hk272 := fun v1 S H locs ls (h : r_tick_b272 fu v1 S = some o) hW hS hl => ih v1 S (H := H) (locs := locs) (ls := ls) h hW hS hl
    rw [r_tick_b272] at h
    refine lv_iload_n hx hb dX12_tick_272 rfl (lv_at hl 1 rfl) ?_
    refine lv_aload_n hx hb dX12_tick_273 rfl (lv_at hl 0 rfl) ?_
    refine x_get F hK hW xc_X12 rd_d0 rd_0 1 (by decide) k_5_129 (gf_X12_1 _ _) dX12_tick_274 ?_
    refine lv_icmp_ge (tgt := 291) hx hb dX12_tick_277 (by decide) (fun c_11 => ?_) (fun c_11 => ?_)
    · replace h := (if_pos c_11).symm.trans h
      exact x_vret F hr hlk hW hS dX12_tick_291 h
    replace h := (if_neg c_11).symm.trans h
    refine lv_aload_n hx hb dX12_tick_280 rfl (lv_at hl 0 rfl) ?_
    refine lv_iload_n hx hb dX12_tick_281 rfl (lv_at hl 1 rfl) ?_
    refine x_cVv (As := [.int v1]) F xG_ok hK hW hS um_X12_executes k_6_188 (fun _ h1 => m_r_executes hI _ h1) rfl rd_d0 rd_0 rfl rfl hl.1 rfl rfl ⟨Nat.le_of_ble_eq_true rfl, Nat.le_of_ble_eq_true rfl⟩ ⟨Nat.zero_le _, Nat.zero_le _⟩ (Nat.le_of_ble_eq_true rfl) dX12_tick_282 h (fun S12 H locs hW hS h => ?_)
    refine lv_iinc (v := (v1 + (1 : Int32))) (lv' := [(1, .int (v1 + (1 : Int32))), (0, .ref (ad 0 0))]) hx hb dX12_tick_285 hl (k := 1) rfl rfl (by decide) rfl (fun ls hl => ?_)
    refine lv_goto (tgt := 272) hx hb dX12_tick_288 (by decide) ?_
    exact hk272 _ _ _ _ _ h hW hS (lv_sub hl [1, 0] rfl)
def r_tick_b257 (K234 : Int32 → xS → Option (xS)) (v1 : Int32) (S : xS) : Option (xS) := gd v1 8 (xnm (sI S 0 18 (v1).toNatClampNeg (vp_nar .boolean (0 : Int32))) (fun S14 => K234 (v1 + (1 : Int32)) S14))
set_option maxHeartbeats 4000000 in
set_option maxRecDepth 100000 in
theorem m_r_tick_b257 {l : Launch} {D : va_G} {cI cZ cB : ClassId} {ad : Nat → Nat → Nat} (hI : xInj rDom ad) {p : Program} {e : Env} {s : State} {m : MethodId} {args : Array Value} {below : List Frame} {meth : Method} {c : Code} (F : CallFix p m c cX12_tick 2 s args (Cond.code yX12_tick cX12_tick 2 none :: xG) (yX12_tick).cls) (hr : meth.sig.returnType = none) (hlk : meth.locks = false) (hK : xK D vwCl (rTy cI cZ cB) [] [] s) {o : xS} {K234 : Int32 → xS → Option (xS)} (hk234 : ∀ (v1 : Int32) (S : xS) (H : Heap) (locs : List Loc) (ls : Array Slot), K234 v1 S = some o → xW D vwCl rDom ad (rDe ad cI cZ cB) S H → va_S (xA rDom ad) s.heap H locs → lv_has ls 2 [(0, .ref (ad 0 0)), (1, .int v1)] → W p l e { frames := 9, cells := 0, slots := 0, locals := 218 } s m args below meth c H locs 0 0 (MQ below (xQ D vwCl rDom ad (rDe ad cI cZ cB) none o) args s 0 0 (xA rDom ad)) (F0 m 234 ls [])) (v1 : Int32) (S : xS) {H : Heap} {locs : List Loc} {ls : Array Slot} (h : r_tick_b257 K234 v1 S = some o) (hW : xW D vwCl rDom ad (rDe ad cI cZ cB) S H) (hS : va_S (xA rDom ad) s.heap H locs) (hl : lv_has ls 2 [(0, .ref (ad 0 0)), (1, .int v1)]) : W p l e { frames := 9, cells := 0, slots := 0, locals := 218 } s m args below meth c H locs 0 0 (MQ below (xQ D vwCl rDom ad (rDe ad cI cZ cB) none o) args s 0 0 (xA rDom ad)) (F0 m 257 ls []) := by
  have hx := F.1
  have hb := F.2.1
  unfold r_tick_b257 at h
  refine lv_aload_n hx hb dX12_tick_257 rfl (lv_at hl 0 rfl) ?_
  refine x_get F hK hW xc_X12 rd_d0 rd_0 17 (by decide) k_5_145 (gf_X12_17 _ _) dX12_tick_258 ?_
  refine lv_iload_n hx hb dX12_tick_261 rfl (lv_at hl 1 rfl) ?_
  refine lv_iconst (v := (0 : Int32)) hx hb dX12_tick_262 (by decide) ?_
  refine x_zast (t0 := 1) F hK hI hW hS rd_d18 rd_18 rfl dX12_tick_263 h (fun S14 H locs hW hS h => ?_)
  refine lv_iinc (v := (v1 + (1 : Int32))) (lv' := [(1, .int (v1 + (1 : Int32))), (0, .ref (ad 0 0))]) hx hb dX12_tick_264 hl (k := 1) rfl rfl (by decide) rfl (fun ls hl => ?_)
  refine lv_goto (tgt := 234) hx hb dX12_tick_267 (by decide) ?_
  exact hk234 _ _ _ _ _ h hW hS (lv_sub hl [1, 0] rfl)
def r_tick_b234 : Nat → Int32 → xS → Option (xS)
  | 0, _, _ => none
  | fu + 1, v1, S => if (xI S 0 0 1) ≤ v1 then (r_tick_b272  (100000) (0 : Int32) S) else (gd v1 8 (if (xI S 0 18 (v1).toNatClampNeg) = 0 then (r_tick_b257  (r_tick_b234 fu) v1 S) else ((r_stop  S v1 (2 : Int32)).bind (fun S15 => r_tick_b257  (r_tick_b234 fu) v1 S15))))
set_option maxHeartbeats 4000000 in
set_option maxRecDepth 100000 in
theorem m_r_tick_b234 {l : Launch} {D : va_G} {cI cZ cB : ClassId} {ad : Nat → Nat → Nat} (hI : xInj rDom ad) {p : Program} {e : Env} {s : State} {m : MethodId} {args : Array Value} {below : List Frame} {meth : Method} {c : Code} (F : CallFix p m c cX12_tick 2 s args (Cond.code yX12_tick cX12_tick 2 none :: xG) (yX12_tick).cls) (hr : meth.sig.returnType = none) (hlk : meth.locks = false) (hK : xK D vwCl (rTy cI cZ cB) [] [] s) {o : xS} : ∀ (fu : Nat) (v1 : Int32) (S : xS) {H : Heap} {locs : List Loc} {ls : Array Slot}, r_tick_b234 fu v1 S = some o → xW D vwCl rDom ad (rDe ad cI cZ cB) S H → va_S (xA rDom ad) s.heap H locs → lv_has ls 2 [(0, .ref (ad 0 0)), (1, .int v1)] → W p l e { frames := 9, cells := 0, slots := 0, locals := 218 } s m args below meth c H locs 0 0 (MQ below (xQ D vwCl rDom ad (rDe ad cI cZ cB) none o) args s 0 0 (xA rDom ad)) (F0 m 234 ls []) := by
  have hx := F.1
  have hb := F.2.1
  intro fu
  induction fu with
  | zero =>
    intro v1 S H locs ls h
    simp [r_tick_b234] at h
  | succ fu ih =>
    intro v1 S H locs ls h hW hS hl
    have hk234 := fun v1 S H locs ls (h : r_tick_b234 fu v1 S = some o) hW hS hl => ih v1 S (H := H) (locs := locs) (ls := ls) h hW hS hl
    rw [r_tick_b234] at h
    refine lv_iload_n hx hb dX12_tick_234 rfl (lv_at hl 1 rfl) ?_
    refine lv_aload_n hx hb dX12_tick_235 rfl (lv_at hl 0 rfl) ?_
    refine x_get F hK hW xc_X12 rd_d0 rd_0 1 (by decide) k_5_129 (gf_X12_1 _ _) dX12_tick_236 ?_
    refine lv_icmp_ge (tgt := 270) hx hb dX12_tick_239 (by decide) (fun c_10 => ?_) (fun c_10 => ?_)
    · replace h := (if_pos c_10).symm.trans h
      refine lv_iconst (v := (0 : Int32)) hx hb dX12_tick_270 (by decide) ?_
      refine lv_istore_n (lv' := [(1, .int (0 : Int32)), (0, .ref (ad 0 0))]) hx hb dX12_tick_271 rfl hl (by decide) rfl (fun ls hl => ?_)
      exact m_r_tick_b272 hI  F hr hlk hK (100000) _ _ h hW hS (lv_sub hl [1, 0] rfl)
    replace h := (if_neg c_10).symm.trans h
    refine lv_aload_n hx hb dX12_tick_242 rfl (lv_at hl 0 rfl) ?_
    refine x_get F hK hW xc_X12 rd_d0 rd_0 17 (by decide) k_5_145 (gf_X12_17 _ _) dX12_tick_243 ?_
    refine lv_iload_n hx hb dX12_tick_246 rfl (lv_at hl 1 rfl) ?_
    refine x_zald (t0 := 1) F hK hW rd_d18 rd_18 rfl dX12_tick_247 h (fun h => ?_)
    refine lv_if_eq (tgt := 257) hx hb dX12_tick_248 (by decide) (fun c_13 => ?_) (fun c_13 => ?_)
    · replace h := (if_pos c_13).symm.trans h
      exact m_r_tick_b257 hI  F hr hlk hK hk234 _ _ h hW hS (lv_sub hl [0, 1] rfl)
    replace h := (if_neg c_13).symm.trans h
    refine lv_aload_n hx hb dX12_tick_251 rfl (lv_at hl 0 rfl) ?_
    refine lv_iload_n hx hb dX12_tick_252 rfl (lv_at hl 1 rfl) ?_
    refine lv_iconst (v := (2 : Int32)) hx hb dX12_tick_253 (by decide) ?_
    refine x_cVv (As := [.int v1, .int (2 : Int32)]) F xG_ok hK hW hS um_X12_stop k_6_184 (fun _ h1 => m_r_stop hI _ _ h1) rfl rd_d0 rd_0 rfl rfl hl.1 rfl rfl ⟨Nat.le_of_ble_eq_true rfl, Nat.le_of_ble_eq_true rfl⟩ ⟨Nat.zero_le _, Nat.zero_le _⟩ (Nat.le_of_ble_eq_true rfl) dX12_tick_254 h (fun S15 H locs hW hS h => ?_)
    exact m_r_tick_b257 hI  F hr hlk hK hk234 _ _ h hW hS (lv_sub hl [0, 1] rfl)
def r_tick_b226 (K165 : Int32 → xS → Option (xS)) (v1 : Int32) (S : xS) : Option (xS) := K165 (v1 + (1 : Int32)) S
set_option maxHeartbeats 4000000 in
set_option maxRecDepth 100000 in
theorem m_r_tick_b226 {l : Launch} {D : va_G} {cI cZ cB : ClassId} {ad : Nat → Nat → Nat} (hI : xInj rDom ad) {p : Program} {e : Env} {s : State} {m : MethodId} {args : Array Value} {below : List Frame} {meth : Method} {c : Code} (F : CallFix p m c cX12_tick 2 s args (Cond.code yX12_tick cX12_tick 2 none :: xG) (yX12_tick).cls) (hr : meth.sig.returnType = none) (hlk : meth.locks = false) (hK : xK D vwCl (rTy cI cZ cB) [] [] s) {o : xS} {K165 : Int32 → xS → Option (xS)} (hk165 : ∀ (v1 : Int32) (S : xS) (H : Heap) (locs : List Loc) (ls : Array Slot), K165 v1 S = some o → xW D vwCl rDom ad (rDe ad cI cZ cB) S H → va_S (xA rDom ad) s.heap H locs → lv_has ls 2 [(0, .ref (ad 0 0)), (1, .int v1)] → W p l e { frames := 9, cells := 0, slots := 0, locals := 218 } s m args below meth c H locs 0 0 (MQ below (xQ D vwCl rDom ad (rDe ad cI cZ cB) none o) args s 0 0 (xA rDom ad)) (F0 m 165 ls [])) (v1 : Int32) (S : xS) {H : Heap} {locs : List Loc} {ls : Array Slot} (h : r_tick_b226 K165 v1 S = some o) (hW : xW D vwCl rDom ad (rDe ad cI cZ cB) S H) (hS : va_S (xA rDom ad) s.heap H locs) (hl : lv_has ls 2 [(0, .ref (ad 0 0)), (1, .int v1)]) : W p l e { frames := 9, cells := 0, slots := 0, locals := 218 } s m args below meth c H locs 0 0 (MQ below (xQ D vwCl rDom ad (rDe ad cI cZ cB) none o) args s 0 0 (xA rDom ad)) (F0 m 226 ls []) := by
  have hx := F.1
  have hb := F.2.1
  unfold r_tick_b226 at h
  refine lv_iinc (v := (v1 + (1 : Int32))) (lv' := [(1, .int (v1 + (1 : Int32))), (0, .ref (ad 0 0))]) hx hb dX12_tick_226 hl (k := 1) rfl rfl (by decide) rfl (fun ls hl => ?_)
  refine lv_goto (tgt := 165) hx hb dX12_tick_229 (by decide) ?_
  exact hk165 _ _ _ _ _ h hW hS (lv_sub hl [1, 0] rfl)
def r_tick_b198 (K165 : Int32 → xS → Option (xS)) (v1 : Int32) (S : xS) : Option (xS) := if (jrem (xI S 0 0 2) (64 : Int32)) = 0 then (gd (((2 : Int32) * v1) + (1 : Int32)) 16 ((r_sets  S v1 (1 : Int32) ((xI S 0 21 ((((2 : Int32) * v1) + (1 : Int32))).toNatClampNeg) + (1 : Int32))).bind (fun S18 => r_tick_b226  K165 v1 S18))) else (r_tick_b226  K165 v1 S)
set_option maxHeartbeats 4000000 in
set_option maxRecDepth 100000 in
theorem m_r_tick_b198 {l : Launch} {D : va_G} {cI cZ cB : ClassId} {ad : Nat → Nat → Nat} (hI : xInj rDom ad) {p : Program} {e : Env} {s : State} {m : MethodId} {args : Array Value} {below : List Frame} {meth : Method} {c : Code} (F : CallFix p m c cX12_tick 2 s args (Cond.code yX12_tick cX12_tick 2 none :: xG) (yX12_tick).cls) (hr : meth.sig.returnType = none) (hlk : meth.locks = false) (hK : xK D vwCl (rTy cI cZ cB) [] [] s) {o : xS} {K165 : Int32 → xS → Option (xS)} (hk165 : ∀ (v1 : Int32) (S : xS) (H : Heap) (locs : List Loc) (ls : Array Slot), K165 v1 S = some o → xW D vwCl rDom ad (rDe ad cI cZ cB) S H → va_S (xA rDom ad) s.heap H locs → lv_has ls 2 [(0, .ref (ad 0 0)), (1, .int v1)] → W p l e { frames := 9, cells := 0, slots := 0, locals := 218 } s m args below meth c H locs 0 0 (MQ below (xQ D vwCl rDom ad (rDe ad cI cZ cB) none o) args s 0 0 (xA rDom ad)) (F0 m 165 ls [])) (v1 : Int32) (S : xS) {H : Heap} {locs : List Loc} {ls : Array Slot} (h : r_tick_b198 K165 v1 S = some o) (hW : xW D vwCl rDom ad (rDe ad cI cZ cB) S H) (hS : va_S (xA rDom ad) s.heap H locs) (hl : lv_has ls 2 [(0, .ref (ad 0 0)), (1, .int v1)]) : W p l e { frames := 9, cells := 0, slots := 0, locals := 218 } s m args below meth c H locs 0 0 (MQ below (xQ D vwCl rDom ad (rDe ad cI cZ cB) none o) args s 0 0 (xA rDom ad)) (F0 m 198 ls []) := by
  have hx := F.1
  have hb := F.2.1
  unfold r_tick_b198 at h
  refine lv_aload_n hx hb dX12_tick_198 rfl (lv_at hl 0 rfl) ?_
  refine x_get F hK hW xc_X12 rd_d0 rd_0 2 (by decide) k_5_130 (gf_X12_2 _ _) dX12_tick_199 ?_
  refine lv_bipush (v := (64 : Int32)) hx hb dX12_tick_202 (by decide) ?_
  refine x_irem hx hb dX12_tick_204 (by decide) ?_
  refine lv_if_ne (tgt := 226) hx hb dX12_tick_205 (by decide) (fun c_17 => ?_) (fun c_17 => ?_)
  · replace h := (if_neg c_17).symm.trans h
    exact m_r_tick_b226 hI  F hr hlk hK hk165 _ _ h hW hS (lv_sub hl [0, 1] rfl)
  replace h := (if_pos c_17).symm.trans h
  refine lv_aload_n hx hb dX12_tick_208 rfl (lv_at hl 0 rfl) ?_
  refine lv_iload_n hx hb dX12_tick_209 rfl (lv_at hl 1 rfl) ?_
  refine lv_iconst (v := (1 : Int32)) hx hb dX12_tick_210 (by decide) ?_
  refine lv_aload_n hx hb dX12_tick_211 rfl (lv_at hl 0 rfl) ?_
  refine x_get F hK hW xc_X12 rd_d0 rd_0 20 (by decide) k_5_148 (gf_X12_20 _ _) dX12_tick_212 ?_
  refine lv_iconst (v := (2 : Int32)) hx hb dX12_tick_215 (by decide) ?_
  refine lv_iload_n hx hb dX12_tick_216 rfl (lv_at hl 1 rfl) ?_
  refine lv_imul hx hb dX12_tick_217 ?_
  refine lv_iconst (v := (1 : Int32)) hx hb dX12_tick_218 (by decide) ?_
  refine lv_iadd hx hb dX12_tick_219 ?_
  refine x_iald (t0 := 0) F hK hW rd_d21 rd_21 rfl dX12_tick_220 h (fun h => ?_)
  refine lv_iconst (v := (1 : Int32)) hx hb dX12_tick_221 (by decide) ?_
  refine lv_iadd hx hb dX12_tick_222 ?_
  refine x_cVv (As := [.int v1, .int (1 : Int32), .int ((xI S 0 21 ((((2 : Int32) * v1) + (1 : Int32))).toNatClampNeg) + (1 : Int32))]) F xG_ok hK hW hS um_X12_sets k_6_173 (fun _ h1 => m_r_sets hI _ _ _ h1) rfl rd_d0 rd_0 rfl rfl hl.1 rfl rfl ⟨Nat.le_of_ble_eq_true rfl, Nat.le_of_ble_eq_true rfl⟩ ⟨Nat.zero_le _, Nat.zero_le _⟩ (Nat.le_of_ble_eq_true rfl) dX12_tick_223 h (fun S18 H locs hW hS h => ?_)
  exact m_r_tick_b226 hI  F hr hlk hK hk165 _ _ h hW hS (lv_sub hl [0, 1] rfl)
def r_tick_b165 : Nat → Int32 → xS → Option (xS)
  | 0, _, _ => none
  | fu + 1, v1, S => if (xI S 0 0 1) ≤ v1 then (r_tick_b234  (100000) (0 : Int32) S) else (if (jrem (xI S 0 0 2) (4 : Int32)) = 0 then (gd ((2 : Int32) * v1) 16 ((r_sets  S v1 (0 : Int32) ((xI S 0 21 (((2 : Int32) * v1)).toNatClampNeg) + (1 : Int32))).bind (fun S19 => r_tick_b198  (r_tick_b165 fu) v1 S19))) else (r_tick_b198  (r_tick_b165 fu) v1 S))
set_option maxHeartbeats 4000000 in
set_option maxRecDepth 100000 in
theorem m_r_tick_b165 {l : Launch} {D : va_G} {cI cZ cB : ClassId} {ad : Nat → Nat → Nat} (hI : xInj rDom ad) {p : Program} {e : Env} {s : State} {m : MethodId} {args : Array Value} {below : List Frame} {meth : Method} {c : Code} (F : CallFix p m c cX12_tick 2 s args (Cond.code yX12_tick cX12_tick 2 none :: xG) (yX12_tick).cls) (hr : meth.sig.returnType = none) (hlk : meth.locks = false) (hK : xK D vwCl (rTy cI cZ cB) [] [] s) {o : xS} : ∀ (fu : Nat) (v1 : Int32) (S : xS) {H : Heap} {locs : List Loc} {ls : Array Slot}, r_tick_b165 fu v1 S = some o → xW D vwCl rDom ad (rDe ad cI cZ cB) S H → va_S (xA rDom ad) s.heap H locs → lv_has ls 2 [(0, .ref (ad 0 0)), (1, .int v1)] → W p l e { frames := 9, cells := 0, slots := 0, locals := 218 } s m args below meth c H locs 0 0 (MQ below (xQ D vwCl rDom ad (rDe ad cI cZ cB) none o) args s 0 0 (xA rDom ad)) (F0 m 165 ls []) := by
  have hx := F.1
  have hb := F.2.1
  intro fu
  induction fu with
  | zero =>
    intro v1 S H locs ls h
    simp [r_tick_b165] at h
  | succ fu ih =>
    intro v1 S H locs ls h hW hS hl
    have hk165 := fun v1 S H locs ls (h : r_tick_b165 fu v1 S = some o) hW hS hl => ih v1 S (H := H) (locs := locs) (ls := ls) h hW hS hl
    rw [r_tick_b165] at h
    refine lv_iload_n hx hb dX12_tick_165 rfl (lv_at hl 1 rfl) ?_
    refine lv_aload_n hx hb dX12_tick_166 rfl (lv_at hl 0 rfl) ?_
    refine x_get F hK hW xc_X12 rd_d0 rd_0 1 (by decide) k_5_129 (gf_X12_1 _ _) dX12_tick_167 ?_
    refine lv_icmp_ge (tgt := 232) hx hb dX12_tick_170 (by decide) (fun c_9 => ?_) (fun c_9 => ?_)
    · replace h := (if_pos c_9).symm.trans h
      refine lv_iconst (v := (0 : Int32)) hx hb dX12_tick_232 (by decide) ?_
      refine lv_istore_n (lv' := [(1, .int (0 : Int32)), (0, .ref (ad 0 0))]) hx hb dX12_tick_233 rfl hl (by decide) rfl (fun ls hl => ?_)
      exact m_r_tick_b234 hI  F hr hlk hK (100000) _ _ h hW hS (lv_sub hl [1, 0] rfl)
    replace h := (if_neg c_9).symm.trans h
    refine lv_aload_n hx hb dX12_tick_173 rfl (lv_at hl 0 rfl) ?_
    refine x_get F hK hW xc_X12 rd_d0 rd_0 2 (by decide) k_5_130 (gf_X12_2 _ _) dX12_tick_174 ?_
    refine lv_iconst (v := (4 : Int32)) hx hb dX12_tick_177 (by decide) ?_
    refine x_irem hx hb dX12_tick_178 (by decide) ?_
    refine lv_if_ne (tgt := 198) hx hb dX12_tick_179 (by decide) (fun c_16 => ?_) (fun c_16 => ?_)
    · replace h := (if_neg c_16).symm.trans h
      exact m_r_tick_b198 hI  F hr hlk hK hk165 _ _ h hW hS (lv_sub hl [0, 1] rfl)
    replace h := (if_pos c_16).symm.trans h
    refine lv_aload_n hx hb dX12_tick_182 rfl (lv_at hl 0 rfl) ?_
    refine lv_iload_n hx hb dX12_tick_183 rfl (lv_at hl 1 rfl) ?_
    refine lv_iconst (v := (0 : Int32)) hx hb dX12_tick_184 (by decide) ?_
    refine lv_aload_n hx hb dX12_tick_185 rfl (lv_at hl 0 rfl) ?_
    refine x_get F hK hW xc_X12 rd_d0 rd_0 20 (by decide) k_5_148 (gf_X12_20 _ _) dX12_tick_186 ?_
    refine lv_iconst (v := (2 : Int32)) hx hb dX12_tick_189 (by decide) ?_
    refine lv_iload_n hx hb dX12_tick_190 rfl (lv_at hl 1 rfl) ?_
    refine lv_imul hx hb dX12_tick_191 ?_
    refine x_iald (t0 := 0) F hK hW rd_d21 rd_21 rfl dX12_tick_192 h (fun h => ?_)
    refine lv_iconst (v := (1 : Int32)) hx hb dX12_tick_193 (by decide) ?_
    refine lv_iadd hx hb dX12_tick_194 ?_
    refine x_cVv (As := [.int v1, .int (0 : Int32), .int ((xI S 0 21 (((2 : Int32) * v1)).toNatClampNeg) + (1 : Int32))]) F xG_ok hK hW hS um_X12_sets k_6_173 (fun _ h1 => m_r_sets hI _ _ _ h1) rfl rd_d0 rd_0 rfl rfl hl.1 rfl rfl ⟨Nat.le_of_ble_eq_true rfl, Nat.le_of_ble_eq_true rfl⟩ ⟨Nat.zero_le _, Nat.zero_le _⟩ (Nat.le_of_ble_eq_true rfl) dX12_tick_195 h (fun S19 H locs hW hS h => ?_)
    exact m_r_tick_b198 hI  F hr hlk hK hk165 _ _ h hW hS (lv_sub hl [0, 1] rfl)
def r_tick_b157 (K135 : Int32 → xS → Option (xS)) (v1 : Int32) (S : xS) : Option (xS) := K135 (v1 + (1 : Int32)) S
set_option maxHeartbeats 4000000 in
set_option maxRecDepth 100000 in
theorem m_r_tick_b157 {l : Launch} {D : va_G} {cI cZ cB : ClassId} {ad : Nat → Nat → Nat} (hI : xInj rDom ad) {p : Program} {e : Env} {s : State} {m : MethodId} {args : Array Value} {below : List Frame} {meth : Method} {c : Code} (F : CallFix p m c cX12_tick 2 s args (Cond.code yX12_tick cX12_tick 2 none :: xG) (yX12_tick).cls) (hr : meth.sig.returnType = none) (hlk : meth.locks = false) (hK : xK D vwCl (rTy cI cZ cB) [] [] s) {o : xS} {K135 : Int32 → xS → Option (xS)} (hk135 : ∀ (v1 : Int32) (S : xS) (H : Heap) (locs : List Loc) (ls : Array Slot), K135 v1 S = some o → xW D vwCl rDom ad (rDe ad cI cZ cB) S H → va_S (xA rDom ad) s.heap H locs → lv_has ls 2 [(0, .ref (ad 0 0)), (1, .int v1)] → W p l e { frames := 9, cells := 0, slots := 0, locals := 218 } s m args below meth c H locs 0 0 (MQ below (xQ D vwCl rDom ad (rDe ad cI cZ cB) none o) args s 0 0 (xA rDom ad)) (F0 m 135 ls [])) (v1 : Int32) (S : xS) {H : Heap} {locs : List Loc} {ls : Array Slot} (h : r_tick_b157 K135 v1 S = some o) (hW : xW D vwCl rDom ad (rDe ad cI cZ cB) S H) (hS : va_S (xA rDom ad) s.heap H locs) (hl : lv_has ls 2 [(0, .ref (ad 0 0)), (1, .int v1)]) : W p l e { frames := 9, cells := 0, slots := 0, locals := 218 } s m args below meth c H locs 0 0 (MQ below (xQ D vwCl rDom ad (rDe ad cI cZ cB) none o) args s 0 0 (xA rDom ad)) (F0 m 157 ls []) := by
  have hx := F.1
  have hb := F.2.1
  unfold r_tick_b157 at h
  refine lv_iinc (v := (v1 + (1 : Int32))) (lv' := [(1, .int (v1 + (1 : Int32))), (0, .ref (ad 0 0))]) hx hb dX12_tick_157 hl (k := 1) rfl rfl (by decide) rfl (fun ls hl => ?_)
  refine lv_goto (tgt := 135) hx hb dX12_tick_160 (by decide) ?_
  exact hk135 _ _ _ _ _ h hW hS (lv_sub hl [1, 0] rfl)
def r_tick_b135 : Nat → Int32 → xS → Option (xS)
  | 0, _, _ => none
  | fu + 1, v1, S => if (xI S 0 0 1) ≤ v1 then (r_tick_b165  (100000) (0 : Int32) S) else (gd v1 8 (if (xI S 0 52 (v1).toNatClampNeg) = 0 then (r_tick_b157  (r_tick_b135 fu) v1 S) else ((r_boot  S v1).bind (fun S21 => r_tick_b157  (r_tick_b135 fu) v1 S21))))
set_option maxHeartbeats 4000000 in
set_option maxRecDepth 100000 in
theorem m_r_tick_b135 {l : Launch} {D : va_G} {cI cZ cB : ClassId} {ad : Nat → Nat → Nat} (hI : xInj rDom ad) {p : Program} {e : Env} {s : State} {m : MethodId} {args : Array Value} {below : List Frame} {meth : Method} {c : Code} (F : CallFix p m c cX12_tick 2 s args (Cond.code yX12_tick cX12_tick 2 none :: xG) (yX12_tick).cls) (hr : meth.sig.returnType = none) (hlk : meth.locks = false) (hK : xK D vwCl (rTy cI cZ cB) [] [] s) {o : xS} : ∀ (fu : Nat) (v1 : Int32) (S : xS) {H : Heap} {locs : List Loc} {ls : Array Slot}, r_tick_b135 fu v1 S = some o → xW D vwCl rDom ad (rDe ad cI cZ cB) S H → va_S (xA rDom ad) s.heap H locs → lv_has ls 2 [(0, .ref (ad 0 0)), (1, .int v1)] → W p l e { frames := 9, cells := 0, slots := 0, locals := 218 } s m args below meth c H locs 0 0 (MQ below (xQ D vwCl rDom ad (rDe ad cI cZ cB) none o) args s 0 0 (xA rDom ad)) (F0 m 135 ls []) := by
  have hx := F.1
  have hb := F.2.1
  intro fu
  induction fu with
  | zero =>
    intro v1 S H locs ls h
    simp [r_tick_b135] at h
  | succ fu ih =>
    intro v1 S H locs ls h hW hS hl
    have hk135 := fun v1 S H locs ls (h : r_tick_b135 fu v1 S = some o) hW hS hl => ih v1 S (H := H) (locs := locs) (ls := ls) h hW hS hl
    rw [r_tick_b135] at h
    refine lv_iload_n hx hb dX12_tick_135 rfl (lv_at hl 1 rfl) ?_
    refine lv_aload_n hx hb dX12_tick_136 rfl (lv_at hl 0 rfl) ?_
    refine x_get F hK hW xc_X12 rd_d0 rd_0 1 (by decide) k_5_129 (gf_X12_1 _ _) dX12_tick_137 ?_
    refine lv_icmp_ge (tgt := 163) hx hb dX12_tick_140 (by decide) (fun c_8 => ?_) (fun c_8 => ?_)
    · replace h := (if_pos c_8).symm.trans h
      refine lv_iconst (v := (0 : Int32)) hx hb dX12_tick_163 (by decide) ?_
      refine lv_istore_n (lv' := [(1, .int (0 : Int32)), (0, .ref (ad 0 0))]) hx hb dX12_tick_164 rfl hl (by decide) rfl (fun ls hl => ?_)
      exact m_r_tick_b165 hI  F hr hlk hK (100000) _ _ h hW hS (lv_sub hl [1, 0] rfl)
    replace h := (if_neg c_8).symm.trans h
    refine lv_aload_n hx hb dX12_tick_143 rfl (lv_at hl 0 rfl) ?_
    refine x_get F hK hW xc_X12 rd_d0 rd_0 51 (by decide) k_5_179 (gf_X12_51 _ _) dX12_tick_144 ?_
    refine lv_iload_n hx hb dX12_tick_147 rfl (lv_at hl 1 rfl) ?_
    refine x_zald (t0 := 1) F hK hW rd_d52 rd_52 rfl dX12_tick_148 h (fun h => ?_)
    refine lv_if_eq (tgt := 157) hx hb dX12_tick_149 (by decide) (fun c_20 => ?_) (fun c_20 => ?_)
    · replace h := (if_pos c_20).symm.trans h
      exact m_r_tick_b157 hI  F hr hlk hK hk135 _ _ h hW hS (lv_sub hl [0, 1] rfl)
    replace h := (if_neg c_20).symm.trans h
    refine lv_aload_n hx hb dX12_tick_152 rfl (lv_at hl 0 rfl) ?_
    refine lv_iload_n hx hb dX12_tick_153 rfl (lv_at hl 1 rfl) ?_
    refine x_cVv (As := [.int v1]) F xG_ok hK hW hS um_X12_boot k_6_164 (fun _ h1 => m_r_boot hI _ h1) rfl rd_d0 rd_0 rfl rfl hl.1 rfl rfl ⟨Nat.le_of_ble_eq_true rfl, Nat.le_of_ble_eq_true rfl⟩ ⟨Nat.zero_le _, Nat.zero_le _⟩ (Nat.le_of_ble_eq_true rfl) dX12_tick_154 h (fun S21 H locs hW hS h => ?_)
    exact m_r_tick_b157 hI  F hr hlk hK hk135 _ _ h hW hS (lv_sub hl [0, 1] rfl)
def r_tick_b130 (t0 : Int32) (t1 : Int32) (S : xS) : Option (xS) := (r_reads  S t1 t0).bind (fun S7 => r_tick_b135  (100000) (0 : Int32) S7)
set_option maxHeartbeats 4000000 in
set_option maxRecDepth 100000 in
theorem m_r_tick_b130 {l : Launch} {D : va_G} {cI cZ cB : ClassId} {ad : Nat → Nat → Nat} (hI : xInj rDom ad) {p : Program} {e : Env} {s : State} {m : MethodId} {args : Array Value} {below : List Frame} {meth : Method} {c : Code} (F : CallFix p m c cX12_tick 2 s args (Cond.code yX12_tick cX12_tick 2 none :: xG) (yX12_tick).cls) (hr : meth.sig.returnType = none) (hlk : meth.locks = false) (hK : xK D vwCl (rTy cI cZ cB) [] [] s) {o : xS} (t0 : Int32) (t1 : Int32) (S : xS) {H : Heap} {locs : List Loc} {ls : Array Slot} (h : r_tick_b130 t0 t1 S = some o) (hW : xW D vwCl rDom ad (rDe ad cI cZ cB) S H) (hS : va_S (xA rDom ad) s.heap H locs) (hl : lv_has ls 2 [(0, .ref (ad 0 0))]) : W p l e { frames := 9, cells := 0, slots := 0, locals := 218 } s m args below meth c H locs 0 0 (MQ below (xQ D vwCl rDom ad (rDe ad cI cZ cB) none o) args s 0 0 (xA rDom ad)) (F0 m 130 ls [.int t0, .int t1, .ref (ad 0 0)]) := by
  have hx := F.1
  have hb := F.2.1
  unfold r_tick_b130 at h
  refine x_cVv (As := [.int t1, .int t0]) F xG_ok hK hW hS um_X12_reads k_6_125 (fun _ h1 => m_r_reads hI _ _ h1) rfl rd_d0 rd_0 rfl rfl hl.1 rfl rfl ⟨Nat.le_of_ble_eq_true rfl, Nat.le_of_ble_eq_true rfl⟩ ⟨Nat.zero_le _, Nat.zero_le _⟩ (Nat.le_of_ble_eq_true rfl) dX12_tick_130 h (fun S7 H locs hW hS h => ?_)
  refine lv_iconst (v := (0 : Int32)) hx hb dX12_tick_133 (by decide) ?_
  refine lv_istore_n (lv' := [(1, .int (0 : Int32)), (0, .ref (ad 0 0))]) hx hb dX12_tick_134 rfl hl (by decide) rfl (fun ls hl => ?_)
  exact m_r_tick_b135 hI  F hr hlk hK (100000) _ _ h hW hS (lv_sub hl [1, 0] rfl)
def r_tick_b91 (K54 : Int32 → xS → Option (xS)) (v1 : Int32) (t0 : Int32) (t1 : Int32) (S : xS) : Option (xS) := (r_reads  S t1 t0).bind (fun S23 => K54 (v1 + (1 : Int32)) S23)
set_option maxHeartbeats 4000000 in
set_option maxRecDepth 100000 in
theorem m_r_tick_b91 {l : Launch} {D : va_G} {cI cZ cB : ClassId} {ad : Nat → Nat → Nat} (hI : xInj rDom ad) {p : Program} {e : Env} {s : State} {m : MethodId} {args : Array Value} {below : List Frame} {meth : Method} {c : Code} (F : CallFix p m c cX12_tick 2 s args (Cond.code yX12_tick cX12_tick 2 none :: xG) (yX12_tick).cls) (hr : meth.sig.returnType = none) (hlk : meth.locks = false) (hK : xK D vwCl (rTy cI cZ cB) [] [] s) {o : xS} {K54 : Int32 → xS → Option (xS)} (hk54 : ∀ (v1 : Int32) (S : xS) (H : Heap) (locs : List Loc) (ls : Array Slot), K54 v1 S = some o → xW D vwCl rDom ad (rDe ad cI cZ cB) S H → va_S (xA rDom ad) s.heap H locs → lv_has ls 2 [(0, .ref (ad 0 0)), (1, .int v1)] → W p l e { frames := 9, cells := 0, slots := 0, locals := 218 } s m args below meth c H locs 0 0 (MQ below (xQ D vwCl rDom ad (rDe ad cI cZ cB) none o) args s 0 0 (xA rDom ad)) (F0 m 54 ls [])) (v1 : Int32) (t0 : Int32) (t1 : Int32) (S : xS) {H : Heap} {locs : List Loc} {ls : Array Slot} (h : r_tick_b91 K54 v1 t0 t1 S = some o) (hW : xW D vwCl rDom ad (rDe ad cI cZ cB) S H) (hS : va_S (xA rDom ad) s.heap H locs) (hl : lv_has ls 2 [(0, .ref (ad 0 0)), (1, .int v1)]) : W p l e { frames := 9, cells := 0, slots := 0, locals := 218 } s m args below meth c H locs 0 0 (MQ below (xQ D vwCl rDom ad (rDe ad cI cZ cB) none o) args s 0 0 (xA rDom ad)) (F0 m 91 ls [.int t0, .int t1, .ref (ad 0 0)]) := by
  have hx := F.1
  have hb := F.2.1
  unfold r_tick_b91 at h
  refine x_cVv (As := [.int t1, .int t0]) F xG_ok hK hW hS um_X12_reads k_6_125 (fun _ h1 => m_r_reads hI _ _ h1) rfl rd_d0 rd_0 rfl rfl hl.1 rfl rfl ⟨Nat.le_of_ble_eq_true rfl, Nat.le_of_ble_eq_true rfl⟩ ⟨Nat.zero_le _, Nat.zero_le _⟩ (Nat.le_of_ble_eq_true rfl) dX12_tick_91 h (fun S23 H locs hW hS h => ?_)
  refine lv_iinc (v := (v1 + (1 : Int32))) (lv' := [(1, .int (v1 + (1 : Int32))), (0, .ref (ad 0 0))]) hx hb dX12_tick_94 hl (k := 1) rfl rfl (by decide) rfl (fun ls hl => ?_)
  refine lv_goto (tgt := 54) hx hb dX12_tick_97 (by decide) ?_
  exact hk54 _ _ _ _ _ h hW hS (lv_sub hl [1, 0] rfl)
def r_tick_b54 : Nat → Int32 → xS → Option (xS)
  | 0, _, _ => none
  | fu + 1, v1, S => if ((4 : Int32) * (xI S 0 0 1)) ≤ v1 then (gd (32 : Int32) 33 (if (xI S 0 33 ((32 : Int32)).toNatClampNeg) = (-1 : Int32) then (r_tick_b130  (0 : Int32) (32 : Int32) S) else (gd (32 : Int32) 33 (gd (xI S 0 33 ((32 : Int32)).toNatClampNeg) 33 (r_tick_b130  (xI S 0 34 ((xI S 0 33 ((32 : Int32)).toNatClampNeg)).toNatClampNeg) (32 : Int32) S))))) else (gd v1 33 (if (xI S 0 33 (v1).toNatClampNeg) = (-1 : Int32) then (r_tick_b91  (r_tick_b54 fu) v1 (0 : Int32) v1 S) else (gd v1 33 (gd (xI S 0 33 (v1).toNatClampNeg) 33 (r_tick_b91  (r_tick_b54 fu) v1 (xI S 0 34 ((xI S 0 33 (v1).toNatClampNeg)).toNatClampNeg) v1 S)))))
set_option maxHeartbeats 4000000 in
set_option maxRecDepth 100000 in
theorem m_r_tick_b54 {l : Launch} {D : va_G} {cI cZ cB : ClassId} {ad : Nat → Nat → Nat} (hI : xInj rDom ad) {p : Program} {e : Env} {s : State} {m : MethodId} {args : Array Value} {below : List Frame} {meth : Method} {c : Code} (F : CallFix p m c cX12_tick 2 s args (Cond.code yX12_tick cX12_tick 2 none :: xG) (yX12_tick).cls) (hr : meth.sig.returnType = none) (hlk : meth.locks = false) (hK : xK D vwCl (rTy cI cZ cB) [] [] s) {o : xS} : ∀ (fu : Nat) (v1 : Int32) (S : xS) {H : Heap} {locs : List Loc} {ls : Array Slot}, r_tick_b54 fu v1 S = some o → xW D vwCl rDom ad (rDe ad cI cZ cB) S H → va_S (xA rDom ad) s.heap H locs → lv_has ls 2 [(0, .ref (ad 0 0)), (1, .int v1)] → W p l e { frames := 9, cells := 0, slots := 0, locals := 218 } s m args below meth c H locs 0 0 (MQ below (xQ D vwCl rDom ad (rDe ad cI cZ cB) none o) args s 0 0 (xA rDom ad)) (F0 m 54 ls []) := by
  have hx := F.1
  have hb := F.2.1
  intro fu
  induction fu with
  | zero =>
    intro v1 S H locs ls h
    simp [r_tick_b54] at h
  | succ fu ih =>
    intro v1 S H locs ls h hW hS hl
    have hk54 := fun v1 S H locs ls (h : r_tick_b54 fu v1 S = some o) hW hS hl => ih v1 S (H := H) (locs := locs) (ls := ls) h hW hS hl
    rw [r_tick_b54] at h
    refine lv_iload_n hx hb dX12_tick_54 rfl (lv_at hl 1 rfl) ?_
    refine lv_iconst (v := (4 : Int32)) hx hb dX12_tick_55 (by decide) ?_
    refine lv_aload_n hx hb dX12_tick_56 rfl (lv_at hl 0 rfl) ?_
    refine x_get F hK hW xc_X12 rd_d0 rd_0 1 (by decide) k_5_129 (gf_X12_1 _ _) dX12_tick_57 ?_
    refine lv_imul hx hb dX12_tick_60 ?_
    refine lv_icmp_ge (tgt := 100) hx hb dX12_tick_61 (by decide) (fun c_5 => ?_) (fun c_5 => ?_)
    · replace h := (if_pos c_5).symm.trans h
      refine lv_aload_n hx hb dX12_tick_100 rfl (lv_at hl 0 rfl) ?_
      refine lv_bipush (v := (32 : Int32)) hx hb dX12_tick_101 (by decide) ?_
      refine lv_aload_n hx hb dX12_tick_103 rfl (lv_at hl 0 rfl) ?_
      refine x_get F hK hW xc_X12 rd_d0 rd_0 32 (by decide) k_5_160 (gf_X12_32 _ _) dX12_tick_104 ?_
      refine lv_bipush (v := (32 : Int32)) hx hb dX12_tick_107 (by decide) ?_
      refine x_iald (t0 := 0) F hK hW rd_d33 rd_33 rfl dX12_tick_109 h (fun h => ?_)
      refine lv_iconst (v := (-1 : Int32)) hx hb dX12_tick_110 (by decide) ?_
      refine lv_icmp_ne (tgt := 118) hx hb dX12_tick_111 (by decide) (fun c_6 => ?_) (fun c_6 => ?_)
      · replace h := (if_neg c_6).symm.trans h
        refine lv_aload_n hx hb dX12_tick_118 rfl (lv_at hl 0 rfl) ?_
        refine x_get F hK hW xc_X12 rd_d0 rd_0 33 (by decide) k_5_161 (gf_X12_33 _ _) dX12_tick_119 ?_
        refine lv_aload_n hx hb dX12_tick_122 rfl (lv_at hl 0 rfl) ?_
        refine x_get F hK hW xc_X12 rd_d0 rd_0 32 (by decide) k_5_160 (gf_X12_32 _ _) dX12_tick_123 ?_
        refine lv_bipush (v := (32 : Int32)) hx hb dX12_tick_126 (by decide) ?_
        refine x_iald (t0 := 0) F hK hW rd_d33 rd_33 rfl dX12_tick_128 h (fun h => ?_)
        refine x_iald (t0 := 0) F hK hW rd_d34 rd_34 rfl dX12_tick_129 h (fun h => ?_)
        exact m_r_tick_b130 hI  F hr hlk hK _ _ _ h hW hS (lv_sub hl [0] rfl)
      replace h := (if_pos c_6).symm.trans h
      refine lv_iconst (v := (0 : Int32)) hx hb dX12_tick_114 (by decide) ?_
      refine lv_goto (tgt := 130) hx hb dX12_tick_115 (by decide) ?_
      exact m_r_tick_b130 hI  F hr hlk hK _ _ _ h hW hS (lv_sub hl [0] rfl)
    replace h := (if_neg c_5).symm.trans h
    refine lv_aload_n hx hb dX12_tick_64 rfl (lv_at hl 0 rfl) ?_
    refine lv_iload_n hx hb dX12_tick_65 rfl (lv_at hl 1 rfl) ?_
    refine lv_aload_n hx hb dX12_tick_66 rfl (lv_at hl 0 rfl) ?_
    refine x_get F hK hW xc_X12 rd_d0 rd_0 32 (by decide) k_5_160 (gf_X12_32 _ _) dX12_tick_67 ?_
    refine lv_iload_n hx hb dX12_tick_70 rfl (lv_at hl 1 rfl) ?_
    refine x_iald (t0 := 0) F hK hW rd_d33 rd_33 rfl dX12_tick_71 h (fun h => ?_)
    refine lv_iconst (v := (-1 : Int32)) hx hb dX12_tick_72 (by decide) ?_
    refine lv_icmp_ne (tgt := 80) hx hb dX12_tick_73 (by decide) (fun c_22 => ?_) (fun c_22 => ?_)
    · replace h := (if_neg c_22).symm.trans h
      refine lv_aload_n hx hb dX12_tick_80 rfl (lv_at hl 0 rfl) ?_
      refine x_get F hK hW xc_X12 rd_d0 rd_0 33 (by decide) k_5_161 (gf_X12_33 _ _) dX12_tick_81 ?_
      refine lv_aload_n hx hb dX12_tick_84 rfl (lv_at hl 0 rfl) ?_
      refine x_get F hK hW xc_X12 rd_d0 rd_0 32 (by decide) k_5_160 (gf_X12_32 _ _) dX12_tick_85 ?_
      refine lv_iload_n hx hb dX12_tick_88 rfl (lv_at hl 1 rfl) ?_
      refine x_iald (t0 := 0) F hK hW rd_d33 rd_33 rfl dX12_tick_89 h (fun h => ?_)
      refine x_iald (t0 := 0) F hK hW rd_d34 rd_34 rfl dX12_tick_90 h (fun h => ?_)
      exact m_r_tick_b91 hI  F hr hlk hK hk54 _ _ _ _ h hW hS (lv_sub hl [0, 1] rfl)
    replace h := (if_pos c_22).symm.trans h
    refine lv_iconst (v := (0 : Int32)) hx hb dX12_tick_76 (by decide) ?_
    refine lv_goto (tgt := 91) hx hb dX12_tick_77 (by decide) ?_
    exact m_r_tick_b91 hI  F hr hlk hK hk54 _ _ _ _ h hW hS (lv_sub hl [0, 1] rfl)
def r_tick_b12 : Nat → Int32 → xS → Option (xS)
  | 0, _, _ => none
  | fu + 1, v1, S => if ((4 : Int32) * (xI S 0 0 1)) ≤ v1 then ((r_puts  S (32 : Int32)).bind (fun (r_3, S3) => gd (32 : Int32) 33 (xnm (sI S3 0 34 ((32 : Int32)).toNatClampNeg r_3) (fun S4 => r_tick_b54  (100000) (0 : Int32) S4)))) else ((r_puts  S v1).bind (fun (r_24, S24) => gd v1 33 (xnm (sI S24 0 34 (v1).toNatClampNeg r_24) (fun S25 => (r_tick_b12 fu) (v1 + (1 : Int32)) S25))))
set_option maxHeartbeats 4000000 in
set_option maxRecDepth 100000 in
theorem m_r_tick_b12 {l : Launch} {D : va_G} {cI cZ cB : ClassId} {ad : Nat → Nat → Nat} (hI : xInj rDom ad) {p : Program} {e : Env} {s : State} {m : MethodId} {args : Array Value} {below : List Frame} {meth : Method} {c : Code} (F : CallFix p m c cX12_tick 2 s args (Cond.code yX12_tick cX12_tick 2 none :: xG) (yX12_tick).cls) (hr : meth.sig.returnType = none) (hlk : meth.locks = false) (hK : xK D vwCl (rTy cI cZ cB) [] [] s) {o : xS} : ∀ (fu : Nat) (v1 : Int32) (S : xS) {H : Heap} {locs : List Loc} {ls : Array Slot}, r_tick_b12 fu v1 S = some o → xW D vwCl rDom ad (rDe ad cI cZ cB) S H → va_S (xA rDom ad) s.heap H locs → lv_has ls 2 [(0, .ref (ad 0 0)), (1, .int v1)] → W p l e { frames := 9, cells := 0, slots := 0, locals := 218 } s m args below meth c H locs 0 0 (MQ below (xQ D vwCl rDom ad (rDe ad cI cZ cB) none o) args s 0 0 (xA rDom ad)) (F0 m 12 ls []) := by
  have hx := F.1
  have hb := F.2.1
  intro fu
  induction fu with
  | zero =>
    intro v1 S H locs ls h
    simp [r_tick_b12] at h
  | succ fu ih =>
    intro v1 S H locs ls h hW hS hl
    have hk12 := fun v1 S H locs ls (h : r_tick_b12 fu v1 S = some o) hW hS hl => ih v1 S (H := H) (locs := locs) (ls := ls) h hW hS hl
    rw [r_tick_b12] at h
    refine lv_iload_n hx hb dX12_tick_12 rfl (lv_at hl 1 rfl) ?_
    refine lv_iconst (v := (4 : Int32)) hx hb dX12_tick_13 (by decide) ?_
    refine lv_aload_n hx hb dX12_tick_14 rfl (lv_at hl 0 rfl) ?_
    refine x_get F hK hW xc_X12 rd_d0 rd_0 1 (by decide) k_5_129 (gf_X12_1 _ _) dX12_tick_15 ?_
    refine lv_imul hx hb dX12_tick_18 ?_
    refine lv_icmp_ge (tgt := 39) hx hb dX12_tick_19 (by decide) (fun c_2 => ?_) (fun c_2 => ?_)
    · replace h := (if_pos c_2).symm.trans h
      refine lv_aload_n hx hb dX12_tick_39 rfl (lv_at hl 0 rfl) ?_
      refine x_get F hK hW xc_X12 rd_d0 rd_0 33 (by decide) k_5_161 (gf_X12_33 _ _) dX12_tick_40 ?_
      refine lv_bipush (v := (32 : Int32)) hx hb dX12_tick_43 (by decide) ?_
      refine lv_aload_n hx hb dX12_tick_45 rfl (lv_at hl 0 rfl) ?_
      refine lv_bipush (v := (32 : Int32)) hx hb dX12_tick_46 (by decide) ?_
      refine x_cVi (As := [.int (32 : Int32)]) F xG_ok hK hW hS um_X12_puts k_6_112 (fun _ h1 => m_r_puts hI _ h1) rfl rd_d0 rd_0 rfl rfl hl.1 rfl rfl ⟨Nat.le_of_ble_eq_true rfl, Nat.le_of_ble_eq_true rfl⟩ ⟨Nat.zero_le _, Nat.zero_le _⟩ (Nat.le_of_ble_eq_true rfl) dX12_tick_48 h (fun r_3 S3 H locs hW hS h => ?_)
      refine x_iast (t0 := 0) F hK hI hW hS rd_d34 rd_34 rfl dX12_tick_51 h (fun S4 H locs hW hS h => ?_)
      refine lv_iconst (v := (0 : Int32)) hx hb dX12_tick_52 (by decide) ?_
      refine lv_istore_n (lv' := [(1, .int (0 : Int32)), (0, .ref (ad 0 0))]) hx hb dX12_tick_53 rfl hl (by decide) rfl (fun ls hl => ?_)
      exact m_r_tick_b54 hI  F hr hlk hK (100000) _ _ h hW hS (lv_sub hl [1, 0] rfl)
    replace h := (if_neg c_2).symm.trans h
    refine lv_aload_n hx hb dX12_tick_22 rfl (lv_at hl 0 rfl) ?_
    refine x_get F hK hW xc_X12 rd_d0 rd_0 33 (by decide) k_5_161 (gf_X12_33 _ _) dX12_tick_23 ?_
    refine lv_iload_n hx hb dX12_tick_26 rfl (lv_at hl 1 rfl) ?_
    refine lv_aload_n hx hb dX12_tick_27 rfl (lv_at hl 0 rfl) ?_
    refine lv_iload_n hx hb dX12_tick_28 rfl (lv_at hl 1 rfl) ?_
    refine x_cVi (As := [.int v1]) F xG_ok hK hW hS um_X12_puts k_6_112 (fun _ h1 => m_r_puts hI _ h1) rfl rd_d0 rd_0 rfl rfl hl.1 rfl rfl ⟨Nat.le_of_ble_eq_true rfl, Nat.le_of_ble_eq_true rfl⟩ ⟨Nat.zero_le _, Nat.zero_le _⟩ (Nat.le_of_ble_eq_true rfl) dX12_tick_29 h (fun r_24 S24 H locs hW hS h => ?_)
    refine x_iast (t0 := 0) F hK hI hW hS rd_d34 rd_34 rfl dX12_tick_32 h (fun S25 H locs hW hS h => ?_)
    refine lv_iinc (v := (v1 + (1 : Int32))) (lv' := [(1, .int (v1 + (1 : Int32))), (0, .ref (ad 0 0))]) hx hb dX12_tick_33 hl (k := 1) rfl rfl (by decide) rfl (fun ls hl => ?_)
    refine lv_goto (tgt := 12) hx hb dX12_tick_36 (by decide) ?_
    exact hk12 _ _ _ _ _ h hW hS (lv_sub hl [1, 0] rfl)
def r_tick  (S : xS)  : Option (xS) := xnm (sI S 0 0 2 ((xI S 0 0 2) + (1 : Int32))) (fun S1 => r_tick_b12  (100000) (0 : Int32) S1)
set_option maxHeartbeats 4000000 in
set_option maxRecDepth 100000 in
theorem m_r_tick {l : Launch} {D : va_G} {cI cZ cB : ClassId} {ad : Nat → Nat → Nat} (hI : xInj rDom ad) {S : xS}  {o : xS} (h : r_tick  S  = some o) : Met l yX12_tick (Cond.code yX12_tick cX12_tick 2 none :: xG) { frames := 9, cells := 0, slots := 0, locals := 218 } (xPc D vwCl (rTy cI cZ cB) [] [] rDom ad (rDe ad cI cZ cB) [.ref (ad 0 0)] S) (xQ D vwCl rDom ad (rDe ad cI cZ cB) none o) 0 0 (xA rDom ad) := by
  unfold r_tick at h
  refine x_enter (by decide) (Nat.le_of_ble_eq_true rfl) (fun p e s m below meth c F hr hlk hK hW hS ls hl => ?_)
  have hl : lv_has ls 2 [(0, .ref (ad 0 0))] := hl
  have hx := F.1
  have hb := F.2.1
  refine lv_aload_n hx hb dX12_tick_0 rfl (lv_at hl 0 rfl) ?_
  refine lv_dup hx hb dX12_tick_1 rfl ?_
  refine x_get F hK hW xc_X12 rd_d0 rd_0 2 (by decide) k_5_130 (gf_X12_2 _ _) dX12_tick_2 ?_
  refine lv_iconst (v := (1 : Int32)) hx hb dX12_tick_5 (by decide) ?_
  refine lv_iadd hx hb dX12_tick_6 ?_
  refine x_put F hK hI hW hS xc_X12 rd_d0 rd_0 2 (by decide) k_5_130 rfl (v := ((xI S 0 0 2) + (1 : Int32))) rfl rfl (fun _ _ => rfl) (fun _ _ => Nat.le_of_ble_eq_true rfl) dX12_tick_7 h (fun S1 H locs hW hS h => ?_)
  refine lv_iconst (v := (0 : Int32)) hx hb dX12_tick_10 (by decide) ?_
  refine lv_istore_n (lv' := [(1, .int (0 : Int32)), (0, .ref (ad 0 0))]) hx hb dX12_tick_11 rfl hl (by decide) rfl (fun ls hl => ?_)
  exact m_r_tick_b12 hI  F hr hlk hK (100000) _ _ h hW hS (lv_sub hl [1, 0] rfl)
/-! X12_isNode -/
def r_isNode  (S : xS) (a1 : Int32) : Option (Int32 × xS) := if a1 < 0 then (some ((0 : Int32), S)) else (if (xI S 0 0 1) ≤ a1 then (some ((0 : Int32), S)) else (some ((1 : Int32), S)))
set_option maxHeartbeats 4000000 in
set_option maxRecDepth 100000 in
theorem m_r_isNode {l : Launch} {D : va_G} {cI cZ cB : ClassId} {ad : Nat → Nat → Nat} (hI : xInj rDom ad) {S : xS} (a1 : Int32) {o : Int32 × xS} (h : r_isNode  S a1 = some o) : Met l yX12_isNode (Cond.code yX12_isNode cX12_isNode 2 (some .boolean) :: xG) { frames := 0, cells := 0, slots := 0, locals := 0 } (xPc D vwCl (rTy cI cZ cB) [] [] rDom ad (rDe ad cI cZ cB) [.ref (ad 0 0), .int a1] S) (xQ D vwCl rDom ad (rDe ad cI cZ cB) (some (.int o.1)) o.2) 0 0 (xA rDom ad) := by
  unfold r_isNode at h
  refine x_enter (by decide) (Nat.le_of_ble_eq_true rfl) (fun p e s m below meth c F hr hlk hK hW hS ls hl => ?_)
  have hl : lv_has ls 2 [(0, .ref (ad 0 0)), (1, .int a1)] := hl
  have hx := F.1
  have hb := F.2.1
  refine lv_iload_n hx hb dX12_isNode_0 rfl (lv_at hl 1 rfl) ?_
  refine lv_if_lt (tgt := 16) hx hb dX12_isNode_1 (by decide) (fun c_1 => ?_) (fun c_1 => ?_)
  · replace h := (if_pos c_1).symm.trans h
    refine lv_iconst (v := (0 : Int32)) hx hb dX12_isNode_16 (by decide) ?_
    exact x_zret F hr hlk hW hS rfl dX12_isNode_17 h
  replace h := (if_neg c_1).symm.trans h
  refine lv_iload_n hx hb dX12_isNode_4 rfl (lv_at hl 1 rfl) ?_
  refine lv_aload_n hx hb dX12_isNode_5 rfl (lv_at hl 0 rfl) ?_
  refine x_get F hK hW xc_X12 rd_d0 rd_0 1 (by decide) k_5_129 (gf_X12_1 _ _) dX12_isNode_6 ?_
  refine lv_icmp_ge (tgt := 16) hx hb dX12_isNode_9 (by decide) (fun c_2 => ?_) (fun c_2 => ?_)
  · replace h := (if_pos c_2).symm.trans h
    refine lv_iconst (v := (0 : Int32)) hx hb dX12_isNode_16 (by decide) ?_
    exact x_zret F hr hlk hW hS rfl dX12_isNode_17 h
  replace h := (if_neg c_2).symm.trans h
  refine lv_iconst (v := (1 : Int32)) hx hb dX12_isNode_12 (by decide) ?_
  refine lv_goto (tgt := 17) hx hb dX12_isNode_13 (by decide) ?_
  exact x_zret F hr hlk hW hS rfl dX12_isNode_17 h
/-! X12_isEnd -/
def r_isEnd  (S : xS) (a1 : Int32) (a2 : Int32) : Option (Int32 × xS) := (r_isNode  S a1).bind (fun (r_1, S1) => if r_1 = 0 then (some ((0 : Int32), S1)) else (if a2 < 0 then (some ((0 : Int32), S1)) else (if (4 : Int32) ≤ a2 then (some ((0 : Int32), S1)) else (some ((1 : Int32), S1)))))
set_option maxHeartbeats 4000000 in
set_option maxRecDepth 100000 in
theorem m_r_isEnd {l : Launch} {D : va_G} {cI cZ cB : ClassId} {ad : Nat → Nat → Nat} (hI : xInj rDom ad) {S : xS} (a1 : Int32) (a2 : Int32) {o : Int32 × xS} (h : r_isEnd  S a1 a2 = some o) : Met l yX12_isEnd (Cond.code yX12_isEnd cX12_isEnd 3 (some .boolean) :: xG) { frames := 1, cells := 0, slots := 0, locals := 21 } (xPc D vwCl (rTy cI cZ cB) [] [] rDom ad (rDe ad cI cZ cB) [.ref (ad 0 0), .int a1, .int a2] S) (xQ D vwCl rDom ad (rDe ad cI cZ cB) (some (.int o.1)) o.2) 0 0 (xA rDom ad) := by
  unfold r_isEnd at h
  refine x_enter (by decide) (Nat.le_of_ble_eq_true rfl) (fun p e s m below meth c F hr hlk hK hW hS ls hl => ?_)
  have hl : lv_has ls 3 [(0, .ref (ad 0 0)), (1, .int a1), (2, .int a2)] := hl
  have hx := F.1
  have hb := F.2.1
  refine lv_aload_n hx hb dX12_isEnd_0 rfl (lv_at hl 0 rfl) ?_
  refine lv_iload_n hx hb dX12_isEnd_1 rfl (lv_at hl 1 rfl) ?_
  refine x_cVi (As := [.int a1]) F xG_ok hK hW hS um_X12_isNode k_6_85 (fun _ h1 => m_r_isNode hI _ h1) rfl rd_d0 rd_0 rfl rfl hl.1 rfl rfl ⟨Nat.le_of_ble_eq_true rfl, Nat.le_of_ble_eq_true rfl⟩ ⟨Nat.zero_le _, Nat.zero_le _⟩ (Nat.le_of_ble_eq_true rfl) dX12_isEnd_2 h (fun r_1 S1 H locs hW hS h => ?_)
  refine lv_if_eq (tgt := 21) hx hb dX12_isEnd_5 (by decide) (fun c_2 => ?_) (fun c_2 => ?_)
  · replace h := (if_pos c_2).symm.trans h
    refine lv_iconst (v := (0 : Int32)) hx hb dX12_isEnd_21 (by decide) ?_
    exact x_zret F hr hlk hW hS rfl dX12_isEnd_22 h
  replace h := (if_neg c_2).symm.trans h
  refine lv_iload_n hx hb dX12_isEnd_8 rfl (lv_at hl 2 rfl) ?_
  refine lv_if_lt (tgt := 21) hx hb dX12_isEnd_9 (by decide) (fun c_3 => ?_) (fun c_3 => ?_)
  · replace h := (if_pos c_3).symm.trans h
    refine lv_iconst (v := (0 : Int32)) hx hb dX12_isEnd_21 (by decide) ?_
    exact x_zret F hr hlk hW hS rfl dX12_isEnd_22 h
  replace h := (if_neg c_3).symm.trans h
  refine lv_iload_n hx hb dX12_isEnd_12 rfl (lv_at hl 2 rfl) ?_
  refine lv_iconst (v := (4 : Int32)) hx hb dX12_isEnd_13 (by decide) ?_
  refine lv_icmp_ge (tgt := 21) hx hb dX12_isEnd_14 (by decide) (fun c_4 => ?_) (fun c_4 => ?_)
  · replace h := (if_pos c_4).symm.trans h
    refine lv_iconst (v := (0 : Int32)) hx hb dX12_isEnd_21 (by decide) ?_
    exact x_zret F hr hlk hW hS rfl dX12_isEnd_22 h
  replace h := (if_neg c_4).symm.trans h
  refine lv_iconst (v := (1 : Int32)) hx hb dX12_isEnd_17 (by decide) ?_
  refine lv_goto (tgt := 22) hx hb dX12_isEnd_18 (by decide) ?_
  exact x_zret F hr hlk hW hS rfl dX12_isEnd_22 h
/-! X12_wire -/
def r_wire_b54 (v5 : Int32) (t0 : Int32) (S : xS) : Option (Int32 × xS) := if v5 = t0 then (some ((0 : Int32), S)) else (gd v5 33 (if (xI S 0 33 (v5).toNatClampNeg) = (-1 : Int32) then (gd t0 33 (if (xI S 0 33 (t0).toNatClampNeg) = (-1 : Int32) then (gd v5 33 (xnm (sI S 0 33 (v5).toNatClampNeg t0) (fun S9 => gd t0 33 (xnm (sI S9 0 33 (t0).toNatClampNeg v5) (fun S10 => some ((1 : Int32), S10)))))) else (some ((0 : Int32), S)))) else (some ((0 : Int32), S))))
set_option maxHeartbeats 4000000 in
set_option maxRecDepth 100000 in
theorem m_r_wire_b54 {l : Launch} {D : va_G} {cI cZ cB : ClassId} {ad : Nat → Nat → Nat} (hI : xInj rDom ad) {p : Program} {e : Env} {s : State} {m : MethodId} {args : Array Value} {below : List Frame} {meth : Method} {c : Code} (F : CallFix p m c cX12_wire 7 s args (Cond.code yX12_wire cX12_wire 7 (some .boolean) :: xG) (yX12_wire).cls) (hr : meth.sig.returnType = (some .boolean)) (hlk : meth.locks = false) (hK : xK D vwCl (rTy cI cZ cB) [] [] s) {o : Int32 × xS} (v5 : Int32) (t0 : Int32) (S : xS) {H : Heap} {locs : List Loc} {ls : Array Slot} (h : r_wire_b54 v5 t0 S = some o) (hW : xW D vwCl rDom ad (rDe ad cI cZ cB) S H) (hS : va_S (xA rDom ad) s.heap H locs) (hl : lv_has ls 7 [(0, .ref (ad 0 0)), (5, .int v5)]) : W p l e { frames := 2, cells := 0, slots := 0, locals := 43 } s m args below meth c H locs 0 0 (MQ below (xQ D vwCl rDom ad (rDe ad cI cZ cB) (some (.int o.1)) o.2) args s 0 0 (xA rDom ad)) (F0 m 54 ls [.int t0]) := by
  have hx := F.1
  have hb := F.2.1
  unfold r_wire_b54 at h
  refine lv_istore (lv' := [(6, .int t0), (0, .ref (ad 0 0)), (5, .int v5)]) hx hb dX12_wire_54 hl (by decide) rfl (fun ls hl => ?_)
  refine lv_iload hx hb dX12_wire_56 (lv_at hl 2 rfl) ?_
  refine lv_iload hx hb dX12_wire_58 (lv_at hl 0 rfl) ?_
  refine lv_icmp_eq (tgt := 85) hx hb dX12_wire_60 (by decide) (fun c_6 => ?_) (fun c_6 => ?_)
  · replace h := (if_pos c_6).symm.trans h
    refine lv_iconst (v := (0 : Int32)) hx hb dX12_wire_85 (by decide) ?_
    exact x_zret F hr hlk hW hS rfl dX12_wire_86 h
  replace h := (if_neg c_6).symm.trans h
  refine lv_aload_n hx hb dX12_wire_63 rfl (lv_at hl 1 rfl) ?_
  refine x_get F hK hW xc_X12 rd_d0 rd_0 32 (by decide) k_5_160 (gf_X12_32 _ _) dX12_wire_64 ?_
  refine lv_iload hx hb dX12_wire_67 (lv_at hl 2 rfl) ?_
  refine x_iald (t0 := 0) F hK hW rd_d33 rd_33 rfl dX12_wire_69 h (fun h => ?_)
  refine lv_iconst (v := (-1 : Int32)) hx hb dX12_wire_70 (by decide) ?_
  refine lv_icmp_ne (tgt := 85) hx hb dX12_wire_71 (by decide) (fun c_7 => ?_) (fun c_7 => ?_)
  · replace h := (if_neg c_7).symm.trans h
    refine lv_iconst (v := (0 : Int32)) hx hb dX12_wire_85 (by decide) ?_
    exact x_zret F hr hlk hW hS rfl dX12_wire_86 h
  replace h := (if_pos c_7).symm.trans h
  refine lv_aload_n hx hb dX12_wire_74 rfl (lv_at hl 1 rfl) ?_
  refine x_get F hK hW xc_X12 rd_d0 rd_0 32 (by decide) k_5_160 (gf_X12_32 _ _) dX12_wire_75 ?_
  refine lv_iload hx hb dX12_wire_78 (lv_at hl 0 rfl) ?_
  refine x_iald (t0 := 0) F hK hW rd_d33 rd_33 rfl dX12_wire_80 h (fun h => ?_)
  refine lv_iconst (v := (-1 : Int32)) hx hb dX12_wire_81 (by decide) ?_
  refine lv_icmp_eq (tgt := 87) hx hb dX12_wire_82 (by decide) (fun c_8 => ?_) (fun c_8 => ?_)
  · replace h := (if_pos c_8).symm.trans h
    refine lv_aload_n hx hb dX12_wire_87 rfl (lv_at hl 1 rfl) ?_
    refine x_get F hK hW xc_X12 rd_d0 rd_0 32 (by decide) k_5_160 (gf_X12_32 _ _) dX12_wire_88 ?_
    refine lv_iload hx hb dX12_wire_91 (lv_at hl 2 rfl) ?_
    refine lv_iload hx hb dX12_wire_93 (lv_at hl 0 rfl) ?_
    refine x_iast (t0 := 0) F hK hI hW hS rd_d33 rd_33 rfl dX12_wire_95 h (fun S9 H locs hW hS h => ?_)
    refine lv_aload_n hx hb dX12_wire_96 rfl (lv_at hl 1 rfl) ?_
    refine x_get F hK hW xc_X12 rd_d0 rd_0 32 (by decide) k_5_160 (gf_X12_32 _ _) dX12_wire_97 ?_
    refine lv_iload hx hb dX12_wire_100 (lv_at hl 0 rfl) ?_
    refine lv_iload hx hb dX12_wire_102 (lv_at hl 2 rfl) ?_
    refine x_iast (t0 := 0) F hK hI hW hS rd_d33 rd_33 rfl dX12_wire_104 h (fun S10 H locs hW hS h => ?_)
    refine lv_iconst (v := (1 : Int32)) hx hb dX12_wire_105 (by decide) ?_
    exact x_zret F hr hlk hW hS rfl dX12_wire_106 h
  replace h := (if_neg c_8).symm.trans h
  refine lv_iconst (v := (0 : Int32)) hx hb dX12_wire_85 (by decide) ?_
  exact x_zret F hr hlk hW hS rfl dX12_wire_86 h
def r_wire_b31 (v1 : Int32) (v2 : Int32) (v3 : Int32) (v4 : Int32) (S : xS) : Option (Int32 × xS) := if v3 = (-1 : Int32) then (r_wire_b54  (((4 : Int32) * v1) + v2) (32 : Int32) S) else (r_wire_b54  (((4 : Int32) * v1) + v2) (((4 : Int32) * v3) + v4) S)
set_option maxHeartbeats 4000000 in
set_option maxRecDepth 100000 in
theorem m_r_wire_b31 {l : Launch} {D : va_G} {cI cZ cB : ClassId} {ad : Nat → Nat → Nat} (hI : xInj rDom ad) {p : Program} {e : Env} {s : State} {m : MethodId} {args : Array Value} {below : List Frame} {meth : Method} {c : Code} (F : CallFix p m c cX12_wire 7 s args (Cond.code yX12_wire cX12_wire 7 (some .boolean) :: xG) (yX12_wire).cls) (hr : meth.sig.returnType = (some .boolean)) (hlk : meth.locks = false) (hK : xK D vwCl (rTy cI cZ cB) [] [] s) {o : Int32 × xS} (v1 : Int32) (v2 : Int32) (v3 : Int32) (v4 : Int32) (S : xS) {H : Heap} {locs : List Loc} {ls : Array Slot} (h : r_wire_b31 v1 v2 v3 v4 S = some o) (hW : xW D vwCl rDom ad (rDe ad cI cZ cB) S H) (hS : va_S (xA rDom ad) s.heap H locs) (hl : lv_has ls 7 [(0, .ref (ad 0 0)), (1, .int v1), (2, .int v2), (3, .int v3), (4, .int v4)]) : W p l e { frames := 2, cells := 0, slots := 0, locals := 43 } s m args below meth c H locs 0 0 (MQ below (xQ D vwCl rDom ad (rDe ad cI cZ cB) (some (.int o.1)) o.2) args s 0 0 (xA rDom ad)) (F0 m 31 ls []) := by
  have hx := F.1
  have hb := F.2.1
  unfold r_wire_b31 at h
  refine lv_iconst (v := (4 : Int32)) hx hb dX12_wire_31 (by decide) ?_
  refine lv_iload_n hx hb dX12_wire_32 rfl (lv_at hl 1 rfl) ?_
  refine lv_imul hx hb dX12_wire_33 ?_
  refine lv_iload_n hx hb dX12_wire_34 rfl (lv_at hl 2 rfl) ?_
  refine lv_iadd hx hb dX12_wire_35 ?_
  refine lv_istore (lv' := [(5, .int (((4 : Int32) * v1) + v2)), (0, .ref (ad 0 0)), (1, .int v1), (2, .int v2), (3, .int v3), (4, .int v4)]) hx hb dX12_wire_36 hl (by decide) rfl (fun ls hl => ?_)
  refine lv_iload_n hx hb dX12_wire_38 rfl (lv_at hl 4 rfl) ?_
  refine lv_iconst (v := (-1 : Int32)) hx hb dX12_wire_39 (by decide) ?_
  refine lv_icmp_ne (tgt := 48) hx hb dX12_wire_40 (by decide) (fun c_5 => ?_) (fun c_5 => ?_)
  · replace h := (if_neg c_5).symm.trans h
    refine lv_iconst (v := (4 : Int32)) hx hb dX12_wire_48 (by decide) ?_
    refine lv_iload_n hx hb dX12_wire_49 rfl (lv_at hl 4 rfl) ?_
    refine lv_imul hx hb dX12_wire_50 ?_
    refine lv_iload hx hb dX12_wire_51 (lv_at hl 5 rfl) ?_
    refine lv_iadd hx hb dX12_wire_53 ?_
    exact m_r_wire_b54 hI  F hr hlk hK _ _ _ h hW hS (lv_sub hl [1, 0] rfl)
  replace h := (if_pos c_5).symm.trans h
  refine lv_bipush (v := (32 : Int32)) hx hb dX12_wire_43 (by decide) ?_
  refine lv_goto (tgt := 54) hx hb dX12_wire_45 (by decide) ?_
  exact m_r_wire_b54 hI  F hr hlk hK _ _ _ h hW hS (lv_sub hl [1, 0] rfl)
def r_wire  (S : xS) (a1 : Int32) (a2 : Int32) (a3 : Int32) (a4 : Int32) : Option (Int32 × xS) := xnm (sI S 0 0 0 (0 : Int32)) (fun S1 => (r_isEnd  S1 a1 a2).bind (fun (r_2, S2) => if r_2 = 0 then (some ((0 : Int32), S2)) else (if a3 = (-1 : Int32) then (r_wire_b31  a1 a2 a3 a4 S2) else ((r_isEnd  S2 a3 a4).bind (fun (r_11, S11) => if r_11 = 0 then (some ((0 : Int32), S11)) else (r_wire_b31  a1 a2 a3 a4 S11))))))
set_option maxHeartbeats 4000000 in
set_option maxRecDepth 100000 in
theorem m_r_wire {l : Launch} {D : va_G} {cI cZ cB : ClassId} {ad : Nat → Nat → Nat} (hI : xInj rDom ad) {S : xS} (a1 : Int32) (a2 : Int32) (a3 : Int32) (a4 : Int32) {o : Int32 × xS} (h : r_wire  S a1 a2 a3 a4 = some o) : Met l yX12_wire (Cond.code yX12_wire cX12_wire 7 (some .boolean) :: xG) { frames := 2, cells := 0, slots := 0, locals := 43 } (xPc D vwCl (rTy cI cZ cB) [] [] rDom ad (rDe ad cI cZ cB) [.ref (ad 0 0), .int a1, .int a2, .int a3, .int a4] S) (xQ D vwCl rDom ad (rDe ad cI cZ cB) (some (.int o.1)) o.2) 0 0 (xA rDom ad) := by
  unfold r_wire at h
  refine x_enter (by decide) (Nat.le_of_ble_eq_true rfl) (fun p e s m below meth c F hr hlk hK hW hS ls hl => ?_)
  have hl : lv_has ls 7 [(0, .ref (ad 0 0)), (1, .int a1), (2, .int a2), (3, .int a3), (4, .int a4)] := hl
  have hx := F.1
  have hb := F.2.1
  refine lv_aload_n hx hb dX12_wire_0 rfl (lv_at hl 0 rfl) ?_
  refine lv_iconst (v := (0 : Int32)) hx hb dX12_wire_1 (by decide) ?_
  refine x_put F hK hI hW hS xc_X12 rd_d0 rd_0 0 (by decide) k_5_128 rfl (v := (0 : Int32)) rfl rfl (fun _ _ => rfl) (fun _ _ => Nat.le_of_ble_eq_true rfl) dX12_wire_2 h (fun S1 H locs hW hS h => ?_)
  refine lv_aload_n hx hb dX12_wire_5 rfl (lv_at hl 0 rfl) ?_
  refine lv_iload_n hx hb dX12_wire_6 rfl (lv_at hl 1 rfl) ?_
  refine lv_iload_n hx hb dX12_wire_7 rfl (lv_at hl 2 rfl) ?_
  refine x_cVi (As := [.int a1, .int a2]) F xG_ok hK hW hS um_X12_isEnd k_6_81 (fun _ h1 => m_r_isEnd hI _ _ h1) rfl rd_d0 rd_0 rfl rfl hl.1 rfl rfl ⟨Nat.le_of_ble_eq_true rfl, Nat.le_of_ble_eq_true rfl⟩ ⟨Nat.zero_le _, Nat.zero_le _⟩ (Nat.le_of_ble_eq_true rfl) dX12_wire_8 h (fun r_2 S2 H locs hW hS h => ?_)
  refine lv_if_eq (tgt := 29) hx hb dX12_wire_11 (by decide) (fun c_3 => ?_) (fun c_3 => ?_)
  · replace h := (if_pos c_3).symm.trans h
    refine lv_iconst (v := (0 : Int32)) hx hb dX12_wire_29 (by decide) ?_
    exact x_zret F hr hlk hW hS rfl dX12_wire_30 h
  replace h := (if_neg c_3).symm.trans h
  refine lv_iload_n hx hb dX12_wire_14 rfl (lv_at hl 3 rfl) ?_
  refine lv_iconst (v := (-1 : Int32)) hx hb dX12_wire_15 (by decide) ?_
  refine lv_icmp_eq (tgt := 31) hx hb dX12_wire_16 (by decide) (fun c_4 => ?_) (fun c_4 => ?_)
  · replace h := (if_pos c_4).symm.trans h
    exact m_r_wire_b31 hI  F hr hlk hK _ _ _ _ _ h hW hS (lv_sub hl [0, 1, 2, 3, 4] rfl)
  replace h := (if_neg c_4).symm.trans h
  refine lv_aload_n hx hb dX12_wire_19 rfl (lv_at hl 0 rfl) ?_
  refine lv_iload_n hx hb dX12_wire_20 rfl (lv_at hl 3 rfl) ?_
  refine lv_iload hx hb dX12_wire_21 (lv_at hl 4 rfl) ?_
  refine x_cVi (As := [.int a3, .int a4]) F xG_ok hK hW hS um_X12_isEnd k_6_81 (fun _ h1 => m_r_isEnd hI _ _ h1) rfl rd_d0 rd_0 rfl rfl hl.1 rfl rfl ⟨Nat.le_of_ble_eq_true rfl, Nat.le_of_ble_eq_true rfl⟩ ⟨Nat.zero_le _, Nat.zero_le _⟩ (Nat.le_of_ble_eq_true rfl) dX12_wire_23 h (fun r_11 S11 H locs hW hS h => ?_)
  refine lv_if_ne (tgt := 31) hx hb dX12_wire_26 (by decide) (fun c_12 => ?_) (fun c_12 => ?_)
  · replace h := (if_neg c_12).symm.trans h
    exact m_r_wire_b31 hI  F hr hlk hK _ _ _ _ _ h hW hS (lv_sub hl [0, 1, 2, 3, 4] rfl)
  replace h := (if_pos c_12).symm.trans h
  refine lv_iconst (v := (0 : Int32)) hx hb dX12_wire_29 (by decide) ?_
  exact x_zret F hr hlk hW hS rfl dX12_wire_30 h
/-! X12_send -/
def r_send_b35 : Nat → Int64 → Int32 → Int32 → xS → Option (Int32 × xS)
  | 0, _, _, _, _ => none
  | fu + 1, v1, v3, v4, S => if v3 ≤ v4 then (gd (32 : Int32) 33 (gd (32 : Int32) 33 (xnm (sI S 0 45 ((32 : Int32)).toNatClampNeg ((xI S 0 45 ((32 : Int32)).toNatClampNeg) + v3)) (fun S6 => some ((1 : Int32), S6))))) else (gd ((xI S 0 0 60) &&& (4095 : Int32)) 4096 (xnm (sI S 0 58 (((xI S 0 0 60) &&& (4095 : Int32))).toNatClampNeg (vp_nar .byte (((jlshr v1 ((8 : Int32) * v4)).toInt32).toInt8.toInt32))) (fun S7 => xnm (sI S7 0 0 60 ((xI S7 0 0 60) + (1 : Int32))) (fun S8 => (r_send_b35 fu) v1 v3 (v4 + (1 : Int32)) S8))))
set_option maxHeartbeats 4000000 in
set_option maxRecDepth 100000 in
theorem m_r_send_b35 {l : Launch} {D : va_G} {cI cZ cB : ClassId} {ad : Nat → Nat → Nat} (hI : xInj rDom ad) {p : Program} {e : Env} {s : State} {m : MethodId} {args : Array Value} {below : List Frame} {meth : Method} {c : Code} (F : CallFix p m c cX12_send 5 s args (Cond.code yX12_send cX12_send 5 (some .boolean) :: xG) (yX12_send).cls) (hr : meth.sig.returnType = (some .boolean)) (hlk : meth.locks = false) (hK : xK D vwCl (rTy cI cZ cB) [] [] s) {o : Int32 × xS} : ∀ (fu : Nat) (v1 : Int64) (v3 : Int32) (v4 : Int32) (S : xS) {H : Heap} {locs : List Loc} {ls : Array Slot}, r_send_b35 fu v1 v3 v4 S = some o → xW D vwCl rDom ad (rDe ad cI cZ cB) S H → va_S (xA rDom ad) s.heap H locs → lv_has ls 5 [(0, .ref (ad 0 0)), (1, .long v1), (3, .int v3), (4, .int v4)] → W p l e { frames := 0, cells := 0, slots := 0, locals := 0 } s m args below meth c H locs 0 0 (MQ below (xQ D vwCl rDom ad (rDe ad cI cZ cB) (some (.int o.1)) o.2) args s 0 0 (xA rDom ad)) (F0 m 35 ls []) := by
  have hx := F.1
  have hb := F.2.1
  intro fu
  induction fu with
  | zero =>
    intro v1 v3 v4 S H locs ls h
    simp [r_send_b35] at h
  | succ fu ih =>
    intro v1 v3 v4 S H locs ls h hW hS hl
    have hk35 := fun v1 v3 v4 S H locs ls (h : r_send_b35 fu v1 v3 v4 S = some o) hW hS hl => ih v1 v3 v4 S (H := H) (locs := locs) (ls := ls) h hW hS hl
    rw [r_send_b35] at h
    refine lv_iload hx hb dX12_send_35 (lv_at hl 3 rfl) ?_
    refine lv_iload_n hx hb dX12_send_37 rfl (lv_at hl 2 rfl) ?_
    refine lv_icmp_ge (tgt := 79) hx hb dX12_send_38 (by decide) (fun c_5 => ?_) (fun c_5 => ?_)
    · replace h := (if_pos c_5).symm.trans h
      refine lv_aload_n hx hb dX12_send_79 rfl (lv_at hl 0 rfl) ?_
      refine x_get F hK hW xc_X12 rd_d0 rd_0 44 (by decide) k_5_172 (gf_X12_44 _ _) dX12_send_80 ?_
      refine lv_bipush (v := (32 : Int32)) hx hb dX12_send_83 (by decide) ?_
      refine lv_dup2_11 hx hb dX12_send_85 rfl rfl ?_
      refine x_iald (t0 := 0) F hK hW rd_d45 rd_45 rfl dX12_send_86 h (fun h => ?_)
      refine lv_iload_n hx hb dX12_send_87 rfl (lv_at hl 2 rfl) ?_
      refine lv_iadd hx hb dX12_send_88 ?_
      refine x_iast (t0 := 0) F hK hI hW hS rd_d45 rd_45 rfl dX12_send_89 h (fun S6 H locs hW hS h => ?_)
      refine lv_iconst (v := (1 : Int32)) hx hb dX12_send_90 (by decide) ?_
      exact x_zret F hr hlk hW hS rfl dX12_send_91 h
    replace h := (if_neg c_5).symm.trans h
    refine lv_aload_n hx hb dX12_send_41 rfl (lv_at hl 0 rfl) ?_
    refine x_get F hK hW xc_X12 rd_d0 rd_0 57 (by decide) k_5_185 (gf_X12_57 _ _) dX12_send_42 ?_
    refine lv_aload_n hx hb dX12_send_45 rfl (lv_at hl 0 rfl) ?_
    refine x_get F hK hW xc_X12 rd_d0 rd_0 60 (by decide) k_5_188 (gf_X12_60 _ _) dX12_send_46 ?_
    refine lv_sipush (v := (4095 : Int32)) hx hb dX12_send_49 (by decide) ?_
    refine lv_iand hx hb dX12_send_52 ?_
    refine lv_lload_n hx hb dX12_send_53 rfl (lv_at hl 1 rfl) ?_
    refine lv_bipush (v := (8 : Int32)) hx hb dX12_send_54 (by decide) ?_
    refine lv_iload hx hb dX12_send_56 (lv_at hl 3 rfl) ?_
    refine lv_imul hx hb dX12_send_58 ?_
    refine lv_lshr (v := (jlshr v1 ((8 : Int32) * v4))) hx hb dX12_send_59 rfl ?_
    refine lv_l2i (v := (jlshr v1 ((8 : Int32) * v4)).toInt32) hx hb dX12_send_60 rfl ?_
    refine lv_i2b (v := ((jlshr v1 ((8 : Int32) * v4)).toInt32).toInt8.toInt32) hx hb dX12_send_61 rfl ?_
    refine x_bast (t0 := 2) F hK hI hW hS rd_d58 rd_58 rfl dX12_send_62 h (fun S7 H locs hW hS h => ?_)
    refine lv_aload_n hx hb dX12_send_63 rfl (lv_at hl 0 rfl) ?_
    refine lv_dup hx hb dX12_send_64 rfl ?_
    refine x_get F hK hW xc_X12 rd_d0 rd_0 60 (by decide) k_5_188 (gf_X12_60 _ _) dX12_send_65 ?_
    refine lv_iconst (v := (1 : Int32)) hx hb dX12_send_68 (by decide) ?_
    refine lv_iadd hx hb dX12_send_69 ?_
    refine x_put F hK hI hW hS xc_X12 rd_d0 rd_0 60 (by decide) k_5_188 rfl (v := ((xI S7 0 0 60) + (1 : Int32))) rfl rfl (fun _ _ => rfl) (fun _ _ => Nat.le_of_ble_eq_true rfl) dX12_send_70 h (fun S8 H locs hW hS h => ?_)
    refine lv_iinc (v := (v4 + (1 : Int32))) (lv' := [(4, .int (v4 + (1 : Int32))), (0, .ref (ad 0 0)), (1, .long v1), (3, .int v3)]) hx hb dX12_send_73 hl (k := 3) rfl rfl (by decide) rfl (fun ls hl => ?_)
    refine lv_goto (tgt := 35) hx hb dX12_send_76 (by decide) ?_
    exact hk35 _ _ _ _ _ _ _ h hW hS (lv_sub hl [1, 2, 3, 0] rfl)
def r_send  (S : xS) (a1 : Int64) (a2 : Int32) : Option (Int32 × xS) := xnm (sI S 0 0 0 (0 : Int32)) (fun S1 => if a2 < 0 then (some ((0 : Int32), S1)) else (if (8 : Int32) < a2 then (some ((0 : Int32), S1)) else (gd (32 : Int32) 33 (if ((xI S1 0 45 ((32 : Int32)).toNatClampNeg) + a2) ≤ (4096 : Int32) then (r_send_b35  (100000) a1 a2 (0 : Int32) S1) else (some ((0 : Int32), S1))))))
set_option maxHeartbeats 4000000 in
set_option maxRecDepth 100000 in
theorem m_r_send {l : Launch} {D : va_G} {cI cZ cB : ClassId} {ad : Nat → Nat → Nat} (hI : xInj rDom ad) {S : xS} (a1 : Int64) (a2 : Int32) {o : Int32 × xS} (h : r_send  S a1 a2 = some o) : Met l yX12_send (Cond.code yX12_send cX12_send 5 (some .boolean) :: xG) { frames := 0, cells := 0, slots := 0, locals := 0 } (xPc D vwCl (rTy cI cZ cB) [] [] rDom ad (rDe ad cI cZ cB) [.ref (ad 0 0), .long a1, .int a2] S) (xQ D vwCl rDom ad (rDe ad cI cZ cB) (some (.int o.1)) o.2) 0 0 (xA rDom ad) := by
  unfold r_send at h
  refine x_enter (by decide) (Nat.le_of_ble_eq_true rfl) (fun p e s m below meth c F hr hlk hK hW hS ls hl => ?_)
  have hl : lv_has ls 5 [(0, .ref (ad 0 0)), (1, .long a1), (3, .int a2)] := hl
  have hx := F.1
  have hb := F.2.1
  refine lv_aload_n hx hb dX12_send_0 rfl (lv_at hl 0 rfl) ?_
  refine lv_iconst (v := (0 : Int32)) hx hb dX12_send_1 (by decide) ?_
  refine x_put F hK hI hW hS xc_X12 rd_d0 rd_0 0 (by decide) k_5_128 rfl (v := (0 : Int32)) rfl rfl (fun _ _ => rfl) (fun _ _ => Nat.le_of_ble_eq_true rfl) dX12_send_2 h (fun S1 H locs hW hS h => ?_)
  refine lv_iload_n hx hb dX12_send_5 rfl (lv_at hl 2 rfl) ?_
  refine lv_if_lt (tgt := 30) hx hb dX12_send_6 (by decide) (fun c_2 => ?_) (fun c_2 => ?_)
  · replace h := (if_pos c_2).symm.trans h
    refine lv_iconst (v := (0 : Int32)) hx hb dX12_send_30 (by decide) ?_
    exact x_zret F hr hlk hW hS rfl dX12_send_31 h
  replace h := (if_neg c_2).symm.trans h
  refine lv_iload_n hx hb dX12_send_9 rfl (lv_at hl 2 rfl) ?_
  refine lv_bipush (v := (8 : Int32)) hx hb dX12_send_10 (by decide) ?_
  refine lv_icmp_gt (tgt := 30) hx hb dX12_send_12 (by decide) (fun c_3 => ?_) (fun c_3 => ?_)
  · replace h := (if_pos c_3).symm.trans h
    refine lv_iconst (v := (0 : Int32)) hx hb dX12_send_30 (by decide) ?_
    exact x_zret F hr hlk hW hS rfl dX12_send_31 h
  replace h := (if_neg c_3).symm.trans h
  refine lv_aload_n hx hb dX12_send_15 rfl (lv_at hl 0 rfl) ?_
  refine x_get F hK hW xc_X12 rd_d0 rd_0 44 (by decide) k_5_172 (gf_X12_44 _ _) dX12_send_16 ?_
  refine lv_bipush (v := (32 : Int32)) hx hb dX12_send_19 (by decide) ?_
  refine x_iald (t0 := 0) F hK hW rd_d45 rd_45 rfl dX12_send_21 h (fun h => ?_)
  refine lv_iload_n hx hb dX12_send_22 rfl (lv_at hl 2 rfl) ?_
  refine lv_iadd hx hb dX12_send_23 ?_
  refine lv_sipush (v := (4096 : Int32)) hx hb dX12_send_24 (by decide) ?_
  refine lv_icmp_le (tgt := 32) hx hb dX12_send_27 (by decide) (fun c_4 => ?_) (fun c_4 => ?_)
  · replace h := (if_pos c_4).symm.trans h
    refine lv_iconst (v := (0 : Int32)) hx hb dX12_send_32 (by decide) ?_
    refine lv_istore (lv' := [(4, .int (0 : Int32)), (0, .ref (ad 0 0)), (1, .long a1), (3, .int a2)]) hx hb dX12_send_33 hl (by decide) rfl (fun ls hl => ?_)
    exact m_r_send_b35 hI  F hr hlk hK (100000) _ _ _ _ h hW hS (lv_sub hl [1, 2, 3, 0] rfl)
  replace h := (if_neg c_4).symm.trans h
  refine lv_iconst (v := (0 : Int32)) hx hb dX12_send_30 (by decide) ?_
  exact x_zret F hr hlk hW hS rfl dX12_send_31 h
/-! X12_put -/
def r_put_b31 : Nat → Int32 → Int32 → Int64 → Int32 → xS → Option (Int32 × xS)
  | 0, _, _, _, _, _ => none
  | fu + 1, v1, v2, v3, v5, S => if (8 : Int32) ≤ v5 then (some ((1 : Int32), S)) else (gd (((((4096 : Int32) * v1) + v2) - (32768 : Int32)) + v5) 32768 (xnm (sI S 0 4 ((((((4096 : Int32) * v1) + v2) - (32768 : Int32)) + v5)).toNatClampNeg (vp_nar .byte (((jlshr v3 ((8 : Int32) * v5)).toInt32).toInt8.toInt32))) (fun S7 => (r_put_b31 fu) v1 v2 v3 (v5 + (1 : Int32)) S7)))
set_option maxHeartbeats 4000000 in
set_option maxRecDepth 100000 in
theorem m_r_put_b31 {l : Launch} {D : va_G} {cI cZ cB : ClassId} {ad : Nat → Nat → Nat} (hI : xInj rDom ad) {p : Program} {e : Env} {s : State} {m : MethodId} {args : Array Value} {below : List Frame} {meth : Method} {c : Code} (F : CallFix p m c cX12_put 6 s args (Cond.code yX12_put cX12_put 6 (some .boolean) :: xG) (yX12_put).cls) (hr : meth.sig.returnType = (some .boolean)) (hlk : meth.locks = false) (hK : xK D vwCl (rTy cI cZ cB) [] [] s) {o : Int32 × xS} : ∀ (fu : Nat) (v1 : Int32) (v2 : Int32) (v3 : Int64) (v5 : Int32) (S : xS) {H : Heap} {locs : List Loc} {ls : Array Slot}, r_put_b31 fu v1 v2 v3 v5 S = some o → xW D vwCl rDom ad (rDe ad cI cZ cB) S H → va_S (xA rDom ad) s.heap H locs → lv_has ls 6 [(0, .ref (ad 0 0)), (1, .int v1), (2, .int v2), (3, .long v3), (5, .int v5)] → W p l e { frames := 1, cells := 0, slots := 0, locals := 21 } s m args below meth c H locs 0 0 (MQ below (xQ D vwCl rDom ad (rDe ad cI cZ cB) (some (.int o.1)) o.2) args s 0 0 (xA rDom ad)) (F0 m 31 ls []) := by
  have hx := F.1
  have hb := F.2.1
  intro fu
  induction fu with
  | zero =>
    intro v1 v2 v3 v5 S H locs ls h
    simp [r_put_b31] at h
  | succ fu ih =>
    intro v1 v2 v3 v5 S H locs ls h hW hS hl
    have hk31 := fun v1 v2 v3 v5 S H locs ls (h : r_put_b31 fu v1 v2 v3 v5 S = some o) hW hS hl => ih v1 v2 v3 v5 S (H := H) (locs := locs) (ls := ls) h hW hS hl
    rw [r_put_b31] at h
    refine lv_iload hx hb dX12_put_31 (lv_at hl 4 rfl) ?_
    refine lv_bipush (v := (8 : Int32)) hx hb dX12_put_33 (by decide) ?_
    refine lv_icmp_ge (tgt := 71) hx hb dX12_put_35 (by decide) (fun c_6 => ?_) (fun c_6 => ?_)
    · replace h := (if_pos c_6).symm.trans h
      refine lv_iconst (v := (1 : Int32)) hx hb dX12_put_71 (by decide) ?_
      exact x_zret F hr hlk hW hS rfl dX12_put_72 h
    replace h := (if_neg c_6).symm.trans h
    refine lv_aload_n hx hb dX12_put_38 rfl (lv_at hl 0 rfl) ?_
    refine x_get F hK hW xc_X12 rd_d0 rd_0 3 (by decide) k_5_131 (gf_X12_3 _ _) dX12_put_39 ?_
    refine lv_sipush (v := (4096 : Int32)) hx hb dX12_put_42 (by decide) ?_
    refine lv_iload_n hx hb dX12_put_45 rfl (lv_at hl 1 rfl) ?_
    refine lv_imul hx hb dX12_put_46 ?_
    refine lv_iload_n hx hb dX12_put_47 rfl (lv_at hl 2 rfl) ?_
    refine lv_iadd hx hb dX12_put_48 ?_
    refine lv_ldc (v := (32768 : Int32)) hx hb F.2.2.2.1 (x_hts F _ k_5_126) dX12_put_49 ?_
    refine lv_isub hx hb dX12_put_51 ?_
    refine lv_iload hx hb dX12_put_52 (lv_at hl 4 rfl) ?_
    refine lv_iadd hx hb dX12_put_54 ?_
    refine lv_lload_n hx hb dX12_put_55 rfl (lv_at hl 3 rfl) ?_
    refine lv_bipush (v := (8 : Int32)) hx hb dX12_put_56 (by decide) ?_
    refine lv_iload hx hb dX12_put_58 (lv_at hl 4 rfl) ?_
    refine lv_imul hx hb dX12_put_60 ?_
    refine lv_lshr (v := (jlshr v3 ((8 : Int32) * v5))) hx hb dX12_put_61 rfl ?_
    refine lv_l2i (v := (jlshr v3 ((8 : Int32) * v5)).toInt32) hx hb dX12_put_62 rfl ?_
    refine lv_i2b (v := ((jlshr v3 ((8 : Int32) * v5)).toInt32).toInt8.toInt32) hx hb dX12_put_63 rfl ?_
    refine x_bast (t0 := 2) F hK hI hW hS rd_d4 rd_4 rfl dX12_put_64 h (fun S7 H locs hW hS h => ?_)
    refine lv_iinc (v := (v5 + (1 : Int32))) (lv' := [(5, .int (v5 + (1 : Int32))), (0, .ref (ad 0 0)), (1, .int v1), (2, .int v2), (3, .long v3)]) hx hb dX12_put_65 hl (k := 4) rfl rfl (by decide) rfl (fun ls hl => ?_)
    refine lv_goto (tgt := 31) hx hb dX12_put_68 (by decide) ?_
    exact hk31 _ _ _ _ _ _ _ _ h hW hS (lv_sub hl [1, 2, 3, 4, 0] rfl)
def r_put  (S : xS) (a1 : Int32) (a2 : Int32) (a3 : Int64) : Option (Int32 × xS) := xnm (sI S 0 0 0 (0 : Int32)) (fun S1 => (r_isNode  S1 a1).bind (fun (r_2, S2) => if r_2 = 0 then (some ((0 : Int32), S2)) else (if a2 < (32768 : Int32) then (some ((0 : Int32), S2)) else (if a2 ≤ (36856 : Int32) then (r_put_b31  (100000) a1 a2 a3 (0 : Int32) S2) else (some ((0 : Int32), S2))))))
set_option maxHeartbeats 4000000 in
set_option maxRecDepth 100000 in
theorem m_r_put {l : Launch} {D : va_G} {cI cZ cB : ClassId} {ad : Nat → Nat → Nat} (hI : xInj rDom ad) {S : xS} (a1 : Int32) (a2 : Int32) (a3 : Int64) {o : Int32 × xS} (h : r_put  S a1 a2 a3 = some o) : Met l yX12_put (Cond.code yX12_put cX12_put 6 (some .boolean) :: xG) { frames := 1, cells := 0, slots := 0, locals := 21 } (xPc D vwCl (rTy cI cZ cB) [] [] rDom ad (rDe ad cI cZ cB) [.ref (ad 0 0), .int a1, .int a2, .long a3] S) (xQ D vwCl rDom ad (rDe ad cI cZ cB) (some (.int o.1)) o.2) 0 0 (xA rDom ad) := by
  unfold r_put at h
  refine x_enter (by decide) (Nat.le_of_ble_eq_true rfl) (fun p e s m below meth c F hr hlk hK hW hS ls hl => ?_)
  have hl : lv_has ls 6 [(0, .ref (ad 0 0)), (1, .int a1), (2, .int a2), (3, .long a3)] := hl
  have hx := F.1
  have hb := F.2.1
  refine lv_aload_n hx hb dX12_put_0 rfl (lv_at hl 0 rfl) ?_
  refine lv_iconst (v := (0 : Int32)) hx hb dX12_put_1 (by decide) ?_
  refine x_put F hK hI hW hS xc_X12 rd_d0 rd_0 0 (by decide) k_5_128 rfl (v := (0 : Int32)) rfl rfl (fun _ _ => rfl) (fun _ _ => Nat.le_of_ble_eq_true rfl) dX12_put_2 h (fun S1 H locs hW hS h => ?_)
  refine lv_aload_n hx hb dX12_put_5 rfl (lv_at hl 0 rfl) ?_
  refine lv_iload_n hx hb dX12_put_6 rfl (lv_at hl 1 rfl) ?_
  refine x_cVi (As := [.int a1]) F xG_ok hK hW hS um_X12_isNode k_6_85 (fun _ h1 => m_r_isNode hI _ h1) rfl rd_d0 rd_0 rfl rfl hl.1 rfl rfl ⟨Nat.le_of_ble_eq_true rfl, Nat.le_of_ble_eq_true rfl⟩ ⟨Nat.zero_le _, Nat.zero_le _⟩ (Nat.le_of_ble_eq_true rfl) dX12_put_7 h (fun r_2 S2 H locs hW hS h => ?_)
  refine lv_if_eq (tgt := 26) hx hb dX12_put_10 (by decide) (fun c_3 => ?_) (fun c_3 => ?_)
  · replace h := (if_pos c_3).symm.trans h
    refine lv_iconst (v := (0 : Int32)) hx hb dX12_put_26 (by decide) ?_
    exact x_zret F hr hlk hW hS rfl dX12_put_27 h
  replace h := (if_neg c_3).symm.trans h
  refine lv_iload_n hx hb dX12_put_13 rfl (lv_at hl 2 rfl) ?_
  refine lv_ldc (v := (32768 : Int32)) hx hb F.2.2.2.1 (x_hts F _ k_5_126) dX12_put_14 ?_
  refine lv_icmp_lt (tgt := 26) hx hb dX12_put_16 (by decide) (fun c_4 => ?_) (fun c_4 => ?_)
  · replace h := (if_pos c_4).symm.trans h
    refine lv_iconst (v := (0 : Int32)) hx hb dX12_put_26 (by decide) ?_
    exact x_zret F hr hlk hW hS rfl dX12_put_27 h
  replace h := (if_neg c_4).symm.trans h
  refine lv_iload_n hx hb dX12_put_19 rfl (lv_at hl 2 rfl) ?_
  refine lv_ldcw (v := (36856 : Int32)) hx hb F.2.2.2.1 (x_hts F _ k_6_97) dX12_put_20 ?_
  refine lv_icmp_le (tgt := 28) hx hb dX12_put_23 (by decide) (fun c_5 => ?_) (fun c_5 => ?_)
  · replace h := (if_pos c_5).symm.trans h
    refine lv_iconst (v := (0 : Int32)) hx hb dX12_put_28 (by decide) ?_
    refine lv_istore (lv' := [(5, .int (0 : Int32)), (0, .ref (ad 0 0)), (1, .int a1), (2, .int a2), (3, .long a3)]) hx hb dX12_put_29 hl (by decide) rfl (fun ls hl => ?_)
    exact m_r_put_b31 hI  F hr hlk hK (100000) _ _ _ _ _ h hW hS (lv_sub hl [1, 2, 3, 4, 0] rfl)
  replace h := (if_neg c_5).symm.trans h
  refine lv_iconst (v := (0 : Int32)) hx hb dX12_put_26 (by decide) ?_
  exact x_zret F hr hlk hW hS rfl dX12_put_27 h
/-! X12_start -/
def r_start  (S : xS) (a1 : Int32) (a2 : Int32) (a3 : Int32) (a4 : Int32) : Option (Int32 × xS) := xnm (sI S 0 0 0 (0 : Int32)) (fun S1 => (r_isNode  S1 a1).bind (fun (r_2, S2) => if r_2 = 0 then (some ((0 : Int32), S2)) else (gd a1 8 (if (xI S2 0 52 (a1).toNatClampNeg) = 0 then (some ((0 : Int32), S2)) else (gd a1 8 (if (xI S2 0 53 (a1).toNatClampNeg) = (-1 : Int32) then (if a2 < 0 then (some ((0 : Int32), S2)) else (if (65535 : Int32) < a2 then (some ((0 : Int32), S2)) else (if a3 < 0 then (some ((0 : Int32), S2)) else (if (65535 : Int32) < a3 then (some ((0 : Int32), S2)) else (if a4 < 0 then (some ((0 : Int32), S2)) else (if a4 ≤ (1 : Int32) then (gd a1 8 (xnm (sI S2 0 52 (a1).toNatClampNeg (vp_nar .boolean (0 : Int32))) (fun S12 => gd a1 8 (xnm (sI S12 0 11 (a1).toNatClampNeg a4) (fun S13 => gd a1 8 (xnm (sI S13 0 9 (a1).toNatClampNeg a2) (fun S14 => gd a1 8 (xnm (sI S14 0 10 (a1).toNatClampNeg (a3 &&& (65534 : Int32))) (fun S15 => gd a1 8 (xnm (sI S15 0 5 (a1).toNatClampNeg (0 : Int32)) (fun S16 => gd a1 8 (xnm (sI S16 0 6 (a1).toNatClampNeg (0 : Int32)) (fun S17 => gd a1 8 (xnm (sI S17 0 7 (a1).toNatClampNeg (0 : Int32)) (fun S18 => gd a1 8 (xnm (sI S18 0 8 (a1).toNatClampNeg (0 : Int32)) (fun S19 => gd a1 8 (xnm (sI S19 0 12 (a1).toNatClampNeg (0 : Int32)) (fun S20 => some ((1 : Int32), S20)))))))))))))))))))) else (some ((0 : Int32), S2)))))))) else (some ((0 : Int32), S2))))))))
set_option maxHeartbeats 4000000 in
set_option maxRecDepth 100000 in
theorem m_r_start {l : Launch} {D : va_G} {cI cZ cB : ClassId} {ad : Nat → Nat → Nat} (hI : xInj rDom ad) {S : xS} (a1 : Int32) (a2 : Int32) (a3 : Int32) (a4 : Int32) {o : Int32 × xS} (h : r_start  S a1 a2 a3 a4 = some o) : Met l yX12_start (Cond.code yX12_start cX12_start 5 (some .boolean) :: xG) { frames := 1, cells := 0, slots := 0, locals := 21 } (xPc D vwCl (rTy cI cZ cB) [] [] rDom ad (rDe ad cI cZ cB) [.ref (ad 0 0), .int a1, .int a2, .int a3, .int a4] S) (xQ D vwCl rDom ad (rDe ad cI cZ cB) (some (.int o.1)) o.2) 0 0 (xA rDom ad) := by
  unfold r_start at h
  refine x_enter (by decide) (Nat.le_of_ble_eq_true rfl) (fun p e s m below meth c F hr hlk hK hW hS ls hl => ?_)
  have hl : lv_has ls 5 [(0, .ref (ad 0 0)), (1, .int a1), (2, .int a2), (3, .int a3), (4, .int a4)] := hl
  have hx := F.1
  have hb := F.2.1
  refine lv_aload_n hx hb dX12_start_0 rfl (lv_at hl 0 rfl) ?_
  refine lv_iconst (v := (0 : Int32)) hx hb dX12_start_1 (by decide) ?_
  refine x_put F hK hI hW hS xc_X12 rd_d0 rd_0 0 (by decide) k_5_128 rfl (v := (0 : Int32)) rfl rfl (fun _ _ => rfl) (fun _ _ => Nat.le_of_ble_eq_true rfl) dX12_start_2 h (fun S1 H locs hW hS h => ?_)
  refine lv_aload_n hx hb dX12_start_5 rfl (lv_at hl 0 rfl) ?_
  refine lv_iload_n hx hb dX12_start_6 rfl (lv_at hl 1 rfl) ?_
  refine x_cVi (As := [.int a1]) F xG_ok hK hW hS um_X12_isNode k_6_85 (fun _ h1 => m_r_isNode hI _ h1) rfl rd_d0 rd_0 rfl rfl hl.1 rfl rfl ⟨Nat.le_of_ble_eq_true rfl, Nat.le_of_ble_eq_true rfl⟩ ⟨Nat.zero_le _, Nat.zero_le _⟩ (Nat.le_of_ble_eq_true rfl) dX12_start_7 h (fun r_2 S2 H locs hW hS h => ?_)
  refine lv_if_eq (tgt := 63) hx hb dX12_start_10 (by decide) (fun c_3 => ?_) (fun c_3 => ?_)
  · replace h := (if_pos c_3).symm.trans h
    refine lv_iconst (v := (0 : Int32)) hx hb dX12_start_63 (by decide) ?_
    exact x_zret F hr hlk hW hS rfl dX12_start_64 h
  replace h := (if_neg c_3).symm.trans h
  refine lv_aload_n hx hb dX12_start_13 rfl (lv_at hl 0 rfl) ?_
  refine x_get F hK hW xc_X12 rd_d0 rd_0 51 (by decide) k_5_179 (gf_X12_51 _ _) dX12_start_14 ?_
  refine lv_iload_n hx hb dX12_start_17 rfl (lv_at hl 1 rfl) ?_
  refine x_zald (t0 := 1) F hK hW rd_d52 rd_52 rfl dX12_start_18 h (fun h => ?_)
  refine lv_if_eq (tgt := 63) hx hb dX12_start_19 (by decide) (fun c_4 => ?_) (fun c_4 => ?_)
  · replace h := (if_pos c_4).symm.trans h
    refine lv_iconst (v := (0 : Int32)) hx hb dX12_start_63 (by decide) ?_
    exact x_zret F hr hlk hW hS rfl dX12_start_64 h
  replace h := (if_neg c_4).symm.trans h
  refine lv_aload_n hx hb dX12_start_22 rfl (lv_at hl 0 rfl) ?_
  refine x_get F hK hW xc_X12 rd_d0 rd_0 52 (by decide) k_5_180 (gf_X12_52 _ _) dX12_start_23 ?_
  refine lv_iload_n hx hb dX12_start_26 rfl (lv_at hl 1 rfl) ?_
  refine x_iald (t0 := 0) F hK hW rd_d53 rd_53 rfl dX12_start_27 h (fun h => ?_)
  refine lv_iconst (v := (-1 : Int32)) hx hb dX12_start_28 (by decide) ?_
  refine lv_icmp_ne (tgt := 63) hx hb dX12_start_29 (by decide) (fun c_5 => ?_) (fun c_5 => ?_)
  · replace h := (if_neg c_5).symm.trans h
    refine lv_iconst (v := (0 : Int32)) hx hb dX12_start_63 (by decide) ?_
    exact x_zret F hr hlk hW hS rfl dX12_start_64 h
  replace h := (if_pos c_5).symm.trans h
  refine lv_iload_n hx hb dX12_start_32 rfl (lv_at hl 2 rfl) ?_
  refine lv_if_lt (tgt := 63) hx hb dX12_start_33 (by decide) (fun c_6 => ?_) (fun c_6 => ?_)
  · replace h := (if_pos c_6).symm.trans h
    refine lv_iconst (v := (0 : Int32)) hx hb dX12_start_63 (by decide) ?_
    exact x_zret F hr hlk hW hS rfl dX12_start_64 h
  replace h := (if_neg c_6).symm.trans h
  refine lv_iload_n hx hb dX12_start_36 rfl (lv_at hl 2 rfl) ?_
  refine lv_ldc (v := (65535 : Int32)) hx hb F.2.2.2.1 (x_hts F _ k_6_102) dX12_start_37 ?_
  refine lv_icmp_gt (tgt := 63) hx hb dX12_start_39 (by decide) (fun c_7 => ?_) (fun c_7 => ?_)
  · replace h := (if_pos c_7).symm.trans h
    refine lv_iconst (v := (0 : Int32)) hx hb dX12_start_63 (by decide) ?_
    exact x_zret F hr hlk hW hS rfl dX12_start_64 h
  replace h := (if_neg c_7).symm.trans h
  refine lv_iload_n hx hb dX12_start_42 rfl (lv_at hl 3 rfl) ?_
  refine lv_if_lt (tgt := 63) hx hb dX12_start_43 (by decide) (fun c_8 => ?_) (fun c_8 => ?_)
  · replace h := (if_pos c_8).symm.trans h
    refine lv_iconst (v := (0 : Int32)) hx hb dX12_start_63 (by decide) ?_
    exact x_zret F hr hlk hW hS rfl dX12_start_64 h
  replace h := (if_neg c_8).symm.trans h
  refine lv_iload_n hx hb dX12_start_46 rfl (lv_at hl 3 rfl) ?_
  refine lv_ldc (v := (65535 : Int32)) hx hb F.2.2.2.1 (x_hts F _ k_6_102) dX12_start_47 ?_
  refine lv_icmp_gt (tgt := 63) hx hb dX12_start_49 (by decide) (fun c_9 => ?_) (fun c_9 => ?_)
  · replace h := (if_pos c_9).symm.trans h
    refine lv_iconst (v := (0 : Int32)) hx hb dX12_start_63 (by decide) ?_
    exact x_zret F hr hlk hW hS rfl dX12_start_64 h
  replace h := (if_neg c_9).symm.trans h
  refine lv_iload hx hb dX12_start_52 (lv_at hl 4 rfl) ?_
  refine lv_if_lt (tgt := 63) hx hb dX12_start_54 (by decide) (fun c_10 => ?_) (fun c_10 => ?_)
  · replace h := (if_pos c_10).symm.trans h
    refine lv_iconst (v := (0 : Int32)) hx hb dX12_start_63 (by decide) ?_
    exact x_zret F hr hlk hW hS rfl dX12_start_64 h
  replace h := (if_neg c_10).symm.trans h
  refine lv_iload hx hb dX12_start_57 (lv_at hl 4 rfl) ?_
  refine lv_iconst (v := (1 : Int32)) hx hb dX12_start_59 (by decide) ?_
  refine lv_icmp_le (tgt := 65) hx hb dX12_start_60 (by decide) (fun c_11 => ?_) (fun c_11 => ?_)
  · replace h := (if_pos c_11).symm.trans h
    refine lv_aload_n hx hb dX12_start_65 rfl (lv_at hl 0 rfl) ?_
    refine x_get F hK hW xc_X12 rd_d0 rd_0 51 (by decide) k_5_179 (gf_X12_51 _ _) dX12_start_66 ?_
    refine lv_iload_n hx hb dX12_start_69 rfl (lv_at hl 1 rfl) ?_
    refine lv_iconst (v := (0 : Int32)) hx hb dX12_start_70 (by decide) ?_
    refine x_zast (t0 := 1) F hK hI hW hS rd_d52 rd_52 rfl dX12_start_71 h (fun S12 H locs hW hS h => ?_)
    refine lv_aload_n hx hb dX12_start_72 rfl (lv_at hl 0 rfl) ?_
    refine x_get F hK hW xc_X12 rd_d0 rd_0 10 (by decide) k_5_138 (gf_X12_10 _ _) dX12_start_73 ?_
    refine lv_iload_n hx hb dX12_start_76 rfl (lv_at hl 1 rfl) ?_
    refine lv_iload hx hb dX12_start_77 (lv_at hl 4 rfl) ?_
    refine x_iast (t0 := 0) F hK hI hW hS rd_d11 rd_11 rfl dX12_start_79 h (fun S13 H locs hW hS h => ?_)
    refine lv_aload_n hx hb dX12_start_80 rfl (lv_at hl 0 rfl) ?_
    refine x_get F hK hW xc_X12 rd_d0 rd_0 8 (by decide) k_5_136 (gf_X12_8 _ _) dX12_start_81 ?_
    refine lv_iload_n hx hb dX12_start_84 rfl (lv_at hl 1 rfl) ?_
    refine lv_iload_n hx hb dX12_start_85 rfl (lv_at hl 2 rfl) ?_
    refine x_iast (t0 := 0) F hK hI hW hS rd_d9 rd_9 rfl dX12_start_86 h (fun S14 H locs hW hS h => ?_)
    refine lv_aload_n hx hb dX12_start_87 rfl (lv_at hl 0 rfl) ?_
    refine x_get F hK hW xc_X12 rd_d0 rd_0 9 (by decide) k_5_137 (gf_X12_9 _ _) dX12_start_88 ?_
    refine lv_iload_n hx hb dX12_start_91 rfl (lv_at hl 1 rfl) ?_
    refine lv_iload_n hx hb dX12_start_92 rfl (lv_at hl 3 rfl) ?_
    refine lv_ldc (v := (65534 : Int32)) hx hb F.2.2.2.1 (x_hts F _ k_6_103) dX12_start_93 ?_
    refine lv_iand hx hb dX12_start_95 ?_
    refine x_iast (t0 := 0) F hK hI hW hS rd_d10 rd_10 rfl dX12_start_96 h (fun S15 H locs hW hS h => ?_)
    refine lv_aload_n hx hb dX12_start_97 rfl (lv_at hl 0 rfl) ?_
    refine x_get F hK hW xc_X12 rd_d0 rd_0 4 (by decide) k_5_132 (gf_X12_4 _ _) dX12_start_98 ?_
    refine lv_iload_n hx hb dX12_start_101 rfl (lv_at hl 1 rfl) ?_
    refine lv_iconst (v := (0 : Int32)) hx hb dX12_start_102 (by decide) ?_
    refine x_iast (t0 := 0) F hK hI hW hS rd_d5 rd_5 rfl dX12_start_103 h (fun S16 H locs hW hS h => ?_)
    refine lv_aload_n hx hb dX12_start_104 rfl (lv_at hl 0 rfl) ?_
    refine x_get F hK hW xc_X12 rd_d0 rd_0 5 (by decide) k_5_133 (gf_X12_5 _ _) dX12_start_105 ?_
    refine lv_iload_n hx hb dX12_start_108 rfl (lv_at hl 1 rfl) ?_
    refine lv_iconst (v := (0 : Int32)) hx hb dX12_start_109 (by decide) ?_
    refine x_iast (t0 := 0) F hK hI hW hS rd_d6 rd_6 rfl dX12_start_110 h (fun S17 H locs hW hS h => ?_)
    refine lv_aload_n hx hb dX12_start_111 rfl (lv_at hl 0 rfl) ?_
    refine x_get F hK hW xc_X12 rd_d0 rd_0 6 (by decide) k_5_134 (gf_X12_6 _ _) dX12_start_112 ?_
    refine lv_iload_n hx hb dX12_start_115 rfl (lv_at hl 1 rfl) ?_
    refine lv_iconst (v := (0 : Int32)) hx hb dX12_start_116 (by decide) ?_
    refine x_iast (t0 := 0) F hK hI hW hS rd_d7 rd_7 rfl dX12_start_117 h (fun S18 H locs hW hS h => ?_)
    refine lv_aload_n hx hb dX12_start_118 rfl (lv_at hl 0 rfl) ?_
    refine x_get F hK hW xc_X12 rd_d0 rd_0 7 (by decide) k_5_135 (gf_X12_7 _ _) dX12_start_119 ?_
    refine lv_iload_n hx hb dX12_start_122 rfl (lv_at hl 1 rfl) ?_
    refine lv_iconst (v := (0 : Int32)) hx hb dX12_start_123 (by decide) ?_
    refine x_iast (t0 := 0) F hK hI hW hS rd_d8 rd_8 rfl dX12_start_124 h (fun S19 H locs hW hS h => ?_)
    refine lv_aload_n hx hb dX12_start_125 rfl (lv_at hl 0 rfl) ?_
    refine x_get F hK hW xc_X12 rd_d0 rd_0 11 (by decide) k_5_139 (gf_X12_11 _ _) dX12_start_126 ?_
    refine lv_iload_n hx hb dX12_start_129 rfl (lv_at hl 1 rfl) ?_
    refine lv_iconst (v := (0 : Int32)) hx hb dX12_start_130 (by decide) ?_
    refine x_iast (t0 := 0) F hK hI hW hS rd_d12 rd_12 rfl dX12_start_131 h (fun S20 H locs hW hS h => ?_)
    refine lv_iconst (v := (1 : Int32)) hx hb dX12_start_132 (by decide) ?_
    exact x_zret F hr hlk hW hS rfl dX12_start_133 h
  replace h := (if_neg c_11).symm.trans h
  refine lv_iconst (v := (0 : Int32)) hx hb dX12_start_63 (by decide) ?_
  exact x_zret F hr hlk hW hS rfl dX12_start_64 h
/-! X12_run -/
def r_run_b20 : Nat → Int32 → Int32 → xS → Option (Int32 × xS)
  | 0, _, _, _ => none
  | fu + 1, v1, v2, S => if v1 ≤ v2 then (some ((xI S 0 0 2), S)) else ((r_tick  S ).bind (fun S5 => (r_run_b20 fu) v1 (v2 + (1 : Int32)) S5))
set_option maxHeartbeats 4000000 in
set_option maxRecDepth 100000 in
theorem m_r_run_b20 {l : Launch} {D : va_G} {cI cZ cB : ClassId} {ad : Nat → Nat → Nat} (hI : xInj rDom ad) {p : Program} {e : Env} {s : State} {m : MethodId} {args : Array Value} {below : List Frame} {meth : Method} {c : Code} (F : CallFix p m c cX12_run 3 s args (Cond.code yX12_run cX12_run 3 (some .int) :: xG) (yX12_run).cls) (hr : meth.sig.returnType = (some .int)) (hlk : meth.locks = false) (hK : xK D vwCl (rTy cI cZ cB) [] [] s) {o : Int32 × xS} : ∀ (fu : Nat) (v1 : Int32) (v2 : Int32) (S : xS) {H : Heap} {locs : List Loc} {ls : Array Slot}, r_run_b20 fu v1 v2 S = some o → xW D vwCl rDom ad (rDe ad cI cZ cB) S H → va_S (xA rDom ad) s.heap H locs → lv_has ls 3 [(0, .ref (ad 0 0)), (1, .int v1), (2, .int v2)] → W p l e { frames := 10, cells := 0, slots := 0, locals := 239 } s m args below meth c H locs 0 0 (MQ below (xQ D vwCl rDom ad (rDe ad cI cZ cB) (some (.int o.1)) o.2) args s 0 0 (xA rDom ad)) (F0 m 20 ls []) := by
  have hx := F.1
  have hb := F.2.1
  intro fu
  induction fu with
  | zero =>
    intro v1 v2 S H locs ls h
    simp [r_run_b20] at h
  | succ fu ih =>
    intro v1 v2 S H locs ls h hW hS hl
    have hk20 := fun v1 v2 S H locs ls (h : r_run_b20 fu v1 v2 S = some o) hW hS hl => ih v1 v2 S (H := H) (locs := locs) (ls := ls) h hW hS hl
    rw [r_run_b20] at h
    refine lv_iload_n hx hb dX12_run_20 rfl (lv_at hl 2 rfl) ?_
    refine lv_iload_n hx hb dX12_run_21 rfl (lv_at hl 1 rfl) ?_
    refine lv_icmp_ge (tgt := 35) hx hb dX12_run_22 (by decide) (fun c_4 => ?_) (fun c_4 => ?_)
    · replace h := (if_pos c_4).symm.trans h
      refine lv_aload_n hx hb dX12_run_35 rfl (lv_at hl 0 rfl) ?_
      refine x_get F hK hW xc_X12 rd_d0 rd_0 2 (by decide) k_5_130 (gf_X12_2 _ _) dX12_run_36 ?_
      exact x_iret F hr hlk hW hS dX12_run_39 h
    replace h := (if_neg c_4).symm.trans h
    refine lv_aload_n hx hb dX12_run_25 rfl (lv_at hl 0 rfl) ?_
    refine x_cVv (As := []) F xG_ok hK hW hS um_X12_tick k_6_108 (fun _ h1 => m_r_tick hI  h1) rfl rd_d0 rd_0 rfl rfl hl.1 rfl rfl ⟨Nat.le_of_ble_eq_true rfl, Nat.le_of_ble_eq_true rfl⟩ ⟨Nat.zero_le _, Nat.zero_le _⟩ (Nat.le_of_ble_eq_true rfl) dX12_run_26 h (fun S5 H locs hW hS h => ?_)
    refine lv_iinc (v := (v2 + (1 : Int32))) (lv' := [(2, .int (v2 + (1 : Int32))), (0, .ref (ad 0 0)), (1, .int v1)]) hx hb dX12_run_29 hl (k := 2) rfl rfl (by decide) rfl (fun ls hl => ?_)
    refine lv_goto (tgt := 20) hx hb dX12_run_32 (by decide) ?_
    exact hk20 _ _ _ _ _ _ h hW hS (lv_sub hl [1, 2, 0] rfl)
def r_run  (S : xS) (a1 : Int32) : Option (Int32 × xS) := xnm (sI S 0 0 0 (0 : Int32)) (fun S1 => if a1 < 0 then (some ((-1 : Int32), S1)) else (if a1 ≤ (1000 : Int32) then (r_run_b20  (100000) a1 (0 : Int32) S1) else (some ((-1 : Int32), S1))))
set_option maxHeartbeats 4000000 in
set_option maxRecDepth 100000 in
theorem m_r_run {l : Launch} {D : va_G} {cI cZ cB : ClassId} {ad : Nat → Nat → Nat} (hI : xInj rDom ad) {S : xS} (a1 : Int32) {o : Int32 × xS} (h : r_run  S a1 = some o) : Met l yX12_run (Cond.code yX12_run cX12_run 3 (some .int) :: xG) { frames := 10, cells := 0, slots := 0, locals := 239 } (xPc D vwCl (rTy cI cZ cB) [] [] rDom ad (rDe ad cI cZ cB) [.ref (ad 0 0), .int a1] S) (xQ D vwCl rDom ad (rDe ad cI cZ cB) (some (.int o.1)) o.2) 0 0 (xA rDom ad) := by
  unfold r_run at h
  refine x_enter (by decide) (Nat.le_of_ble_eq_true rfl) (fun p e s m below meth c F hr hlk hK hW hS ls hl => ?_)
  have hl : lv_has ls 3 [(0, .ref (ad 0 0)), (1, .int a1)] := hl
  have hx := F.1
  have hb := F.2.1
  refine lv_aload_n hx hb dX12_run_0 rfl (lv_at hl 0 rfl) ?_
  refine lv_iconst (v := (0 : Int32)) hx hb dX12_run_1 (by decide) ?_
  refine x_put F hK hI hW hS xc_X12 rd_d0 rd_0 0 (by decide) k_5_128 rfl (v := (0 : Int32)) rfl rfl (fun _ _ => rfl) (fun _ _ => Nat.le_of_ble_eq_true rfl) dX12_run_2 h (fun S1 H locs hW hS h => ?_)
  refine lv_iload_n hx hb dX12_run_5 rfl (lv_at hl 1 rfl) ?_
  refine lv_if_lt (tgt := 16) hx hb dX12_run_6 (by decide) (fun c_2 => ?_) (fun c_2 => ?_)
  · replace h := (if_pos c_2).symm.trans h
    refine lv_iconst (v := (-1 : Int32)) hx hb dX12_run_16 (by decide) ?_
    exact x_iret F hr hlk hW hS dX12_run_17 h
  replace h := (if_neg c_2).symm.trans h
  refine lv_iload_n hx hb dX12_run_9 rfl (lv_at hl 1 rfl) ?_
  refine lv_sipush (v := (1000 : Int32)) hx hb dX12_run_10 (by decide) ?_
  refine lv_icmp_le (tgt := 18) hx hb dX12_run_13 (by decide) (fun c_3 => ?_) (fun c_3 => ?_)
  · replace h := (if_pos c_3).symm.trans h
    refine lv_iconst (v := (0 : Int32)) hx hb dX12_run_18 (by decide) ?_
    refine lv_istore_n (lv' := [(2, .int (0 : Int32)), (0, .ref (ad 0 0)), (1, .int a1)]) hx hb dX12_run_19 rfl hl (by decide) rfl (fun ls hl => ?_)
    exact m_r_run_b20 hI  F hr hlk hK (100000) _ _ _ h hW hS (lv_sub hl [1, 2, 0] rfl)
  replace h := (if_neg c_3).symm.trans h
  refine lv_iconst (v := (-1 : Int32)) hx hb dX12_run_16 (by decide) ?_
  exact x_iret F hr hlk hW hS dX12_run_17 h
/-! X12_register -/
def r_register  (S : xS) (a1 : Int32) (a2 : Int32) : Option (Int32 × xS) := xnm (sI S 0 0 0 (0 : Int32)) (fun S1 => (r_isNode  S1 a1).bind (fun (r_2, S2) => if r_2 = 0 then (some ((-1 : Int32), S2)) else (if a2 = (0 : Int32) then (gd a1 8 (some ((xI S2 0 5 (a1).toNatClampNeg), S2))) else (if a2 = (1 : Int32) then (gd a1 8 (some ((xI S2 0 6 (a1).toNatClampNeg), S2))) else (if a2 = (2 : Int32) then (gd a1 8 (some ((xI S2 0 7 (a1).toNatClampNeg), S2))) else (if a2 = (3 : Int32) then (gd a1 8 (some ((xI S2 0 8 (a1).toNatClampNeg), S2))) else (if a2 = (4 : Int32) then (gd a1 8 (some ((xI S2 0 9 (a1).toNatClampNeg), S2))) else (if a2 = (5 : Int32) then (gd a1 8 (some ((xI S2 0 10 (a1).toNatClampNeg), S2))) else (if a2 = (6 : Int32) then (gd a1 8 (some ((xI S2 0 11 (a1).toNatClampNeg), S2))) else (if a2 = (7 : Int32) then (gd a1 8 (if (xI S2 0 16 (a1).toNatClampNeg) = 0 then (some ((0 : Int32), S2)) else (some ((1 : Int32), S2)))) else (if a2 = (8 : Int32) then (gd a1 8 (some ((xI S2 0 13 (a1).toNatClampNeg), S2))) else (if a2 = (9 : Int32) then (gd ((2 : Int32) * a1) 16 (some ((xI S2 0 19 (((2 : Int32) * a1)).toNatClampNeg), S2))) else (if a2 = (10 : Int32) then (gd ((2 : Int32) * a1) 16 (some ((xI S2 0 20 (((2 : Int32) * a1)).toNatClampNeg), S2))) else (if a2 = (11 : Int32) then (gd (((2 : Int32) * a1) + (1 : Int32)) 16 (some ((xI S2 0 19 ((((2 : Int32) * a1) + (1 : Int32))).toNatClampNeg), S2))) else (if a2 = (12 : Int32) then (gd (((2 : Int32) * a1) + (1 : Int32)) 16 (some ((xI S2 0 20 ((((2 : Int32) * a1) + (1 : Int32))).toNatClampNeg), S2))) else (if a2 = (13 : Int32) then (gd ((2 : Int32) * a1) 16 (some ((xI S2 0 21 (((2 : Int32) * a1)).toNatClampNeg), S2))) else (if a2 = (14 : Int32) then (gd (((2 : Int32) * a1) + (1 : Int32)) 16 (some ((xI S2 0 21 ((((2 : Int32) * a1) + (1 : Int32))).toNatClampNeg), S2))) else (if a2 = (15 : Int32) then (gd a1 8 (some ((xI S2 0 12 (a1).toNatClampNeg), S2))) else (if a2 = (16 : Int32) then (gd a1 8 (some ((xI S2 0 30 (a1).toNatClampNeg), S2))) else (if a2 = (17 : Int32) then (gd a1 8 (if (xI S2 0 22 (a1).toNatClampNeg) = 0 then (some ((0 : Int32), S2)) else (some ((1 : Int32), S2)))) else (if a2 = (18 : Int32) then (gd a1 8 (if (xI S2 0 52 (a1).toNatClampNeg) = 0 then (some ((0 : Int32), S2)) else (some ((1 : Int32), S2)))) else (if a2 = (19 : Int32) then (gd a1 8 (some ((xI S2 0 15 (a1).toNatClampNeg), S2))) else (if a2 = (20 : Int32) then (gd a1 8 (some ((xI S2 0 14 (a1).toNatClampNeg), S2))) else (some ((-2 : Int32), S2)))))))))))))))))))))))))
set_option maxHeartbeats 4000000 in
set_option maxRecDepth 100000 in
theorem m_r_register {l : Launch} {D : va_G} {cI cZ cB : ClassId} {ad : Nat → Nat → Nat} (hI : xInj rDom ad) {S : xS} (a1 : Int32) (a2 : Int32) {o : Int32 × xS} (h : r_register  S a1 a2 = some o) : Met l yX12_register (Cond.code yX12_register cX12_register 3 (some .int) :: xG) { frames := 1, cells := 0, slots := 0, locals := 21 } (xPc D vwCl (rTy cI cZ cB) [] [] rDom ad (rDe ad cI cZ cB) [.ref (ad 0 0), .int a1, .int a2] S) (xQ D vwCl rDom ad (rDe ad cI cZ cB) (some (.int o.1)) o.2) 0 0 (xA rDom ad) := by
  unfold r_register at h
  refine x_enter (by decide) (Nat.le_of_ble_eq_true rfl) (fun p e s m below meth c F hr hlk hK hW hS ls hl => ?_)
  have hl : lv_has ls 3 [(0, .ref (ad 0 0)), (1, .int a1), (2, .int a2)] := hl
  have hx := F.1
  have hb := F.2.1
  refine lv_aload_n hx hb dX12_register_0 rfl (lv_at hl 0 rfl) ?_
  refine lv_iconst (v := (0 : Int32)) hx hb dX12_register_1 (by decide) ?_
  refine x_put F hK hI hW hS xc_X12 rd_d0 rd_0 0 (by decide) k_5_128 rfl (v := (0 : Int32)) rfl rfl (fun _ _ => rfl) (fun _ _ => Nat.le_of_ble_eq_true rfl) dX12_register_2 h (fun S1 H locs hW hS h => ?_)
  refine lv_aload_n hx hb dX12_register_5 rfl (lv_at hl 0 rfl) ?_
  refine lv_iload_n hx hb dX12_register_6 rfl (lv_at hl 1 rfl) ?_
  refine x_cVi (As := [.int a1]) F xG_ok hK hW hS um_X12_isNode k_6_85 (fun _ h1 => m_r_isNode hI _ h1) rfl rd_d0 rd_0 rfl rfl hl.1 rfl rfl ⟨Nat.le_of_ble_eq_true rfl, Nat.le_of_ble_eq_true rfl⟩ ⟨Nat.zero_le _, Nat.zero_le _⟩ (Nat.le_of_ble_eq_true rfl) dX12_register_7 h (fun r_2 S2 H locs hW hS h => ?_)
  refine lv_if_ne (tgt := 15) hx hb dX12_register_10 (by decide) (fun c_3 => ?_) (fun c_3 => ?_)
  · replace h := (if_neg c_3).symm.trans h
    refine lv_iload_n hx hb dX12_register_15 rfl (lv_at hl 2 rfl) ?_
    by_cases c_4_0 : a2 = (0 : Int32)
    · replace h := (if_pos c_4_0).symm.trans h
      refine lv_tableIn (tgt := 116) (off := 100) hx hb dX12_register_16 (by rw [c_4_0]; decide) (by rw [c_4_0]; decide) (by rw [c_4_0]; decide) (by decide) ?_
      refine lv_aload_n hx hb dX12_register_116 rfl (lv_at hl 0 rfl) ?_
      refine x_get F hK hW xc_X12 rd_d0 rd_0 4 (by decide) k_5_132 (gf_X12_4 _ _) dX12_register_117 ?_
      refine lv_iload_n hx hb dX12_register_120 rfl (lv_at hl 1 rfl) ?_
      refine x_iald (t0 := 0) F hK hW rd_d5 rd_5 rfl dX12_register_121 h (fun h => ?_)
      exact x_iret F hr hlk hW hS dX12_register_122 h
    replace h := (if_neg c_4_0).symm.trans h
    have hn_4_0 := x_swN (z := 0) c_4_0 x_sw0 rfl
    by_cases c_4_1 : a2 = (1 : Int32)
    · replace h := (if_pos c_4_1).symm.trans h
      refine lv_tableIn (tgt := 123) (off := 107) hx hb dX12_register_16 (by rw [c_4_1]; decide) (by rw [c_4_1]; decide) (by rw [c_4_1]; decide) (by decide) ?_
      refine lv_aload_n hx hb dX12_register_123 rfl (lv_at hl 0 rfl) ?_
      refine x_get F hK hW xc_X12 rd_d0 rd_0 5 (by decide) k_5_133 (gf_X12_5 _ _) dX12_register_124 ?_
      refine lv_iload_n hx hb dX12_register_127 rfl (lv_at hl 1 rfl) ?_
      refine x_iald (t0 := 0) F hK hW rd_d6 rd_6 rfl dX12_register_128 h (fun h => ?_)
      exact x_iret F hr hlk hW hS dX12_register_129 h
    replace h := (if_neg c_4_1).symm.trans h
    have hn_4_1 := x_swN (z := 1) c_4_1 hn_4_0 rfl
    by_cases c_4_2 : a2 = (2 : Int32)
    · replace h := (if_pos c_4_2).symm.trans h
      refine lv_tableIn (tgt := 130) (off := 114) hx hb dX12_register_16 (by rw [c_4_2]; decide) (by rw [c_4_2]; decide) (by rw [c_4_2]; decide) (by decide) ?_
      refine lv_aload_n hx hb dX12_register_130 rfl (lv_at hl 0 rfl) ?_
      refine x_get F hK hW xc_X12 rd_d0 rd_0 6 (by decide) k_5_134 (gf_X12_6 _ _) dX12_register_131 ?_
      refine lv_iload_n hx hb dX12_register_134 rfl (lv_at hl 1 rfl) ?_
      refine x_iald (t0 := 0) F hK hW rd_d7 rd_7 rfl dX12_register_135 h (fun h => ?_)
      exact x_iret F hr hlk hW hS dX12_register_136 h
    replace h := (if_neg c_4_2).symm.trans h
    have hn_4_2 := x_swN (z := 2) c_4_2 hn_4_1 rfl
    by_cases c_4_3 : a2 = (3 : Int32)
    · replace h := (if_pos c_4_3).symm.trans h
      refine lv_tableIn (tgt := 137) (off := 121) hx hb dX12_register_16 (by rw [c_4_3]; decide) (by rw [c_4_3]; decide) (by rw [c_4_3]; decide) (by decide) ?_
      refine lv_aload_n hx hb dX12_register_137 rfl (lv_at hl 0 rfl) ?_
      refine x_get F hK hW xc_X12 rd_d0 rd_0 7 (by decide) k_5_135 (gf_X12_7 _ _) dX12_register_138 ?_
      refine lv_iload_n hx hb dX12_register_141 rfl (lv_at hl 1 rfl) ?_
      refine x_iald (t0 := 0) F hK hW rd_d8 rd_8 rfl dX12_register_142 h (fun h => ?_)
      exact x_iret F hr hlk hW hS dX12_register_143 h
    replace h := (if_neg c_4_3).symm.trans h
    have hn_4_3 := x_swN (z := 3) c_4_3 hn_4_2 rfl
    by_cases c_4_4 : a2 = (4 : Int32)
    · replace h := (if_pos c_4_4).symm.trans h
      refine lv_tableIn (tgt := 144) (off := 128) hx hb dX12_register_16 (by rw [c_4_4]; decide) (by rw [c_4_4]; decide) (by rw [c_4_4]; decide) (by decide) ?_
      refine lv_aload_n hx hb dX12_register_144 rfl (lv_at hl 0 rfl) ?_
      refine x_get F hK hW xc_X12 rd_d0 rd_0 8 (by decide) k_5_136 (gf_X12_8 _ _) dX12_register_145 ?_
      refine lv_iload_n hx hb dX12_register_148 rfl (lv_at hl 1 rfl) ?_
      refine x_iald (t0 := 0) F hK hW rd_d9 rd_9 rfl dX12_register_149 h (fun h => ?_)
      exact x_iret F hr hlk hW hS dX12_register_150 h
    replace h := (if_neg c_4_4).symm.trans h
    have hn_4_4 := x_swN (z := 4) c_4_4 hn_4_3 rfl
    by_cases c_4_5 : a2 = (5 : Int32)
    · replace h := (if_pos c_4_5).symm.trans h
      refine lv_tableIn (tgt := 151) (off := 135) hx hb dX12_register_16 (by rw [c_4_5]; decide) (by rw [c_4_5]; decide) (by rw [c_4_5]; decide) (by decide) ?_
      refine lv_aload_n hx hb dX12_register_151 rfl (lv_at hl 0 rfl) ?_
      refine x_get F hK hW xc_X12 rd_d0 rd_0 9 (by decide) k_5_137 (gf_X12_9 _ _) dX12_register_152 ?_
      refine lv_iload_n hx hb dX12_register_155 rfl (lv_at hl 1 rfl) ?_
      refine x_iald (t0 := 0) F hK hW rd_d10 rd_10 rfl dX12_register_156 h (fun h => ?_)
      exact x_iret F hr hlk hW hS dX12_register_157 h
    replace h := (if_neg c_4_5).symm.trans h
    have hn_4_5 := x_swN (z := 5) c_4_5 hn_4_4 rfl
    by_cases c_4_6 : a2 = (6 : Int32)
    · replace h := (if_pos c_4_6).symm.trans h
      refine lv_tableIn (tgt := 158) (off := 142) hx hb dX12_register_16 (by rw [c_4_6]; decide) (by rw [c_4_6]; decide) (by rw [c_4_6]; decide) (by decide) ?_
      refine lv_aload_n hx hb dX12_register_158 rfl (lv_at hl 0 rfl) ?_
      refine x_get F hK hW xc_X12 rd_d0 rd_0 10 (by decide) k_5_138 (gf_X12_10 _ _) dX12_register_159 ?_
      refine lv_iload_n hx hb dX12_register_162 rfl (lv_at hl 1 rfl) ?_
      refine x_iald (t0 := 0) F hK hW rd_d11 rd_11 rfl dX12_register_163 h (fun h => ?_)
      exact x_iret F hr hlk hW hS dX12_register_164 h
    replace h := (if_neg c_4_6).symm.trans h
    have hn_4_6 := x_swN (z := 6) c_4_6 hn_4_5 rfl
    by_cases c_4_7 : a2 = (7 : Int32)
    · replace h := (if_pos c_4_7).symm.trans h
      refine lv_tableIn (tgt := 165) (off := 149) hx hb dX12_register_16 (by rw [c_4_7]; decide) (by rw [c_4_7]; decide) (by rw [c_4_7]; decide) (by decide) ?_
      refine lv_aload_n hx hb dX12_register_165 rfl (lv_at hl 0 rfl) ?_
      refine x_get F hK hW xc_X12 rd_d0 rd_0 15 (by decide) k_5_143 (gf_X12_15 _ _) dX12_register_166 ?_
      refine lv_iload_n hx hb dX12_register_169 rfl (lv_at hl 1 rfl) ?_
      refine x_zald (t0 := 1) F hK hW rd_d16 rd_16 rfl dX12_register_170 h (fun h => ?_)
      refine lv_if_eq (tgt := 178) hx hb dX12_register_171 (by decide) (fun c_5 => ?_) (fun c_5 => ?_)
      · replace h := (if_pos c_5).symm.trans h
        refine lv_iconst (v := (0 : Int32)) hx hb dX12_register_178 (by decide) ?_
        exact x_iret F hr hlk hW hS dX12_register_179 h
      replace h := (if_neg c_5).symm.trans h
      refine lv_iconst (v := (1 : Int32)) hx hb dX12_register_174 (by decide) ?_
      refine lv_goto (tgt := 179) hx hb dX12_register_175 (by decide) ?_
      exact x_iret F hr hlk hW hS dX12_register_179 h
    replace h := (if_neg c_4_7).symm.trans h
    have hn_4_7 := x_swN (z := 7) c_4_7 hn_4_6 rfl
    by_cases c_4_8 : a2 = (8 : Int32)
    · replace h := (if_pos c_4_8).symm.trans h
      refine lv_tableIn (tgt := 180) (off := 164) hx hb dX12_register_16 (by rw [c_4_8]; decide) (by rw [c_4_8]; decide) (by rw [c_4_8]; decide) (by decide) ?_
      refine lv_aload_n hx hb dX12_register_180 rfl (lv_at hl 0 rfl) ?_
      refine x_get F hK hW xc_X12 rd_d0 rd_0 12 (by decide) k_5_140 (gf_X12_12 _ _) dX12_register_181 ?_
      refine lv_iload_n hx hb dX12_register_184 rfl (lv_at hl 1 rfl) ?_
      refine x_iald (t0 := 0) F hK hW rd_d13 rd_13 rfl dX12_register_185 h (fun h => ?_)
      exact x_iret F hr hlk hW hS dX12_register_186 h
    replace h := (if_neg c_4_8).symm.trans h
    have hn_4_8 := x_swN (z := 8) c_4_8 hn_4_7 rfl
    by_cases c_4_9 : a2 = (9 : Int32)
    · replace h := (if_pos c_4_9).symm.trans h
      refine lv_tableIn (tgt := 187) (off := 171) hx hb dX12_register_16 (by rw [c_4_9]; decide) (by rw [c_4_9]; decide) (by rw [c_4_9]; decide) (by decide) ?_
      refine lv_aload_n hx hb dX12_register_187 rfl (lv_at hl 0 rfl) ?_
      refine x_get F hK hW xc_X12 rd_d0 rd_0 18 (by decide) k_5_146 (gf_X12_18 _ _) dX12_register_188 ?_
      refine lv_iconst (v := (2 : Int32)) hx hb dX12_register_191 (by decide) ?_
      refine lv_iload_n hx hb dX12_register_192 rfl (lv_at hl 1 rfl) ?_
      refine lv_imul hx hb dX12_register_193 ?_
      refine x_iald (t0 := 0) F hK hW rd_d19 rd_19 rfl dX12_register_194 h (fun h => ?_)
      exact x_iret F hr hlk hW hS dX12_register_195 h
    replace h := (if_neg c_4_9).symm.trans h
    have hn_4_9 := x_swN (z := 9) c_4_9 hn_4_8 rfl
    by_cases c_4_10 : a2 = (10 : Int32)
    · replace h := (if_pos c_4_10).symm.trans h
      refine lv_tableIn (tgt := 196) (off := 180) hx hb dX12_register_16 (by rw [c_4_10]; decide) (by rw [c_4_10]; decide) (by rw [c_4_10]; decide) (by decide) ?_
      refine lv_aload_n hx hb dX12_register_196 rfl (lv_at hl 0 rfl) ?_
      refine x_get F hK hW xc_X12 rd_d0 rd_0 19 (by decide) k_5_147 (gf_X12_19 _ _) dX12_register_197 ?_
      refine lv_iconst (v := (2 : Int32)) hx hb dX12_register_200 (by decide) ?_
      refine lv_iload_n hx hb dX12_register_201 rfl (lv_at hl 1 rfl) ?_
      refine lv_imul hx hb dX12_register_202 ?_
      refine x_iald (t0 := 0) F hK hW rd_d20 rd_20 rfl dX12_register_203 h (fun h => ?_)
      exact x_iret F hr hlk hW hS dX12_register_204 h
    replace h := (if_neg c_4_10).symm.trans h
    have hn_4_10 := x_swN (z := 10) c_4_10 hn_4_9 rfl
    by_cases c_4_11 : a2 = (11 : Int32)
    · replace h := (if_pos c_4_11).symm.trans h
      refine lv_tableIn (tgt := 205) (off := 189) hx hb dX12_register_16 (by rw [c_4_11]; decide) (by rw [c_4_11]; decide) (by rw [c_4_11]; decide) (by decide) ?_
      refine lv_aload_n hx hb dX12_register_205 rfl (lv_at hl 0 rfl) ?_
      refine x_get F hK hW xc_X12 rd_d0 rd_0 18 (by decide) k_5_146 (gf_X12_18 _ _) dX12_register_206 ?_
      refine lv_iconst (v := (2 : Int32)) hx hb dX12_register_209 (by decide) ?_
      refine lv_iload_n hx hb dX12_register_210 rfl (lv_at hl 1 rfl) ?_
      refine lv_imul hx hb dX12_register_211 ?_
      refine lv_iconst (v := (1 : Int32)) hx hb dX12_register_212 (by decide) ?_
      refine lv_iadd hx hb dX12_register_213 ?_
      refine x_iald (t0 := 0) F hK hW rd_d19 rd_19 rfl dX12_register_214 h (fun h => ?_)
      exact x_iret F hr hlk hW hS dX12_register_215 h
    replace h := (if_neg c_4_11).symm.trans h
    have hn_4_11 := x_swN (z := 11) c_4_11 hn_4_10 rfl
    by_cases c_4_12 : a2 = (12 : Int32)
    · replace h := (if_pos c_4_12).symm.trans h
      refine lv_tableIn (tgt := 216) (off := 200) hx hb dX12_register_16 (by rw [c_4_12]; decide) (by rw [c_4_12]; decide) (by rw [c_4_12]; decide) (by decide) ?_
      refine lv_aload_n hx hb dX12_register_216 rfl (lv_at hl 0 rfl) ?_
      refine x_get F hK hW xc_X12 rd_d0 rd_0 19 (by decide) k_5_147 (gf_X12_19 _ _) dX12_register_217 ?_
      refine lv_iconst (v := (2 : Int32)) hx hb dX12_register_220 (by decide) ?_
      refine lv_iload_n hx hb dX12_register_221 rfl (lv_at hl 1 rfl) ?_
      refine lv_imul hx hb dX12_register_222 ?_
      refine lv_iconst (v := (1 : Int32)) hx hb dX12_register_223 (by decide) ?_
      refine lv_iadd hx hb dX12_register_224 ?_
      refine x_iald (t0 := 0) F hK hW rd_d20 rd_20 rfl dX12_register_225 h (fun h => ?_)
      exact x_iret F hr hlk hW hS dX12_register_226 h
    replace h := (if_neg c_4_12).symm.trans h
    have hn_4_12 := x_swN (z := 12) c_4_12 hn_4_11 rfl
    by_cases c_4_13 : a2 = (13 : Int32)
    · replace h := (if_pos c_4_13).symm.trans h
      refine lv_tableIn (tgt := 227) (off := 211) hx hb dX12_register_16 (by rw [c_4_13]; decide) (by rw [c_4_13]; decide) (by rw [c_4_13]; decide) (by decide) ?_
      refine lv_aload_n hx hb dX12_register_227 rfl (lv_at hl 0 rfl) ?_
      refine x_get F hK hW xc_X12 rd_d0 rd_0 20 (by decide) k_5_148 (gf_X12_20 _ _) dX12_register_228 ?_
      refine lv_iconst (v := (2 : Int32)) hx hb dX12_register_231 (by decide) ?_
      refine lv_iload_n hx hb dX12_register_232 rfl (lv_at hl 1 rfl) ?_
      refine lv_imul hx hb dX12_register_233 ?_
      refine x_iald (t0 := 0) F hK hW rd_d21 rd_21 rfl dX12_register_234 h (fun h => ?_)
      exact x_iret F hr hlk hW hS dX12_register_235 h
    replace h := (if_neg c_4_13).symm.trans h
    have hn_4_13 := x_swN (z := 13) c_4_13 hn_4_12 rfl
    by_cases c_4_14 : a2 = (14 : Int32)
    · replace h := (if_pos c_4_14).symm.trans h
      refine lv_tableIn (tgt := 236) (off := 220) hx hb dX12_register_16 (by rw [c_4_14]; decide) (by rw [c_4_14]; decide) (by rw [c_4_14]; decide) (by decide) ?_
      refine lv_aload_n hx hb dX12_register_236 rfl (lv_at hl 0 rfl) ?_
      refine x_get F hK hW xc_X12 rd_d0 rd_0 20 (by decide) k_5_148 (gf_X12_20 _ _) dX12_register_237 ?_
      refine lv_iconst (v := (2 : Int32)) hx hb dX12_register_240 (by decide) ?_
      refine lv_iload_n hx hb dX12_register_241 rfl (lv_at hl 1 rfl) ?_
      refine lv_imul hx hb dX12_register_242 ?_
      refine lv_iconst (v := (1 : Int32)) hx hb dX12_register_243 (by decide) ?_
      refine lv_iadd hx hb dX12_register_244 ?_
      refine x_iald (t0 := 0) F hK hW rd_d21 rd_21 rfl dX12_register_245 h (fun h => ?_)
      exact x_iret F hr hlk hW hS dX12_register_246 h
    replace h := (if_neg c_4_14).symm.trans h
    have hn_4_14 := x_swN (z := 14) c_4_14 hn_4_13 rfl
    by_cases c_4_15 : a2 = (15 : Int32)
    · replace h := (if_pos c_4_15).symm.trans h
      refine lv_tableIn (tgt := 247) (off := 231) hx hb dX12_register_16 (by rw [c_4_15]; decide) (by rw [c_4_15]; decide) (by rw [c_4_15]; decide) (by decide) ?_
      refine lv_aload_n hx hb dX12_register_247 rfl (lv_at hl 0 rfl) ?_
      refine x_get F hK hW xc_X12 rd_d0 rd_0 11 (by decide) k_5_139 (gf_X12_11 _ _) dX12_register_248 ?_
      refine lv_iload_n hx hb dX12_register_251 rfl (lv_at hl 1 rfl) ?_
      refine x_iald (t0 := 0) F hK hW rd_d12 rd_12 rfl dX12_register_252 h (fun h => ?_)
      exact x_iret F hr hlk hW hS dX12_register_253 h
    replace h := (if_neg c_4_15).symm.trans h
    have hn_4_15 := x_swN (z := 15) c_4_15 hn_4_14 rfl
    by_cases c_4_16 : a2 = (16 : Int32)
    · replace h := (if_pos c_4_16).symm.trans h
      refine lv_tableIn (tgt := 254) (off := 238) hx hb dX12_register_16 (by rw [c_4_16]; decide) (by rw [c_4_16]; decide) (by rw [c_4_16]; decide) (by decide) ?_
      refine lv_aload_n hx hb dX12_register_254 rfl (lv_at hl 0 rfl) ?_
      refine x_get F hK hW xc_X12 rd_d0 rd_0 29 (by decide) k_5_157 (gf_X12_29 _ _) dX12_register_255 ?_
      refine lv_iload_n hx hb dX12_register_258 rfl (lv_at hl 1 rfl) ?_
      refine x_iald (t0 := 0) F hK hW rd_d30 rd_30 rfl dX12_register_259 h (fun h => ?_)
      exact x_iret F hr hlk hW hS dX12_register_260 h
    replace h := (if_neg c_4_16).symm.trans h
    have hn_4_16 := x_swN (z := 16) c_4_16 hn_4_15 rfl
    by_cases c_4_17 : a2 = (17 : Int32)
    · replace h := (if_pos c_4_17).symm.trans h
      refine lv_tableIn (tgt := 261) (off := 245) hx hb dX12_register_16 (by rw [c_4_17]; decide) (by rw [c_4_17]; decide) (by rw [c_4_17]; decide) (by decide) ?_
      refine lv_aload_n hx hb dX12_register_261 rfl (lv_at hl 0 rfl) ?_
      refine x_get F hK hW xc_X12 rd_d0 rd_0 21 (by decide) k_5_149 (gf_X12_21 _ _) dX12_register_262 ?_
      refine lv_iload_n hx hb dX12_register_265 rfl (lv_at hl 1 rfl) ?_
      refine x_zald (t0 := 1) F hK hW rd_d22 rd_22 rfl dX12_register_266 h (fun h => ?_)
      refine lv_if_eq (tgt := 274) hx hb dX12_register_267 (by decide) (fun c_6 => ?_) (fun c_6 => ?_)
      · replace h := (if_pos c_6).symm.trans h
        refine lv_iconst (v := (0 : Int32)) hx hb dX12_register_274 (by decide) ?_
        exact x_iret F hr hlk hW hS dX12_register_275 h
      replace h := (if_neg c_6).symm.trans h
      refine lv_iconst (v := (1 : Int32)) hx hb dX12_register_270 (by decide) ?_
      refine lv_goto (tgt := 275) hx hb dX12_register_271 (by decide) ?_
      exact x_iret F hr hlk hW hS dX12_register_275 h
    replace h := (if_neg c_4_17).symm.trans h
    have hn_4_17 := x_swN (z := 17) c_4_17 hn_4_16 rfl
    by_cases c_4_18 : a2 = (18 : Int32)
    · replace h := (if_pos c_4_18).symm.trans h
      refine lv_tableIn (tgt := 276) (off := 260) hx hb dX12_register_16 (by rw [c_4_18]; decide) (by rw [c_4_18]; decide) (by rw [c_4_18]; decide) (by decide) ?_
      refine lv_aload_n hx hb dX12_register_276 rfl (lv_at hl 0 rfl) ?_
      refine x_get F hK hW xc_X12 rd_d0 rd_0 51 (by decide) k_5_179 (gf_X12_51 _ _) dX12_register_277 ?_
      refine lv_iload_n hx hb dX12_register_280 rfl (lv_at hl 1 rfl) ?_
      refine x_zald (t0 := 1) F hK hW rd_d52 rd_52 rfl dX12_register_281 h (fun h => ?_)
      refine lv_if_eq (tgt := 289) hx hb dX12_register_282 (by decide) (fun c_7 => ?_) (fun c_7 => ?_)
      · replace h := (if_pos c_7).symm.trans h
        refine lv_iconst (v := (0 : Int32)) hx hb dX12_register_289 (by decide) ?_
        exact x_iret F hr hlk hW hS dX12_register_290 h
      replace h := (if_neg c_7).symm.trans h
      refine lv_iconst (v := (1 : Int32)) hx hb dX12_register_285 (by decide) ?_
      refine lv_goto (tgt := 290) hx hb dX12_register_286 (by decide) ?_
      exact x_iret F hr hlk hW hS dX12_register_290 h
    replace h := (if_neg c_4_18).symm.trans h
    have hn_4_18 := x_swN (z := 18) c_4_18 hn_4_17 rfl
    by_cases c_4_19 : a2 = (19 : Int32)
    · replace h := (if_pos c_4_19).symm.trans h
      refine lv_tableIn (tgt := 291) (off := 275) hx hb dX12_register_16 (by rw [c_4_19]; decide) (by rw [c_4_19]; decide) (by rw [c_4_19]; decide) (by decide) ?_
      refine lv_aload_n hx hb dX12_register_291 rfl (lv_at hl 0 rfl) ?_
      refine x_get F hK hW xc_X12 rd_d0 rd_0 14 (by decide) k_5_142 (gf_X12_14 _ _) dX12_register_292 ?_
      refine lv_iload_n hx hb dX12_register_295 rfl (lv_at hl 1 rfl) ?_
      refine x_iald (t0 := 0) F hK hW rd_d15 rd_15 rfl dX12_register_296 h (fun h => ?_)
      exact x_iret F hr hlk hW hS dX12_register_297 h
    replace h := (if_neg c_4_19).symm.trans h
    have hn_4_19 := x_swN (z := 19) c_4_19 hn_4_18 rfl
    by_cases c_4_20 : a2 = (20 : Int32)
    · replace h := (if_pos c_4_20).symm.trans h
      refine lv_tableIn (tgt := 298) (off := 282) hx hb dX12_register_16 (by rw [c_4_20]; decide) (by rw [c_4_20]; decide) (by rw [c_4_20]; decide) (by decide) ?_
      refine lv_aload_n hx hb dX12_register_298 rfl (lv_at hl 0 rfl) ?_
      refine x_get F hK hW xc_X12 rd_d0 rd_0 13 (by decide) k_5_141 (gf_X12_13 _ _) dX12_register_299 ?_
      refine lv_iload_n hx hb dX12_register_302 rfl (lv_at hl 1 rfl) ?_
      refine x_iald (t0 := 0) F hK hW rd_d14 rd_14 rfl dX12_register_303 h (fun h => ?_)
      exact x_iret F hr hlk hW hS dX12_register_304 h
    replace h := (if_neg c_4_20).symm.trans h
    have hn_4_20 := x_swN (z := 20) c_4_20 hn_4_19 rfl
    refine x_tblD (tgt := 305) hx hb dX12_register_16 hn_4_20 (by decide) (by decide) (by decide) ?_
    refine lv_bipush (v := (-2 : Int32)) hx hb dX12_register_305 (by decide) ?_
    exact x_iret F hr hlk hW hS dX12_register_307 h
  replace h := (if_pos c_3).symm.trans h
  refine lv_iconst (v := (-1 : Int32)) hx hb dX12_register_13 (by decide) ?_
  exact x_iret F hr hlk hW hS dX12_register_14 h
