/-! X12_others -/
def r_others_b704 (v1 : Int32) (t0 : Int32) (t1 : Int32) (S : xS) : Option (Int32 × xS) := (r_push  S t1 t0).bind (fun S39 => gd v1 8 (xnm (sI S39 0 16 (v1).toNatClampNeg (vp_nar .boolean (0 : Int32))) (fun S40 => some ((1 : Int32), S40))))
set_option maxHeartbeats 4000000 in
set_option maxRecDepth 100000 in
theorem m_r_others_b704 {l : Launch} {D : va_G} {cI cZ cB : ClassId} {ad : Nat → Nat → Nat} (hI : xInj rDom ad) {p : Program} {e : Env} {s : State} {m : MethodId} {args : Array Value} {below : List Frame} {meth : Method} {c : Code} (F : CallFix p m c cX12_others 8 s args (Cond.code yX12_others cX12_others 8 (some .boolean) :: xG) (yX12_others).cls) (hr : meth.sig.returnType = (some .boolean)) (hlk : meth.locks = false) (hK : xK D vwCl (rTy cI cZ cB) [] [] s) {o : Int32 × xS} (v1 : Int32) (t0 : Int32) (t1 : Int32) (S : xS) {H : Heap} {locs : List Loc} {ls : Array Slot} (h : r_others_b704 v1 t0 t1 S = some o) (hW : xW D vwCl rDom ad (rDe ad cI cZ cB) S H) (hS : va_S (xA rDom ad) s.heap H locs) (hl : lv_has ls 8 [(0, .ref (ad 0 0)), (1, .int v1)]) : W p l e { frames := 5, cells := 0, slots := 0, locals := 117 } s m args below meth c H locs 0 0 (MQ below (xQ D vwCl rDom ad (rDe ad cI cZ cB) (some (.int o.1)) o.2) args s 0 0 (xA rDom ad)) (F0 m 704 ls [.int t0, .int t1, .ref (ad 0 0)]) := by
  have hx := F.1
  have hb := F.2.1
  unfold r_others_b704 at h
  refine x_cVv (As := [.int t1, .int t0]) F xG_ok hK hW hS um_X12_push k_7_102 (fun _ h1 => m_r_push hI _ _ h1) rfl rd_d0 rd_0 rfl rfl hl.1 rfl rfl ⟨Nat.le_of_ble_eq_true rfl, Nat.le_of_ble_eq_true rfl⟩ ⟨Nat.zero_le _, Nat.zero_le _⟩ (Nat.le_of_ble_eq_true rfl) dX12_others_704 h (fun S39 H locs hW hS h => ?_)
  refine lv_aload_n hx hb dX12_others_707 rfl (lv_at hl 0 rfl) ?_
  refine x_get F hK hW xc_X12 rd_d0 rd_0 15 (by decide) k_5_143 (gf_X12_15 _ _) dX12_others_708 ?_
  refine lv_iload_n hx hb dX12_others_711 rfl (lv_at hl 1 rfl) ?_
  refine lv_iconst (v := (0 : Int32)) hx hb dX12_others_712 (by decide) ?_
  refine x_zast (t0 := 1) F hK hI hW hS rd_d16 rd_16 rfl dX12_others_713 h (fun S40 H locs hW hS h => ?_)
  refine lv_iconst (v := (1 : Int32)) hx hb dX12_others_714 (by decide) ?_
  exact x_zret F hr hlk hW hS rfl dX12_others_715 h
def r_others  (S : xS) (a1 : Int32) (a2 : Int32) (a3 : Int32) (a4 : Int32) (a5 : Int32) : Option (Int32 × xS) := if a2 = (3 : Int32) then ((r_ends  S a1 a3).bind (fun (r_2, S2) => gz r_2 (some (r_2, S2)))) else (if a2 = (13 : Int32) then (gd a1 8 ((r_wordTo  S a1 (a3 - (2 : Int32)) ((xI S 0 9 (a1).toNatClampNeg) + a4)).bind (fun S3 => gd a1 8 ((r_ready  S3 a1 ((a3 &&& (65534 : Int32)) ||| (xI S3 0 11 (a1).toNatClampNeg))).bind (fun S4 => (r_popped  S4 a1 (2 : Int32)).bind (fun (r_5, S5) => gz r_5 (some (r_5, S5)))))))) else (if a2 = (16 : Int32) then ((r_fails  S a1 (1 : Int32)).bind (fun (r_6, S6) => gz r_6 (some (r_6, S6)))) else (if a2 = (19 : Int32) then (if a4 < a3 then ((r_fails  S a1 (0 : Int32)).bind (fun (r_8, S8) => (r_popped  S8 a1 (1 : Int32)).bind (fun (r_9, S9) => gz r_9 (some (r_9, S9))))) else ((r_fails  S a1 (1 : Int32)).bind (fun (r_10, S10) => (r_popped  S10 a1 (1 : Int32)).bind (fun (r_11, S11) => gz r_11 (some (r_11, S11)))))) else (if a2 = (21 : Int32) then ((r_waits  S a1).bind (fun S12 => some ((1 : Int32), S12))) else (if a2 = (23 : Int32) then (gd (((2 : Int32) * a1) + (1 : Int32)) 16 (xnm (sI S 0 20 ((((2 : Int32) * a1) + (1 : Int32))).toNatClampNeg (a3 &&& (65534 : Int32))) (fun S13 => (r_popped  S13 a1 (1 : Int32)).bind (fun (r_14, S14) => gz r_14 (some (r_14, S14)))))) else (if a2 = (24 : Int32) then (gd ((2 : Int32) * a1) 16 (xnm (sI S 0 19 (((2 : Int32) * a1)).toNatClampNeg (a3 &&& (65534 : Int32))) (fun S15 => (r_popped  S15 a1 (1 : Int32)).bind (fun (r_16, S16) => gz r_16 (some (r_16, S16)))))) else (if a2 = (25 : Int32) then ((r_norm  S a1 ((jlshl (a4.toInt64) (16 : Int32)) ||| (a3.toInt64))).bind (fun (r_17, S17) => gz r_17 (some (r_17, S17)))) else (if a2 = (26 : Int32) then (if a5 < a3 then (gq (¬ (a3.toInt64) = 0) (gd a1 8 (xnm (sI S 0 5 (a1).toNatClampNeg ((((jlshl (a5.toInt64) (16 : Int32)) ||| (a4.toInt64)) / (a3.toInt64)).toInt32)) (fun S20 => gq (¬ (a3.toInt64) = 0) (gd a1 8 (xnm (sI S20 0 6 (a1).toNatClampNeg ((jlrem ((jlshl (a5.toInt64) (16 : Int32)) ||| (a4.toInt64)) (a3.toInt64)).toInt32)) (fun S22 => some ((1 : Int32), S22)))))))) else ((r_fails  S a1 (1 : Int32)).bind (fun (r_23, S23) => gz r_23 (some (r_23, S23))))) else (if a2 = (27 : Int32) then (gd a1 8 (gd a1 8 (xnm (sI S 0 5 (a1).toNatClampNeg ((a3 + (xI S 0 9 (a1).toNatClampNeg)) &&& (65535 : Int32))) (fun S24 => some ((1 : Int32), S24))))) else (if a2 = (28 : Int32) then (gd (((2 : Int32) * a1) + (1 : Int32)) 16 (xnm (sI S 0 19 ((((2 : Int32) * a1) + (1 : Int32))).toNatClampNeg (a3 &&& (65534 : Int32))) (fun S25 => (r_popped  S25 a1 (1 : Int32)).bind (fun (r_26, S26) => gz r_26 (some (r_26, S26)))))) else (if a2 = (29 : Int32) then (gd a1 8 (xnm (sI S 0 7 (a1).toNatClampNeg a4) (fun S27 => (r_signed a3).bind (fun r_28 => if 0 ≤ r_28 then (gd a1 8 (xnm (sI S27 0 6 (a1).toNatClampNeg (0 : Int32)) (fun S30 => some ((1 : Int32), S30)))) else (gd a1 8 (xnm (sI S27 0 6 (a1).toNatClampNeg (65535 : Int32)) (fun S31 => some ((1 : Int32), S31)))))))) else (if a2 = (30 : Int32) then (gd a1 8 ((r_push  S a1 (xI S 0 11 (a1).toNatClampNeg)).bind (fun S32 => some ((1 : Int32), S32)))) else (if a2 = (32 : Int32) then (gd a1 8 ((r_word  S a1 (xI S 0 10 (a1).toNatClampNeg)).bind (fun (r_33, S33) => gd a1 8 (xnm (sI S33 0 9 (a1).toNatClampNeg r_33) (fun S34 => gd a1 8 (gd a1 8 (xnm (sI S34 0 10 (a1).toNatClampNeg (((xI S34 0 10 (a1).toNatClampNeg) + (8 : Int32)) &&& (65535 : Int32))) (fun S35 => some ((1 : Int32), S35))))))))) else (if a2 = (33 : Int32) then ((r_loops  S a1 a3 a4).bind (fun (r_36, S36) => gz r_36 (some (r_36, S36)))) else (if a2 = (34 : Int32) then (gd a1 8 (gd (((2 : Int32) * a1) + (xI S 0 11 (a1).toNatClampNeg)) 16 ((r_push  S a1 (xI S 0 21 ((((2 : Int32) * a1) + (xI S 0 11 (a1).toNatClampNeg))).toNatClampNeg)).bind (fun S37 => some ((1 : Int32), S37))))) else (if a2 = (41 : Int32) then (gd a1 8 (if (xI S 0 16 (a1).toNatClampNeg) = 0 then (r_others_b704  a1 (1 : Int32) a1 S) else (r_others_b704  a1 (0 : Int32) a1 S))) else (if a2 = (49 : Int32) then ((r_pair  S a1 (((a3.toInt64) * (a4.toInt64)) + (a5.toInt64))).bind (fun (r_41, S41) => gz r_41 (some (r_41, S41)))) else (if a2 = (50 : Int32) then (gd a1 8 (xnm (sI S 0 5 (a1).toNatClampNeg ((65535 : Int32) - a3)) (fun S42 => some ((1 : Int32), S42)))) else (if a2 = (52 : Int32) then (gd a1 8 (xnm (sI S 0 5 (a1).toNatClampNeg (((2 : Int32) * a3) &&& (65535 : Int32))) (fun S43 => some ((1 : Int32), S43)))) else (if a2 = (53 : Int32) then (if a3 ≤ (31 : Int32) then ((r_pair  S a1 (jlshr ((jlshl (a5.toInt64) (16 : Int32)) ||| (a4.toInt64)) a3)).bind (fun (r_45, S45) => gz r_45 (some (r_45, S45)))) else ((r_pair  S a1 (0 : Int64)).bind (fun (r_46, S46) => gz r_46 (some (r_46, S46))))) else (if a2 = (54 : Int32) then (if a3 ≤ (31 : Int32) then ((r_pair  S a1 (jlshl ((jlshl (a5.toInt64) (16 : Int32)) ||| (a4.toInt64)) a3)).bind (fun (r_48, S48) => gz r_48 (some (r_48, S48)))) else ((r_pair  S a1 (0 : Int64)).bind (fun (r_49, S49) => gz r_49 (some (r_49, S49))))) else (if a2 = (55 : Int32) then ((r_pair  S a1 (((a3.toInt64) + (a4.toInt64)) + ((a5 &&& (1 : Int32)).toInt64))).bind (fun (r_50, S50) => gz r_50 (some (r_50, S50)))) else (if a2 = (80 : Int32) then (gd ((2 : Int32) * a1) 16 (xnm (sI S 0 20 (((2 : Int32) * a1)).toNatClampNeg (a3 &&& (65534 : Int32))) (fun S51 => (r_popped  S51 a1 (1 : Int32)).bind (fun (r_52, S52) => gz r_52 (some (r_52, S52)))))) else ((r_more  S a1 a2 a3 a4 a5).bind (fun (r_53, S53) => gz r_53 (some (r_53, S53)))))))))))))))))))))))))))
set_option maxHeartbeats 4000000 in
set_option maxRecDepth 100000 in
theorem m_r_others {l : Launch} {D : va_G} {cI cZ cB : ClassId} {ad : Nat → Nat → Nat} (hI : xInj rDom ad) {S : xS} (a1 : Int32) (a2 : Int32) (a3 : Int32) (a4 : Int32) (a5 : Int32) {o : Int32 × xS} (h : r_others  S a1 a2 a3 a4 a5 = some o) : Met l yX12_others (Cond.code yX12_others cX12_others 8 (some .boolean) :: xG) { frames := 5, cells := 0, slots := 0, locals := 117 } (xPc D vwCl (rTy cI cZ cB) [] [] rDom ad (rDe ad cI cZ cB) [.ref (ad 0 0), .int a1, .int a2, .int a3, .int a4, .int a5] S) (xQ D vwCl rDom ad (rDe ad cI cZ cB) (some (.int o.1)) o.2) 0 0 (xA rDom ad) := by
  unfold r_others at h
  refine x_enter (by decide) (Nat.le_of_ble_eq_true rfl) (fun p e s m below meth c F hr hlk hK hW hS ls hl => ?_)
  have hl : lv_has ls 8 [(0, .ref (ad 0 0)), (1, .int a1), (2, .int a2), (3, .int a3), (4, .int a4), (5, .int a5)] := hl
  have hx := F.1
  have hb := F.2.1
  refine lv_iload_n hx hb dX12_others_0 rfl (lv_at hl 2 rfl) ?_
  by_cases c_1_3 : a2 = (3 : Int32)
  · replace h := (if_pos c_1_3).symm.trans h
    refine lv_tableIn (tgt := 328) (off := 327) hx hb dX12_others_1 (by rw [c_1_3]; decide) (by rw [c_1_3]; decide) (by rw [c_1_3]; decide) (by decide) ?_
    refine lv_aload_n hx hb dX12_others_328 rfl (lv_at hl 0 rfl) ?_
    refine lv_iload_n hx hb dX12_others_329 rfl (lv_at hl 1 rfl) ?_
    refine lv_iload_n hx hb dX12_others_330 rfl (lv_at hl 3 rfl) ?_
    refine x_cVi (As := [.int a1, .int a3]) F xG_ok hK hW hS um_X12_ends k_7_85 (fun _ h1 => m_r_ends hI _ _ h1) rfl rd_d0 rd_0 rfl rfl hl.1 rfl rfl ⟨Nat.le_of_ble_eq_true rfl, Nat.le_of_ble_eq_true rfl⟩ ⟨Nat.zero_le _, Nat.zero_le _⟩ (Nat.le_of_ble_eq_true rfl) dX12_others_331 h (fun r_2 S2 H locs hW hS h => ?_)
    obtain ⟨hz, h⟩ := gz_use h
    exact x_zret F hr hlk hW hS (z_nar hz) dX12_others_334 h
  replace h := (if_neg c_1_3).symm.trans h
  have hn_1_3 := x_swN (z := 3) c_1_3 x_sw0 rfl
  by_cases c_1_13 : a2 = (13 : Int32)
  · replace h := (if_pos c_1_13).symm.trans h
    refine lv_tableIn (tgt := 335) (off := 334) hx hb dX12_others_1 (by rw [c_1_13]; decide) (by rw [c_1_13]; decide) (by rw [c_1_13]; decide) (by decide) ?_
    refine lv_aload_n hx hb dX12_others_335 rfl (lv_at hl 0 rfl) ?_
    refine lv_iload_n hx hb dX12_others_336 rfl (lv_at hl 1 rfl) ?_
    refine lv_iload_n hx hb dX12_others_337 rfl (lv_at hl 3 rfl) ?_
    refine lv_iconst (v := (2 : Int32)) hx hb dX12_others_338 (by decide) ?_
    refine lv_isub hx hb dX12_others_339 ?_
    refine lv_aload_n hx hb dX12_others_340 rfl (lv_at hl 0 rfl) ?_
    refine x_get F hK hW xc_X12 rd_d0 rd_0 8 (by decide) k_5_136 (gf_X12_8 _ _) dX12_others_341 ?_
    refine lv_iload_n hx hb dX12_others_344 rfl (lv_at hl 1 rfl) ?_
    refine x_iald (t0 := 0) F hK hW rd_d9 rd_9 rfl dX12_others_345 h (fun h => ?_)
    refine lv_iload hx hb dX12_others_346 (lv_at hl 4 rfl) ?_
    refine lv_iadd hx hb dX12_others_348 ?_
    refine x_cVv (As := [.int a1, .int (a3 - (2 : Int32)), .int ((xI S 0 9 (a1).toNatClampNeg) + a4)]) F xG_ok hK hW hS um_X12_wordTo k_6_137 (fun _ h1 => m_r_wordTo hI _ _ _ h1) rfl rd_d0 rd_0 rfl rfl hl.1 rfl rfl ⟨Nat.le_of_ble_eq_true rfl, Nat.le_of_ble_eq_true rfl⟩ ⟨Nat.zero_le _, Nat.zero_le _⟩ (Nat.le_of_ble_eq_true rfl) dX12_others_349 h (fun S3 H locs hW hS h => ?_)
    refine lv_aload_n hx hb dX12_others_352 rfl (lv_at hl 0 rfl) ?_
    refine lv_iload_n hx hb dX12_others_353 rfl (lv_at hl 1 rfl) ?_
    refine lv_iload_n hx hb dX12_others_354 rfl (lv_at hl 3 rfl) ?_
    refine lv_ldc (v := (65534 : Int32)) hx hb F.2.2.2.1 (x_hts F _ k_6_103) dX12_others_355 ?_
    refine lv_iand hx hb dX12_others_357 ?_
    refine lv_aload_n hx hb dX12_others_358 rfl (lv_at hl 0 rfl) ?_
    refine x_get F hK hW xc_X12 rd_d0 rd_0 10 (by decide) k_5_138 (gf_X12_10 _ _) dX12_others_359 ?_
    refine lv_iload_n hx hb dX12_others_362 rfl (lv_at hl 1 rfl) ?_
    refine x_iald (t0 := 0) F hK hW rd_d11 rd_11 rfl dX12_others_363 h (fun h => ?_)
    refine lv_ior hx hb dX12_others_364 ?_
    refine x_cVv (As := [.int a1, .int ((a3 &&& (65534 : Int32)) ||| (xI S3 0 11 (a1).toNatClampNeg))]) F xG_ok hK hW hS um_X12_ready k_6_133 (fun _ h1 => m_r_ready hI _ _ h1) rfl rd_d0 rd_0 rfl rfl hl.1 rfl rfl ⟨Nat.le_of_ble_eq_true rfl, Nat.le_of_ble_eq_true rfl⟩ ⟨Nat.zero_le _, Nat.zero_le _⟩ (Nat.le_of_ble_eq_true rfl) dX12_others_365 h (fun S4 H locs hW hS h => ?_)
    refine lv_aload_n hx hb dX12_others_368 rfl (lv_at hl 0 rfl) ?_
    refine lv_iload_n hx hb dX12_others_369 rfl (lv_at hl 1 rfl) ?_
    refine lv_iconst (v := (2 : Int32)) hx hb dX12_others_370 (by decide) ?_
    refine x_cVi (As := [.int a1, .int (2 : Int32)]) F xG_ok hK hW hS um_X12_popped k_7_13 (fun _ h1 => m_r_popped hI _ _ h1) rfl rd_d0 rd_0 rfl rfl hl.1 rfl rfl ⟨Nat.le_of_ble_eq_true rfl, Nat.le_of_ble_eq_true rfl⟩ ⟨Nat.zero_le _, Nat.zero_le _⟩ (Nat.le_of_ble_eq_true rfl) dX12_others_371 h (fun r_5 S5 H locs hW hS h => ?_)
    obtain ⟨hz, h⟩ := gz_use h
    exact x_zret F hr hlk hW hS (z_nar hz) dX12_others_374 h
  replace h := (if_neg c_1_13).symm.trans h
  have hn_1_13 := x_swN (z := 13) c_1_13 hn_1_3 rfl
  by_cases c_1_16 : a2 = (16 : Int32)
  · replace h := (if_pos c_1_16).symm.trans h
    refine lv_tableIn (tgt := 375) (off := 374) hx hb dX12_others_1 (by rw [c_1_16]; decide) (by rw [c_1_16]; decide) (by rw [c_1_16]; decide) (by decide) ?_
    refine lv_aload_n hx hb dX12_others_375 rfl (lv_at hl 0 rfl) ?_
    refine lv_iload_n hx hb dX12_others_376 rfl (lv_at hl 1 rfl) ?_
    refine lv_iconst (v := (1 : Int32)) hx hb dX12_others_377 (by decide) ?_
    refine x_cVi (As := [.int a1, .int (1 : Int32)]) F xG_ok hK hW hS um_X12_fails k_7_89 (fun _ h1 => m_r_fails hI _ _ h1) rfl rd_d0 rd_0 rfl rfl hl.1 rfl rfl ⟨Nat.le_of_ble_eq_true rfl, Nat.le_of_ble_eq_true rfl⟩ ⟨Nat.zero_le _, Nat.zero_le _⟩ (Nat.le_of_ble_eq_true rfl) dX12_others_378 h (fun r_6 S6 H locs hW hS h => ?_)
    obtain ⟨hz, h⟩ := gz_use h
    exact x_zret F hr hlk hW hS (z_nar hz) dX12_others_381 h
  replace h := (if_neg c_1_16).symm.trans h
  have hn_1_16 := x_swN (z := 16) c_1_16 hn_1_13 rfl
  by_cases c_1_19 : a2 = (19 : Int32)
  · replace h := (if_pos c_1_19).symm.trans h
    refine lv_tableIn (tgt := 382) (off := 381) hx hb dX12_others_1 (by rw [c_1_19]; decide) (by rw [c_1_19]; decide) (by rw [c_1_19]; decide) (by decide) ?_
    refine lv_aload_n hx hb dX12_others_382 rfl (lv_at hl 0 rfl) ?_
    refine lv_iload_n hx hb dX12_others_383 rfl (lv_at hl 1 rfl) ?_
    refine lv_iload hx hb dX12_others_384 (lv_at hl 4 rfl) ?_
    refine lv_iload_n hx hb dX12_others_386 rfl (lv_at hl 3 rfl) ?_
    refine lv_icmp_lt (tgt := 394) hx hb dX12_others_387 (by decide) (fun c_7 => ?_) (fun c_7 => ?_)
    · replace h := (if_pos c_7).symm.trans h
      refine lv_iconst (v := (0 : Int32)) hx hb dX12_others_394 (by decide) ?_
      refine x_cVi (As := [.int a1, .int (0 : Int32)]) F xG_ok hK hW hS um_X12_fails k_7_89 (fun _ h1 => m_r_fails hI _ _ h1) rfl rd_d0 rd_0 rfl rfl hl.1 rfl rfl ⟨Nat.le_of_ble_eq_true rfl, Nat.le_of_ble_eq_true rfl⟩ ⟨Nat.zero_le _, Nat.zero_le _⟩ (Nat.le_of_ble_eq_true rfl) dX12_others_395 h (fun r_8 S8 H locs hW hS h => ?_)
      refine lv_pop hx hb dX12_others_398 rfl ?_
      refine lv_aload_n hx hb dX12_others_399 rfl (lv_at hl 0 rfl) ?_
      refine lv_iload_n hx hb dX12_others_400 rfl (lv_at hl 1 rfl) ?_
      refine lv_iconst (v := (1 : Int32)) hx hb dX12_others_401 (by decide) ?_
      refine x_cVi (As := [.int a1, .int (1 : Int32)]) F xG_ok hK hW hS um_X12_popped k_7_13 (fun _ h1 => m_r_popped hI _ _ h1) rfl rd_d0 rd_0 rfl rfl hl.1 rfl rfl ⟨Nat.le_of_ble_eq_true rfl, Nat.le_of_ble_eq_true rfl⟩ ⟨Nat.zero_le _, Nat.zero_le _⟩ (Nat.le_of_ble_eq_true rfl) dX12_others_402 h (fun r_9 S9 H locs hW hS h => ?_)
      obtain ⟨hz, h⟩ := gz_use h
      exact x_zret F hr hlk hW hS (z_nar hz) dX12_others_405 h
    replace h := (if_neg c_7).symm.trans h
    refine lv_iconst (v := (1 : Int32)) hx hb dX12_others_390 (by decide) ?_
    refine lv_goto (tgt := 395) hx hb dX12_others_391 (by decide) ?_
    refine x_cVi (As := [.int a1, .int (1 : Int32)]) F xG_ok hK hW hS um_X12_fails k_7_89 (fun _ h1 => m_r_fails hI _ _ h1) rfl rd_d0 rd_0 rfl rfl hl.1 rfl rfl ⟨Nat.le_of_ble_eq_true rfl, Nat.le_of_ble_eq_true rfl⟩ ⟨Nat.zero_le _, Nat.zero_le _⟩ (Nat.le_of_ble_eq_true rfl) dX12_others_395 h (fun r_10 S10 H locs hW hS h => ?_)
    refine lv_pop hx hb dX12_others_398 rfl ?_
    refine lv_aload_n hx hb dX12_others_399 rfl (lv_at hl 0 rfl) ?_
    refine lv_iload_n hx hb dX12_others_400 rfl (lv_at hl 1 rfl) ?_
    refine lv_iconst (v := (1 : Int32)) hx hb dX12_others_401 (by decide) ?_
    refine x_cVi (As := [.int a1, .int (1 : Int32)]) F xG_ok hK hW hS um_X12_popped k_7_13 (fun _ h1 => m_r_popped hI _ _ h1) rfl rd_d0 rd_0 rfl rfl hl.1 rfl rfl ⟨Nat.le_of_ble_eq_true rfl, Nat.le_of_ble_eq_true rfl⟩ ⟨Nat.zero_le _, Nat.zero_le _⟩ (Nat.le_of_ble_eq_true rfl) dX12_others_402 h (fun r_11 S11 H locs hW hS h => ?_)
    obtain ⟨hz, h⟩ := gz_use h
    exact x_zret F hr hlk hW hS (z_nar hz) dX12_others_405 h
  replace h := (if_neg c_1_19).symm.trans h
  have hn_1_19 := x_swN (z := 19) c_1_19 hn_1_16 rfl
  by_cases c_1_21 : a2 = (21 : Int32)
  · replace h := (if_pos c_1_21).symm.trans h
    refine lv_tableIn (tgt := 406) (off := 405) hx hb dX12_others_1 (by rw [c_1_21]; decide) (by rw [c_1_21]; decide) (by rw [c_1_21]; decide) (by decide) ?_
    refine lv_aload_n hx hb dX12_others_406 rfl (lv_at hl 0 rfl) ?_
    refine lv_iload_n hx hb dX12_others_407 rfl (lv_at hl 1 rfl) ?_
    refine x_cVv (As := [.int a1]) F xG_ok hK hW hS um_X12_waits k_7_25 (fun _ h1 => m_r_waits hI _ h1) rfl rd_d0 rd_0 rfl rfl hl.1 rfl rfl ⟨Nat.le_of_ble_eq_true rfl, Nat.le_of_ble_eq_true rfl⟩ ⟨Nat.zero_le _, Nat.zero_le _⟩ (Nat.le_of_ble_eq_true rfl) dX12_others_408 h (fun S12 H locs hW hS h => ?_)
    refine lv_iconst (v := (1 : Int32)) hx hb dX12_others_411 (by decide) ?_
    exact x_zret F hr hlk hW hS rfl dX12_others_412 h
  replace h := (if_neg c_1_21).symm.trans h
  have hn_1_21 := x_swN (z := 21) c_1_21 hn_1_19 rfl
  by_cases c_1_23 : a2 = (23 : Int32)
  · replace h := (if_pos c_1_23).symm.trans h
    refine lv_tableIn (tgt := 413) (off := 412) hx hb dX12_others_1 (by rw [c_1_23]; decide) (by rw [c_1_23]; decide) (by rw [c_1_23]; decide) (by decide) ?_
    refine lv_aload_n hx hb dX12_others_413 rfl (lv_at hl 0 rfl) ?_
    refine x_get F hK hW xc_X12 rd_d0 rd_0 19 (by decide) k_5_147 (gf_X12_19 _ _) dX12_others_414 ?_
    refine lv_iconst (v := (2 : Int32)) hx hb dX12_others_417 (by decide) ?_
    refine lv_iload_n hx hb dX12_others_418 rfl (lv_at hl 1 rfl) ?_
    refine lv_imul hx hb dX12_others_419 ?_
    refine lv_iconst (v := (1 : Int32)) hx hb dX12_others_420 (by decide) ?_
    refine lv_iadd hx hb dX12_others_421 ?_
    refine lv_iload_n hx hb dX12_others_422 rfl (lv_at hl 3 rfl) ?_
    refine lv_ldc (v := (65534 : Int32)) hx hb F.2.2.2.1 (x_hts F _ k_6_103) dX12_others_423 ?_
    refine lv_iand hx hb dX12_others_425 ?_
    refine x_iast (t0 := 0) F hK hI hW hS rd_d20 rd_20 rfl dX12_others_426 h (fun S13 H locs hW hS h => ?_)
    refine lv_aload_n hx hb dX12_others_427 rfl (lv_at hl 0 rfl) ?_
    refine lv_iload_n hx hb dX12_others_428 rfl (lv_at hl 1 rfl) ?_
    refine lv_iconst (v := (1 : Int32)) hx hb dX12_others_429 (by decide) ?_
    refine x_cVi (As := [.int a1, .int (1 : Int32)]) F xG_ok hK hW hS um_X12_popped k_7_13 (fun _ h1 => m_r_popped hI _ _ h1) rfl rd_d0 rd_0 rfl rfl hl.1 rfl rfl ⟨Nat.le_of_ble_eq_true rfl, Nat.le_of_ble_eq_true rfl⟩ ⟨Nat.zero_le _, Nat.zero_le _⟩ (Nat.le_of_ble_eq_true rfl) dX12_others_430 h (fun r_14 S14 H locs hW hS h => ?_)
    obtain ⟨hz, h⟩ := gz_use h
    exact x_zret F hr hlk hW hS (z_nar hz) dX12_others_433 h
  replace h := (if_neg c_1_23).symm.trans h
  have hn_1_23 := x_swN (z := 23) c_1_23 hn_1_21 rfl
  by_cases c_1_24 : a2 = (24 : Int32)
  · replace h := (if_pos c_1_24).symm.trans h
    refine lv_tableIn (tgt := 434) (off := 433) hx hb dX12_others_1 (by rw [c_1_24]; decide) (by rw [c_1_24]; decide) (by rw [c_1_24]; decide) (by decide) ?_
    refine lv_aload_n hx hb dX12_others_434 rfl (lv_at hl 0 rfl) ?_
    refine x_get F hK hW xc_X12 rd_d0 rd_0 18 (by decide) k_5_146 (gf_X12_18 _ _) dX12_others_435 ?_
    refine lv_iconst (v := (2 : Int32)) hx hb dX12_others_438 (by decide) ?_
    refine lv_iload_n hx hb dX12_others_439 rfl (lv_at hl 1 rfl) ?_
    refine lv_imul hx hb dX12_others_440 ?_
    refine lv_iload_n hx hb dX12_others_441 rfl (lv_at hl 3 rfl) ?_
    refine lv_ldc (v := (65534 : Int32)) hx hb F.2.2.2.1 (x_hts F _ k_6_103) dX12_others_442 ?_
    refine lv_iand hx hb dX12_others_444 ?_
    refine x_iast (t0 := 0) F hK hI hW hS rd_d19 rd_19 rfl dX12_others_445 h (fun S15 H locs hW hS h => ?_)
    refine lv_aload_n hx hb dX12_others_446 rfl (lv_at hl 0 rfl) ?_
    refine lv_iload_n hx hb dX12_others_447 rfl (lv_at hl 1 rfl) ?_
    refine lv_iconst (v := (1 : Int32)) hx hb dX12_others_448 (by decide) ?_
    refine x_cVi (As := [.int a1, .int (1 : Int32)]) F xG_ok hK hW hS um_X12_popped k_7_13 (fun _ h1 => m_r_popped hI _ _ h1) rfl rd_d0 rd_0 rfl rfl hl.1 rfl rfl ⟨Nat.le_of_ble_eq_true rfl, Nat.le_of_ble_eq_true rfl⟩ ⟨Nat.zero_le _, Nat.zero_le _⟩ (Nat.le_of_ble_eq_true rfl) dX12_others_449 h (fun r_16 S16 H locs hW hS h => ?_)
    obtain ⟨hz, h⟩ := gz_use h
    exact x_zret F hr hlk hW hS (z_nar hz) dX12_others_452 h
  replace h := (if_neg c_1_24).symm.trans h
  have hn_1_24 := x_swN (z := 24) c_1_24 hn_1_23 rfl
  by_cases c_1_25 : a2 = (25 : Int32)
  · replace h := (if_pos c_1_25).symm.trans h
    refine lv_tableIn (tgt := 493) (off := 492) hx hb dX12_others_1 (by rw [c_1_25]; decide) (by rw [c_1_25]; decide) (by rw [c_1_25]; decide) (by decide) ?_
    refine lv_aload_n hx hb dX12_others_493 rfl (lv_at hl 0 rfl) ?_
    refine lv_iload_n hx hb dX12_others_494 rfl (lv_at hl 1 rfl) ?_
    refine lv_iload hx hb dX12_others_495 (lv_at hl 4 rfl) ?_
    refine lv_i2l (v := a4.toInt64) hx hb dX12_others_497 rfl ?_
    refine lv_bipush (v := (16 : Int32)) hx hb dX12_others_498 (by decide) ?_
    refine lv_lshl (v := (jlshl (a4.toInt64) (16 : Int32))) hx hb dX12_others_500 rfl ?_
    refine lv_iload_n hx hb dX12_others_501 rfl (lv_at hl 3 rfl) ?_
    refine lv_i2l (v := a3.toInt64) hx hb dX12_others_502 rfl ?_
    refine lv_lor hx hb dX12_others_503 ?_
    refine x_cVi (As := [.int a1, .long ((jlshl (a4.toInt64) (16 : Int32)) ||| (a3.toInt64))]) F xG_ok hK hW hS um_X12_norm k_7_93 (fun _ h1 => m_r_norm hI _ _ h1) rfl rd_d0 rd_0 rfl rfl hl.1 rfl rfl ⟨Nat.le_of_ble_eq_true rfl, Nat.le_of_ble_eq_true rfl⟩ ⟨Nat.zero_le _, Nat.zero_le _⟩ (Nat.le_of_ble_eq_true rfl) dX12_others_504 h (fun r_17 S17 H locs hW hS h => ?_)
    obtain ⟨hz, h⟩ := gz_use h
    exact x_zret F hr hlk hW hS (z_nar hz) dX12_others_507 h
  replace h := (if_neg c_1_25).symm.trans h
  have hn_1_25 := x_swN (z := 25) c_1_25 hn_1_24 rfl
  by_cases c_1_26 : a2 = (26 : Int32)
  · replace h := (if_pos c_1_26).symm.trans h
    refine lv_tableIn (tgt := 508) (off := 507) hx hb dX12_others_1 (by rw [c_1_26]; decide) (by rw [c_1_26]; decide) (by rw [c_1_26]; decide) (by decide) ?_
    refine lv_iload hx hb dX12_others_508 (lv_at hl 5 rfl) ?_
    refine lv_iload_n hx hb dX12_others_510 rfl (lv_at hl 3 rfl) ?_
    refine lv_icmp_lt (tgt := 521) hx hb dX12_others_511 (by decide) (fun c_18 => ?_) (fun c_18 => ?_)
    · replace h := (if_pos c_18).symm.trans h
      refine lv_iload hx hb dX12_others_521 (lv_at hl 5 rfl) ?_
      refine lv_i2l (v := a5.toInt64) hx hb dX12_others_523 rfl ?_
      refine lv_bipush (v := (16 : Int32)) hx hb dX12_others_524 (by decide) ?_
      refine lv_lshl (v := (jlshl (a5.toInt64) (16 : Int32))) hx hb dX12_others_526 rfl ?_
      refine lv_iload hx hb dX12_others_527 (lv_at hl 4 rfl) ?_
      refine lv_i2l (v := a4.toInt64) hx hb dX12_others_529 rfl ?_
      refine lv_lor hx hb dX12_others_530 ?_
      refine lv_lstore (lv' := [(6, .long ((jlshl (a5.toInt64) (16 : Int32)) ||| (a4.toInt64))), (0, .ref (ad 0 0)), (1, .int a1), (2, .int a2), (3, .int a3), (4, .int a4), (5, .int a5)]) hx hb dX12_others_531 hl (by decide) rfl (fun ls hl => ?_)
      refine lv_aload_n hx hb dX12_others_533 rfl (lv_at hl 1 rfl) ?_
      refine x_get F hK hW xc_X12 rd_d0 rd_0 4 (by decide) k_5_132 (gf_X12_4 _ _) dX12_others_534 ?_
      refine lv_iload_n hx hb dX12_others_537 rfl (lv_at hl 2 rfl) ?_
      refine lv_lload hx hb dX12_others_538 (lv_at hl 0 rfl) ?_
      refine lv_iload_n hx hb dX12_others_540 rfl (lv_at hl 4 rfl) ?_
      refine lv_i2l (v := a3.toInt64) hx hb dX12_others_541 rfl ?_
      obtain ⟨hq_19, h⟩ := gq_use h
      refine lv_ldiv hx hb dX12_others_542 hq_19 ?_
      refine lv_l2i (v := (((jlshl (a5.toInt64) (16 : Int32)) ||| (a4.toInt64)) / (a3.toInt64)).toInt32) hx hb dX12_others_543 rfl ?_
      refine x_iast (t0 := 0) F hK hI hW hS rd_d5 rd_5 rfl dX12_others_544 h (fun S20 H locs hW hS h => ?_)
      refine lv_aload_n hx hb dX12_others_545 rfl (lv_at hl 1 rfl) ?_
      refine x_get F hK hW xc_X12 rd_d0 rd_0 5 (by decide) k_5_133 (gf_X12_5 _ _) dX12_others_546 ?_
      refine lv_iload_n hx hb dX12_others_549 rfl (lv_at hl 2 rfl) ?_
      refine lv_lload hx hb dX12_others_550 (lv_at hl 0 rfl) ?_
      refine lv_iload_n hx hb dX12_others_552 rfl (lv_at hl 4 rfl) ?_
      refine lv_i2l (v := a3.toInt64) hx hb dX12_others_553 rfl ?_
      obtain ⟨hq_21, h⟩ := gq_use h
      refine x_lrem hx hb dX12_others_554 hq_21 ?_
      refine lv_l2i (v := (jlrem ((jlshl (a5.toInt64) (16 : Int32)) ||| (a4.toInt64)) (a3.toInt64)).toInt32) hx hb dX12_others_555 rfl ?_
      refine x_iast (t0 := 0) F hK hI hW hS rd_d6 rd_6 rfl dX12_others_556 h (fun S22 H locs hW hS h => ?_)
      refine lv_iconst (v := (1 : Int32)) hx hb dX12_others_557 (by decide) ?_
      exact x_zret F hr hlk hW hS rfl dX12_others_558 h
    replace h := (if_neg c_18).symm.trans h
    refine lv_aload_n hx hb dX12_others_514 rfl (lv_at hl 0 rfl) ?_
    refine lv_iload_n hx hb dX12_others_515 rfl (lv_at hl 1 rfl) ?_
    refine lv_iconst (v := (1 : Int32)) hx hb dX12_others_516 (by decide) ?_
    refine x_cVi (As := [.int a1, .int (1 : Int32)]) F xG_ok hK hW hS um_X12_fails k_7_89 (fun _ h1 => m_r_fails hI _ _ h1) rfl rd_d0 rd_0 rfl rfl hl.1 rfl rfl ⟨Nat.le_of_ble_eq_true rfl, Nat.le_of_ble_eq_true rfl⟩ ⟨Nat.zero_le _, Nat.zero_le _⟩ (Nat.le_of_ble_eq_true rfl) dX12_others_517 h (fun r_23 S23 H locs hW hS h => ?_)
    obtain ⟨hz, h⟩ := gz_use h
    exact x_zret F hr hlk hW hS (z_nar hz) dX12_others_520 h
  replace h := (if_neg c_1_26).symm.trans h
  have hn_1_26 := x_swN (z := 26) c_1_26 hn_1_25 rfl
  by_cases c_1_27 : a2 = (27 : Int32)
  · replace h := (if_pos c_1_27).symm.trans h
    refine lv_tableIn (tgt := 559) (off := 558) hx hb dX12_others_1 (by rw [c_1_27]; decide) (by rw [c_1_27]; decide) (by rw [c_1_27]; decide) (by decide) ?_
    refine lv_aload_n hx hb dX12_others_559 rfl (lv_at hl 0 rfl) ?_
    refine x_get F hK hW xc_X12 rd_d0 rd_0 4 (by decide) k_5_132 (gf_X12_4 _ _) dX12_others_560 ?_
    refine lv_iload_n hx hb dX12_others_563 rfl (lv_at hl 1 rfl) ?_
    refine lv_iload_n hx hb dX12_others_564 rfl (lv_at hl 3 rfl) ?_
    refine lv_aload_n hx hb dX12_others_565 rfl (lv_at hl 0 rfl) ?_
    refine x_get F hK hW xc_X12 rd_d0 rd_0 8 (by decide) k_5_136 (gf_X12_8 _ _) dX12_others_566 ?_
    refine lv_iload_n hx hb dX12_others_569 rfl (lv_at hl 1 rfl) ?_
    refine x_iald (t0 := 0) F hK hW rd_d9 rd_9 rfl dX12_others_570 h (fun h => ?_)
    refine lv_iadd hx hb dX12_others_571 ?_
    refine lv_ldc (v := (65535 : Int32)) hx hb F.2.2.2.1 (x_hts F _ k_6_102) dX12_others_572 ?_
    refine lv_iand hx hb dX12_others_574 ?_
    refine x_iast (t0 := 0) F hK hI hW hS rd_d5 rd_5 rfl dX12_others_575 h (fun S24 H locs hW hS h => ?_)
    refine lv_iconst (v := (1 : Int32)) hx hb dX12_others_576 (by decide) ?_
    exact x_zret F hr hlk hW hS rfl dX12_others_577 h
  replace h := (if_neg c_1_27).symm.trans h
  have hn_1_27 := x_swN (z := 27) c_1_27 hn_1_26 rfl
  by_cases c_1_28 : a2 = (28 : Int32)
  · replace h := (if_pos c_1_28).symm.trans h
    refine lv_tableIn (tgt := 453) (off := 452) hx hb dX12_others_1 (by rw [c_1_28]; decide) (by rw [c_1_28]; decide) (by rw [c_1_28]; decide) (by decide) ?_
    refine lv_aload_n hx hb dX12_others_453 rfl (lv_at hl 0 rfl) ?_
    refine x_get F hK hW xc_X12 rd_d0 rd_0 18 (by decide) k_5_146 (gf_X12_18 _ _) dX12_others_454 ?_
    refine lv_iconst (v := (2 : Int32)) hx hb dX12_others_457 (by decide) ?_
    refine lv_iload_n hx hb dX12_others_458 rfl (lv_at hl 1 rfl) ?_
    refine lv_imul hx hb dX12_others_459 ?_
    refine lv_iconst (v := (1 : Int32)) hx hb dX12_others_460 (by decide) ?_
    refine lv_iadd hx hb dX12_others_461 ?_
    refine lv_iload_n hx hb dX12_others_462 rfl (lv_at hl 3 rfl) ?_
    refine lv_ldc (v := (65534 : Int32)) hx hb F.2.2.2.1 (x_hts F _ k_6_103) dX12_others_463 ?_
    refine lv_iand hx hb dX12_others_465 ?_
    refine x_iast (t0 := 0) F hK hI hW hS rd_d19 rd_19 rfl dX12_others_466 h (fun S25 H locs hW hS h => ?_)
    refine lv_aload_n hx hb dX12_others_467 rfl (lv_at hl 0 rfl) ?_
    refine lv_iload_n hx hb dX12_others_468 rfl (lv_at hl 1 rfl) ?_
    refine lv_iconst (v := (1 : Int32)) hx hb dX12_others_469 (by decide) ?_
    refine x_cVi (As := [.int a1, .int (1 : Int32)]) F xG_ok hK hW hS um_X12_popped k_7_13 (fun _ h1 => m_r_popped hI _ _ h1) rfl rd_d0 rd_0 rfl rfl hl.1 rfl rfl ⟨Nat.le_of_ble_eq_true rfl, Nat.le_of_ble_eq_true rfl⟩ ⟨Nat.zero_le _, Nat.zero_le _⟩ (Nat.le_of_ble_eq_true rfl) dX12_others_470 h (fun r_26 S26 H locs hW hS h => ?_)
    obtain ⟨hz, h⟩ := gz_use h
    exact x_zret F hr hlk hW hS (z_nar hz) dX12_others_473 h
  replace h := (if_neg c_1_28).symm.trans h
  have hn_1_28 := x_swN (z := 28) c_1_28 hn_1_27 rfl
  by_cases c_1_29 : a2 = (29 : Int32)
  · replace h := (if_pos c_1_29).symm.trans h
    refine lv_tableIn (tgt := 578) (off := 577) hx hb dX12_others_1 (by rw [c_1_29]; decide) (by rw [c_1_29]; decide) (by rw [c_1_29]; decide) (by decide) ?_
    refine lv_aload_n hx hb dX12_others_578 rfl (lv_at hl 0 rfl) ?_
    refine x_get F hK hW xc_X12 rd_d0 rd_0 6 (by decide) k_5_134 (gf_X12_6 _ _) dX12_others_579 ?_
    refine lv_iload_n hx hb dX12_others_582 rfl (lv_at hl 1 rfl) ?_
    refine lv_iload hx hb dX12_others_583 (lv_at hl 4 rfl) ?_
    refine x_iast (t0 := 0) F hK hI hW hS rd_d7 rd_7 rfl dX12_others_585 h (fun S27 H locs hW hS h => ?_)
    refine lv_aload_n hx hb dX12_others_586 rfl (lv_at hl 0 rfl) ?_
    refine x_get F hK hW xc_X12 rd_d0 rd_0 5 (by decide) k_5_133 (gf_X12_5 _ _) dX12_others_587 ?_
    refine lv_iload_n hx hb dX12_others_590 rfl (lv_at hl 1 rfl) ?_
    refine lv_iload_n hx hb dX12_others_591 rfl (lv_at hl 3 rfl) ?_
    refine x_cSo (As := [.int a3]) F xG_ok hS um_X12_signed k_6_180 (fun _ h1 => m_r_signed _ h1) rfl rfl hl.1 rfl rfl ⟨Nat.le_of_ble_eq_true rfl, Nat.le_of_ble_eq_true rfl⟩ ⟨Nat.zero_le _, Nat.zero_le _⟩ (Nat.le_of_ble_eq_true rfl) dX12_others_592 h (fun r_28 locs hS h => ?_)
    refine lv_if_ge (tgt := 603) hx hb dX12_others_595 (by decide) (fun c_29 => ?_) (fun c_29 => ?_)
    · replace h := (if_pos c_29).symm.trans h
      refine lv_iconst (v := (0 : Int32)) hx hb dX12_others_603 (by decide) ?_
      refine x_iast (t0 := 0) F hK hI hW hS rd_d6 rd_6 rfl dX12_others_604 h (fun S30 H locs hW hS h => ?_)
      refine lv_iconst (v := (1 : Int32)) hx hb dX12_others_605 (by decide) ?_
      exact x_zret F hr hlk hW hS rfl dX12_others_606 h
    replace h := (if_neg c_29).symm.trans h
    refine lv_ldc (v := (65535 : Int32)) hx hb F.2.2.2.1 (x_hts F _ k_6_102) dX12_others_598 ?_
    refine lv_goto (tgt := 604) hx hb dX12_others_600 (by decide) ?_
    refine x_iast (t0 := 0) F hK hI hW hS rd_d6 rd_6 rfl dX12_others_604 h (fun S31 H locs hW hS h => ?_)
    refine lv_iconst (v := (1 : Int32)) hx hb dX12_others_605 (by decide) ?_
    exact x_zret F hr hlk hW hS rfl dX12_others_606 h
  replace h := (if_neg c_1_29).symm.trans h
  have hn_1_29 := x_swN (z := 29) c_1_29 hn_1_28 rfl
  by_cases c_1_30 : a2 = (30 : Int32)
  · replace h := (if_pos c_1_30).symm.trans h
    refine lv_tableIn (tgt := 607) (off := 606) hx hb dX12_others_1 (by rw [c_1_30]; decide) (by rw [c_1_30]; decide) (by rw [c_1_30]; decide) (by decide) ?_
    refine lv_aload_n hx hb dX12_others_607 rfl (lv_at hl 0 rfl) ?_
    refine lv_iload_n hx hb dX12_others_608 rfl (lv_at hl 1 rfl) ?_
    refine lv_aload_n hx hb dX12_others_609 rfl (lv_at hl 0 rfl) ?_
    refine x_get F hK hW xc_X12 rd_d0 rd_0 10 (by decide) k_5_138 (gf_X12_10 _ _) dX12_others_610 ?_
    refine lv_iload_n hx hb dX12_others_613 rfl (lv_at hl 1 rfl) ?_
    refine x_iald (t0 := 0) F hK hW rd_d11 rd_11 rfl dX12_others_614 h (fun h => ?_)
    refine x_cVv (As := [.int a1, .int (xI S 0 11 (a1).toNatClampNeg)]) F xG_ok hK hW hS um_X12_push k_7_102 (fun _ h1 => m_r_push hI _ _ h1) rfl rd_d0 rd_0 rfl rfl hl.1 rfl rfl ⟨Nat.le_of_ble_eq_true rfl, Nat.le_of_ble_eq_true rfl⟩ ⟨Nat.zero_le _, Nat.zero_le _⟩ (Nat.le_of_ble_eq_true rfl) dX12_others_615 h (fun S32 H locs hW hS h => ?_)
    refine lv_iconst (v := (1 : Int32)) hx hb dX12_others_618 (by decide) ?_
    exact x_zret F hr hlk hW hS rfl dX12_others_619 h
  replace h := (if_neg c_1_30).symm.trans h
  have hn_1_30 := x_swN (z := 30) c_1_30 hn_1_29 rfl
  by_cases c_1_32 : a2 = (32 : Int32)
  · replace h := (if_pos c_1_32).symm.trans h
    refine lv_tableIn (tgt := 620) (off := 619) hx hb dX12_others_1 (by rw [c_1_32]; decide) (by rw [c_1_32]; decide) (by rw [c_1_32]; decide) (by decide) ?_
    refine lv_aload_n hx hb dX12_others_620 rfl (lv_at hl 0 rfl) ?_
    refine x_get F hK hW xc_X12 rd_d0 rd_0 8 (by decide) k_5_136 (gf_X12_8 _ _) dX12_others_621 ?_
    refine lv_iload_n hx hb dX12_others_624 rfl (lv_at hl 1 rfl) ?_
    refine lv_aload_n hx hb dX12_others_625 rfl (lv_at hl 0 rfl) ?_
    refine lv_iload_n hx hb dX12_others_626 rfl (lv_at hl 1 rfl) ?_
    refine lv_aload_n hx hb dX12_others_627 rfl (lv_at hl 0 rfl) ?_
    refine x_get F hK hW xc_X12 rd_d0 rd_0 9 (by decide) k_5_137 (gf_X12_9 _ _) dX12_others_628 ?_
    refine lv_iload_n hx hb dX12_others_631 rfl (lv_at hl 1 rfl) ?_
    refine x_iald (t0 := 0) F hK hW rd_d10 rd_10 rfl dX12_others_632 h (fun h => ?_)
    refine x_cVi (As := [.int a1, .int (xI S 0 10 (a1).toNatClampNeg)]) F xG_ok hK hW hS um_X12_word k_6_149 (fun _ h1 => m_r_word hI _ _ h1) rfl rd_d0 rd_0 rfl rfl hl.1 rfl rfl ⟨Nat.le_of_ble_eq_true rfl, Nat.le_of_ble_eq_true rfl⟩ ⟨Nat.zero_le _, Nat.zero_le _⟩ (Nat.le_of_ble_eq_true rfl) dX12_others_633 h (fun r_33 S33 H locs hW hS h => ?_)
    refine x_iast (t0 := 0) F hK hI hW hS rd_d9 rd_9 rfl dX12_others_636 h (fun S34 H locs hW hS h => ?_)
    refine lv_aload_n hx hb dX12_others_637 rfl (lv_at hl 0 rfl) ?_
    refine x_get F hK hW xc_X12 rd_d0 rd_0 9 (by decide) k_5_137 (gf_X12_9 _ _) dX12_others_638 ?_
    refine lv_iload_n hx hb dX12_others_641 rfl (lv_at hl 1 rfl) ?_
    refine lv_aload_n hx hb dX12_others_642 rfl (lv_at hl 0 rfl) ?_
    refine x_get F hK hW xc_X12 rd_d0 rd_0 9 (by decide) k_5_137 (gf_X12_9 _ _) dX12_others_643 ?_
    refine lv_iload_n hx hb dX12_others_646 rfl (lv_at hl 1 rfl) ?_
    refine x_iald (t0 := 0) F hK hW rd_d10 rd_10 rfl dX12_others_647 h (fun h => ?_)
    refine lv_bipush (v := (8 : Int32)) hx hb dX12_others_648 (by decide) ?_
    refine lv_iadd hx hb dX12_others_650 ?_
    refine lv_ldc (v := (65535 : Int32)) hx hb F.2.2.2.1 (x_hts F _ k_6_102) dX12_others_651 ?_
    refine lv_iand hx hb dX12_others_653 ?_
    refine x_iast (t0 := 0) F hK hI hW hS rd_d10 rd_10 rfl dX12_others_654 h (fun S35 H locs hW hS h => ?_)
    refine lv_iconst (v := (1 : Int32)) hx hb dX12_others_655 (by decide) ?_
    exact x_zret F hr hlk hW hS rfl dX12_others_656 h
  replace h := (if_neg c_1_32).symm.trans h
  have hn_1_32 := x_swN (z := 32) c_1_32 hn_1_30 rfl
  by_cases c_1_33 : a2 = (33 : Int32)
  · replace h := (if_pos c_1_33).symm.trans h
    refine lv_tableIn (tgt := 657) (off := 656) hx hb dX12_others_1 (by rw [c_1_33]; decide) (by rw [c_1_33]; decide) (by rw [c_1_33]; decide) (by decide) ?_
    refine lv_aload_n hx hb dX12_others_657 rfl (lv_at hl 0 rfl) ?_
    refine lv_iload_n hx hb dX12_others_658 rfl (lv_at hl 1 rfl) ?_
    refine lv_iload_n hx hb dX12_others_659 rfl (lv_at hl 3 rfl) ?_
    refine lv_iload hx hb dX12_others_660 (lv_at hl 4 rfl) ?_
    refine x_cVi (As := [.int a1, .int a3, .int a4]) F xG_ok hK hW hS um_X12_loops k_7_106 (fun _ h1 => m_r_loops hI _ _ _ h1) rfl rd_d0 rd_0 rfl rfl hl.1 rfl rfl ⟨Nat.le_of_ble_eq_true rfl, Nat.le_of_ble_eq_true rfl⟩ ⟨Nat.zero_le _, Nat.zero_le _⟩ (Nat.le_of_ble_eq_true rfl) dX12_others_662 h (fun r_36 S36 H locs hW hS h => ?_)
    obtain ⟨hz, h⟩ := gz_use h
    exact x_zret F hr hlk hW hS (z_nar hz) dX12_others_665 h
  replace h := (if_neg c_1_33).symm.trans h
  have hn_1_33 := x_swN (z := 33) c_1_33 hn_1_32 rfl
  by_cases c_1_34 : a2 = (34 : Int32)
  · replace h := (if_pos c_1_34).symm.trans h
    refine lv_tableIn (tgt := 666) (off := 665) hx hb dX12_others_1 (by rw [c_1_34]; decide) (by rw [c_1_34]; decide) (by rw [c_1_34]; decide) (by decide) ?_
    refine lv_aload_n hx hb dX12_others_666 rfl (lv_at hl 0 rfl) ?_
    refine lv_iload_n hx hb dX12_others_667 rfl (lv_at hl 1 rfl) ?_
    refine lv_aload_n hx hb dX12_others_668 rfl (lv_at hl 0 rfl) ?_
    refine x_get F hK hW xc_X12 rd_d0 rd_0 20 (by decide) k_5_148 (gf_X12_20 _ _) dX12_others_669 ?_
    refine lv_iconst (v := (2 : Int32)) hx hb dX12_others_672 (by decide) ?_
    refine lv_iload_n hx hb dX12_others_673 rfl (lv_at hl 1 rfl) ?_
    refine lv_imul hx hb dX12_others_674 ?_
    refine lv_aload_n hx hb dX12_others_675 rfl (lv_at hl 0 rfl) ?_
    refine x_get F hK hW xc_X12 rd_d0 rd_0 10 (by decide) k_5_138 (gf_X12_10 _ _) dX12_others_676 ?_
    refine lv_iload_n hx hb dX12_others_679 rfl (lv_at hl 1 rfl) ?_
    refine x_iald (t0 := 0) F hK hW rd_d11 rd_11 rfl dX12_others_680 h (fun h => ?_)
    refine lv_iadd hx hb dX12_others_681 ?_
    refine x_iald (t0 := 0) F hK hW rd_d21 rd_21 rfl dX12_others_682 h (fun h => ?_)
    refine x_cVv (As := [.int a1, .int (xI S 0 21 ((((2 : Int32) * a1) + (xI S 0 11 (a1).toNatClampNeg))).toNatClampNeg)]) F xG_ok hK hW hS um_X12_push k_7_102 (fun _ h1 => m_r_push hI _ _ h1) rfl rd_d0 rd_0 rfl rfl hl.1 rfl rfl ⟨Nat.le_of_ble_eq_true rfl, Nat.le_of_ble_eq_true rfl⟩ ⟨Nat.zero_le _, Nat.zero_le _⟩ (Nat.le_of_ble_eq_true rfl) dX12_others_683 h (fun S37 H locs hW hS h => ?_)
    refine lv_iconst (v := (1 : Int32)) hx hb dX12_others_686 (by decide) ?_
    exact x_zret F hr hlk hW hS rfl dX12_others_687 h
  replace h := (if_neg c_1_34).symm.trans h
  have hn_1_34 := x_swN (z := 34) c_1_34 hn_1_33 rfl
  by_cases c_1_41 : a2 = (41 : Int32)
  · replace h := (if_pos c_1_41).symm.trans h
    refine lv_tableIn (tgt := 688) (off := 687) hx hb dX12_others_1 (by rw [c_1_41]; decide) (by rw [c_1_41]; decide) (by rw [c_1_41]; decide) (by decide) ?_
    refine lv_aload_n hx hb dX12_others_688 rfl (lv_at hl 0 rfl) ?_
    refine lv_iload_n hx hb dX12_others_689 rfl (lv_at hl 1 rfl) ?_
    refine lv_aload_n hx hb dX12_others_690 rfl (lv_at hl 0 rfl) ?_
    refine x_get F hK hW xc_X12 rd_d0 rd_0 15 (by decide) k_5_143 (gf_X12_15 _ _) dX12_others_691 ?_
    refine lv_iload_n hx hb dX12_others_694 rfl (lv_at hl 1 rfl) ?_
    refine x_zald (t0 := 1) F hK hW rd_d16 rd_16 rfl dX12_others_695 h (fun h => ?_)
    refine lv_if_eq (tgt := 703) hx hb dX12_others_696 (by decide) (fun c_38 => ?_) (fun c_38 => ?_)
    · replace h := (if_pos c_38).symm.trans h
      refine lv_iconst (v := (1 : Int32)) hx hb dX12_others_703 (by decide) ?_
      exact m_r_others_b704 hI  F hr hlk hK _ _ _ _ h hW hS (lv_sub hl [0, 1] rfl)
    replace h := (if_neg c_38).symm.trans h
    refine lv_iconst (v := (0 : Int32)) hx hb dX12_others_699 (by decide) ?_
    refine lv_goto (tgt := 704) hx hb dX12_others_700 (by decide) ?_
    exact m_r_others_b704 hI  F hr hlk hK _ _ _ _ h hW hS (lv_sub hl [0, 1] rfl)
  replace h := (if_neg c_1_41).symm.trans h
  have hn_1_41 := x_swN (z := 41) c_1_41 hn_1_34 rfl
  by_cases c_1_49 : a2 = (49 : Int32)
  · replace h := (if_pos c_1_49).symm.trans h
    refine lv_tableIn (tgt := 716) (off := 715) hx hb dX12_others_1 (by rw [c_1_49]; decide) (by rw [c_1_49]; decide) (by rw [c_1_49]; decide) (by decide) ?_
    refine lv_aload_n hx hb dX12_others_716 rfl (lv_at hl 0 rfl) ?_
    refine lv_iload_n hx hb dX12_others_717 rfl (lv_at hl 1 rfl) ?_
    refine lv_iload_n hx hb dX12_others_718 rfl (lv_at hl 3 rfl) ?_
    refine lv_i2l (v := a3.toInt64) hx hb dX12_others_719 rfl ?_
    refine lv_iload hx hb dX12_others_720 (lv_at hl 4 rfl) ?_
    refine lv_i2l (v := a4.toInt64) hx hb dX12_others_722 rfl ?_
    refine lv_lmul hx hb dX12_others_723 ?_
    refine lv_iload hx hb dX12_others_724 (lv_at hl 5 rfl) ?_
    refine lv_i2l (v := a5.toInt64) hx hb dX12_others_726 rfl ?_
    refine lv_ladd hx hb dX12_others_727 ?_
    refine x_cVi (As := [.int a1, .long (((a3.toInt64) * (a4.toInt64)) + (a5.toInt64))]) F xG_ok hK hW hS um_X12_pair k_7_97 (fun _ h1 => m_r_pair hI _ _ h1) rfl rd_d0 rd_0 rfl rfl hl.1 rfl rfl ⟨Nat.le_of_ble_eq_true rfl, Nat.le_of_ble_eq_true rfl⟩ ⟨Nat.zero_le _, Nat.zero_le _⟩ (Nat.le_of_ble_eq_true rfl) dX12_others_728 h (fun r_41 S41 H locs hW hS h => ?_)
    obtain ⟨hz, h⟩ := gz_use h
    exact x_zret F hr hlk hW hS (z_nar hz) dX12_others_731 h
  replace h := (if_neg c_1_49).symm.trans h
  have hn_1_49 := x_swN (z := 49) c_1_49 hn_1_41 rfl
  by_cases c_1_50 : a2 = (50 : Int32)
  · replace h := (if_pos c_1_50).symm.trans h
    refine lv_tableIn (tgt := 732) (off := 731) hx hb dX12_others_1 (by rw [c_1_50]; decide) (by rw [c_1_50]; decide) (by rw [c_1_50]; decide) (by decide) ?_
    refine lv_aload_n hx hb dX12_others_732 rfl (lv_at hl 0 rfl) ?_
    refine x_get F hK hW xc_X12 rd_d0 rd_0 4 (by decide) k_5_132 (gf_X12_4 _ _) dX12_others_733 ?_
    refine lv_iload_n hx hb dX12_others_736 rfl (lv_at hl 1 rfl) ?_
    refine lv_ldc (v := (65535 : Int32)) hx hb F.2.2.2.1 (x_hts F _ k_6_102) dX12_others_737 ?_
    refine lv_iload_n hx hb dX12_others_739 rfl (lv_at hl 3 rfl) ?_
    refine lv_isub hx hb dX12_others_740 ?_
    refine x_iast (t0 := 0) F hK hI hW hS rd_d5 rd_5 rfl dX12_others_741 h (fun S42 H locs hW hS h => ?_)
    refine lv_iconst (v := (1 : Int32)) hx hb dX12_others_742 (by decide) ?_
    exact x_zret F hr hlk hW hS rfl dX12_others_743 h
  replace h := (if_neg c_1_50).symm.trans h
  have hn_1_50 := x_swN (z := 50) c_1_50 hn_1_49 rfl
  by_cases c_1_52 : a2 = (52 : Int32)
  · replace h := (if_pos c_1_52).symm.trans h
    refine lv_tableIn (tgt := 744) (off := 743) hx hb dX12_others_1 (by rw [c_1_52]; decide) (by rw [c_1_52]; decide) (by rw [c_1_52]; decide) (by decide) ?_
    refine lv_aload_n hx hb dX12_others_744 rfl (lv_at hl 0 rfl) ?_
    refine x_get F hK hW xc_X12 rd_d0 rd_0 4 (by decide) k_5_132 (gf_X12_4 _ _) dX12_others_745 ?_
    refine lv_iload_n hx hb dX12_others_748 rfl (lv_at hl 1 rfl) ?_
    refine lv_iconst (v := (2 : Int32)) hx hb dX12_others_749 (by decide) ?_
    refine lv_iload_n hx hb dX12_others_750 rfl (lv_at hl 3 rfl) ?_
    refine lv_imul hx hb dX12_others_751 ?_
    refine lv_ldc (v := (65535 : Int32)) hx hb F.2.2.2.1 (x_hts F _ k_6_102) dX12_others_752 ?_
    refine lv_iand hx hb dX12_others_754 ?_
    refine x_iast (t0 := 0) F hK hI hW hS rd_d5 rd_5 rfl dX12_others_755 h (fun S43 H locs hW hS h => ?_)
    refine lv_iconst (v := (1 : Int32)) hx hb dX12_others_756 (by decide) ?_
    exact x_zret F hr hlk hW hS rfl dX12_others_757 h
  replace h := (if_neg c_1_52).symm.trans h
  have hn_1_52 := x_swN (z := 52) c_1_52 hn_1_50 rfl
  by_cases c_1_53 : a2 = (53 : Int32)
  · replace h := (if_pos c_1_53).symm.trans h
    refine lv_tableIn (tgt := 758) (off := 757) hx hb dX12_others_1 (by rw [c_1_53]; decide) (by rw [c_1_53]; decide) (by rw [c_1_53]; decide) (by decide) ?_
    refine lv_aload_n hx hb dX12_others_758 rfl (lv_at hl 0 rfl) ?_
    refine lv_iload_n hx hb dX12_others_759 rfl (lv_at hl 1 rfl) ?_
    refine lv_iload_n hx hb dX12_others_760 rfl (lv_at hl 3 rfl) ?_
    refine lv_bipush (v := (31 : Int32)) hx hb dX12_others_761 (by decide) ?_
    refine lv_icmp_le (tgt := 770) hx hb dX12_others_763 (by decide) (fun c_44 => ?_) (fun c_44 => ?_)
    · replace h := (if_pos c_44).symm.trans h
      refine lv_iload hx hb dX12_others_770 (lv_at hl 5 rfl) ?_
      refine lv_i2l (v := a5.toInt64) hx hb dX12_others_772 rfl ?_
      refine lv_bipush (v := (16 : Int32)) hx hb dX12_others_773 (by decide) ?_
      refine lv_lshl (v := (jlshl (a5.toInt64) (16 : Int32))) hx hb dX12_others_775 rfl ?_
      refine lv_iload hx hb dX12_others_776 (lv_at hl 4 rfl) ?_
      refine lv_i2l (v := a4.toInt64) hx hb dX12_others_778 rfl ?_
      refine lv_lor hx hb dX12_others_779 ?_
      refine lv_iload_n hx hb dX12_others_780 rfl (lv_at hl 3 rfl) ?_
      refine lv_lshr (v := (jlshr ((jlshl (a5.toInt64) (16 : Int32)) ||| (a4.toInt64)) a3)) hx hb dX12_others_781 rfl ?_
      refine x_cVi (As := [.int a1, .long (jlshr ((jlshl (a5.toInt64) (16 : Int32)) ||| (a4.toInt64)) a3)]) F xG_ok hK hW hS um_X12_pair k_7_97 (fun _ h1 => m_r_pair hI _ _ h1) rfl rd_d0 rd_0 rfl rfl hl.1 rfl rfl ⟨Nat.le_of_ble_eq_true rfl, Nat.le_of_ble_eq_true rfl⟩ ⟨Nat.zero_le _, Nat.zero_le _⟩ (Nat.le_of_ble_eq_true rfl) dX12_others_782 h (fun r_45 S45 H locs hW hS h => ?_)
      obtain ⟨hz, h⟩ := gz_use h
      exact x_zret F hr hlk hW hS (z_nar hz) dX12_others_785 h
    replace h := (if_neg c_44).symm.trans h
    refine lv_lconst (v := (0 : Int64)) hx hb dX12_others_766 (by decide) ?_
    refine lv_goto (tgt := 782) hx hb dX12_others_767 (by decide) ?_
    refine x_cVi (As := [.int a1, .long (0 : Int64)]) F xG_ok hK hW hS um_X12_pair k_7_97 (fun _ h1 => m_r_pair hI _ _ h1) rfl rd_d0 rd_0 rfl rfl hl.1 rfl rfl ⟨Nat.le_of_ble_eq_true rfl, Nat.le_of_ble_eq_true rfl⟩ ⟨Nat.zero_le _, Nat.zero_le _⟩ (Nat.le_of_ble_eq_true rfl) dX12_others_782 h (fun r_46 S46 H locs hW hS h => ?_)
    obtain ⟨hz, h⟩ := gz_use h
    exact x_zret F hr hlk hW hS (z_nar hz) dX12_others_785 h
  replace h := (if_neg c_1_53).symm.trans h
  have hn_1_53 := x_swN (z := 53) c_1_53 hn_1_52 rfl
  by_cases c_1_54 : a2 = (54 : Int32)
  · replace h := (if_pos c_1_54).symm.trans h
    refine lv_tableIn (tgt := 786) (off := 785) hx hb dX12_others_1 (by rw [c_1_54]; decide) (by rw [c_1_54]; decide) (by rw [c_1_54]; decide) (by decide) ?_
    refine lv_aload_n hx hb dX12_others_786 rfl (lv_at hl 0 rfl) ?_
    refine lv_iload_n hx hb dX12_others_787 rfl (lv_at hl 1 rfl) ?_
    refine lv_iload_n hx hb dX12_others_788 rfl (lv_at hl 3 rfl) ?_
    refine lv_bipush (v := (31 : Int32)) hx hb dX12_others_789 (by decide) ?_
    refine lv_icmp_le (tgt := 798) hx hb dX12_others_791 (by decide) (fun c_47 => ?_) (fun c_47 => ?_)
    · replace h := (if_pos c_47).symm.trans h
      refine lv_iload hx hb dX12_others_798 (lv_at hl 5 rfl) ?_
      refine lv_i2l (v := a5.toInt64) hx hb dX12_others_800 rfl ?_
      refine lv_bipush (v := (16 : Int32)) hx hb dX12_others_801 (by decide) ?_
      refine lv_lshl (v := (jlshl (a5.toInt64) (16 : Int32))) hx hb dX12_others_803 rfl ?_
      refine lv_iload hx hb dX12_others_804 (lv_at hl 4 rfl) ?_
      refine lv_i2l (v := a4.toInt64) hx hb dX12_others_806 rfl ?_
      refine lv_lor hx hb dX12_others_807 ?_
      refine lv_iload_n hx hb dX12_others_808 rfl (lv_at hl 3 rfl) ?_
      refine lv_lshl (v := (jlshl ((jlshl (a5.toInt64) (16 : Int32)) ||| (a4.toInt64)) a3)) hx hb dX12_others_809 rfl ?_
      refine x_cVi (As := [.int a1, .long (jlshl ((jlshl (a5.toInt64) (16 : Int32)) ||| (a4.toInt64)) a3)]) F xG_ok hK hW hS um_X12_pair k_7_97 (fun _ h1 => m_r_pair hI _ _ h1) rfl rd_d0 rd_0 rfl rfl hl.1 rfl rfl ⟨Nat.le_of_ble_eq_true rfl, Nat.le_of_ble_eq_true rfl⟩ ⟨Nat.zero_le _, Nat.zero_le _⟩ (Nat.le_of_ble_eq_true rfl) dX12_others_810 h (fun r_48 S48 H locs hW hS h => ?_)
      obtain ⟨hz, h⟩ := gz_use h
      exact x_zret F hr hlk hW hS (z_nar hz) dX12_others_813 h
    replace h := (if_neg c_47).symm.trans h
    refine lv_lconst (v := (0 : Int64)) hx hb dX12_others_794 (by decide) ?_
    refine lv_goto (tgt := 810) hx hb dX12_others_795 (by decide) ?_
    refine x_cVi (As := [.int a1, .long (0 : Int64)]) F xG_ok hK hW hS um_X12_pair k_7_97 (fun _ h1 => m_r_pair hI _ _ h1) rfl rd_d0 rd_0 rfl rfl hl.1 rfl rfl ⟨Nat.le_of_ble_eq_true rfl, Nat.le_of_ble_eq_true rfl⟩ ⟨Nat.zero_le _, Nat.zero_le _⟩ (Nat.le_of_ble_eq_true rfl) dX12_others_810 h (fun r_49 S49 H locs hW hS h => ?_)
    obtain ⟨hz, h⟩ := gz_use h
    exact x_zret F hr hlk hW hS (z_nar hz) dX12_others_813 h
  replace h := (if_neg c_1_54).symm.trans h
  have hn_1_54 := x_swN (z := 54) c_1_54 hn_1_53 rfl
  by_cases c_1_55 : a2 = (55 : Int32)
  · replace h := (if_pos c_1_55).symm.trans h
    refine lv_tableIn (tgt := 814) (off := 813) hx hb dX12_others_1 (by rw [c_1_55]; decide) (by rw [c_1_55]; decide) (by rw [c_1_55]; decide) (by decide) ?_
    refine lv_aload_n hx hb dX12_others_814 rfl (lv_at hl 0 rfl) ?_
    refine lv_iload_n hx hb dX12_others_815 rfl (lv_at hl 1 rfl) ?_
    refine lv_iload_n hx hb dX12_others_816 rfl (lv_at hl 3 rfl) ?_
    refine lv_i2l (v := a3.toInt64) hx hb dX12_others_817 rfl ?_
    refine lv_iload hx hb dX12_others_818 (lv_at hl 4 rfl) ?_
    refine lv_i2l (v := a4.toInt64) hx hb dX12_others_820 rfl ?_
    refine lv_ladd hx hb dX12_others_821 ?_
    refine lv_iload hx hb dX12_others_822 (lv_at hl 5 rfl) ?_
    refine lv_iconst (v := (1 : Int32)) hx hb dX12_others_824 (by decide) ?_
    refine lv_iand hx hb dX12_others_825 ?_
    refine lv_i2l (v := (a5 &&& (1 : Int32)).toInt64) hx hb dX12_others_826 rfl ?_
    refine lv_ladd hx hb dX12_others_827 ?_
    refine x_cVi (As := [.int a1, .long (((a3.toInt64) + (a4.toInt64)) + ((a5 &&& (1 : Int32)).toInt64))]) F xG_ok hK hW hS um_X12_pair k_7_97 (fun _ h1 => m_r_pair hI _ _ h1) rfl rd_d0 rd_0 rfl rfl hl.1 rfl rfl ⟨Nat.le_of_ble_eq_true rfl, Nat.le_of_ble_eq_true rfl⟩ ⟨Nat.zero_le _, Nat.zero_le _⟩ (Nat.le_of_ble_eq_true rfl) dX12_others_828 h (fun r_50 S50 H locs hW hS h => ?_)
    obtain ⟨hz, h⟩ := gz_use h
    exact x_zret F hr hlk hW hS (z_nar hz) dX12_others_831 h
  replace h := (if_neg c_1_55).symm.trans h
  have hn_1_55 := x_swN (z := 55) c_1_55 hn_1_54 rfl
  by_cases c_1_80 : a2 = (80 : Int32)
  · replace h := (if_pos c_1_80).symm.trans h
    refine lv_tableIn (tgt := 474) (off := 473) hx hb dX12_others_1 (by rw [c_1_80]; decide) (by rw [c_1_80]; decide) (by rw [c_1_80]; decide) (by decide) ?_
    refine lv_aload_n hx hb dX12_others_474 rfl (lv_at hl 0 rfl) ?_
    refine x_get F hK hW xc_X12 rd_d0 rd_0 19 (by decide) k_5_147 (gf_X12_19 _ _) dX12_others_475 ?_
    refine lv_iconst (v := (2 : Int32)) hx hb dX12_others_478 (by decide) ?_
    refine lv_iload_n hx hb dX12_others_479 rfl (lv_at hl 1 rfl) ?_
    refine lv_imul hx hb dX12_others_480 ?_
    refine lv_iload_n hx hb dX12_others_481 rfl (lv_at hl 3 rfl) ?_
    refine lv_ldc (v := (65534 : Int32)) hx hb F.2.2.2.1 (x_hts F _ k_6_103) dX12_others_482 ?_
    refine lv_iand hx hb dX12_others_484 ?_
    refine x_iast (t0 := 0) F hK hI hW hS rd_d20 rd_20 rfl dX12_others_485 h (fun S51 H locs hW hS h => ?_)
    refine lv_aload_n hx hb dX12_others_486 rfl (lv_at hl 0 rfl) ?_
    refine lv_iload_n hx hb dX12_others_487 rfl (lv_at hl 1 rfl) ?_
    refine lv_iconst (v := (1 : Int32)) hx hb dX12_others_488 (by decide) ?_
    refine x_cVi (As := [.int a1, .int (1 : Int32)]) F xG_ok hK hW hS um_X12_popped k_7_13 (fun _ h1 => m_r_popped hI _ _ h1) rfl rd_d0 rd_0 rfl rfl hl.1 rfl rfl ⟨Nat.le_of_ble_eq_true rfl, Nat.le_of_ble_eq_true rfl⟩ ⟨Nat.zero_le _, Nat.zero_le _⟩ (Nat.le_of_ble_eq_true rfl) dX12_others_489 h (fun r_52 S52 H locs hW hS h => ?_)
    obtain ⟨hz, h⟩ := gz_use h
    exact x_zret F hr hlk hW hS (z_nar hz) dX12_others_492 h
  replace h := (if_neg c_1_80).symm.trans h
  have hn_1_80 := x_swN (z := 80) c_1_80 hn_1_55 rfl
  refine x_tblD (tgt := 832) hx hb dX12_others_1 hn_1_80 (by decide) (by decide) (by decide) ?_
  refine lv_aload_n hx hb dX12_others_832 rfl (lv_at hl 0 rfl) ?_
  refine lv_iload_n hx hb dX12_others_833 rfl (lv_at hl 1 rfl) ?_
  refine lv_iload_n hx hb dX12_others_834 rfl (lv_at hl 2 rfl) ?_
  refine lv_iload_n hx hb dX12_others_835 rfl (lv_at hl 3 rfl) ?_
  refine lv_iload hx hb dX12_others_836 (lv_at hl 4 rfl) ?_
  refine lv_iload hx hb dX12_others_838 (lv_at hl 5 rfl) ?_
  refine x_cVi (As := [.int a1, .int a2, .int a3, .int a4, .int a5]) F xG_ok hK hW hS um_X12_more k_7_114 (fun _ h1 => m_r_more hI _ _ _ _ _ h1) rfl rd_d0 rd_0 rfl rfl hl.1 rfl rfl ⟨Nat.le_of_ble_eq_true rfl, Nat.le_of_ble_eq_true rfl⟩ ⟨Nat.zero_le _, Nat.zero_le _⟩ (Nat.le_of_ble_eq_true rfl) dX12_others_840 h (fun r_53 S53 H locs hW hS h => ?_)
  obtain ⟨hz, h⟩ := gz_use h
  exact x_zret F hr hlk hW hS (z_nar hz) dX12_others_843 h
/-! X12_operates -/
def r_operates  (S : xS) (a1 : Int32) (a2 : Int32) : Option (Int32 × xS) := gd a1 8 (gd a1 8 (gd a1 8 (if a2 = (0 : Int32) then (gd a1 8 (xnm (sI S 0 5 (a1).toNatClampNeg (xI S 0 6 (a1).toNatClampNeg)) (fun S2 => gd a1 8 (xnm (sI S2 0 6 (a1).toNatClampNeg (xI S 0 5 (a1).toNatClampNeg)) (fun S3 => some ((1 : Int32), S3)))))) else (if a2 = (1 : Int32) then ((r_byteAt  S a1 (xI S 0 5 (a1).toNatClampNeg)).bind (fun (r_4, S4) => gd a1 8 (xnm (sI S4 0 5 (a1).toNatClampNeg r_4) (fun S5 => some ((1 : Int32), S5))))) else (if a2 = (2 : Int32) then ((r_gives  S a1 ((xI S 0 5 (a1).toNatClampNeg) + (xI S 0 6 (a1).toNatClampNeg))).bind (fun (r_6, S6) => gz r_6 (some (r_6, S6)))) else (if a2 = (4 : Int32) then ((r_gives  S a1 ((xI S 0 6 (a1).toNatClampNeg) - (xI S 0 5 (a1).toNatClampNeg))).bind (fun (r_7, S7) => gz r_7 (some (r_7, S7)))) else (if a2 = (5 : Int32) then ((r_signed (xI S 0 6 (a1).toNatClampNeg)).bind (fun r_8 => (r_signed (xI S 0 5 (a1).toNatClampNeg)).bind (fun r_9 => (r_checked  S a1 (r_8 + r_9)).bind (fun (r_10, S10) => (r_gives  S10 a1 r_10).bind (fun (r_11, S11) => gz r_11 (some (r_11, S11))))))) else (if a2 = (6 : Int32) then (gd a1 8 (gd a1 8 (xnm (sI S 0 5 (a1).toNatClampNeg (xI S 0 9 (a1).toNatClampNeg)) (fun S12 => gd a1 8 (xnm (sI S12 0 9 (a1).toNatClampNeg (xI S 0 5 (a1).toNatClampNeg)) (fun S13 => some ((1 : Int32), S13))))))) else (if a2 = (7 : Int32) then ((r_channels  S a1 a2).bind (fun (r_14, S14) => gz r_14 (some (r_14, S14)))) else (if a2 = (8 : Int32) then ((r_gives  S a1 ((xI S 0 6 (a1).toNatClampNeg) * (xI S 0 5 (a1).toNatClampNeg))).bind (fun (r_15, S15) => gz r_15 (some (r_15, S15)))) else (if a2 = (9 : Int32) then ((r_signed (xI S 0 6 (a1).toNatClampNeg)).bind (fun r_16 => (r_signed (xI S 0 5 (a1).toNatClampNeg)).bind (fun r_17 => if r_16 ≤ r_17 then ((r_gives  S a1 (0 : Int32)).bind (fun (r_19, S19) => gz r_19 (some (r_19, S19)))) else ((r_gives  S a1 (1 : Int32)).bind (fun (r_20, S20) => gz r_20 (some (r_20, S20))))))) else (if a2 = (10 : Int32) then ((r_gives  S a1 ((xI S 0 5 (a1).toNatClampNeg) + ((2 : Int32) * (xI S 0 6 (a1).toNatClampNeg)))).bind (fun (r_21, S21) => gz r_21 (some (r_21, S21)))) else (if a2 = (11 : Int32) then ((r_channels  S a1 a2).bind (fun (r_22, S22) => gz r_22 (some (r_22, S22)))) else (if a2 = (12 : Int32) then ((r_signed (xI S 0 6 (a1).toNatClampNeg)).bind (fun r_23 => (r_signed (xI S 0 5 (a1).toNatClampNeg)).bind (fun r_24 => (r_checked  S a1 (r_23 - r_24)).bind (fun (r_25, S25) => (r_gives  S25 a1 r_25).bind (fun (r_26, S26) => gz r_26 (some (r_26, S26))))))) else (if a2 = (14 : Int32) then ((r_channels  S a1 a2).bind (fun (r_27, S27) => gz r_27 (some (r_27, S27)))) else (if a2 = (15 : Int32) then ((r_channels  S a1 a2).bind (fun (r_28, S28) => gz r_28 (some (r_28, S28)))) else (if a2 = (18 : Int32) then ((r_channels  S a1 a2).bind (fun (r_29, S29) => gz r_29 (some (r_29, S29)))) else (if a2 = (22 : Int32) then ((r_signed (xI S 0 6 (a1).toNatClampNeg)).bind (fun r_30 => (r_signed (xI S 0 5 (a1).toNatClampNeg)).bind (fun r_31 => (r_checked  S a1 ((r_30 + r_31) + ((xI S 0 7 (a1).toNatClampNeg) &&& (1 : Int32)))).bind (fun (r_32, S32) => (r_gives  S32 a1 r_32).bind (fun (r_33, S33) => gz r_33 (some (r_33, S33))))))) else (if a2 = (31 : Int32) then ((r_signed (xI S 0 6 (a1).toNatClampNeg)).bind (fun r_34 => (r_signed (xI S 0 5 (a1).toNatClampNeg)).bind (fun r_35 => (r_rest  S a1 r_34 r_35).bind (fun (r_36, S36) => gz r_36 (some (r_36, S36)))))) else (if a2 = (43 : Int32) then ((r_alternates  S a1 a2).bind (fun (r_37, S37) => gz r_37 (some (r_37, S37)))) else (if a2 = (44 : Int32) then ((r_signed (xI S 0 6 (a1).toNatClampNeg)).bind (fun r_38 => (r_signed (xI S 0 5 (a1).toNatClampNeg)).bind (fun r_39 => (r_quotient  S a1 r_38 r_39).bind (fun (r_40, S40) => gz r_40 (some (r_40, S40)))))) else (if a2 = (46 : Int32) then ((r_alternates  S a1 a2).bind (fun (r_41, S41) => gz r_41 (some (r_41, S41)))) else (if a2 = (47 : Int32) then ((r_alternates  S a1 a2).bind (fun (r_42, S42) => gz r_42 (some (r_42, S42)))) else (if a2 = (48 : Int32) then ((r_alternates  S a1 a2).bind (fun (r_43, S43) => gz r_43 (some (r_43, S43)))) else (if a2 = (51 : Int32) then ((r_gives  S a1 ((xI S 0 6 (a1).toNatClampNeg) ^^^ (xI S 0 5 (a1).toNatClampNeg))).bind (fun (r_44, S44) => gz r_44 (some (r_44, S44)))) else (if a2 = (56 : Int32) then ((r_signed (xI S 0 6 (a1).toNatClampNeg)).bind (fun r_45 => (r_signed (xI S 0 5 (a1).toNatClampNeg)).bind (fun r_46 => (r_checked  S a1 ((r_45 - r_46) - ((xI S 0 7 (a1).toNatClampNeg) &&& (1 : Int32)))).bind (fun (r_47, S47) => (r_gives  S47 a1 r_47).bind (fun (r_48, S48) => gz r_48 (some (r_48, S48))))))) else (if a2 = (58 : Int32) then (if (xI S 0 6 (a1).toNatClampNeg) < (xI S 0 5 (a1).toNatClampNeg) then ((r_gives  S a1 (xI S 0 6 (a1).toNatClampNeg)).bind (fun (r_50, S50) => gz r_50 (some (r_50, S50)))) else ((r_gives  S a1 ((xI S 0 6 (a1).toNatClampNeg) - ((2 : Int32) * (xI S 0 5 (a1).toNatClampNeg)))).bind (fun (r_51, S51) => gz r_51 (some (r_51, S51))))) else (if a2 = (64 : Int32) then (if (xI S 0 5 (a1).toNatClampNeg) ≤ (15 : Int32) then ((r_gives  S a1 ((xI S 0 6 (a1).toNatClampNeg) >>> ((xI S 0 5 (a1).toNatClampNeg) &&& 31))).bind (fun (r_53, S53) => gz r_53 (some (r_53, S53)))) else ((r_gives  S a1 (0 : Int32)).bind (fun (r_54, S54) => gz r_54 (some (r_54, S54))))) else (if a2 = (65 : Int32) then (if (xI S 0 5 (a1).toNatClampNeg) ≤ (15 : Int32) then ((r_gives  S a1 ((xI S 0 6 (a1).toNatClampNeg) <<< ((xI S 0 5 (a1).toNatClampNeg) &&& 31))).bind (fun (r_56, S56) => gz r_56 (some (r_56, S56)))) else ((r_gives  S a1 (0 : Int32)).bind (fun (r_57, S57) => gz r_57 (some (r_57, S57))))) else (if a2 = (67 : Int32) then ((r_alternates  S a1 a2).bind (fun (r_58, S58) => gz r_58 (some (r_58, S58)))) else (if a2 = (68 : Int32) then ((r_alternates  S a1 a2).bind (fun (r_59, S59) => gz r_59 (some (r_59, S59)))) else (if a2 = (69 : Int32) then ((r_alternates  S a1 a2).bind (fun (r_60, S60) => gz r_60 (some (r_60, S60)))) else (if a2 = (70 : Int32) then ((r_gives  S a1 ((xI S 0 6 (a1).toNatClampNeg) &&& (xI S 0 5 (a1).toNatClampNeg))).bind (fun (r_61, S61) => gz r_61 (some (r_61, S61)))) else (if a2 = (71 : Int32) then ((r_alternates  S a1 a2).bind (fun (r_62, S62) => gz r_62 (some (r_62, S62)))) else (if a2 = (72 : Int32) then ((r_alternates  S a1 a2).bind (fun (r_63, S63) => gz r_63 (some (r_63, S63)))) else (if a2 = (73 : Int32) then ((r_alternates  S a1 a2).bind (fun (r_64, S64) => gz r_64 (some (r_64, S64)))) else (if a2 = (75 : Int32) then ((r_gives  S a1 ((xI S 0 6 (a1).toNatClampNeg) ||| (xI S 0 5 (a1).toNatClampNeg))).bind (fun (r_65, S65) => gz r_65 (some (r_65, S65)))) else (if a2 = (78 : Int32) then ((r_alternates  S a1 a2).bind (fun (r_66, S66) => gz r_66 (some (r_66, S66)))) else (if a2 = (81 : Int32) then ((r_alternates  S a1 a2).bind (fun (r_67, S67) => gz r_67 (some (r_67, S67)))) else (if a2 = (82 : Int32) then ((r_gives  S a1 ((xI S 0 5 (a1).toNatClampNeg) + (xI S 0 6 (a1).toNatClampNeg))).bind (fun (r_68, S68) => gz r_68 (some (r_68, S68)))) else (if a2 = (83 : Int32) then ((r_signed (xI S 0 6 (a1).toNatClampNeg)).bind (fun r_69 => (r_signed (xI S 0 5 (a1).toNatClampNeg)).bind (fun r_70 => (r_checked  S a1 (r_69 * r_70)).bind (fun (r_71, S71) => (r_gives  S71 a1 r_71).bind (fun (r_72, S72) => gz r_72 (some (r_72, S72))))))) else (if a2 = (118 : Int32) then ((r_bits (xI S 0 5 (a1).toNatClampNeg)).bind (fun r_73 => (r_gives  S a1 ((xI S 0 6 (a1).toNatClampNeg) + r_73)).bind (fun (r_74, S74) => gz r_74 (some (r_74, S74))))) else (if a2 = (120 : Int32) then (if (xI S 0 5 (a1).toNatClampNeg) ≤ (16 : Int32) then ((r_turned (xI S 0 6 (a1).toNatClampNeg) (xI S 0 5 (a1).toNatClampNeg)).bind (fun r_76 => (r_gives  S a1 r_76).bind (fun (r_77, S77) => gz r_77 (some (r_77, S77))))) else ((r_gives  S a1 (0 : Int32)).bind (fun (r_78, S78) => gz r_78 (some (r_78, S78))))) else ((r_others  S a1 a2 (xI S 0 5 (a1).toNatClampNeg) (xI S 0 6 (a1).toNatClampNeg) (xI S 0 7 (a1).toNatClampNeg)).bind (fun (r_79, S79) => gz r_79 (some (r_79, S79)))))))))))))))))))))))))))))))))))))))))))))))
set_option maxHeartbeats 4000000 in
set_option maxRecDepth 100000 in
theorem m_r_operates {l : Launch} {D : va_G} {cI cZ cB : ClassId} {ad : Nat → Nat → Nat} (hI : xInj rDom ad) {S : xS} (a1 : Int32) (a2 : Int32) {o : Int32 × xS} (h : r_operates  S a1 a2 = some o) : Met l yX12_operates (Cond.code yX12_operates cX12_operates 7 (some .boolean) :: xG) { frames := 6, cells := 0, slots := 0, locals := 147 } (xPc D vwCl (rTy cI cZ cB) [] [] rDom ad (rDe ad cI cZ cB) [.ref (ad 0 0), .int a1, .int a2] S) (xQ D vwCl rDom ad (rDe ad cI cZ cB) (some (.int o.1)) o.2) 0 0 (xA rDom ad) := by
  unfold r_operates at h
  refine x_enter (by decide) (Nat.le_of_ble_eq_true rfl) (fun p e s m below meth c F hr hlk hK hW hS ls hl => ?_)
  have hl : lv_has ls 7 [(0, .ref (ad 0 0)), (1, .int a1), (2, .int a2)] := hl
  have hx := F.1
  have hb := F.2.1
  refine lv_aload_n hx hb dX12_operates_0 rfl (lv_at hl 0 rfl) ?_
  refine x_get F hK hW xc_X12 rd_d0 rd_0 4 (by decide) k_5_132 (gf_X12_4 _ _) dX12_operates_1 ?_
  refine lv_iload_n hx hb dX12_operates_4 rfl (lv_at hl 1 rfl) ?_
  refine x_iald (t0 := 0) F hK hW rd_d5 rd_5 rfl dX12_operates_5 h (fun h => ?_)
  refine lv_istore_n (lv' := [(3, .int (xI S 0 5 (a1).toNatClampNeg)), (0, .ref (ad 0 0)), (1, .int a1), (2, .int a2)]) hx hb dX12_operates_6 rfl hl (by decide) rfl (fun ls hl => ?_)
  refine lv_aload_n hx hb dX12_operates_7 rfl (lv_at hl 1 rfl) ?_
  refine x_get F hK hW xc_X12 rd_d0 rd_0 5 (by decide) k_5_133 (gf_X12_5 _ _) dX12_operates_8 ?_
  refine lv_iload_n hx hb dX12_operates_11 rfl (lv_at hl 2 rfl) ?_
  refine x_iald (t0 := 0) F hK hW rd_d6 rd_6 rfl dX12_operates_12 h (fun h => ?_)
  refine lv_istore (lv' := [(4, .int (xI S 0 6 (a1).toNatClampNeg)), (3, .int (xI S 0 5 (a1).toNatClampNeg)), (0, .ref (ad 0 0)), (1, .int a1), (2, .int a2)]) hx hb dX12_operates_13 hl (by decide) rfl (fun ls hl => ?_)
  refine lv_aload_n hx hb dX12_operates_15 rfl (lv_at hl 2 rfl) ?_
  refine x_get F hK hW xc_X12 rd_d0 rd_0 6 (by decide) k_5_134 (gf_X12_6 _ _) dX12_operates_16 ?_
  refine lv_iload_n hx hb dX12_operates_19 rfl (lv_at hl 3 rfl) ?_
  refine x_iald (t0 := 0) F hK hW rd_d7 rd_7 rfl dX12_operates_20 h (fun h => ?_)
  refine lv_istore (lv' := [(5, .int (xI S 0 7 (a1).toNatClampNeg)), (4, .int (xI S 0 6 (a1).toNatClampNeg)), (3, .int (xI S 0 5 (a1).toNatClampNeg)), (0, .ref (ad 0 0)), (1, .int a1), (2, .int a2)]) hx hb dX12_operates_21 hl (by decide) rfl (fun ls hl => ?_)
  refine lv_iload hx hb dX12_operates_23 (lv_at hl 0 rfl) ?_
  refine lv_iconst (v := (1 : Int32)) hx hb dX12_operates_25 (by decide) ?_
  refine lv_iand hx hb dX12_operates_26 ?_
  refine lv_istore (lv' := [(6, .int ((xI S 0 7 (a1).toNatClampNeg) &&& (1 : Int32))), (5, .int (xI S 0 7 (a1).toNatClampNeg)), (4, .int (xI S 0 6 (a1).toNatClampNeg)), (3, .int (xI S 0 5 (a1).toNatClampNeg)), (0, .ref (ad 0 0)), (1, .int a1), (2, .int a2)]) hx hb dX12_operates_27 hl (by decide) rfl (fun ls hl => ?_)
  refine lv_iload_n hx hb dX12_operates_29 rfl (lv_at hl 6 rfl) ?_
  by_cases c_1_0 : a2 = (0 : Int32)
  · replace h := (if_pos c_1_0).symm.trans h
    refine lv_tableIn (tgt := 528) (off := 498) hx hb dX12_operates_30 (by rw [c_1_0]; decide) (by rw [c_1_0]; decide) (by rw [c_1_0]; decide) (by decide) ?_
    refine lv_aload_n hx hb dX12_operates_528 rfl (lv_at hl 4 rfl) ?_
    refine x_get F hK hW xc_X12 rd_d0 rd_0 4 (by decide) k_5_132 (gf_X12_4 _ _) dX12_operates_529 ?_
    refine lv_iload_n hx hb dX12_operates_532 rfl (lv_at hl 5 rfl) ?_
    refine lv_iload hx hb dX12_operates_533 (lv_at hl 2 rfl) ?_
    refine x_iast (t0 := 0) F hK hI hW hS rd_d5 rd_5 rfl dX12_operates_535 h (fun S2 H locs hW hS h => ?_)
    refine lv_aload_n hx hb dX12_operates_536 rfl (lv_at hl 4 rfl) ?_
    refine x_get F hK hW xc_X12 rd_d0 rd_0 5 (by decide) k_5_133 (gf_X12_5 _ _) dX12_operates_537 ?_
    refine lv_iload_n hx hb dX12_operates_540 rfl (lv_at hl 5 rfl) ?_
    refine lv_iload_n hx hb dX12_operates_541 rfl (lv_at hl 3 rfl) ?_
    refine x_iast (t0 := 0) F hK hI hW hS rd_d6 rd_6 rfl dX12_operates_542 h (fun S3 H locs hW hS h => ?_)
    refine lv_iconst (v := (1 : Int32)) hx hb dX12_operates_543 (by decide) ?_
    exact x_zret F hr hlk hW hS rfl dX12_operates_544 h
  replace h := (if_neg c_1_0).symm.trans h
  have hn_1_0 := x_swN (z := 0) c_1_0 x_sw0 rfl
  by_cases c_1_1 : a2 = (1 : Int32)
  · replace h := (if_pos c_1_1).symm.trans h
    refine lv_tableIn (tgt := 545) (off := 515) hx hb dX12_operates_30 (by rw [c_1_1]; decide) (by rw [c_1_1]; decide) (by rw [c_1_1]; decide) (by decide) ?_
    refine lv_aload_n hx hb dX12_operates_545 rfl (lv_at hl 4 rfl) ?_
    refine x_get F hK hW xc_X12 rd_d0 rd_0 4 (by decide) k_5_132 (gf_X12_4 _ _) dX12_operates_546 ?_
    refine lv_iload_n hx hb dX12_operates_549 rfl (lv_at hl 5 rfl) ?_
    refine lv_aload_n hx hb dX12_operates_550 rfl (lv_at hl 4 rfl) ?_
    refine lv_iload_n hx hb dX12_operates_551 rfl (lv_at hl 5 rfl) ?_
    refine lv_iload_n hx hb dX12_operates_552 rfl (lv_at hl 3 rfl) ?_
    refine x_cVi (As := [.int a1, .int (xI S 0 5 (a1).toNatClampNeg)]) F xG_ok hK hW hS um_X12_byteAt k_6_120 (fun _ h1 => m_r_byteAt hI _ _ h1) rfl rd_d0 rd_0 rfl rfl hl.1 rfl rfl ⟨Nat.le_of_ble_eq_true rfl, Nat.le_of_ble_eq_true rfl⟩ ⟨Nat.zero_le _, Nat.zero_le _⟩ (Nat.le_of_ble_eq_true rfl) dX12_operates_553 h (fun r_4 S4 H locs hW hS h => ?_)
    refine x_iast (t0 := 0) F hK hI hW hS rd_d5 rd_5 rfl dX12_operates_556 h (fun S5 H locs hW hS h => ?_)
    refine lv_iconst (v := (1 : Int32)) hx hb dX12_operates_557 (by decide) ?_
    exact x_zret F hr hlk hW hS rfl dX12_operates_558 h
  replace h := (if_neg c_1_1).symm.trans h
  have hn_1_1 := x_swN (z := 1) c_1_1 hn_1_0 rfl
  by_cases c_1_2 : a2 = (2 : Int32)
  · replace h := (if_pos c_1_2).symm.trans h
    refine lv_tableIn (tgt := 559) (off := 529) hx hb dX12_operates_30 (by rw [c_1_2]; decide) (by rw [c_1_2]; decide) (by rw [c_1_2]; decide) (by decide) ?_
    refine lv_aload_n hx hb dX12_operates_559 rfl (lv_at hl 4 rfl) ?_
    refine lv_iload_n hx hb dX12_operates_560 rfl (lv_at hl 5 rfl) ?_
    refine lv_iload_n hx hb dX12_operates_561 rfl (lv_at hl 3 rfl) ?_
    refine lv_iload hx hb dX12_operates_562 (lv_at hl 2 rfl) ?_
    refine lv_iadd hx hb dX12_operates_564 ?_
    refine x_cVi (As := [.int a1, .int ((xI S 0 5 (a1).toNatClampNeg) + (xI S 0 6 (a1).toNatClampNeg))]) F xG_ok hK hW hS um_X12_gives k_6_208 (fun _ h1 => m_r_gives hI _ _ h1) rfl rd_d0 rd_0 rfl rfl hl.1 rfl rfl ⟨Nat.le_of_ble_eq_true rfl, Nat.le_of_ble_eq_true rfl⟩ ⟨Nat.zero_le _, Nat.zero_le _⟩ (Nat.le_of_ble_eq_true rfl) dX12_operates_565 h (fun r_6 S6 H locs hW hS h => ?_)
    obtain ⟨hz, h⟩ := gz_use h
    exact x_zret F hr hlk hW hS (z_nar hz) dX12_operates_568 h
  replace h := (if_neg c_1_2).symm.trans h
  have hn_1_2 := x_swN (z := 2) c_1_2 hn_1_1 rfl
  by_cases c_1_4 : a2 = (4 : Int32)
  · replace h := (if_pos c_1_4).symm.trans h
    refine lv_tableIn (tgt := 569) (off := 539) hx hb dX12_operates_30 (by rw [c_1_4]; decide) (by rw [c_1_4]; decide) (by rw [c_1_4]; decide) (by decide) ?_
    refine lv_aload_n hx hb dX12_operates_569 rfl (lv_at hl 4 rfl) ?_
    refine lv_iload_n hx hb dX12_operates_570 rfl (lv_at hl 5 rfl) ?_
    refine lv_iload hx hb dX12_operates_571 (lv_at hl 2 rfl) ?_
    refine lv_iload_n hx hb dX12_operates_573 rfl (lv_at hl 3 rfl) ?_
    refine lv_isub hx hb dX12_operates_574 ?_
    refine x_cVi (As := [.int a1, .int ((xI S 0 6 (a1).toNatClampNeg) - (xI S 0 5 (a1).toNatClampNeg))]) F xG_ok hK hW hS um_X12_gives k_6_208 (fun _ h1 => m_r_gives hI _ _ h1) rfl rd_d0 rd_0 rfl rfl hl.1 rfl rfl ⟨Nat.le_of_ble_eq_true rfl, Nat.le_of_ble_eq_true rfl⟩ ⟨Nat.zero_le _, Nat.zero_le _⟩ (Nat.le_of_ble_eq_true rfl) dX12_operates_575 h (fun r_7 S7 H locs hW hS h => ?_)
    obtain ⟨hz, h⟩ := gz_use h
    exact x_zret F hr hlk hW hS (z_nar hz) dX12_operates_578 h
  replace h := (if_neg c_1_4).symm.trans h
  have hn_1_4 := x_swN (z := 4) c_1_4 hn_1_2 rfl
  by_cases c_1_5 : a2 = (5 : Int32)
  · replace h := (if_pos c_1_5).symm.trans h
    refine lv_tableIn (tgt := 579) (off := 549) hx hb dX12_operates_30 (by rw [c_1_5]; decide) (by rw [c_1_5]; decide) (by rw [c_1_5]; decide) (by decide) ?_
    refine lv_aload_n hx hb dX12_operates_579 rfl (lv_at hl 4 rfl) ?_
    refine lv_iload_n hx hb dX12_operates_580 rfl (lv_at hl 5 rfl) ?_
    refine lv_aload_n hx hb dX12_operates_581 rfl (lv_at hl 4 rfl) ?_
    refine lv_iload_n hx hb dX12_operates_582 rfl (lv_at hl 5 rfl) ?_
    refine lv_iload hx hb dX12_operates_583 (lv_at hl 2 rfl) ?_
    refine x_cSo (As := [.int (xI S 0 6 (a1).toNatClampNeg)]) F xG_ok hS um_X12_signed k_6_180 (fun _ h1 => m_r_signed _ h1) rfl rfl hl.1 rfl rfl ⟨Nat.le_of_ble_eq_true rfl, Nat.le_of_ble_eq_true rfl⟩ ⟨Nat.zero_le _, Nat.zero_le _⟩ (Nat.le_of_ble_eq_true rfl) dX12_operates_585 h (fun r_8 locs hS h => ?_)
    refine lv_iload_n hx hb dX12_operates_588 rfl (lv_at hl 3 rfl) ?_
    refine x_cSo (As := [.int (xI S 0 5 (a1).toNatClampNeg)]) F xG_ok hS um_X12_signed k_6_180 (fun _ h1 => m_r_signed _ h1) rfl rfl hl.1 rfl rfl ⟨Nat.le_of_ble_eq_true rfl, Nat.le_of_ble_eq_true rfl⟩ ⟨Nat.zero_le _, Nat.zero_le _⟩ (Nat.le_of_ble_eq_true rfl) dX12_operates_589 h (fun r_9 locs hS h => ?_)
    refine lv_iadd hx hb dX12_operates_592 ?_
    refine x_cVi (As := [.int a1, .int (r_8 + r_9)]) F xG_ok hK hW hS um_X12_checked k_6_212 (fun _ h1 => m_r_checked hI _ _ h1) rfl rd_d0 rd_0 rfl rfl hl.1 rfl rfl ⟨Nat.le_of_ble_eq_true rfl, Nat.le_of_ble_eq_true rfl⟩ ⟨Nat.zero_le _, Nat.zero_le _⟩ (Nat.le_of_ble_eq_true rfl) dX12_operates_593 h (fun r_10 S10 H locs hW hS h => ?_)
    refine x_cVi (As := [.int a1, .int r_10]) F xG_ok hK hW hS um_X12_gives k_6_208 (fun _ h1 => m_r_gives hI _ _ h1) rfl rd_d0 rd_0 rfl rfl hl.1 rfl rfl ⟨Nat.le_of_ble_eq_true rfl, Nat.le_of_ble_eq_true rfl⟩ ⟨Nat.zero_le _, Nat.zero_le _⟩ (Nat.le_of_ble_eq_true rfl) dX12_operates_596 h (fun r_11 S11 H locs hW hS h => ?_)
    obtain ⟨hz, h⟩ := gz_use h
    exact x_zret F hr hlk hW hS (z_nar hz) dX12_operates_599 h
  replace h := (if_neg c_1_5).symm.trans h
  have hn_1_5 := x_swN (z := 5) c_1_5 hn_1_4 rfl
  by_cases c_1_6 : a2 = (6 : Int32)
  · replace h := (if_pos c_1_6).symm.trans h
    refine lv_tableIn (tgt := 600) (off := 570) hx hb dX12_operates_30 (by rw [c_1_6]; decide) (by rw [c_1_6]; decide) (by rw [c_1_6]; decide) (by decide) ?_
    refine lv_aload_n hx hb dX12_operates_600 rfl (lv_at hl 4 rfl) ?_
    refine x_get F hK hW xc_X12 rd_d0 rd_0 4 (by decide) k_5_132 (gf_X12_4 _ _) dX12_operates_601 ?_
    refine lv_iload_n hx hb dX12_operates_604 rfl (lv_at hl 5 rfl) ?_
    refine lv_aload_n hx hb dX12_operates_605 rfl (lv_at hl 4 rfl) ?_
    refine x_get F hK hW xc_X12 rd_d0 rd_0 8 (by decide) k_5_136 (gf_X12_8 _ _) dX12_operates_606 ?_
    refine lv_iload_n hx hb dX12_operates_609 rfl (lv_at hl 5 rfl) ?_
    refine x_iald (t0 := 0) F hK hW rd_d9 rd_9 rfl dX12_operates_610 h (fun h => ?_)
    refine x_iast (t0 := 0) F hK hI hW hS rd_d5 rd_5 rfl dX12_operates_611 h (fun S12 H locs hW hS h => ?_)
    refine lv_aload_n hx hb dX12_operates_612 rfl (lv_at hl 4 rfl) ?_
    refine x_get F hK hW xc_X12 rd_d0 rd_0 8 (by decide) k_5_136 (gf_X12_8 _ _) dX12_operates_613 ?_
    refine lv_iload_n hx hb dX12_operates_616 rfl (lv_at hl 5 rfl) ?_
    refine lv_iload_n hx hb dX12_operates_617 rfl (lv_at hl 3 rfl) ?_
    refine x_iast (t0 := 0) F hK hI hW hS rd_d9 rd_9 rfl dX12_operates_618 h (fun S13 H locs hW hS h => ?_)
    refine lv_iconst (v := (1 : Int32)) hx hb dX12_operates_619 (by decide) ?_
    exact x_zret F hr hlk hW hS rfl dX12_operates_620 h
  replace h := (if_neg c_1_6).symm.trans h
  have hn_1_6 := x_swN (z := 6) c_1_6 hn_1_5 rfl
  by_cases c_1_7 : a2 = (7 : Int32)
  · replace h := (if_pos c_1_7).symm.trans h
    refine lv_tableIn (tgt := 914) (off := 884) hx hb dX12_operates_30 (by rw [c_1_7]; decide) (by rw [c_1_7]; decide) (by rw [c_1_7]; decide) (by decide) ?_
    refine lv_aload_n hx hb dX12_operates_914 rfl (lv_at hl 4 rfl) ?_
    refine lv_iload_n hx hb dX12_operates_915 rfl (lv_at hl 5 rfl) ?_
    refine lv_iload_n hx hb dX12_operates_916 rfl (lv_at hl 6 rfl) ?_
    refine x_cVi (As := [.int a1, .int a2]) F xG_ok hK hW hS um_X12_channels k_6_230 (fun _ h1 => m_r_channels hI _ _ h1) rfl rd_d0 rd_0 rfl rfl hl.1 rfl rfl ⟨Nat.le_of_ble_eq_true rfl, Nat.le_of_ble_eq_true rfl⟩ ⟨Nat.zero_le _, Nat.zero_le _⟩ (Nat.le_of_ble_eq_true rfl) dX12_operates_917 h (fun r_14 S14 H locs hW hS h => ?_)
    obtain ⟨hz, h⟩ := gz_use h
    exact x_zret F hr hlk hW hS (z_nar hz) dX12_operates_920 h
  replace h := (if_neg c_1_7).symm.trans h
  have hn_1_7 := x_swN (z := 7) c_1_7 hn_1_6 rfl
  by_cases c_1_8 : a2 = (8 : Int32)
  · replace h := (if_pos c_1_8).symm.trans h
    refine lv_tableIn (tgt := 621) (off := 591) hx hb dX12_operates_30 (by rw [c_1_8]; decide) (by rw [c_1_8]; decide) (by rw [c_1_8]; decide) (by decide) ?_
    refine lv_aload_n hx hb dX12_operates_621 rfl (lv_at hl 4 rfl) ?_
    refine lv_iload_n hx hb dX12_operates_622 rfl (lv_at hl 5 rfl) ?_
    refine lv_iload hx hb dX12_operates_623 (lv_at hl 2 rfl) ?_
    refine lv_iload_n hx hb dX12_operates_625 rfl (lv_at hl 3 rfl) ?_
    refine lv_imul hx hb dX12_operates_626 ?_
    refine x_cVi (As := [.int a1, .int ((xI S 0 6 (a1).toNatClampNeg) * (xI S 0 5 (a1).toNatClampNeg))]) F xG_ok hK hW hS um_X12_gives k_6_208 (fun _ h1 => m_r_gives hI _ _ h1) rfl rd_d0 rd_0 rfl rfl hl.1 rfl rfl ⟨Nat.le_of_ble_eq_true rfl, Nat.le_of_ble_eq_true rfl⟩ ⟨Nat.zero_le _, Nat.zero_le _⟩ (Nat.le_of_ble_eq_true rfl) dX12_operates_627 h (fun r_15 S15 H locs hW hS h => ?_)
    obtain ⟨hz, h⟩ := gz_use h
    exact x_zret F hr hlk hW hS (z_nar hz) dX12_operates_630 h
  replace h := (if_neg c_1_8).symm.trans h
  have hn_1_8 := x_swN (z := 8) c_1_8 hn_1_7 rfl
  by_cases c_1_9 : a2 = (9 : Int32)
  · replace h := (if_pos c_1_9).symm.trans h
    refine lv_tableIn (tgt := 631) (off := 601) hx hb dX12_operates_30 (by rw [c_1_9]; decide) (by rw [c_1_9]; decide) (by rw [c_1_9]; decide) (by decide) ?_
    refine lv_aload_n hx hb dX12_operates_631 rfl (lv_at hl 4 rfl) ?_
    refine lv_iload_n hx hb dX12_operates_632 rfl (lv_at hl 5 rfl) ?_
    refine lv_iload hx hb dX12_operates_633 (lv_at hl 2 rfl) ?_
    refine x_cSo (As := [.int (xI S 0 6 (a1).toNatClampNeg)]) F xG_ok hS um_X12_signed k_6_180 (fun _ h1 => m_r_signed _ h1) rfl rfl hl.1 rfl rfl ⟨Nat.le_of_ble_eq_true rfl, Nat.le_of_ble_eq_true rfl⟩ ⟨Nat.zero_le _, Nat.zero_le _⟩ (Nat.le_of_ble_eq_true rfl) dX12_operates_635 h (fun r_16 locs hS h => ?_)
    refine lv_iload_n hx hb dX12_operates_638 rfl (lv_at hl 3 rfl) ?_
    refine x_cSo (As := [.int (xI S 0 5 (a1).toNatClampNeg)]) F xG_ok hS um_X12_signed k_6_180 (fun _ h1 => m_r_signed _ h1) rfl rfl hl.1 rfl rfl ⟨Nat.le_of_ble_eq_true rfl, Nat.le_of_ble_eq_true rfl⟩ ⟨Nat.zero_le _, Nat.zero_le _⟩ (Nat.le_of_ble_eq_true rfl) dX12_operates_639 h (fun r_17 locs hS h => ?_)
    refine lv_icmp_le (tgt := 649) hx hb dX12_operates_642 (by decide) (fun c_18 => ?_) (fun c_18 => ?_)
    · replace h := (if_pos c_18).symm.trans h
      refine lv_iconst (v := (0 : Int32)) hx hb dX12_operates_649 (by decide) ?_
      refine x_cVi (As := [.int a1, .int (0 : Int32)]) F xG_ok hK hW hS um_X12_gives k_6_208 (fun _ h1 => m_r_gives hI _ _ h1) rfl rd_d0 rd_0 rfl rfl hl.1 rfl rfl ⟨Nat.le_of_ble_eq_true rfl, Nat.le_of_ble_eq_true rfl⟩ ⟨Nat.zero_le _, Nat.zero_le _⟩ (Nat.le_of_ble_eq_true rfl) dX12_operates_650 h (fun r_19 S19 H locs hW hS h => ?_)
      obtain ⟨hz, h⟩ := gz_use h
      exact x_zret F hr hlk hW hS (z_nar hz) dX12_operates_653 h
    replace h := (if_neg c_18).symm.trans h
    refine lv_iconst (v := (1 : Int32)) hx hb dX12_operates_645 (by decide) ?_
    refine lv_goto (tgt := 650) hx hb dX12_operates_646 (by decide) ?_
    refine x_cVi (As := [.int a1, .int (1 : Int32)]) F xG_ok hK hW hS um_X12_gives k_6_208 (fun _ h1 => m_r_gives hI _ _ h1) rfl rd_d0 rd_0 rfl rfl hl.1 rfl rfl ⟨Nat.le_of_ble_eq_true rfl, Nat.le_of_ble_eq_true rfl⟩ ⟨Nat.zero_le _, Nat.zero_le _⟩ (Nat.le_of_ble_eq_true rfl) dX12_operates_650 h (fun r_20 S20 H locs hW hS h => ?_)
    obtain ⟨hz, h⟩ := gz_use h
    exact x_zret F hr hlk hW hS (z_nar hz) dX12_operates_653 h
  replace h := (if_neg c_1_9).symm.trans h
  have hn_1_9 := x_swN (z := 9) c_1_9 hn_1_8 rfl
  by_cases c_1_10 : a2 = (10 : Int32)
  · replace h := (if_pos c_1_10).symm.trans h
    refine lv_tableIn (tgt := 654) (off := 624) hx hb dX12_operates_30 (by rw [c_1_10]; decide) (by rw [c_1_10]; decide) (by rw [c_1_10]; decide) (by decide) ?_
    refine lv_aload_n hx hb dX12_operates_654 rfl (lv_at hl 4 rfl) ?_
    refine lv_iload_n hx hb dX12_operates_655 rfl (lv_at hl 5 rfl) ?_
    refine lv_iload_n hx hb dX12_operates_656 rfl (lv_at hl 3 rfl) ?_
    refine lv_iconst (v := (2 : Int32)) hx hb dX12_operates_657 (by decide) ?_
    refine lv_iload hx hb dX12_operates_658 (lv_at hl 2 rfl) ?_
    refine lv_imul hx hb dX12_operates_660 ?_
    refine lv_iadd hx hb dX12_operates_661 ?_
    refine x_cVi (As := [.int a1, .int ((xI S 0 5 (a1).toNatClampNeg) + ((2 : Int32) * (xI S 0 6 (a1).toNatClampNeg)))]) F xG_ok hK hW hS um_X12_gives k_6_208 (fun _ h1 => m_r_gives hI _ _ h1) rfl rd_d0 rd_0 rfl rfl hl.1 rfl rfl ⟨Nat.le_of_ble_eq_true rfl, Nat.le_of_ble_eq_true rfl⟩ ⟨Nat.zero_le _, Nat.zero_le _⟩ (Nat.le_of_ble_eq_true rfl) dX12_operates_662 h (fun r_21 S21 H locs hW hS h => ?_)
    obtain ⟨hz, h⟩ := gz_use h
    exact x_zret F hr hlk hW hS (z_nar hz) dX12_operates_665 h
  replace h := (if_neg c_1_10).symm.trans h
  have hn_1_10 := x_swN (z := 10) c_1_10 hn_1_9 rfl
  by_cases c_1_11 : a2 = (11 : Int32)
  · replace h := (if_pos c_1_11).symm.trans h
    refine lv_tableIn (tgt := 914) (off := 884) hx hb dX12_operates_30 (by rw [c_1_11]; decide) (by rw [c_1_11]; decide) (by rw [c_1_11]; decide) (by decide) ?_
    refine lv_aload_n hx hb dX12_operates_914 rfl (lv_at hl 4 rfl) ?_
    refine lv_iload_n hx hb dX12_operates_915 rfl (lv_at hl 5 rfl) ?_
    refine lv_iload_n hx hb dX12_operates_916 rfl (lv_at hl 6 rfl) ?_
    refine x_cVi (As := [.int a1, .int a2]) F xG_ok hK hW hS um_X12_channels k_6_230 (fun _ h1 => m_r_channels hI _ _ h1) rfl rd_d0 rd_0 rfl rfl hl.1 rfl rfl ⟨Nat.le_of_ble_eq_true rfl, Nat.le_of_ble_eq_true rfl⟩ ⟨Nat.zero_le _, Nat.zero_le _⟩ (Nat.le_of_ble_eq_true rfl) dX12_operates_917 h (fun r_22 S22 H locs hW hS h => ?_)
    obtain ⟨hz, h⟩ := gz_use h
    exact x_zret F hr hlk hW hS (z_nar hz) dX12_operates_920 h
  replace h := (if_neg c_1_11).symm.trans h
  have hn_1_11 := x_swN (z := 11) c_1_11 hn_1_10 rfl
  by_cases c_1_12 : a2 = (12 : Int32)
  · replace h := (if_pos c_1_12).symm.trans h
    refine lv_tableIn (tgt := 666) (off := 636) hx hb dX12_operates_30 (by rw [c_1_12]; decide) (by rw [c_1_12]; decide) (by rw [c_1_12]; decide) (by decide) ?_
    refine lv_aload_n hx hb dX12_operates_666 rfl (lv_at hl 4 rfl) ?_
    refine lv_iload_n hx hb dX12_operates_667 rfl (lv_at hl 5 rfl) ?_
    refine lv_aload_n hx hb dX12_operates_668 rfl (lv_at hl 4 rfl) ?_
    refine lv_iload_n hx hb dX12_operates_669 rfl (lv_at hl 5 rfl) ?_
    refine lv_iload hx hb dX12_operates_670 (lv_at hl 2 rfl) ?_
    refine x_cSo (As := [.int (xI S 0 6 (a1).toNatClampNeg)]) F xG_ok hS um_X12_signed k_6_180 (fun _ h1 => m_r_signed _ h1) rfl rfl hl.1 rfl rfl ⟨Nat.le_of_ble_eq_true rfl, Nat.le_of_ble_eq_true rfl⟩ ⟨Nat.zero_le _, Nat.zero_le _⟩ (Nat.le_of_ble_eq_true rfl) dX12_operates_672 h (fun r_23 locs hS h => ?_)
    refine lv_iload_n hx hb dX12_operates_675 rfl (lv_at hl 3 rfl) ?_
    refine x_cSo (As := [.int (xI S 0 5 (a1).toNatClampNeg)]) F xG_ok hS um_X12_signed k_6_180 (fun _ h1 => m_r_signed _ h1) rfl rfl hl.1 rfl rfl ⟨Nat.le_of_ble_eq_true rfl, Nat.le_of_ble_eq_true rfl⟩ ⟨Nat.zero_le _, Nat.zero_le _⟩ (Nat.le_of_ble_eq_true rfl) dX12_operates_676 h (fun r_24 locs hS h => ?_)
    refine lv_isub hx hb dX12_operates_679 ?_
    refine x_cVi (As := [.int a1, .int (r_23 - r_24)]) F xG_ok hK hW hS um_X12_checked k_6_212 (fun _ h1 => m_r_checked hI _ _ h1) rfl rd_d0 rd_0 rfl rfl hl.1 rfl rfl ⟨Nat.le_of_ble_eq_true rfl, Nat.le_of_ble_eq_true rfl⟩ ⟨Nat.zero_le _, Nat.zero_le _⟩ (Nat.le_of_ble_eq_true rfl) dX12_operates_680 h (fun r_25 S25 H locs hW hS h => ?_)
    refine x_cVi (As := [.int a1, .int r_25]) F xG_ok hK hW hS um_X12_gives k_6_208 (fun _ h1 => m_r_gives hI _ _ h1) rfl rd_d0 rd_0 rfl rfl hl.1 rfl rfl ⟨Nat.le_of_ble_eq_true rfl, Nat.le_of_ble_eq_true rfl⟩ ⟨Nat.zero_le _, Nat.zero_le _⟩ (Nat.le_of_ble_eq_true rfl) dX12_operates_683 h (fun r_26 S26 H locs hW hS h => ?_)
    obtain ⟨hz, h⟩ := gz_use h
    exact x_zret F hr hlk hW hS (z_nar hz) dX12_operates_686 h
  replace h := (if_neg c_1_12).symm.trans h
  have hn_1_12 := x_swN (z := 12) c_1_12 hn_1_11 rfl
  by_cases c_1_14 : a2 = (14 : Int32)
  · replace h := (if_pos c_1_14).symm.trans h
    refine lv_tableIn (tgt := 914) (off := 884) hx hb dX12_operates_30 (by rw [c_1_14]; decide) (by rw [c_1_14]; decide) (by rw [c_1_14]; decide) (by decide) ?_
    refine lv_aload_n hx hb dX12_operates_914 rfl (lv_at hl 4 rfl) ?_
    refine lv_iload_n hx hb dX12_operates_915 rfl (lv_at hl 5 rfl) ?_
    refine lv_iload_n hx hb dX12_operates_916 rfl (lv_at hl 6 rfl) ?_
    refine x_cVi (As := [.int a1, .int a2]) F xG_ok hK hW hS um_X12_channels k_6_230 (fun _ h1 => m_r_channels hI _ _ h1) rfl rd_d0 rd_0 rfl rfl hl.1 rfl rfl ⟨Nat.le_of_ble_eq_true rfl, Nat.le_of_ble_eq_true rfl⟩ ⟨Nat.zero_le _, Nat.zero_le _⟩ (Nat.le_of_ble_eq_true rfl) dX12_operates_917 h (fun r_27 S27 H locs hW hS h => ?_)
    obtain ⟨hz, h⟩ := gz_use h
    exact x_zret F hr hlk hW hS (z_nar hz) dX12_operates_920 h
  replace h := (if_neg c_1_14).symm.trans h
  have hn_1_14 := x_swN (z := 14) c_1_14 hn_1_12 rfl
  by_cases c_1_15 : a2 = (15 : Int32)
  · replace h := (if_pos c_1_15).symm.trans h
    refine lv_tableIn (tgt := 914) (off := 884) hx hb dX12_operates_30 (by rw [c_1_15]; decide) (by rw [c_1_15]; decide) (by rw [c_1_15]; decide) (by decide) ?_
    refine lv_aload_n hx hb dX12_operates_914 rfl (lv_at hl 4 rfl) ?_
    refine lv_iload_n hx hb dX12_operates_915 rfl (lv_at hl 5 rfl) ?_
    refine lv_iload_n hx hb dX12_operates_916 rfl (lv_at hl 6 rfl) ?_
    refine x_cVi (As := [.int a1, .int a2]) F xG_ok hK hW hS um_X12_channels k_6_230 (fun _ h1 => m_r_channels hI _ _ h1) rfl rd_d0 rd_0 rfl rfl hl.1 rfl rfl ⟨Nat.le_of_ble_eq_true rfl, Nat.le_of_ble_eq_true rfl⟩ ⟨Nat.zero_le _, Nat.zero_le _⟩ (Nat.le_of_ble_eq_true rfl) dX12_operates_917 h (fun r_28 S28 H locs hW hS h => ?_)
    obtain ⟨hz, h⟩ := gz_use h
    exact x_zret F hr hlk hW hS (z_nar hz) dX12_operates_920 h
  replace h := (if_neg c_1_15).symm.trans h
  have hn_1_15 := x_swN (z := 15) c_1_15 hn_1_14 rfl
  by_cases c_1_18 : a2 = (18 : Int32)
  · replace h := (if_pos c_1_18).symm.trans h
    refine lv_tableIn (tgt := 914) (off := 884) hx hb dX12_operates_30 (by rw [c_1_18]; decide) (by rw [c_1_18]; decide) (by rw [c_1_18]; decide) (by decide) ?_
    refine lv_aload_n hx hb dX12_operates_914 rfl (lv_at hl 4 rfl) ?_
    refine lv_iload_n hx hb dX12_operates_915 rfl (lv_at hl 5 rfl) ?_
    refine lv_iload_n hx hb dX12_operates_916 rfl (lv_at hl 6 rfl) ?_
    refine x_cVi (As := [.int a1, .int a2]) F xG_ok hK hW hS um_X12_channels k_6_230 (fun _ h1 => m_r_channels hI _ _ h1) rfl rd_d0 rd_0 rfl rfl hl.1 rfl rfl ⟨Nat.le_of_ble_eq_true rfl, Nat.le_of_ble_eq_true rfl⟩ ⟨Nat.zero_le _, Nat.zero_le _⟩ (Nat.le_of_ble_eq_true rfl) dX12_operates_917 h (fun r_29 S29 H locs hW hS h => ?_)
    obtain ⟨hz, h⟩ := gz_use h
    exact x_zret F hr hlk hW hS (z_nar hz) dX12_operates_920 h
  replace h := (if_neg c_1_18).symm.trans h
  have hn_1_18 := x_swN (z := 18) c_1_18 hn_1_15 rfl
  by_cases c_1_22 : a2 = (22 : Int32)
  · replace h := (if_pos c_1_22).symm.trans h
    refine lv_tableIn (tgt := 687) (off := 657) hx hb dX12_operates_30 (by rw [c_1_22]; decide) (by rw [c_1_22]; decide) (by rw [c_1_22]; decide) (by decide) ?_
    refine lv_aload_n hx hb dX12_operates_687 rfl (lv_at hl 4 rfl) ?_
    refine lv_iload_n hx hb dX12_operates_688 rfl (lv_at hl 5 rfl) ?_
    refine lv_aload_n hx hb dX12_operates_689 rfl (lv_at hl 4 rfl) ?_
    refine lv_iload_n hx hb dX12_operates_690 rfl (lv_at hl 5 rfl) ?_
    refine lv_iload hx hb dX12_operates_691 (lv_at hl 2 rfl) ?_
    refine x_cSo (As := [.int (xI S 0 6 (a1).toNatClampNeg)]) F xG_ok hS um_X12_signed k_6_180 (fun _ h1 => m_r_signed _ h1) rfl rfl hl.1 rfl rfl ⟨Nat.le_of_ble_eq_true rfl, Nat.le_of_ble_eq_true rfl⟩ ⟨Nat.zero_le _, Nat.zero_le _⟩ (Nat.le_of_ble_eq_true rfl) dX12_operates_693 h (fun r_30 locs hS h => ?_)
    refine lv_iload_n hx hb dX12_operates_696 rfl (lv_at hl 3 rfl) ?_
    refine x_cSo (As := [.int (xI S 0 5 (a1).toNatClampNeg)]) F xG_ok hS um_X12_signed k_6_180 (fun _ h1 => m_r_signed _ h1) rfl rfl hl.1 rfl rfl ⟨Nat.le_of_ble_eq_true rfl, Nat.le_of_ble_eq_true rfl⟩ ⟨Nat.zero_le _, Nat.zero_le _⟩ (Nat.le_of_ble_eq_true rfl) dX12_operates_697 h (fun r_31 locs hS h => ?_)
    refine lv_iadd hx hb dX12_operates_700 ?_
    refine lv_iload hx hb dX12_operates_701 (lv_at hl 0 rfl) ?_
    refine lv_iadd hx hb dX12_operates_703 ?_
    refine x_cVi (As := [.int a1, .int ((r_30 + r_31) + ((xI S 0 7 (a1).toNatClampNeg) &&& (1 : Int32)))]) F xG_ok hK hW hS um_X12_checked k_6_212 (fun _ h1 => m_r_checked hI _ _ h1) rfl rd_d0 rd_0 rfl rfl hl.1 rfl rfl ⟨Nat.le_of_ble_eq_true rfl, Nat.le_of_ble_eq_true rfl⟩ ⟨Nat.zero_le _, Nat.zero_le _⟩ (Nat.le_of_ble_eq_true rfl) dX12_operates_704 h (fun r_32 S32 H locs hW hS h => ?_)
    refine x_cVi (As := [.int a1, .int r_32]) F xG_ok hK hW hS um_X12_gives k_6_208 (fun _ h1 => m_r_gives hI _ _ h1) rfl rd_d0 rd_0 rfl rfl hl.1 rfl rfl ⟨Nat.le_of_ble_eq_true rfl, Nat.le_of_ble_eq_true rfl⟩ ⟨Nat.zero_le _, Nat.zero_le _⟩ (Nat.le_of_ble_eq_true rfl) dX12_operates_707 h (fun r_33 S33 H locs hW hS h => ?_)
    obtain ⟨hz, h⟩ := gz_use h
    exact x_zret F hr hlk hW hS (z_nar hz) dX12_operates_710 h
  replace h := (if_neg c_1_22).symm.trans h
  have hn_1_22 := x_swN (z := 22) c_1_22 hn_1_18 rfl
  by_cases c_1_31 : a2 = (31 : Int32)
  · replace h := (if_pos c_1_31).symm.trans h
    refine lv_tableIn (tgt := 711) (off := 681) hx hb dX12_operates_30 (by rw [c_1_31]; decide) (by rw [c_1_31]; decide) (by rw [c_1_31]; decide) (by decide) ?_
    refine lv_aload_n hx hb dX12_operates_711 rfl (lv_at hl 4 rfl) ?_
    refine lv_iload_n hx hb dX12_operates_712 rfl (lv_at hl 5 rfl) ?_
    refine lv_iload hx hb dX12_operates_713 (lv_at hl 2 rfl) ?_
    refine x_cSo (As := [.int (xI S 0 6 (a1).toNatClampNeg)]) F xG_ok hS um_X12_signed k_6_180 (fun _ h1 => m_r_signed _ h1) rfl rfl hl.1 rfl rfl ⟨Nat.le_of_ble_eq_true rfl, Nat.le_of_ble_eq_true rfl⟩ ⟨Nat.zero_le _, Nat.zero_le _⟩ (Nat.le_of_ble_eq_true rfl) dX12_operates_715 h (fun r_34 locs hS h => ?_)
    refine lv_iload_n hx hb dX12_operates_718 rfl (lv_at hl 3 rfl) ?_
    refine x_cSo (As := [.int (xI S 0 5 (a1).toNatClampNeg)]) F xG_ok hS um_X12_signed k_6_180 (fun _ h1 => m_r_signed _ h1) rfl rfl hl.1 rfl rfl ⟨Nat.le_of_ble_eq_true rfl, Nat.le_of_ble_eq_true rfl⟩ ⟨Nat.zero_le _, Nat.zero_le _⟩ (Nat.le_of_ble_eq_true rfl) dX12_operates_719 h (fun r_35 locs hS h => ?_)
    refine x_cVi (As := [.int a1, .int r_34, .int r_35]) F xG_ok hK hW hS um_X12_rest k_6_216 (fun _ h1 => m_r_rest hI _ _ _ h1) rfl rd_d0 rd_0 rfl rfl hl.1 rfl rfl ⟨Nat.le_of_ble_eq_true rfl, Nat.le_of_ble_eq_true rfl⟩ ⟨Nat.zero_le _, Nat.zero_le _⟩ (Nat.le_of_ble_eq_true rfl) dX12_operates_722 h (fun r_36 S36 H locs hW hS h => ?_)
    obtain ⟨hz, h⟩ := gz_use h
    exact x_zret F hr hlk hW hS (z_nar hz) dX12_operates_725 h
  replace h := (if_neg c_1_31).symm.trans h
  have hn_1_31 := x_swN (z := 31) c_1_31 hn_1_22 rfl
  by_cases c_1_43 : a2 = (43 : Int32)
  · replace h := (if_pos c_1_43).symm.trans h
    refine lv_tableIn (tgt := 921) (off := 891) hx hb dX12_operates_30 (by rw [c_1_43]; decide) (by rw [c_1_43]; decide) (by rw [c_1_43]; decide) (by decide) ?_
    refine lv_aload_n hx hb dX12_operates_921 rfl (lv_at hl 4 rfl) ?_
    refine lv_iload_n hx hb dX12_operates_922 rfl (lv_at hl 5 rfl) ?_
    refine lv_iload_n hx hb dX12_operates_923 rfl (lv_at hl 6 rfl) ?_
    refine x_cVi (As := [.int a1, .int a2]) F xG_ok hK hW hS um_X12_alternates k_7_45 (fun _ h1 => m_r_alternates hI _ _ h1) rfl rd_d0 rd_0 rfl rfl hl.1 rfl rfl ⟨Nat.le_of_ble_eq_true rfl, Nat.le_of_ble_eq_true rfl⟩ ⟨Nat.zero_le _, Nat.zero_le _⟩ (Nat.le_of_ble_eq_true rfl) dX12_operates_924 h (fun r_37 S37 H locs hW hS h => ?_)
    obtain ⟨hz, h⟩ := gz_use h
    exact x_zret F hr hlk hW hS (z_nar hz) dX12_operates_927 h
  replace h := (if_neg c_1_43).symm.trans h
  have hn_1_43 := x_swN (z := 43) c_1_43 hn_1_31 rfl
  by_cases c_1_44 : a2 = (44 : Int32)
  · replace h := (if_pos c_1_44).symm.trans h
    refine lv_tableIn (tgt := 726) (off := 696) hx hb dX12_operates_30 (by rw [c_1_44]; decide) (by rw [c_1_44]; decide) (by rw [c_1_44]; decide) (by decide) ?_
    refine lv_aload_n hx hb dX12_operates_726 rfl (lv_at hl 4 rfl) ?_
    refine lv_iload_n hx hb dX12_operates_727 rfl (lv_at hl 5 rfl) ?_
    refine lv_iload hx hb dX12_operates_728 (lv_at hl 2 rfl) ?_
    refine x_cSo (As := [.int (xI S 0 6 (a1).toNatClampNeg)]) F xG_ok hS um_X12_signed k_6_180 (fun _ h1 => m_r_signed _ h1) rfl rfl hl.1 rfl rfl ⟨Nat.le_of_ble_eq_true rfl, Nat.le_of_ble_eq_true rfl⟩ ⟨Nat.zero_le _, Nat.zero_le _⟩ (Nat.le_of_ble_eq_true rfl) dX12_operates_730 h (fun r_38 locs hS h => ?_)
    refine lv_iload_n hx hb dX12_operates_733 rfl (lv_at hl 3 rfl) ?_
    refine x_cSo (As := [.int (xI S 0 5 (a1).toNatClampNeg)]) F xG_ok hS um_X12_signed k_6_180 (fun _ h1 => m_r_signed _ h1) rfl rfl hl.1 rfl rfl ⟨Nat.le_of_ble_eq_true rfl, Nat.le_of_ble_eq_true rfl⟩ ⟨Nat.zero_le _, Nat.zero_le _⟩ (Nat.le_of_ble_eq_true rfl) dX12_operates_734 h (fun r_39 locs hS h => ?_)
    refine x_cVi (As := [.int a1, .int r_38, .int r_39]) F xG_ok hK hW hS um_X12_quotient k_6_220 (fun _ h1 => m_r_quotient hI _ _ _ h1) rfl rd_d0 rd_0 rfl rfl hl.1 rfl rfl ⟨Nat.le_of_ble_eq_true rfl, Nat.le_of_ble_eq_true rfl⟩ ⟨Nat.zero_le _, Nat.zero_le _⟩ (Nat.le_of_ble_eq_true rfl) dX12_operates_737 h (fun r_40 S40 H locs hW hS h => ?_)
    obtain ⟨hz, h⟩ := gz_use h
    exact x_zret F hr hlk hW hS (z_nar hz) dX12_operates_740 h
  replace h := (if_neg c_1_44).symm.trans h
  have hn_1_44 := x_swN (z := 44) c_1_44 hn_1_43 rfl
  by_cases c_1_46 : a2 = (46 : Int32)
  · replace h := (if_pos c_1_46).symm.trans h
    refine lv_tableIn (tgt := 921) (off := 891) hx hb dX12_operates_30 (by rw [c_1_46]; decide) (by rw [c_1_46]; decide) (by rw [c_1_46]; decide) (by decide) ?_
    refine lv_aload_n hx hb dX12_operates_921 rfl (lv_at hl 4 rfl) ?_
    refine lv_iload_n hx hb dX12_operates_922 rfl (lv_at hl 5 rfl) ?_
    refine lv_iload_n hx hb dX12_operates_923 rfl (lv_at hl 6 rfl) ?_
    refine x_cVi (As := [.int a1, .int a2]) F xG_ok hK hW hS um_X12_alternates k_7_45 (fun _ h1 => m_r_alternates hI _ _ h1) rfl rd_d0 rd_0 rfl rfl hl.1 rfl rfl ⟨Nat.le_of_ble_eq_true rfl, Nat.le_of_ble_eq_true rfl⟩ ⟨Nat.zero_le _, Nat.zero_le _⟩ (Nat.le_of_ble_eq_true rfl) dX12_operates_924 h (fun r_41 S41 H locs hW hS h => ?_)
    obtain ⟨hz, h⟩ := gz_use h
    exact x_zret F hr hlk hW hS (z_nar hz) dX12_operates_927 h
  replace h := (if_neg c_1_46).symm.trans h
  have hn_1_46 := x_swN (z := 46) c_1_46 hn_1_44 rfl
  by_cases c_1_47 : a2 = (47 : Int32)
  · replace h := (if_pos c_1_47).symm.trans h
    refine lv_tableIn (tgt := 921) (off := 891) hx hb dX12_operates_30 (by rw [c_1_47]; decide) (by rw [c_1_47]; decide) (by rw [c_1_47]; decide) (by decide) ?_
    refine lv_aload_n hx hb dX12_operates_921 rfl (lv_at hl 4 rfl) ?_
    refine lv_iload_n hx hb dX12_operates_922 rfl (lv_at hl 5 rfl) ?_
    refine lv_iload_n hx hb dX12_operates_923 rfl (lv_at hl 6 rfl) ?_
    refine x_cVi (As := [.int a1, .int a2]) F xG_ok hK hW hS um_X12_alternates k_7_45 (fun _ h1 => m_r_alternates hI _ _ h1) rfl rd_d0 rd_0 rfl rfl hl.1 rfl rfl ⟨Nat.le_of_ble_eq_true rfl, Nat.le_of_ble_eq_true rfl⟩ ⟨Nat.zero_le _, Nat.zero_le _⟩ (Nat.le_of_ble_eq_true rfl) dX12_operates_924 h (fun r_42 S42 H locs hW hS h => ?_)
    obtain ⟨hz, h⟩ := gz_use h
    exact x_zret F hr hlk hW hS (z_nar hz) dX12_operates_927 h
  replace h := (if_neg c_1_47).symm.trans h
  have hn_1_47 := x_swN (z := 47) c_1_47 hn_1_46 rfl
  by_cases c_1_48 : a2 = (48 : Int32)
  · replace h := (if_pos c_1_48).symm.trans h
    refine lv_tableIn (tgt := 921) (off := 891) hx hb dX12_operates_30 (by rw [c_1_48]; decide) (by rw [c_1_48]; decide) (by rw [c_1_48]; decide) (by decide) ?_
    refine lv_aload_n hx hb dX12_operates_921 rfl (lv_at hl 4 rfl) ?_
    refine lv_iload_n hx hb dX12_operates_922 rfl (lv_at hl 5 rfl) ?_
    refine lv_iload_n hx hb dX12_operates_923 rfl (lv_at hl 6 rfl) ?_
    refine x_cVi (As := [.int a1, .int a2]) F xG_ok hK hW hS um_X12_alternates k_7_45 (fun _ h1 => m_r_alternates hI _ _ h1) rfl rd_d0 rd_0 rfl rfl hl.1 rfl rfl ⟨Nat.le_of_ble_eq_true rfl, Nat.le_of_ble_eq_true rfl⟩ ⟨Nat.zero_le _, Nat.zero_le _⟩ (Nat.le_of_ble_eq_true rfl) dX12_operates_924 h (fun r_43 S43 H locs hW hS h => ?_)
    obtain ⟨hz, h⟩ := gz_use h
    exact x_zret F hr hlk hW hS (z_nar hz) dX12_operates_927 h
  replace h := (if_neg c_1_48).symm.trans h
  have hn_1_48 := x_swN (z := 48) c_1_48 hn_1_47 rfl
  by_cases c_1_51 : a2 = (51 : Int32)
  · replace h := (if_pos c_1_51).symm.trans h
    refine lv_tableIn (tgt := 741) (off := 711) hx hb dX12_operates_30 (by rw [c_1_51]; decide) (by rw [c_1_51]; decide) (by rw [c_1_51]; decide) (by decide) ?_
    refine lv_aload_n hx hb dX12_operates_741 rfl (lv_at hl 4 rfl) ?_
    refine lv_iload_n hx hb dX12_operates_742 rfl (lv_at hl 5 rfl) ?_
    refine lv_iload hx hb dX12_operates_743 (lv_at hl 2 rfl) ?_
    refine lv_iload_n hx hb dX12_operates_745 rfl (lv_at hl 3 rfl) ?_
    refine lv_ixor hx hb dX12_operates_746 ?_
    refine x_cVi (As := [.int a1, .int ((xI S 0 6 (a1).toNatClampNeg) ^^^ (xI S 0 5 (a1).toNatClampNeg))]) F xG_ok hK hW hS um_X12_gives k_6_208 (fun _ h1 => m_r_gives hI _ _ h1) rfl rd_d0 rd_0 rfl rfl hl.1 rfl rfl ⟨Nat.le_of_ble_eq_true rfl, Nat.le_of_ble_eq_true rfl⟩ ⟨Nat.zero_le _, Nat.zero_le _⟩ (Nat.le_of_ble_eq_true rfl) dX12_operates_747 h (fun r_44 S44 H locs hW hS h => ?_)
    obtain ⟨hz, h⟩ := gz_use h
    exact x_zret F hr hlk hW hS (z_nar hz) dX12_operates_750 h
  replace h := (if_neg c_1_51).symm.trans h
  have hn_1_51 := x_swN (z := 51) c_1_51 hn_1_48 rfl
  by_cases c_1_56 : a2 = (56 : Int32)
  · replace h := (if_pos c_1_56).symm.trans h
    refine lv_tableIn (tgt := 751) (off := 721) hx hb dX12_operates_30 (by rw [c_1_56]; decide) (by rw [c_1_56]; decide) (by rw [c_1_56]; decide) (by decide) ?_
    refine lv_aload_n hx hb dX12_operates_751 rfl (lv_at hl 4 rfl) ?_
    refine lv_iload_n hx hb dX12_operates_752 rfl (lv_at hl 5 rfl) ?_
    refine lv_aload_n hx hb dX12_operates_753 rfl (lv_at hl 4 rfl) ?_
    refine lv_iload_n hx hb dX12_operates_754 rfl (lv_at hl 5 rfl) ?_
    refine lv_iload hx hb dX12_operates_755 (lv_at hl 2 rfl) ?_
    refine x_cSo (As := [.int (xI S 0 6 (a1).toNatClampNeg)]) F xG_ok hS um_X12_signed k_6_180 (fun _ h1 => m_r_signed _ h1) rfl rfl hl.1 rfl rfl ⟨Nat.le_of_ble_eq_true rfl, Nat.le_of_ble_eq_true rfl⟩ ⟨Nat.zero_le _, Nat.zero_le _⟩ (Nat.le_of_ble_eq_true rfl) dX12_operates_757 h (fun r_45 locs hS h => ?_)
    refine lv_iload_n hx hb dX12_operates_760 rfl (lv_at hl 3 rfl) ?_
    refine x_cSo (As := [.int (xI S 0 5 (a1).toNatClampNeg)]) F xG_ok hS um_X12_signed k_6_180 (fun _ h1 => m_r_signed _ h1) rfl rfl hl.1 rfl rfl ⟨Nat.le_of_ble_eq_true rfl, Nat.le_of_ble_eq_true rfl⟩ ⟨Nat.zero_le _, Nat.zero_le _⟩ (Nat.le_of_ble_eq_true rfl) dX12_operates_761 h (fun r_46 locs hS h => ?_)
    refine lv_isub hx hb dX12_operates_764 ?_
    refine lv_iload hx hb dX12_operates_765 (lv_at hl 0 rfl) ?_
    refine lv_isub hx hb dX12_operates_767 ?_
    refine x_cVi (As := [.int a1, .int ((r_45 - r_46) - ((xI S 0 7 (a1).toNatClampNeg) &&& (1 : Int32)))]) F xG_ok hK hW hS um_X12_checked k_6_212 (fun _ h1 => m_r_checked hI _ _ h1) rfl rd_d0 rd_0 rfl rfl hl.1 rfl rfl ⟨Nat.le_of_ble_eq_true rfl, Nat.le_of_ble_eq_true rfl⟩ ⟨Nat.zero_le _, Nat.zero_le _⟩ (Nat.le_of_ble_eq_true rfl) dX12_operates_768 h (fun r_47 S47 H locs hW hS h => ?_)
    refine x_cVi (As := [.int a1, .int r_47]) F xG_ok hK hW hS um_X12_gives k_6_208 (fun _ h1 => m_r_gives hI _ _ h1) rfl rd_d0 rd_0 rfl rfl hl.1 rfl rfl ⟨Nat.le_of_ble_eq_true rfl, Nat.le_of_ble_eq_true rfl⟩ ⟨Nat.zero_le _, Nat.zero_le _⟩ (Nat.le_of_ble_eq_true rfl) dX12_operates_771 h (fun r_48 S48 H locs hW hS h => ?_)
    obtain ⟨hz, h⟩ := gz_use h
    exact x_zret F hr hlk hW hS (z_nar hz) dX12_operates_774 h
  replace h := (if_neg c_1_56).symm.trans h
  have hn_1_56 := x_swN (z := 56) c_1_56 hn_1_51 rfl
  by_cases c_1_58 : a2 = (58 : Int32)
  · replace h := (if_pos c_1_58).symm.trans h
    refine lv_tableIn (tgt := 775) (off := 745) hx hb dX12_operates_30 (by rw [c_1_58]; decide) (by rw [c_1_58]; decide) (by rw [c_1_58]; decide) (by decide) ?_
    refine lv_aload_n hx hb dX12_operates_775 rfl (lv_at hl 4 rfl) ?_
    refine lv_iload_n hx hb dX12_operates_776 rfl (lv_at hl 5 rfl) ?_
    refine lv_iload hx hb dX12_operates_777 (lv_at hl 2 rfl) ?_
    refine lv_iload_n hx hb dX12_operates_779 rfl (lv_at hl 3 rfl) ?_
    refine lv_icmp_lt (tgt := 792) hx hb dX12_operates_780 (by decide) (fun c_49 => ?_) (fun c_49 => ?_)
    · replace h := (if_pos c_49).symm.trans h
      refine lv_iload hx hb dX12_operates_792 (lv_at hl 2 rfl) ?_
      refine x_cVi (As := [.int a1, .int (xI S 0 6 (a1).toNatClampNeg)]) F xG_ok hK hW hS um_X12_gives k_6_208 (fun _ h1 => m_r_gives hI _ _ h1) rfl rd_d0 rd_0 rfl rfl hl.1 rfl rfl ⟨Nat.le_of_ble_eq_true rfl, Nat.le_of_ble_eq_true rfl⟩ ⟨Nat.zero_le _, Nat.zero_le _⟩ (Nat.le_of_ble_eq_true rfl) dX12_operates_794 h (fun r_50 S50 H locs hW hS h => ?_)
      obtain ⟨hz, h⟩ := gz_use h
      exact x_zret F hr hlk hW hS (z_nar hz) dX12_operates_797 h
    replace h := (if_neg c_49).symm.trans h
    refine lv_iload hx hb dX12_operates_783 (lv_at hl 2 rfl) ?_
    refine lv_iconst (v := (2 : Int32)) hx hb dX12_operates_785 (by decide) ?_
    refine lv_iload_n hx hb dX12_operates_786 rfl (lv_at hl 3 rfl) ?_
    refine lv_imul hx hb dX12_operates_787 ?_
    refine lv_isub hx hb dX12_operates_788 ?_
    refine lv_goto (tgt := 794) hx hb dX12_operates_789 (by decide) ?_
    refine x_cVi (As := [.int a1, .int ((xI S 0 6 (a1).toNatClampNeg) - ((2 : Int32) * (xI S 0 5 (a1).toNatClampNeg)))]) F xG_ok hK hW hS um_X12_gives k_6_208 (fun _ h1 => m_r_gives hI _ _ h1) rfl rd_d0 rd_0 rfl rfl hl.1 rfl rfl ⟨Nat.le_of_ble_eq_true rfl, Nat.le_of_ble_eq_true rfl⟩ ⟨Nat.zero_le _, Nat.zero_le _⟩ (Nat.le_of_ble_eq_true rfl) dX12_operates_794 h (fun r_51 S51 H locs hW hS h => ?_)
    obtain ⟨hz, h⟩ := gz_use h
    exact x_zret F hr hlk hW hS (z_nar hz) dX12_operates_797 h
  replace h := (if_neg c_1_58).symm.trans h
  have hn_1_58 := x_swN (z := 58) c_1_58 hn_1_56 rfl
  by_cases c_1_64 : a2 = (64 : Int32)
  · replace h := (if_pos c_1_64).symm.trans h
    refine lv_tableIn (tgt := 798) (off := 768) hx hb dX12_operates_30 (by rw [c_1_64]; decide) (by rw [c_1_64]; decide) (by rw [c_1_64]; decide) (by decide) ?_
    refine lv_aload_n hx hb dX12_operates_798 rfl (lv_at hl 4 rfl) ?_
    refine lv_iload_n hx hb dX12_operates_799 rfl (lv_at hl 5 rfl) ?_
    refine lv_iload_n hx hb dX12_operates_800 rfl (lv_at hl 3 rfl) ?_
    refine lv_bipush (v := (15 : Int32)) hx hb dX12_operates_801 (by decide) ?_
    refine lv_icmp_le (tgt := 810) hx hb dX12_operates_803 (by decide) (fun c_52 => ?_) (fun c_52 => ?_)
    · replace h := (if_pos c_52).symm.trans h
      refine lv_iload hx hb dX12_operates_810 (lv_at hl 2 rfl) ?_
      refine lv_iload_n hx hb dX12_operates_812 rfl (lv_at hl 3 rfl) ?_
      refine lv_ishr hx hb dX12_operates_813 ?_
      refine x_cVi (As := [.int a1, .int ((xI S 0 6 (a1).toNatClampNeg) >>> ((xI S 0 5 (a1).toNatClampNeg) &&& 31))]) F xG_ok hK hW hS um_X12_gives k_6_208 (fun _ h1 => m_r_gives hI _ _ h1) rfl rd_d0 rd_0 rfl rfl hl.1 rfl rfl ⟨Nat.le_of_ble_eq_true rfl, Nat.le_of_ble_eq_true rfl⟩ ⟨Nat.zero_le _, Nat.zero_le _⟩ (Nat.le_of_ble_eq_true rfl) dX12_operates_814 h (fun r_53 S53 H locs hW hS h => ?_)
      obtain ⟨hz, h⟩ := gz_use h
      exact x_zret F hr hlk hW hS (z_nar hz) dX12_operates_817 h
    replace h := (if_neg c_52).symm.trans h
    refine lv_iconst (v := (0 : Int32)) hx hb dX12_operates_806 (by decide) ?_
    refine lv_goto (tgt := 814) hx hb dX12_operates_807 (by decide) ?_
    refine x_cVi (As := [.int a1, .int (0 : Int32)]) F xG_ok hK hW hS um_X12_gives k_6_208 (fun _ h1 => m_r_gives hI _ _ h1) rfl rd_d0 rd_0 rfl rfl hl.1 rfl rfl ⟨Nat.le_of_ble_eq_true rfl, Nat.le_of_ble_eq_true rfl⟩ ⟨Nat.zero_le _, Nat.zero_le _⟩ (Nat.le_of_ble_eq_true rfl) dX12_operates_814 h (fun r_54 S54 H locs hW hS h => ?_)
    obtain ⟨hz, h⟩ := gz_use h
    exact x_zret F hr hlk hW hS (z_nar hz) dX12_operates_817 h
  replace h := (if_neg c_1_64).symm.trans h
  have hn_1_64 := x_swN (z := 64) c_1_64 hn_1_58 rfl
  by_cases c_1_65 : a2 = (65 : Int32)
  · replace h := (if_pos c_1_65).symm.trans h
    refine lv_tableIn (tgt := 818) (off := 788) hx hb dX12_operates_30 (by rw [c_1_65]; decide) (by rw [c_1_65]; decide) (by rw [c_1_65]; decide) (by decide) ?_
    refine lv_aload_n hx hb dX12_operates_818 rfl (lv_at hl 4 rfl) ?_
    refine lv_iload_n hx hb dX12_operates_819 rfl (lv_at hl 5 rfl) ?_
    refine lv_iload_n hx hb dX12_operates_820 rfl (lv_at hl 3 rfl) ?_
    refine lv_bipush (v := (15 : Int32)) hx hb dX12_operates_821 (by decide) ?_
    refine lv_icmp_le (tgt := 830) hx hb dX12_operates_823 (by decide) (fun c_55 => ?_) (fun c_55 => ?_)
    · replace h := (if_pos c_55).symm.trans h
      refine lv_iload hx hb dX12_operates_830 (lv_at hl 2 rfl) ?_
      refine lv_iload_n hx hb dX12_operates_832 rfl (lv_at hl 3 rfl) ?_
      refine lv_ishl hx hb dX12_operates_833 ?_
      refine x_cVi (As := [.int a1, .int ((xI S 0 6 (a1).toNatClampNeg) <<< ((xI S 0 5 (a1).toNatClampNeg) &&& 31))]) F xG_ok hK hW hS um_X12_gives k_6_208 (fun _ h1 => m_r_gives hI _ _ h1) rfl rd_d0 rd_0 rfl rfl hl.1 rfl rfl ⟨Nat.le_of_ble_eq_true rfl, Nat.le_of_ble_eq_true rfl⟩ ⟨Nat.zero_le _, Nat.zero_le _⟩ (Nat.le_of_ble_eq_true rfl) dX12_operates_834 h (fun r_56 S56 H locs hW hS h => ?_)
      obtain ⟨hz, h⟩ := gz_use h
      exact x_zret F hr hlk hW hS (z_nar hz) dX12_operates_837 h
    replace h := (if_neg c_55).symm.trans h
    refine lv_iconst (v := (0 : Int32)) hx hb dX12_operates_826 (by decide) ?_
    refine lv_goto (tgt := 834) hx hb dX12_operates_827 (by decide) ?_
    refine x_cVi (As := [.int a1, .int (0 : Int32)]) F xG_ok hK hW hS um_X12_gives k_6_208 (fun _ h1 => m_r_gives hI _ _ h1) rfl rd_d0 rd_0 rfl rfl hl.1 rfl rfl ⟨Nat.le_of_ble_eq_true rfl, Nat.le_of_ble_eq_true rfl⟩ ⟨Nat.zero_le _, Nat.zero_le _⟩ (Nat.le_of_ble_eq_true rfl) dX12_operates_834 h (fun r_57 S57 H locs hW hS h => ?_)
    obtain ⟨hz, h⟩ := gz_use h
    exact x_zret F hr hlk hW hS (z_nar hz) dX12_operates_837 h
  replace h := (if_neg c_1_65).symm.trans h
  have hn_1_65 := x_swN (z := 65) c_1_65 hn_1_64 rfl
  by_cases c_1_67 : a2 = (67 : Int32)
  · replace h := (if_pos c_1_67).symm.trans h
    refine lv_tableIn (tgt := 921) (off := 891) hx hb dX12_operates_30 (by rw [c_1_67]; decide) (by rw [c_1_67]; decide) (by rw [c_1_67]; decide) (by decide) ?_
    refine lv_aload_n hx hb dX12_operates_921 rfl (lv_at hl 4 rfl) ?_
    refine lv_iload_n hx hb dX12_operates_922 rfl (lv_at hl 5 rfl) ?_
    refine lv_iload_n hx hb dX12_operates_923 rfl (lv_at hl 6 rfl) ?_
    refine x_cVi (As := [.int a1, .int a2]) F xG_ok hK hW hS um_X12_alternates k_7_45 (fun _ h1 => m_r_alternates hI _ _ h1) rfl rd_d0 rd_0 rfl rfl hl.1 rfl rfl ⟨Nat.le_of_ble_eq_true rfl, Nat.le_of_ble_eq_true rfl⟩ ⟨Nat.zero_le _, Nat.zero_le _⟩ (Nat.le_of_ble_eq_true rfl) dX12_operates_924 h (fun r_58 S58 H locs hW hS h => ?_)
    obtain ⟨hz, h⟩ := gz_use h
    exact x_zret F hr hlk hW hS (z_nar hz) dX12_operates_927 h
  replace h := (if_neg c_1_67).symm.trans h
  have hn_1_67 := x_swN (z := 67) c_1_67 hn_1_65 rfl
  by_cases c_1_68 : a2 = (68 : Int32)
  · replace h := (if_pos c_1_68).symm.trans h
    refine lv_tableIn (tgt := 921) (off := 891) hx hb dX12_operates_30 (by rw [c_1_68]; decide) (by rw [c_1_68]; decide) (by rw [c_1_68]; decide) (by decide) ?_
    refine lv_aload_n hx hb dX12_operates_921 rfl (lv_at hl 4 rfl) ?_
    refine lv_iload_n hx hb dX12_operates_922 rfl (lv_at hl 5 rfl) ?_
    refine lv_iload_n hx hb dX12_operates_923 rfl (lv_at hl 6 rfl) ?_
    refine x_cVi (As := [.int a1, .int a2]) F xG_ok hK hW hS um_X12_alternates k_7_45 (fun _ h1 => m_r_alternates hI _ _ h1) rfl rd_d0 rd_0 rfl rfl hl.1 rfl rfl ⟨Nat.le_of_ble_eq_true rfl, Nat.le_of_ble_eq_true rfl⟩ ⟨Nat.zero_le _, Nat.zero_le _⟩ (Nat.le_of_ble_eq_true rfl) dX12_operates_924 h (fun r_59 S59 H locs hW hS h => ?_)
    obtain ⟨hz, h⟩ := gz_use h
    exact x_zret F hr hlk hW hS (z_nar hz) dX12_operates_927 h
  replace h := (if_neg c_1_68).symm.trans h
  have hn_1_68 := x_swN (z := 68) c_1_68 hn_1_67 rfl
  by_cases c_1_69 : a2 = (69 : Int32)
  · replace h := (if_pos c_1_69).symm.trans h
    refine lv_tableIn (tgt := 921) (off := 891) hx hb dX12_operates_30 (by rw [c_1_69]; decide) (by rw [c_1_69]; decide) (by rw [c_1_69]; decide) (by decide) ?_
    refine lv_aload_n hx hb dX12_operates_921 rfl (lv_at hl 4 rfl) ?_
    refine lv_iload_n hx hb dX12_operates_922 rfl (lv_at hl 5 rfl) ?_
    refine lv_iload_n hx hb dX12_operates_923 rfl (lv_at hl 6 rfl) ?_
    refine x_cVi (As := [.int a1, .int a2]) F xG_ok hK hW hS um_X12_alternates k_7_45 (fun _ h1 => m_r_alternates hI _ _ h1) rfl rd_d0 rd_0 rfl rfl hl.1 rfl rfl ⟨Nat.le_of_ble_eq_true rfl, Nat.le_of_ble_eq_true rfl⟩ ⟨Nat.zero_le _, Nat.zero_le _⟩ (Nat.le_of_ble_eq_true rfl) dX12_operates_924 h (fun r_60 S60 H locs hW hS h => ?_)
    obtain ⟨hz, h⟩ := gz_use h
    exact x_zret F hr hlk hW hS (z_nar hz) dX12_operates_927 h
  replace h := (if_neg c_1_69).symm.trans h
  have hn_1_69 := x_swN (z := 69) c_1_69 hn_1_68 rfl
  by_cases c_1_70 : a2 = (70 : Int32)
  · replace h := (if_pos c_1_70).symm.trans h
    refine lv_tableIn (tgt := 838) (off := 808) hx hb dX12_operates_30 (by rw [c_1_70]; decide) (by rw [c_1_70]; decide) (by rw [c_1_70]; decide) (by decide) ?_
    refine lv_aload_n hx hb dX12_operates_838 rfl (lv_at hl 4 rfl) ?_
    refine lv_iload_n hx hb dX12_operates_839 rfl (lv_at hl 5 rfl) ?_
    refine lv_iload hx hb dX12_operates_840 (lv_at hl 2 rfl) ?_
    refine lv_iload_n hx hb dX12_operates_842 rfl (lv_at hl 3 rfl) ?_
    refine lv_iand hx hb dX12_operates_843 ?_
    refine x_cVi (As := [.int a1, .int ((xI S 0 6 (a1).toNatClampNeg) &&& (xI S 0 5 (a1).toNatClampNeg))]) F xG_ok hK hW hS um_X12_gives k_6_208 (fun _ h1 => m_r_gives hI _ _ h1) rfl rd_d0 rd_0 rfl rfl hl.1 rfl rfl ⟨Nat.le_of_ble_eq_true rfl, Nat.le_of_ble_eq_true rfl⟩ ⟨Nat.zero_le _, Nat.zero_le _⟩ (Nat.le_of_ble_eq_true rfl) dX12_operates_844 h (fun r_61 S61 H locs hW hS h => ?_)
    obtain ⟨hz, h⟩ := gz_use h
    exact x_zret F hr hlk hW hS (z_nar hz) dX12_operates_847 h
  replace h := (if_neg c_1_70).symm.trans h
  have hn_1_70 := x_swN (z := 70) c_1_70 hn_1_69 rfl
  by_cases c_1_71 : a2 = (71 : Int32)
  · replace h := (if_pos c_1_71).symm.trans h
    refine lv_tableIn (tgt := 921) (off := 891) hx hb dX12_operates_30 (by rw [c_1_71]; decide) (by rw [c_1_71]; decide) (by rw [c_1_71]; decide) (by decide) ?_
    refine lv_aload_n hx hb dX12_operates_921 rfl (lv_at hl 4 rfl) ?_
    refine lv_iload_n hx hb dX12_operates_922 rfl (lv_at hl 5 rfl) ?_
    refine lv_iload_n hx hb dX12_operates_923 rfl (lv_at hl 6 rfl) ?_
    refine x_cVi (As := [.int a1, .int a2]) F xG_ok hK hW hS um_X12_alternates k_7_45 (fun _ h1 => m_r_alternates hI _ _ h1) rfl rd_d0 rd_0 rfl rfl hl.1 rfl rfl ⟨Nat.le_of_ble_eq_true rfl, Nat.le_of_ble_eq_true rfl⟩ ⟨Nat.zero_le _, Nat.zero_le _⟩ (Nat.le_of_ble_eq_true rfl) dX12_operates_924 h (fun r_62 S62 H locs hW hS h => ?_)
    obtain ⟨hz, h⟩ := gz_use h
    exact x_zret F hr hlk hW hS (z_nar hz) dX12_operates_927 h
  replace h := (if_neg c_1_71).symm.trans h
  have hn_1_71 := x_swN (z := 71) c_1_71 hn_1_70 rfl
  by_cases c_1_72 : a2 = (72 : Int32)
  · replace h := (if_pos c_1_72).symm.trans h
    refine lv_tableIn (tgt := 921) (off := 891) hx hb dX12_operates_30 (by rw [c_1_72]; decide) (by rw [c_1_72]; decide) (by rw [c_1_72]; decide) (by decide) ?_
    refine lv_aload_n hx hb dX12_operates_921 rfl (lv_at hl 4 rfl) ?_
    refine lv_iload_n hx hb dX12_operates_922 rfl (lv_at hl 5 rfl) ?_
    refine lv_iload_n hx hb dX12_operates_923 rfl (lv_at hl 6 rfl) ?_
    refine x_cVi (As := [.int a1, .int a2]) F xG_ok hK hW hS um_X12_alternates k_7_45 (fun _ h1 => m_r_alternates hI _ _ h1) rfl rd_d0 rd_0 rfl rfl hl.1 rfl rfl ⟨Nat.le_of_ble_eq_true rfl, Nat.le_of_ble_eq_true rfl⟩ ⟨Nat.zero_le _, Nat.zero_le _⟩ (Nat.le_of_ble_eq_true rfl) dX12_operates_924 h (fun r_63 S63 H locs hW hS h => ?_)
    obtain ⟨hz, h⟩ := gz_use h
    exact x_zret F hr hlk hW hS (z_nar hz) dX12_operates_927 h
  replace h := (if_neg c_1_72).symm.trans h
  have hn_1_72 := x_swN (z := 72) c_1_72 hn_1_71 rfl
  by_cases c_1_73 : a2 = (73 : Int32)
  · replace h := (if_pos c_1_73).symm.trans h
    refine lv_tableIn (tgt := 921) (off := 891) hx hb dX12_operates_30 (by rw [c_1_73]; decide) (by rw [c_1_73]; decide) (by rw [c_1_73]; decide) (by decide) ?_
    refine lv_aload_n hx hb dX12_operates_921 rfl (lv_at hl 4 rfl) ?_
    refine lv_iload_n hx hb dX12_operates_922 rfl (lv_at hl 5 rfl) ?_
    refine lv_iload_n hx hb dX12_operates_923 rfl (lv_at hl 6 rfl) ?_
    refine x_cVi (As := [.int a1, .int a2]) F xG_ok hK hW hS um_X12_alternates k_7_45 (fun _ h1 => m_r_alternates hI _ _ h1) rfl rd_d0 rd_0 rfl rfl hl.1 rfl rfl ⟨Nat.le_of_ble_eq_true rfl, Nat.le_of_ble_eq_true rfl⟩ ⟨Nat.zero_le _, Nat.zero_le _⟩ (Nat.le_of_ble_eq_true rfl) dX12_operates_924 h (fun r_64 S64 H locs hW hS h => ?_)
    obtain ⟨hz, h⟩ := gz_use h
    exact x_zret F hr hlk hW hS (z_nar hz) dX12_operates_927 h
  replace h := (if_neg c_1_73).symm.trans h
  have hn_1_73 := x_swN (z := 73) c_1_73 hn_1_72 rfl
  by_cases c_1_75 : a2 = (75 : Int32)
  · replace h := (if_pos c_1_75).symm.trans h
    refine lv_tableIn (tgt := 848) (off := 818) hx hb dX12_operates_30 (by rw [c_1_75]; decide) (by rw [c_1_75]; decide) (by rw [c_1_75]; decide) (by decide) ?_
    refine lv_aload_n hx hb dX12_operates_848 rfl (lv_at hl 4 rfl) ?_
    refine lv_iload_n hx hb dX12_operates_849 rfl (lv_at hl 5 rfl) ?_
    refine lv_iload hx hb dX12_operates_850 (lv_at hl 2 rfl) ?_
    refine lv_iload_n hx hb dX12_operates_852 rfl (lv_at hl 3 rfl) ?_
    refine lv_ior hx hb dX12_operates_853 ?_
    refine x_cVi (As := [.int a1, .int ((xI S 0 6 (a1).toNatClampNeg) ||| (xI S 0 5 (a1).toNatClampNeg))]) F xG_ok hK hW hS um_X12_gives k_6_208 (fun _ h1 => m_r_gives hI _ _ h1) rfl rd_d0 rd_0 rfl rfl hl.1 rfl rfl ⟨Nat.le_of_ble_eq_true rfl, Nat.le_of_ble_eq_true rfl⟩ ⟨Nat.zero_le _, Nat.zero_le _⟩ (Nat.le_of_ble_eq_true rfl) dX12_operates_854 h (fun r_65 S65 H locs hW hS h => ?_)
    obtain ⟨hz, h⟩ := gz_use h
    exact x_zret F hr hlk hW hS (z_nar hz) dX12_operates_857 h
  replace h := (if_neg c_1_75).symm.trans h
  have hn_1_75 := x_swN (z := 75) c_1_75 hn_1_73 rfl
  by_cases c_1_78 : a2 = (78 : Int32)
  · replace h := (if_pos c_1_78).symm.trans h
    refine lv_tableIn (tgt := 921) (off := 891) hx hb dX12_operates_30 (by rw [c_1_78]; decide) (by rw [c_1_78]; decide) (by rw [c_1_78]; decide) (by decide) ?_
    refine lv_aload_n hx hb dX12_operates_921 rfl (lv_at hl 4 rfl) ?_
    refine lv_iload_n hx hb dX12_operates_922 rfl (lv_at hl 5 rfl) ?_
    refine lv_iload_n hx hb dX12_operates_923 rfl (lv_at hl 6 rfl) ?_
    refine x_cVi (As := [.int a1, .int a2]) F xG_ok hK hW hS um_X12_alternates k_7_45 (fun _ h1 => m_r_alternates hI _ _ h1) rfl rd_d0 rd_0 rfl rfl hl.1 rfl rfl ⟨Nat.le_of_ble_eq_true rfl, Nat.le_of_ble_eq_true rfl⟩ ⟨Nat.zero_le _, Nat.zero_le _⟩ (Nat.le_of_ble_eq_true rfl) dX12_operates_924 h (fun r_66 S66 H locs hW hS h => ?_)
    obtain ⟨hz, h⟩ := gz_use h
    exact x_zret F hr hlk hW hS (z_nar hz) dX12_operates_927 h
  replace h := (if_neg c_1_78).symm.trans h
  have hn_1_78 := x_swN (z := 78) c_1_78 hn_1_75 rfl
  by_cases c_1_81 : a2 = (81 : Int32)
  · replace h := (if_pos c_1_81).symm.trans h
    refine lv_tableIn (tgt := 921) (off := 891) hx hb dX12_operates_30 (by rw [c_1_81]; decide) (by rw [c_1_81]; decide) (by rw [c_1_81]; decide) (by decide) ?_
    refine lv_aload_n hx hb dX12_operates_921 rfl (lv_at hl 4 rfl) ?_
    refine lv_iload_n hx hb dX12_operates_922 rfl (lv_at hl 5 rfl) ?_
    refine lv_iload_n hx hb dX12_operates_923 rfl (lv_at hl 6 rfl) ?_
    refine x_cVi (As := [.int a1, .int a2]) F xG_ok hK hW hS um_X12_alternates k_7_45 (fun _ h1 => m_r_alternates hI _ _ h1) rfl rd_d0 rd_0 rfl rfl hl.1 rfl rfl ⟨Nat.le_of_ble_eq_true rfl, Nat.le_of_ble_eq_true rfl⟩ ⟨Nat.zero_le _, Nat.zero_le _⟩ (Nat.le_of_ble_eq_true rfl) dX12_operates_924 h (fun r_67 S67 H locs hW hS h => ?_)
    obtain ⟨hz, h⟩ := gz_use h
    exact x_zret F hr hlk hW hS (z_nar hz) dX12_operates_927 h
  replace h := (if_neg c_1_81).symm.trans h
  have hn_1_81 := x_swN (z := 81) c_1_81 hn_1_78 rfl
  by_cases c_1_82 : a2 = (82 : Int32)
  · replace h := (if_pos c_1_82).symm.trans h
    refine lv_tableIn (tgt := 559) (off := 529) hx hb dX12_operates_30 (by rw [c_1_82]; decide) (by rw [c_1_82]; decide) (by rw [c_1_82]; decide) (by decide) ?_
    refine lv_aload_n hx hb dX12_operates_559 rfl (lv_at hl 4 rfl) ?_
    refine lv_iload_n hx hb dX12_operates_560 rfl (lv_at hl 5 rfl) ?_
    refine lv_iload_n hx hb dX12_operates_561 rfl (lv_at hl 3 rfl) ?_
    refine lv_iload hx hb dX12_operates_562 (lv_at hl 2 rfl) ?_
    refine lv_iadd hx hb dX12_operates_564 ?_
    refine x_cVi (As := [.int a1, .int ((xI S 0 5 (a1).toNatClampNeg) + (xI S 0 6 (a1).toNatClampNeg))]) F xG_ok hK hW hS um_X12_gives k_6_208 (fun _ h1 => m_r_gives hI _ _ h1) rfl rd_d0 rd_0 rfl rfl hl.1 rfl rfl ⟨Nat.le_of_ble_eq_true rfl, Nat.le_of_ble_eq_true rfl⟩ ⟨Nat.zero_le _, Nat.zero_le _⟩ (Nat.le_of_ble_eq_true rfl) dX12_operates_565 h (fun r_68 S68 H locs hW hS h => ?_)
    obtain ⟨hz, h⟩ := gz_use h
    exact x_zret F hr hlk hW hS (z_nar hz) dX12_operates_568 h
  replace h := (if_neg c_1_82).symm.trans h
  have hn_1_82 := x_swN (z := 82) c_1_82 hn_1_81 rfl
  by_cases c_1_83 : a2 = (83 : Int32)
  · replace h := (if_pos c_1_83).symm.trans h
    refine lv_tableIn (tgt := 858) (off := 828) hx hb dX12_operates_30 (by rw [c_1_83]; decide) (by rw [c_1_83]; decide) (by rw [c_1_83]; decide) (by decide) ?_
    refine lv_aload_n hx hb dX12_operates_858 rfl (lv_at hl 4 rfl) ?_
    refine lv_iload_n hx hb dX12_operates_859 rfl (lv_at hl 5 rfl) ?_
    refine lv_aload_n hx hb dX12_operates_860 rfl (lv_at hl 4 rfl) ?_
    refine lv_iload_n hx hb dX12_operates_861 rfl (lv_at hl 5 rfl) ?_
    refine lv_iload hx hb dX12_operates_862 (lv_at hl 2 rfl) ?_
    refine x_cSo (As := [.int (xI S 0 6 (a1).toNatClampNeg)]) F xG_ok hS um_X12_signed k_6_180 (fun _ h1 => m_r_signed _ h1) rfl rfl hl.1 rfl rfl ⟨Nat.le_of_ble_eq_true rfl, Nat.le_of_ble_eq_true rfl⟩ ⟨Nat.zero_le _, Nat.zero_le _⟩ (Nat.le_of_ble_eq_true rfl) dX12_operates_864 h (fun r_69 locs hS h => ?_)
    refine lv_iload_n hx hb dX12_operates_867 rfl (lv_at hl 3 rfl) ?_
    refine x_cSo (As := [.int (xI S 0 5 (a1).toNatClampNeg)]) F xG_ok hS um_X12_signed k_6_180 (fun _ h1 => m_r_signed _ h1) rfl rfl hl.1 rfl rfl ⟨Nat.le_of_ble_eq_true rfl, Nat.le_of_ble_eq_true rfl⟩ ⟨Nat.zero_le _, Nat.zero_le _⟩ (Nat.le_of_ble_eq_true rfl) dX12_operates_868 h (fun r_70 locs hS h => ?_)
    refine lv_imul hx hb dX12_operates_871 ?_
    refine x_cVi (As := [.int a1, .int (r_69 * r_70)]) F xG_ok hK hW hS um_X12_checked k_6_212 (fun _ h1 => m_r_checked hI _ _ h1) rfl rd_d0 rd_0 rfl rfl hl.1 rfl rfl ⟨Nat.le_of_ble_eq_true rfl, Nat.le_of_ble_eq_true rfl⟩ ⟨Nat.zero_le _, Nat.zero_le _⟩ (Nat.le_of_ble_eq_true rfl) dX12_operates_872 h (fun r_71 S71 H locs hW hS h => ?_)
    refine x_cVi (As := [.int a1, .int r_71]) F xG_ok hK hW hS um_X12_gives k_6_208 (fun _ h1 => m_r_gives hI _ _ h1) rfl rd_d0 rd_0 rfl rfl hl.1 rfl rfl ⟨Nat.le_of_ble_eq_true rfl, Nat.le_of_ble_eq_true rfl⟩ ⟨Nat.zero_le _, Nat.zero_le _⟩ (Nat.le_of_ble_eq_true rfl) dX12_operates_875 h (fun r_72 S72 H locs hW hS h => ?_)
    obtain ⟨hz, h⟩ := gz_use h
    exact x_zret F hr hlk hW hS (z_nar hz) dX12_operates_878 h
  replace h := (if_neg c_1_83).symm.trans h
  have hn_1_83 := x_swN (z := 83) c_1_83 hn_1_82 rfl
  by_cases c_1_118 : a2 = (118 : Int32)
  · replace h := (if_pos c_1_118).symm.trans h
    refine lv_tableIn (tgt := 879) (off := 849) hx hb dX12_operates_30 (by rw [c_1_118]; decide) (by rw [c_1_118]; decide) (by rw [c_1_118]; decide) (by decide) ?_
    refine lv_aload_n hx hb dX12_operates_879 rfl (lv_at hl 4 rfl) ?_
    refine lv_iload_n hx hb dX12_operates_880 rfl (lv_at hl 5 rfl) ?_
    refine lv_iload hx hb dX12_operates_881 (lv_at hl 2 rfl) ?_
    refine lv_iload_n hx hb dX12_operates_883 rfl (lv_at hl 3 rfl) ?_
    refine x_cSo (As := [.int (xI S 0 5 (a1).toNatClampNeg)]) F xG_ok hS um_X12_bits k_6_224 (fun _ h1 => m_r_bits _ h1) rfl rfl hl.1 rfl rfl ⟨Nat.le_of_ble_eq_true rfl, Nat.le_of_ble_eq_true rfl⟩ ⟨Nat.zero_le _, Nat.zero_le _⟩ (Nat.le_of_ble_eq_true rfl) dX12_operates_884 h (fun r_73 locs hS h => ?_)
    refine lv_iadd hx hb dX12_operates_887 ?_
    refine x_cVi (As := [.int a1, .int ((xI S 0 6 (a1).toNatClampNeg) + r_73)]) F xG_ok hK hW hS um_X12_gives k_6_208 (fun _ h1 => m_r_gives hI _ _ h1) rfl rd_d0 rd_0 rfl rfl hl.1 rfl rfl ⟨Nat.le_of_ble_eq_true rfl, Nat.le_of_ble_eq_true rfl⟩ ⟨Nat.zero_le _, Nat.zero_le _⟩ (Nat.le_of_ble_eq_true rfl) dX12_operates_888 h (fun r_74 S74 H locs hW hS h => ?_)
    obtain ⟨hz, h⟩ := gz_use h
    exact x_zret F hr hlk hW hS (z_nar hz) dX12_operates_891 h
  replace h := (if_neg c_1_118).symm.trans h
  have hn_1_118 := x_swN (z := 118) c_1_118 hn_1_83 rfl
  by_cases c_1_120 : a2 = (120 : Int32)
  · replace h := (if_pos c_1_120).symm.trans h
    refine lv_tableIn (tgt := 892) (off := 862) hx hb dX12_operates_30 (by rw [c_1_120]; decide) (by rw [c_1_120]; decide) (by rw [c_1_120]; decide) (by decide) ?_
    refine lv_aload_n hx hb dX12_operates_892 rfl (lv_at hl 4 rfl) ?_
    refine lv_iload_n hx hb dX12_operates_893 rfl (lv_at hl 5 rfl) ?_
    refine lv_iload_n hx hb dX12_operates_894 rfl (lv_at hl 3 rfl) ?_
    refine lv_bipush (v := (16 : Int32)) hx hb dX12_operates_895 (by decide) ?_
    refine lv_icmp_le (tgt := 904) hx hb dX12_operates_897 (by decide) (fun c_75 => ?_) (fun c_75 => ?_)
    · replace h := (if_pos c_75).symm.trans h
      refine lv_iload hx hb dX12_operates_904 (lv_at hl 2 rfl) ?_
      refine lv_iload_n hx hb dX12_operates_906 rfl (lv_at hl 3 rfl) ?_
      refine x_cSo (As := [.int (xI S 0 6 (a1).toNatClampNeg), .int (xI S 0 5 (a1).toNatClampNeg)]) F xG_ok hS um_X12_turned k_6_227 (fun _ h1 => m_r_turned _ _ h1) rfl rfl hl.1 rfl rfl ⟨Nat.le_of_ble_eq_true rfl, Nat.le_of_ble_eq_true rfl⟩ ⟨Nat.zero_le _, Nat.zero_le _⟩ (Nat.le_of_ble_eq_true rfl) dX12_operates_907 h (fun r_76 locs hS h => ?_)
      refine x_cVi (As := [.int a1, .int r_76]) F xG_ok hK hW hS um_X12_gives k_6_208 (fun _ h1 => m_r_gives hI _ _ h1) rfl rd_d0 rd_0 rfl rfl hl.1 rfl rfl ⟨Nat.le_of_ble_eq_true rfl, Nat.le_of_ble_eq_true rfl⟩ ⟨Nat.zero_le _, Nat.zero_le _⟩ (Nat.le_of_ble_eq_true rfl) dX12_operates_910 h (fun r_77 S77 H locs hW hS h => ?_)
      obtain ⟨hz, h⟩ := gz_use h
      exact x_zret F hr hlk hW hS (z_nar hz) dX12_operates_913 h
    replace h := (if_neg c_75).symm.trans h
    refine lv_iconst (v := (0 : Int32)) hx hb dX12_operates_900 (by decide) ?_
    refine lv_goto (tgt := 910) hx hb dX12_operates_901 (by decide) ?_
    refine x_cVi (As := [.int a1, .int (0 : Int32)]) F xG_ok hK hW hS um_X12_gives k_6_208 (fun _ h1 => m_r_gives hI _ _ h1) rfl rd_d0 rd_0 rfl rfl hl.1 rfl rfl ⟨Nat.le_of_ble_eq_true rfl, Nat.le_of_ble_eq_true rfl⟩ ⟨Nat.zero_le _, Nat.zero_le _⟩ (Nat.le_of_ble_eq_true rfl) dX12_operates_910 h (fun r_78 S78 H locs hW hS h => ?_)
    obtain ⟨hz, h⟩ := gz_use h
    exact x_zret F hr hlk hW hS (z_nar hz) dX12_operates_913 h
  replace h := (if_neg c_1_120).symm.trans h
  have hn_1_120 := x_swN (z := 120) c_1_120 hn_1_118 rfl
  refine x_tblD (tgt := 928) hx hb dX12_operates_30 hn_1_120 (by decide) (by decide) (by decide) ?_
  refine lv_aload_n hx hb dX12_operates_928 rfl (lv_at hl 4 rfl) ?_
  refine lv_iload_n hx hb dX12_operates_929 rfl (lv_at hl 5 rfl) ?_
  refine lv_iload_n hx hb dX12_operates_930 rfl (lv_at hl 6 rfl) ?_
  refine lv_iload_n hx hb dX12_operates_931 rfl (lv_at hl 3 rfl) ?_
  refine lv_iload hx hb dX12_operates_932 (lv_at hl 2 rfl) ?_
  refine lv_iload hx hb dX12_operates_934 (lv_at hl 1 rfl) ?_
  refine x_cVi (As := [.int a1, .int a2, .int (xI S 0 5 (a1).toNatClampNeg), .int (xI S 0 6 (a1).toNatClampNeg), .int (xI S 0 7 (a1).toNatClampNeg)]) F xG_ok hK hW hS um_X12_others k_7_81 (fun _ h1 => m_r_others hI _ _ _ _ _ h1) rfl rd_d0 rd_0 rfl rfl hl.1 rfl rfl ⟨Nat.le_of_ble_eq_true rfl, Nat.le_of_ble_eq_true rfl⟩ ⟨Nat.zero_le _, Nat.zero_le _⟩ (Nat.le_of_ble_eq_true rfl) dX12_operates_936 h (fun r_79 S79 H locs hW hS h => ?_)
  obtain ⟨hz, h⟩ := gz_use h
  exact x_zret F hr hlk hW hS (z_nar hz) dX12_operates_939 h
/-! X12_direct -/
def r_direct  (S : xS) (a1 : Int32) (a2 : Int32) (a3 : Int32) : Option (xS) := if a2 = (0 : Int32) then (gd a1 8 (gd a1 8 (xnm (sI S 0 9 (a1).toNatClampNeg (((xI S 0 9 (a1).toNatClampNeg) + a3) &&& (65535 : Int32))) (fun S2 => (r_sliced  S2 a1).bind (fun S3 => some S3))))) else (if a2 = (1 : Int32) then (gd a1 8 ((r_push  S a1 ((xI S 0 10 (a1).toNatClampNeg) + ((2 : Int32) * a3))).bind (fun S4 => some S4))) else (if a2 = (3 : Int32) then (gd a1 8 ((r_word  S a1 ((xI S 0 5 (a1).toNatClampNeg) + ((2 : Int32) * a3))).bind (fun (r_5, S5) => gd a1 8 (xnm (sI S5 0 5 (a1).toNatClampNeg r_5) (fun S6 => some S6))))) else (if a2 = (4 : Int32) then ((r_push  S a1 a3).bind (fun S7 => some S7)) else (if a2 = (5 : Int32) then (gd a1 8 (gd a1 8 (xnm (sI S 0 5 (a1).toNatClampNeg (((xI S 0 5 (a1).toNatClampNeg) + ((2 : Int32) * a3)) &&& (65535 : Int32))) (fun S8 => some S8)))) else (if a2 = (7 : Int32) then (gd a1 8 ((r_word  S a1 ((xI S 0 10 (a1).toNatClampNeg) + ((2 : Int32) * a3))).bind (fun (r_9, S9) => (r_push  S9 a1 r_9).bind (fun S10 => some S10)))) else (if a2 = (8 : Int32) then (gd a1 8 ((r_signed (xI S 0 5 (a1).toNatClampNeg)).bind (fun r_11 => (r_signed a3).bind (fun r_12 => (r_checked  S a1 (r_11 + r_12)).bind (fun (r_13, S13) => gd a1 8 (xnm (sI S13 0 5 (a1).toNatClampNeg r_13) (fun S14 => some S14))))))) else (if a2 = (9 : Int32) then (gd a1 8 (gd a1 8 (xnm (sI S 0 10 (a1).toNatClampNeg (((xI S 0 10 (a1).toNatClampNeg) - (8 : Int32)) &&& (65535 : Int32))) (fun S15 => gd a1 8 (gd a1 8 ((r_wordTo  S15 a1 (xI S15 0 10 (a1).toNatClampNeg) (xI S15 0 9 (a1).toNatClampNeg)).bind (fun S16 => gd a1 8 (gd a1 8 ((r_wordTo  S16 a1 ((xI S16 0 10 (a1).toNatClampNeg) + (2 : Int32)) (xI S16 0 5 (a1).toNatClampNeg)).bind (fun S17 => gd a1 8 (gd a1 8 ((r_wordTo  S17 a1 ((xI S17 0 10 (a1).toNatClampNeg) + (4 : Int32)) (xI S17 0 6 (a1).toNatClampNeg)).bind (fun S18 => gd a1 8 (gd a1 8 ((r_wordTo  S18 a1 ((xI S18 0 10 (a1).toNatClampNeg) + (6 : Int32)) (xI S18 0 7 (a1).toNatClampNeg)).bind (fun S19 => gd a1 8 (gd a1 8 (xnm (sI S19 0 5 (a1).toNatClampNeg (xI S19 0 9 (a1).toNatClampNeg)) (fun S20 => gd a1 8 (gd a1 8 (xnm (sI S20 0 9 (a1).toNatClampNeg (((xI S20 0 9 (a1).toNatClampNeg) + a3) &&& (65535 : Int32))) (fun S21 => some S21)))))))))))))))))))))) else (if a2 = (10 : Int32) then (gd a1 8 (if (xI S 0 5 (a1).toNatClampNeg) = 0 then (gd a1 8 (gd a1 8 (xnm (sI S 0 9 (a1).toNatClampNeg (((xI S 0 9 (a1).toNatClampNeg) + a3) &&& (65535 : Int32))) (fun S24 => some S24)))) else ((r_pop  S a1).bind (fun S23 => some S23)))) else (if a2 = (11 : Int32) then (gd a1 8 (gd a1 8 (xnm (sI S 0 10 (a1).toNatClampNeg (((xI S 0 10 (a1).toNatClampNeg) + ((2 : Int32) * a3)) &&& (65534 : Int32))) (fun S25 => some S25)))) else (if a2 = (12 : Int32) then (gd a1 8 (if (xI S 0 5 (a1).toNatClampNeg) = a3 then (gd a1 8 (xnm (sI S 0 5 (a1).toNatClampNeg (1 : Int32)) (fun S28 => some S28))) else (gd a1 8 (xnm (sI S 0 5 (a1).toNatClampNeg (0 : Int32)) (fun S27 => some S27))))) else (if a2 = (13 : Int32) then (gd a1 8 (gd a1 8 ((r_wordTo  S a1 ((xI S 0 10 (a1).toNatClampNeg) + ((2 : Int32) * a3)) (xI S 0 5 (a1).toNatClampNeg)).bind (fun S29 => (r_pop  S29 a1).bind (fun S30 => some S30))))) else (if a2 = (14 : Int32) then (gd a1 8 (gd a1 8 ((r_wordTo  S a1 ((xI S 0 5 (a1).toNatClampNeg) + ((2 : Int32) * a3)) (xI S 0 6 (a1).toNatClampNeg)).bind (fun S31 => (r_pop  S31 a1).bind (fun S32 => (r_pop  S32 a1).bind (fun S33 => some S33)))))) else (some S)))))))))))))
set_option maxHeartbeats 4000000 in
set_option maxRecDepth 100000 in
theorem m_r_direct {l : Launch} {D : va_G} {cI cZ cB : ClassId} {ad : Nat → Nat → Nat} (hI : xInj rDom ad) {S : xS} (a1 : Int32) (a2 : Int32) (a3 : Int32) {o : xS} (h : r_direct  S a1 a2 a3 = some o) : Met l yX12_direct (Cond.code yX12_direct cX12_direct 4 none :: xG) { frames := 4, cells := 0, slots := 0, locals := 93 } (xPc D vwCl (rTy cI cZ cB) [] [] rDom ad (rDe ad cI cZ cB) [.ref (ad 0 0), .int a1, .int a2, .int a3] S) (xQ D vwCl rDom ad (rDe ad cI cZ cB) none o) 0 0 (xA rDom ad) := by
  unfold r_direct at h
  refine x_enter (by decide) (Nat.le_of_ble_eq_true rfl) (fun p e s m below meth c F hr hlk hK hW hS ls hl => ?_)
  have hl : lv_has ls 4 [(0, .ref (ad 0 0)), (1, .int a1), (2, .int a2), (3, .int a3)] := hl
  have hx := F.1
  have hb := F.2.1
  refine lv_iload_n hx hb dX12_direct_0 rfl (lv_at hl 2 rfl) ?_
  by_cases c_1_0 : a2 = (0 : Int32)
  · replace h := (if_pos c_1_0).symm.trans h
    refine lv_tableIn (tgt := 76) (off := 75) hx hb dX12_direct_1 (by rw [c_1_0]; decide) (by rw [c_1_0]; decide) (by rw [c_1_0]; decide) (by decide) ?_
    refine lv_aload_n hx hb dX12_direct_76 rfl (lv_at hl 0 rfl) ?_
    refine x_get F hK hW xc_X12 rd_d0 rd_0 8 (by decide) k_5_136 (gf_X12_8 _ _) dX12_direct_77 ?_
    refine lv_iload_n hx hb dX12_direct_80 rfl (lv_at hl 1 rfl) ?_
    refine lv_aload_n hx hb dX12_direct_81 rfl (lv_at hl 0 rfl) ?_
    refine x_get F hK hW xc_X12 rd_d0 rd_0 8 (by decide) k_5_136 (gf_X12_8 _ _) dX12_direct_82 ?_
    refine lv_iload_n hx hb dX12_direct_85 rfl (lv_at hl 1 rfl) ?_
    refine x_iald (t0 := 0) F hK hW rd_d9 rd_9 rfl dX12_direct_86 h (fun h => ?_)
    refine lv_iload_n hx hb dX12_direct_87 rfl (lv_at hl 3 rfl) ?_
    refine lv_iadd hx hb dX12_direct_88 ?_
    refine lv_ldc (v := (65535 : Int32)) hx hb F.2.2.2.1 (x_hts F _ k_6_102) dX12_direct_89 ?_
    refine lv_iand hx hb dX12_direct_91 ?_
    refine x_iast (t0 := 0) F hK hI hW hS rd_d9 rd_9 rfl dX12_direct_92 h (fun S2 H locs hW hS h => ?_)
    refine lv_aload_n hx hb dX12_direct_93 rfl (lv_at hl 0 rfl) ?_
    refine lv_iload_n hx hb dX12_direct_94 rfl (lv_at hl 1 rfl) ?_
    refine x_cVv (As := [.int a1]) F xG_ok hK hW hS um_X12_sliced k_7_110 (fun _ h1 => m_r_sliced hI _ h1) rfl rd_d0 rd_0 rfl rfl hl.1 rfl rfl ⟨Nat.le_of_ble_eq_true rfl, Nat.le_of_ble_eq_true rfl⟩ ⟨Nat.zero_le _, Nat.zero_le _⟩ (Nat.le_of_ble_eq_true rfl) dX12_direct_95 h (fun S3 H locs hW hS h => ?_)
    refine lv_goto (tgt := 496) hx hb dX12_direct_98 (by decide) ?_
    exact x_vret F hr hlk hW hS dX12_direct_496 h
  replace h := (if_neg c_1_0).symm.trans h
  have hn_1_0 := x_swN (z := 0) c_1_0 x_sw0 rfl
  by_cases c_1_1 : a2 = (1 : Int32)
  · replace h := (if_pos c_1_1).symm.trans h
    refine lv_tableIn (tgt := 101) (off := 100) hx hb dX12_direct_1 (by rw [c_1_1]; decide) (by rw [c_1_1]; decide) (by rw [c_1_1]; decide) (by decide) ?_
    refine lv_aload_n hx hb dX12_direct_101 rfl (lv_at hl 0 rfl) ?_
    refine lv_iload_n hx hb dX12_direct_102 rfl (lv_at hl 1 rfl) ?_
    refine lv_aload_n hx hb dX12_direct_103 rfl (lv_at hl 0 rfl) ?_
    refine x_get F hK hW xc_X12 rd_d0 rd_0 9 (by decide) k_5_137 (gf_X12_9 _ _) dX12_direct_104 ?_
    refine lv_iload_n hx hb dX12_direct_107 rfl (lv_at hl 1 rfl) ?_
    refine x_iald (t0 := 0) F hK hW rd_d10 rd_10 rfl dX12_direct_108 h (fun h => ?_)
    refine lv_iconst (v := (2 : Int32)) hx hb dX12_direct_109 (by decide) ?_
    refine lv_iload_n hx hb dX12_direct_110 rfl (lv_at hl 3 rfl) ?_
    refine lv_imul hx hb dX12_direct_111 ?_
    refine lv_iadd hx hb dX12_direct_112 ?_
    refine x_cVv (As := [.int a1, .int ((xI S 0 10 (a1).toNatClampNeg) + ((2 : Int32) * a3))]) F xG_ok hK hW hS um_X12_push k_7_102 (fun _ h1 => m_r_push hI _ _ h1) rfl rd_d0 rd_0 rfl rfl hl.1 rfl rfl ⟨Nat.le_of_ble_eq_true rfl, Nat.le_of_ble_eq_true rfl⟩ ⟨Nat.zero_le _, Nat.zero_le _⟩ (Nat.le_of_ble_eq_true rfl) dX12_direct_113 h (fun S4 H locs hW hS h => ?_)
    refine lv_goto (tgt := 496) hx hb dX12_direct_116 (by decide) ?_
    exact x_vret F hr hlk hW hS dX12_direct_496 h
  replace h := (if_neg c_1_1).symm.trans h
  have hn_1_1 := x_swN (z := 1) c_1_1 hn_1_0 rfl
  by_cases c_1_3 : a2 = (3 : Int32)
  · replace h := (if_pos c_1_3).symm.trans h
    refine lv_tableIn (tgt := 119) (off := 118) hx hb dX12_direct_1 (by rw [c_1_3]; decide) (by rw [c_1_3]; decide) (by rw [c_1_3]; decide) (by decide) ?_
    refine lv_aload_n hx hb dX12_direct_119 rfl (lv_at hl 0 rfl) ?_
    refine x_get F hK hW xc_X12 rd_d0 rd_0 4 (by decide) k_5_132 (gf_X12_4 _ _) dX12_direct_120 ?_
    refine lv_iload_n hx hb dX12_direct_123 rfl (lv_at hl 1 rfl) ?_
    refine lv_aload_n hx hb dX12_direct_124 rfl (lv_at hl 0 rfl) ?_
    refine lv_iload_n hx hb dX12_direct_125 rfl (lv_at hl 1 rfl) ?_
    refine lv_aload_n hx hb dX12_direct_126 rfl (lv_at hl 0 rfl) ?_
    refine x_get F hK hW xc_X12 rd_d0 rd_0 4 (by decide) k_5_132 (gf_X12_4 _ _) dX12_direct_127 ?_
    refine lv_iload_n hx hb dX12_direct_130 rfl (lv_at hl 1 rfl) ?_
    refine x_iald (t0 := 0) F hK hW rd_d5 rd_5 rfl dX12_direct_131 h (fun h => ?_)
    refine lv_iconst (v := (2 : Int32)) hx hb dX12_direct_132 (by decide) ?_
    refine lv_iload_n hx hb dX12_direct_133 rfl (lv_at hl 3 rfl) ?_
    refine lv_imul hx hb dX12_direct_134 ?_
    refine lv_iadd hx hb dX12_direct_135 ?_
    refine x_cVi (As := [.int a1, .int ((xI S 0 5 (a1).toNatClampNeg) + ((2 : Int32) * a3))]) F xG_ok hK hW hS um_X12_word k_6_149 (fun _ h1 => m_r_word hI _ _ h1) rfl rd_d0 rd_0 rfl rfl hl.1 rfl rfl ⟨Nat.le_of_ble_eq_true rfl, Nat.le_of_ble_eq_true rfl⟩ ⟨Nat.zero_le _, Nat.zero_le _⟩ (Nat.le_of_ble_eq_true rfl) dX12_direct_136 h (fun r_5 S5 H locs hW hS h => ?_)
    refine x_iast (t0 := 0) F hK hI hW hS rd_d5 rd_5 rfl dX12_direct_139 h (fun S6 H locs hW hS h => ?_)
    refine lv_goto (tgt := 496) hx hb dX12_direct_140 (by decide) ?_
    exact x_vret F hr hlk hW hS dX12_direct_496 h
  replace h := (if_neg c_1_3).symm.trans h
  have hn_1_3 := x_swN (z := 3) c_1_3 hn_1_1 rfl
  by_cases c_1_4 : a2 = (4 : Int32)
  · replace h := (if_pos c_1_4).symm.trans h
    refine lv_tableIn (tgt := 143) (off := 142) hx hb dX12_direct_1 (by rw [c_1_4]; decide) (by rw [c_1_4]; decide) (by rw [c_1_4]; decide) (by decide) ?_
    refine lv_aload_n hx hb dX12_direct_143 rfl (lv_at hl 0 rfl) ?_
    refine lv_iload_n hx hb dX12_direct_144 rfl (lv_at hl 1 rfl) ?_
    refine lv_iload_n hx hb dX12_direct_145 rfl (lv_at hl 3 rfl) ?_
    refine x_cVv (As := [.int a1, .int a3]) F xG_ok hK hW hS um_X12_push k_7_102 (fun _ h1 => m_r_push hI _ _ h1) rfl rd_d0 rd_0 rfl rfl hl.1 rfl rfl ⟨Nat.le_of_ble_eq_true rfl, Nat.le_of_ble_eq_true rfl⟩ ⟨Nat.zero_le _, Nat.zero_le _⟩ (Nat.le_of_ble_eq_true rfl) dX12_direct_146 h (fun S7 H locs hW hS h => ?_)
    refine lv_goto (tgt := 496) hx hb dX12_direct_149 (by decide) ?_
    exact x_vret F hr hlk hW hS dX12_direct_496 h
  replace h := (if_neg c_1_4).symm.trans h
  have hn_1_4 := x_swN (z := 4) c_1_4 hn_1_3 rfl
  by_cases c_1_5 : a2 = (5 : Int32)
  · replace h := (if_pos c_1_5).symm.trans h
    refine lv_tableIn (tgt := 152) (off := 151) hx hb dX12_direct_1 (by rw [c_1_5]; decide) (by rw [c_1_5]; decide) (by rw [c_1_5]; decide) (by decide) ?_
    refine lv_aload_n hx hb dX12_direct_152 rfl (lv_at hl 0 rfl) ?_
    refine x_get F hK hW xc_X12 rd_d0 rd_0 4 (by decide) k_5_132 (gf_X12_4 _ _) dX12_direct_153 ?_
    refine lv_iload_n hx hb dX12_direct_156 rfl (lv_at hl 1 rfl) ?_
    refine lv_aload_n hx hb dX12_direct_157 rfl (lv_at hl 0 rfl) ?_
    refine x_get F hK hW xc_X12 rd_d0 rd_0 4 (by decide) k_5_132 (gf_X12_4 _ _) dX12_direct_158 ?_
    refine lv_iload_n hx hb dX12_direct_161 rfl (lv_at hl 1 rfl) ?_
    refine x_iald (t0 := 0) F hK hW rd_d5 rd_5 rfl dX12_direct_162 h (fun h => ?_)
    refine lv_iconst (v := (2 : Int32)) hx hb dX12_direct_163 (by decide) ?_
    refine lv_iload_n hx hb dX12_direct_164 rfl (lv_at hl 3 rfl) ?_
    refine lv_imul hx hb dX12_direct_165 ?_
    refine lv_iadd hx hb dX12_direct_166 ?_
    refine lv_ldc (v := (65535 : Int32)) hx hb F.2.2.2.1 (x_hts F _ k_6_102) dX12_direct_167 ?_
    refine lv_iand hx hb dX12_direct_169 ?_
    refine x_iast (t0 := 0) F hK hI hW hS rd_d5 rd_5 rfl dX12_direct_170 h (fun S8 H locs hW hS h => ?_)
    refine lv_goto (tgt := 496) hx hb dX12_direct_171 (by decide) ?_
    exact x_vret F hr hlk hW hS dX12_direct_496 h
  replace h := (if_neg c_1_5).symm.trans h
  have hn_1_5 := x_swN (z := 5) c_1_5 hn_1_4 rfl
  by_cases c_1_7 : a2 = (7 : Int32)
  · replace h := (if_pos c_1_7).symm.trans h
    refine lv_tableIn (tgt := 174) (off := 173) hx hb dX12_direct_1 (by rw [c_1_7]; decide) (by rw [c_1_7]; decide) (by rw [c_1_7]; decide) (by decide) ?_
    refine lv_aload_n hx hb dX12_direct_174 rfl (lv_at hl 0 rfl) ?_
    refine lv_iload_n hx hb dX12_direct_175 rfl (lv_at hl 1 rfl) ?_
    refine lv_aload_n hx hb dX12_direct_176 rfl (lv_at hl 0 rfl) ?_
    refine lv_iload_n hx hb dX12_direct_177 rfl (lv_at hl 1 rfl) ?_
    refine lv_aload_n hx hb dX12_direct_178 rfl (lv_at hl 0 rfl) ?_
    refine x_get F hK hW xc_X12 rd_d0 rd_0 9 (by decide) k_5_137 (gf_X12_9 _ _) dX12_direct_179 ?_
    refine lv_iload_n hx hb dX12_direct_182 rfl (lv_at hl 1 rfl) ?_
    refine x_iald (t0 := 0) F hK hW rd_d10 rd_10 rfl dX12_direct_183 h (fun h => ?_)
    refine lv_iconst (v := (2 : Int32)) hx hb dX12_direct_184 (by decide) ?_
    refine lv_iload_n hx hb dX12_direct_185 rfl (lv_at hl 3 rfl) ?_
    refine lv_imul hx hb dX12_direct_186 ?_
    refine lv_iadd hx hb dX12_direct_187 ?_
    refine x_cVi (As := [.int a1, .int ((xI S 0 10 (a1).toNatClampNeg) + ((2 : Int32) * a3))]) F xG_ok hK hW hS um_X12_word k_6_149 (fun _ h1 => m_r_word hI _ _ h1) rfl rd_d0 rd_0 rfl rfl hl.1 rfl rfl ⟨Nat.le_of_ble_eq_true rfl, Nat.le_of_ble_eq_true rfl⟩ ⟨Nat.zero_le _, Nat.zero_le _⟩ (Nat.le_of_ble_eq_true rfl) dX12_direct_188 h (fun r_9 S9 H locs hW hS h => ?_)
    refine x_cVv (As := [.int a1, .int r_9]) F xG_ok hK hW hS um_X12_push k_7_102 (fun _ h1 => m_r_push hI _ _ h1) rfl rd_d0 rd_0 rfl rfl hl.1 rfl rfl ⟨Nat.le_of_ble_eq_true rfl, Nat.le_of_ble_eq_true rfl⟩ ⟨Nat.zero_le _, Nat.zero_le _⟩ (Nat.le_of_ble_eq_true rfl) dX12_direct_191 h (fun S10 H locs hW hS h => ?_)
    refine lv_goto (tgt := 496) hx hb dX12_direct_194 (by decide) ?_
    exact x_vret F hr hlk hW hS dX12_direct_496 h
  replace h := (if_neg c_1_7).symm.trans h
  have hn_1_7 := x_swN (z := 7) c_1_7 hn_1_5 rfl
  by_cases c_1_8 : a2 = (8 : Int32)
  · replace h := (if_pos c_1_8).symm.trans h
    refine lv_tableIn (tgt := 197) (off := 196) hx hb dX12_direct_1 (by rw [c_1_8]; decide) (by rw [c_1_8]; decide) (by rw [c_1_8]; decide) (by decide) ?_
    refine lv_aload_n hx hb dX12_direct_197 rfl (lv_at hl 0 rfl) ?_
    refine x_get F hK hW xc_X12 rd_d0 rd_0 4 (by decide) k_5_132 (gf_X12_4 _ _) dX12_direct_198 ?_
    refine lv_iload_n hx hb dX12_direct_201 rfl (lv_at hl 1 rfl) ?_
    refine lv_aload_n hx hb dX12_direct_202 rfl (lv_at hl 0 rfl) ?_
    refine lv_iload_n hx hb dX12_direct_203 rfl (lv_at hl 1 rfl) ?_
    refine lv_aload_n hx hb dX12_direct_204 rfl (lv_at hl 0 rfl) ?_
    refine x_get F hK hW xc_X12 rd_d0 rd_0 4 (by decide) k_5_132 (gf_X12_4 _ _) dX12_direct_205 ?_
    refine lv_iload_n hx hb dX12_direct_208 rfl (lv_at hl 1 rfl) ?_
    refine x_iald (t0 := 0) F hK hW rd_d5 rd_5 rfl dX12_direct_209 h (fun h => ?_)
    refine x_cSo (As := [.int (xI S 0 5 (a1).toNatClampNeg)]) F xG_ok hS um_X12_signed k_6_180 (fun _ h1 => m_r_signed _ h1) rfl rfl hl.1 rfl rfl ⟨Nat.le_of_ble_eq_true rfl, Nat.le_of_ble_eq_true rfl⟩ ⟨Nat.zero_le _, Nat.zero_le _⟩ (Nat.le_of_ble_eq_true rfl) dX12_direct_210 h (fun r_11 locs hS h => ?_)
    refine lv_iload_n hx hb dX12_direct_213 rfl (lv_at hl 3 rfl) ?_
    refine x_cSo (As := [.int a3]) F xG_ok hS um_X12_signed k_6_180 (fun _ h1 => m_r_signed _ h1) rfl rfl hl.1 rfl rfl ⟨Nat.le_of_ble_eq_true rfl, Nat.le_of_ble_eq_true rfl⟩ ⟨Nat.zero_le _, Nat.zero_le _⟩ (Nat.le_of_ble_eq_true rfl) dX12_direct_214 h (fun r_12 locs hS h => ?_)
    refine lv_iadd hx hb dX12_direct_217 ?_
    refine x_cVi (As := [.int a1, .int (r_11 + r_12)]) F xG_ok hK hW hS um_X12_checked k_6_212 (fun _ h1 => m_r_checked hI _ _ h1) rfl rd_d0 rd_0 rfl rfl hl.1 rfl rfl ⟨Nat.le_of_ble_eq_true rfl, Nat.le_of_ble_eq_true rfl⟩ ⟨Nat.zero_le _, Nat.zero_le _⟩ (Nat.le_of_ble_eq_true rfl) dX12_direct_218 h (fun r_13 S13 H locs hW hS h => ?_)
    refine x_iast (t0 := 0) F hK hI hW hS rd_d5 rd_5 rfl dX12_direct_221 h (fun S14 H locs hW hS h => ?_)
    refine lv_goto (tgt := 496) hx hb dX12_direct_222 (by decide) ?_
    exact x_vret F hr hlk hW hS dX12_direct_496 h
  replace h := (if_neg c_1_8).symm.trans h
  have hn_1_8 := x_swN (z := 8) c_1_8 hn_1_7 rfl
  by_cases c_1_9 : a2 = (9 : Int32)
  · replace h := (if_pos c_1_9).symm.trans h
    refine lv_tableIn (tgt := 225) (off := 224) hx hb dX12_direct_1 (by rw [c_1_9]; decide) (by rw [c_1_9]; decide) (by rw [c_1_9]; decide) (by decide) ?_
    refine lv_aload_n hx hb dX12_direct_225 rfl (lv_at hl 0 rfl) ?_
    refine x_get F hK hW xc_X12 rd_d0 rd_0 9 (by decide) k_5_137 (gf_X12_9 _ _) dX12_direct_226 ?_
    refine lv_iload_n hx hb dX12_direct_229 rfl (lv_at hl 1 rfl) ?_
    refine lv_aload_n hx hb dX12_direct_230 rfl (lv_at hl 0 rfl) ?_
    refine x_get F hK hW xc_X12 rd_d0 rd_0 9 (by decide) k_5_137 (gf_X12_9 _ _) dX12_direct_231 ?_
    refine lv_iload_n hx hb dX12_direct_234 rfl (lv_at hl 1 rfl) ?_
    refine x_iald (t0 := 0) F hK hW rd_d10 rd_10 rfl dX12_direct_235 h (fun h => ?_)
    refine lv_bipush (v := (8 : Int32)) hx hb dX12_direct_236 (by decide) ?_
    refine lv_isub hx hb dX12_direct_238 ?_
    refine lv_ldc (v := (65535 : Int32)) hx hb F.2.2.2.1 (x_hts F _ k_6_102) dX12_direct_239 ?_
    refine lv_iand hx hb dX12_direct_241 ?_
    refine x_iast (t0 := 0) F hK hI hW hS rd_d10 rd_10 rfl dX12_direct_242 h (fun S15 H locs hW hS h => ?_)
    refine lv_aload_n hx hb dX12_direct_243 rfl (lv_at hl 0 rfl) ?_
    refine lv_iload_n hx hb dX12_direct_244 rfl (lv_at hl 1 rfl) ?_
    refine lv_aload_n hx hb dX12_direct_245 rfl (lv_at hl 0 rfl) ?_
    refine x_get F hK hW xc_X12 rd_d0 rd_0 9 (by decide) k_5_137 (gf_X12_9 _ _) dX12_direct_246 ?_
    refine lv_iload_n hx hb dX12_direct_249 rfl (lv_at hl 1 rfl) ?_
    refine x_iald (t0 := 0) F hK hW rd_d10 rd_10 rfl dX12_direct_250 h (fun h => ?_)
    refine lv_aload_n hx hb dX12_direct_251 rfl (lv_at hl 0 rfl) ?_
    refine x_get F hK hW xc_X12 rd_d0 rd_0 8 (by decide) k_5_136 (gf_X12_8 _ _) dX12_direct_252 ?_
    refine lv_iload_n hx hb dX12_direct_255 rfl (lv_at hl 1 rfl) ?_
    refine x_iald (t0 := 0) F hK hW rd_d9 rd_9 rfl dX12_direct_256 h (fun h => ?_)
    refine x_cVv (As := [.int a1, .int (xI S15 0 10 (a1).toNatClampNeg), .int (xI S15 0 9 (a1).toNatClampNeg)]) F xG_ok hK hW hS um_X12_wordTo k_6_137 (fun _ h1 => m_r_wordTo hI _ _ _ h1) rfl rd_d0 rd_0 rfl rfl hl.1 rfl rfl ⟨Nat.le_of_ble_eq_true rfl, Nat.le_of_ble_eq_true rfl⟩ ⟨Nat.zero_le _, Nat.zero_le _⟩ (Nat.le_of_ble_eq_true rfl) dX12_direct_257 h (fun S16 H locs hW hS h => ?_)
    refine lv_aload_n hx hb dX12_direct_260 rfl (lv_at hl 0 rfl) ?_
    refine lv_iload_n hx hb dX12_direct_261 rfl (lv_at hl 1 rfl) ?_
    refine lv_aload_n hx hb dX12_direct_262 rfl (lv_at hl 0 rfl) ?_
    refine x_get F hK hW xc_X12 rd_d0 rd_0 9 (by decide) k_5_137 (gf_X12_9 _ _) dX12_direct_263 ?_
    refine lv_iload_n hx hb dX12_direct_266 rfl (lv_at hl 1 rfl) ?_
    refine x_iald (t0 := 0) F hK hW rd_d10 rd_10 rfl dX12_direct_267 h (fun h => ?_)
    refine lv_iconst (v := (2 : Int32)) hx hb dX12_direct_268 (by decide) ?_
    refine lv_iadd hx hb dX12_direct_269 ?_
    refine lv_aload_n hx hb dX12_direct_270 rfl (lv_at hl 0 rfl) ?_
    refine x_get F hK hW xc_X12 rd_d0 rd_0 4 (by decide) k_5_132 (gf_X12_4 _ _) dX12_direct_271 ?_
    refine lv_iload_n hx hb dX12_direct_274 rfl (lv_at hl 1 rfl) ?_
    refine x_iald (t0 := 0) F hK hW rd_d5 rd_5 rfl dX12_direct_275 h (fun h => ?_)
    refine x_cVv (As := [.int a1, .int ((xI S16 0 10 (a1).toNatClampNeg) + (2 : Int32)), .int (xI S16 0 5 (a1).toNatClampNeg)]) F xG_ok hK hW hS um_X12_wordTo k_6_137 (fun _ h1 => m_r_wordTo hI _ _ _ h1) rfl rd_d0 rd_0 rfl rfl hl.1 rfl rfl ⟨Nat.le_of_ble_eq_true rfl, Nat.le_of_ble_eq_true rfl⟩ ⟨Nat.zero_le _, Nat.zero_le _⟩ (Nat.le_of_ble_eq_true rfl) dX12_direct_276 h (fun S17 H locs hW hS h => ?_)
    refine lv_aload_n hx hb dX12_direct_279 rfl (lv_at hl 0 rfl) ?_
    refine lv_iload_n hx hb dX12_direct_280 rfl (lv_at hl 1 rfl) ?_
    refine lv_aload_n hx hb dX12_direct_281 rfl (lv_at hl 0 rfl) ?_
    refine x_get F hK hW xc_X12 rd_d0 rd_0 9 (by decide) k_5_137 (gf_X12_9 _ _) dX12_direct_282 ?_
    refine lv_iload_n hx hb dX12_direct_285 rfl (lv_at hl 1 rfl) ?_
    refine x_iald (t0 := 0) F hK hW rd_d10 rd_10 rfl dX12_direct_286 h (fun h => ?_)
    refine lv_iconst (v := (4 : Int32)) hx hb dX12_direct_287 (by decide) ?_
    refine lv_iadd hx hb dX12_direct_288 ?_
    refine lv_aload_n hx hb dX12_direct_289 rfl (lv_at hl 0 rfl) ?_
    refine x_get F hK hW xc_X12 rd_d0 rd_0 5 (by decide) k_5_133 (gf_X12_5 _ _) dX12_direct_290 ?_
    refine lv_iload_n hx hb dX12_direct_293 rfl (lv_at hl 1 rfl) ?_
    refine x_iald (t0 := 0) F hK hW rd_d6 rd_6 rfl dX12_direct_294 h (fun h => ?_)
    refine x_cVv (As := [.int a1, .int ((xI S17 0 10 (a1).toNatClampNeg) + (4 : Int32)), .int (xI S17 0 6 (a1).toNatClampNeg)]) F xG_ok hK hW hS um_X12_wordTo k_6_137 (fun _ h1 => m_r_wordTo hI _ _ _ h1) rfl rd_d0 rd_0 rfl rfl hl.1 rfl rfl ⟨Nat.le_of_ble_eq_true rfl, Nat.le_of_ble_eq_true rfl⟩ ⟨Nat.zero_le _, Nat.zero_le _⟩ (Nat.le_of_ble_eq_true rfl) dX12_direct_295 h (fun S18 H locs hW hS h => ?_)
    refine lv_aload_n hx hb dX12_direct_298 rfl (lv_at hl 0 rfl) ?_
    refine lv_iload_n hx hb dX12_direct_299 rfl (lv_at hl 1 rfl) ?_
    refine lv_aload_n hx hb dX12_direct_300 rfl (lv_at hl 0 rfl) ?_
    refine x_get F hK hW xc_X12 rd_d0 rd_0 9 (by decide) k_5_137 (gf_X12_9 _ _) dX12_direct_301 ?_
    refine lv_iload_n hx hb dX12_direct_304 rfl (lv_at hl 1 rfl) ?_
    refine x_iald (t0 := 0) F hK hW rd_d10 rd_10 rfl dX12_direct_305 h (fun h => ?_)
    refine lv_bipush (v := (6 : Int32)) hx hb dX12_direct_306 (by decide) ?_
    refine lv_iadd hx hb dX12_direct_308 ?_
    refine lv_aload_n hx hb dX12_direct_309 rfl (lv_at hl 0 rfl) ?_
    refine x_get F hK hW xc_X12 rd_d0 rd_0 6 (by decide) k_5_134 (gf_X12_6 _ _) dX12_direct_310 ?_
    refine lv_iload_n hx hb dX12_direct_313 rfl (lv_at hl 1 rfl) ?_
    refine x_iald (t0 := 0) F hK hW rd_d7 rd_7 rfl dX12_direct_314 h (fun h => ?_)
    refine x_cVv (As := [.int a1, .int ((xI S18 0 10 (a1).toNatClampNeg) + (6 : Int32)), .int (xI S18 0 7 (a1).toNatClampNeg)]) F xG_ok hK hW hS um_X12_wordTo k_6_137 (fun _ h1 => m_r_wordTo hI _ _ _ h1) rfl rd_d0 rd_0 rfl rfl hl.1 rfl rfl ⟨Nat.le_of_ble_eq_true rfl, Nat.le_of_ble_eq_true rfl⟩ ⟨Nat.zero_le _, Nat.zero_le _⟩ (Nat.le_of_ble_eq_true rfl) dX12_direct_315 h (fun S19 H locs hW hS h => ?_)
    refine lv_aload_n hx hb dX12_direct_318 rfl (lv_at hl 0 rfl) ?_
    refine x_get F hK hW xc_X12 rd_d0 rd_0 4 (by decide) k_5_132 (gf_X12_4 _ _) dX12_direct_319 ?_
    refine lv_iload_n hx hb dX12_direct_322 rfl (lv_at hl 1 rfl) ?_
    refine lv_aload_n hx hb dX12_direct_323 rfl (lv_at hl 0 rfl) ?_
    refine x_get F hK hW xc_X12 rd_d0 rd_0 8 (by decide) k_5_136 (gf_X12_8 _ _) dX12_direct_324 ?_
    refine lv_iload_n hx hb dX12_direct_327 rfl (lv_at hl 1 rfl) ?_
    refine x_iald (t0 := 0) F hK hW rd_d9 rd_9 rfl dX12_direct_328 h (fun h => ?_)
    refine x_iast (t0 := 0) F hK hI hW hS rd_d5 rd_5 rfl dX12_direct_329 h (fun S20 H locs hW hS h => ?_)
    refine lv_aload_n hx hb dX12_direct_330 rfl (lv_at hl 0 rfl) ?_
    refine x_get F hK hW xc_X12 rd_d0 rd_0 8 (by decide) k_5_136 (gf_X12_8 _ _) dX12_direct_331 ?_
    refine lv_iload_n hx hb dX12_direct_334 rfl (lv_at hl 1 rfl) ?_
    refine lv_aload_n hx hb dX12_direct_335 rfl (lv_at hl 0 rfl) ?_
    refine x_get F hK hW xc_X12 rd_d0 rd_0 8 (by decide) k_5_136 (gf_X12_8 _ _) dX12_direct_336 ?_
    refine lv_iload_n hx hb dX12_direct_339 rfl (lv_at hl 1 rfl) ?_
    refine x_iald (t0 := 0) F hK hW rd_d9 rd_9 rfl dX12_direct_340 h (fun h => ?_)
    refine lv_iload_n hx hb dX12_direct_341 rfl (lv_at hl 3 rfl) ?_
    refine lv_iadd hx hb dX12_direct_342 ?_
    refine lv_ldc (v := (65535 : Int32)) hx hb F.2.2.2.1 (x_hts F _ k_6_102) dX12_direct_343 ?_
    refine lv_iand hx hb dX12_direct_345 ?_
    refine x_iast (t0 := 0) F hK hI hW hS rd_d9 rd_9 rfl dX12_direct_346 h (fun S21 H locs hW hS h => ?_)
    refine lv_goto (tgt := 496) hx hb dX12_direct_347 (by decide) ?_
    exact x_vret F hr hlk hW hS dX12_direct_496 h
  replace h := (if_neg c_1_9).symm.trans h
  have hn_1_9 := x_swN (z := 9) c_1_9 hn_1_8 rfl
  by_cases c_1_10 : a2 = (10 : Int32)
  · replace h := (if_pos c_1_10).symm.trans h
    refine lv_tableIn (tgt := 350) (off := 349) hx hb dX12_direct_1 (by rw [c_1_10]; decide) (by rw [c_1_10]; decide) (by rw [c_1_10]; decide) (by decide) ?_
    refine lv_aload_n hx hb dX12_direct_350 rfl (lv_at hl 0 rfl) ?_
    refine x_get F hK hW xc_X12 rd_d0 rd_0 4 (by decide) k_5_132 (gf_X12_4 _ _) dX12_direct_351 ?_
    refine lv_iload_n hx hb dX12_direct_354 rfl (lv_at hl 1 rfl) ?_
    refine x_iald (t0 := 0) F hK hW rd_d5 rd_5 rfl dX12_direct_355 h (fun h => ?_)
    refine lv_if_ne (tgt := 379) hx hb dX12_direct_356 (by decide) (fun c_22 => ?_) (fun c_22 => ?_)
    · replace h := (if_neg c_22).symm.trans h
      refine lv_aload_n hx hb dX12_direct_379 rfl (lv_at hl 0 rfl) ?_
      refine lv_iload_n hx hb dX12_direct_380 rfl (lv_at hl 1 rfl) ?_
      refine x_cVv (As := [.int a1]) F xG_ok hK hW hS um_X12_pop k_7_17 (fun _ h1 => m_r_pop hI _ h1) rfl rd_d0 rd_0 rfl rfl hl.1 rfl rfl ⟨Nat.le_of_ble_eq_true rfl, Nat.le_of_ble_eq_true rfl⟩ ⟨Nat.zero_le _, Nat.zero_le _⟩ (Nat.le_of_ble_eq_true rfl) dX12_direct_381 h (fun S23 H locs hW hS h => ?_)
      refine lv_goto (tgt := 496) hx hb dX12_direct_384 (by decide) ?_
      exact x_vret F hr hlk hW hS dX12_direct_496 h
    replace h := (if_pos c_22).symm.trans h
    refine lv_aload_n hx hb dX12_direct_359 rfl (lv_at hl 0 rfl) ?_
    refine x_get F hK hW xc_X12 rd_d0 rd_0 8 (by decide) k_5_136 (gf_X12_8 _ _) dX12_direct_360 ?_
    refine lv_iload_n hx hb dX12_direct_363 rfl (lv_at hl 1 rfl) ?_
    refine lv_aload_n hx hb dX12_direct_364 rfl (lv_at hl 0 rfl) ?_
    refine x_get F hK hW xc_X12 rd_d0 rd_0 8 (by decide) k_5_136 (gf_X12_8 _ _) dX12_direct_365 ?_
    refine lv_iload_n hx hb dX12_direct_368 rfl (lv_at hl 1 rfl) ?_
    refine x_iald (t0 := 0) F hK hW rd_d9 rd_9 rfl dX12_direct_369 h (fun h => ?_)
    refine lv_iload_n hx hb dX12_direct_370 rfl (lv_at hl 3 rfl) ?_
    refine lv_iadd hx hb dX12_direct_371 ?_
    refine lv_ldc (v := (65535 : Int32)) hx hb F.2.2.2.1 (x_hts F _ k_6_102) dX12_direct_372 ?_
    refine lv_iand hx hb dX12_direct_374 ?_
    refine x_iast (t0 := 0) F hK hI hW hS rd_d9 rd_9 rfl dX12_direct_375 h (fun S24 H locs hW hS h => ?_)
    refine lv_goto (tgt := 496) hx hb dX12_direct_376 (by decide) ?_
    exact x_vret F hr hlk hW hS dX12_direct_496 h
  replace h := (if_neg c_1_10).symm.trans h
  have hn_1_10 := x_swN (z := 10) c_1_10 hn_1_9 rfl
  by_cases c_1_11 : a2 = (11 : Int32)
  · replace h := (if_pos c_1_11).symm.trans h
    refine lv_tableIn (tgt := 387) (off := 386) hx hb dX12_direct_1 (by rw [c_1_11]; decide) (by rw [c_1_11]; decide) (by rw [c_1_11]; decide) (by decide) ?_
    refine lv_aload_n hx hb dX12_direct_387 rfl (lv_at hl 0 rfl) ?_
    refine x_get F hK hW xc_X12 rd_d0 rd_0 9 (by decide) k_5_137 (gf_X12_9 _ _) dX12_direct_388 ?_
    refine lv_iload_n hx hb dX12_direct_391 rfl (lv_at hl 1 rfl) ?_
    refine lv_aload_n hx hb dX12_direct_392 rfl (lv_at hl 0 rfl) ?_
    refine x_get F hK hW xc_X12 rd_d0 rd_0 9 (by decide) k_5_137 (gf_X12_9 _ _) dX12_direct_393 ?_
    refine lv_iload_n hx hb dX12_direct_396 rfl (lv_at hl 1 rfl) ?_
    refine x_iald (t0 := 0) F hK hW rd_d10 rd_10 rfl dX12_direct_397 h (fun h => ?_)
    refine lv_iconst (v := (2 : Int32)) hx hb dX12_direct_398 (by decide) ?_
    refine lv_iload_n hx hb dX12_direct_399 rfl (lv_at hl 3 rfl) ?_
    refine lv_imul hx hb dX12_direct_400 ?_
    refine lv_iadd hx hb dX12_direct_401 ?_
    refine lv_ldc (v := (65534 : Int32)) hx hb F.2.2.2.1 (x_hts F _ k_6_103) dX12_direct_402 ?_
    refine lv_iand hx hb dX12_direct_404 ?_
    refine x_iast (t0 := 0) F hK hI hW hS rd_d10 rd_10 rfl dX12_direct_405 h (fun S25 H locs hW hS h => ?_)
    refine lv_goto (tgt := 496) hx hb dX12_direct_406 (by decide) ?_
    exact x_vret F hr hlk hW hS dX12_direct_496 h
  replace h := (if_neg c_1_11).symm.trans h
  have hn_1_11 := x_swN (z := 11) c_1_11 hn_1_10 rfl
  by_cases c_1_12 : a2 = (12 : Int32)
  · replace h := (if_pos c_1_12).symm.trans h
    refine lv_tableIn (tgt := 409) (off := 408) hx hb dX12_direct_1 (by rw [c_1_12]; decide) (by rw [c_1_12]; decide) (by rw [c_1_12]; decide) (by decide) ?_
    refine lv_aload_n hx hb dX12_direct_409 rfl (lv_at hl 0 rfl) ?_
    refine x_get F hK hW xc_X12 rd_d0 rd_0 4 (by decide) k_5_132 (gf_X12_4 _ _) dX12_direct_410 ?_
    refine lv_iload_n hx hb dX12_direct_413 rfl (lv_at hl 1 rfl) ?_
    refine lv_aload_n hx hb dX12_direct_414 rfl (lv_at hl 0 rfl) ?_
    refine x_get F hK hW xc_X12 rd_d0 rd_0 4 (by decide) k_5_132 (gf_X12_4 _ _) dX12_direct_415 ?_
    refine lv_iload_n hx hb dX12_direct_418 rfl (lv_at hl 1 rfl) ?_
    refine x_iald (t0 := 0) F hK hW rd_d5 rd_5 rfl dX12_direct_419 h (fun h => ?_)
    refine lv_iload_n hx hb dX12_direct_420 rfl (lv_at hl 3 rfl) ?_
    refine lv_icmp_ne (tgt := 428) hx hb dX12_direct_421 (by decide) (fun c_26 => ?_) (fun c_26 => ?_)
    · replace h := (if_neg c_26).symm.trans h
      refine lv_iconst (v := (0 : Int32)) hx hb dX12_direct_428 (by decide) ?_
      refine x_iast (t0 := 0) F hK hI hW hS rd_d5 rd_5 rfl dX12_direct_429 h (fun S27 H locs hW hS h => ?_)
      refine lv_goto (tgt := 496) hx hb dX12_direct_430 (by decide) ?_
      exact x_vret F hr hlk hW hS dX12_direct_496 h
    replace h := (if_pos c_26).symm.trans h
    refine lv_iconst (v := (1 : Int32)) hx hb dX12_direct_424 (by decide) ?_
    refine lv_goto (tgt := 429) hx hb dX12_direct_425 (by decide) ?_
    refine x_iast (t0 := 0) F hK hI hW hS rd_d5 rd_5 rfl dX12_direct_429 h (fun S28 H locs hW hS h => ?_)
    refine lv_goto (tgt := 496) hx hb dX12_direct_430 (by decide) ?_
    exact x_vret F hr hlk hW hS dX12_direct_496 h
  replace h := (if_neg c_1_12).symm.trans h
  have hn_1_12 := x_swN (z := 12) c_1_12 hn_1_11 rfl
  by_cases c_1_13 : a2 = (13 : Int32)
  · replace h := (if_pos c_1_13).symm.trans h
    refine lv_tableIn (tgt := 433) (off := 432) hx hb dX12_direct_1 (by rw [c_1_13]; decide) (by rw [c_1_13]; decide) (by rw [c_1_13]; decide) (by decide) ?_
    refine lv_aload_n hx hb dX12_direct_433 rfl (lv_at hl 0 rfl) ?_
    refine lv_iload_n hx hb dX12_direct_434 rfl (lv_at hl 1 rfl) ?_
    refine lv_aload_n hx hb dX12_direct_435 rfl (lv_at hl 0 rfl) ?_
    refine x_get F hK hW xc_X12 rd_d0 rd_0 9 (by decide) k_5_137 (gf_X12_9 _ _) dX12_direct_436 ?_
    refine lv_iload_n hx hb dX12_direct_439 rfl (lv_at hl 1 rfl) ?_
    refine x_iald (t0 := 0) F hK hW rd_d10 rd_10 rfl dX12_direct_440 h (fun h => ?_)
    refine lv_iconst (v := (2 : Int32)) hx hb dX12_direct_441 (by decide) ?_
    refine lv_iload_n hx hb dX12_direct_442 rfl (lv_at hl 3 rfl) ?_
    refine lv_imul hx hb dX12_direct_443 ?_
    refine lv_iadd hx hb dX12_direct_444 ?_
    refine lv_aload_n hx hb dX12_direct_445 rfl (lv_at hl 0 rfl) ?_
    refine x_get F hK hW xc_X12 rd_d0 rd_0 4 (by decide) k_5_132 (gf_X12_4 _ _) dX12_direct_446 ?_
    refine lv_iload_n hx hb dX12_direct_449 rfl (lv_at hl 1 rfl) ?_
    refine x_iald (t0 := 0) F hK hW rd_d5 rd_5 rfl dX12_direct_450 h (fun h => ?_)
    refine x_cVv (As := [.int a1, .int ((xI S 0 10 (a1).toNatClampNeg) + ((2 : Int32) * a3)), .int (xI S 0 5 (a1).toNatClampNeg)]) F xG_ok hK hW hS um_X12_wordTo k_6_137 (fun _ h1 => m_r_wordTo hI _ _ _ h1) rfl rd_d0 rd_0 rfl rfl hl.1 rfl rfl ⟨Nat.le_of_ble_eq_true rfl, Nat.le_of_ble_eq_true rfl⟩ ⟨Nat.zero_le _, Nat.zero_le _⟩ (Nat.le_of_ble_eq_true rfl) dX12_direct_451 h (fun S29 H locs hW hS h => ?_)
    refine lv_aload_n hx hb dX12_direct_454 rfl (lv_at hl 0 rfl) ?_
    refine lv_iload_n hx hb dX12_direct_455 rfl (lv_at hl 1 rfl) ?_
    refine x_cVv (As := [.int a1]) F xG_ok hK hW hS um_X12_pop k_7_17 (fun _ h1 => m_r_pop hI _ h1) rfl rd_d0 rd_0 rfl rfl hl.1 rfl rfl ⟨Nat.le_of_ble_eq_true rfl, Nat.le_of_ble_eq_true rfl⟩ ⟨Nat.zero_le _, Nat.zero_le _⟩ (Nat.le_of_ble_eq_true rfl) dX12_direct_456 h (fun S30 H locs hW hS h => ?_)
    refine lv_goto (tgt := 496) hx hb dX12_direct_459 (by decide) ?_
    exact x_vret F hr hlk hW hS dX12_direct_496 h
  replace h := (if_neg c_1_13).symm.trans h
  have hn_1_13 := x_swN (z := 13) c_1_13 hn_1_12 rfl
  by_cases c_1_14 : a2 = (14 : Int32)
  · replace h := (if_pos c_1_14).symm.trans h
    refine lv_tableIn (tgt := 462) (off := 461) hx hb dX12_direct_1 (by rw [c_1_14]; decide) (by rw [c_1_14]; decide) (by rw [c_1_14]; decide) (by decide) ?_
    refine lv_aload_n hx hb dX12_direct_462 rfl (lv_at hl 0 rfl) ?_
    refine lv_iload_n hx hb dX12_direct_463 rfl (lv_at hl 1 rfl) ?_
    refine lv_aload_n hx hb dX12_direct_464 rfl (lv_at hl 0 rfl) ?_
    refine x_get F hK hW xc_X12 rd_d0 rd_0 4 (by decide) k_5_132 (gf_X12_4 _ _) dX12_direct_465 ?_
    refine lv_iload_n hx hb dX12_direct_468 rfl (lv_at hl 1 rfl) ?_
    refine x_iald (t0 := 0) F hK hW rd_d5 rd_5 rfl dX12_direct_469 h (fun h => ?_)
    refine lv_iconst (v := (2 : Int32)) hx hb dX12_direct_470 (by decide) ?_
    refine lv_iload_n hx hb dX12_direct_471 rfl (lv_at hl 3 rfl) ?_
    refine lv_imul hx hb dX12_direct_472 ?_
    refine lv_iadd hx hb dX12_direct_473 ?_
    refine lv_aload_n hx hb dX12_direct_474 rfl (lv_at hl 0 rfl) ?_
    refine x_get F hK hW xc_X12 rd_d0 rd_0 5 (by decide) k_5_133 (gf_X12_5 _ _) dX12_direct_475 ?_
    refine lv_iload_n hx hb dX12_direct_478 rfl (lv_at hl 1 rfl) ?_
    refine x_iald (t0 := 0) F hK hW rd_d6 rd_6 rfl dX12_direct_479 h (fun h => ?_)
    refine x_cVv (As := [.int a1, .int ((xI S 0 5 (a1).toNatClampNeg) + ((2 : Int32) * a3)), .int (xI S 0 6 (a1).toNatClampNeg)]) F xG_ok hK hW hS um_X12_wordTo k_6_137 (fun _ h1 => m_r_wordTo hI _ _ _ h1) rfl rd_d0 rd_0 rfl rfl hl.1 rfl rfl ⟨Nat.le_of_ble_eq_true rfl, Nat.le_of_ble_eq_true rfl⟩ ⟨Nat.zero_le _, Nat.zero_le _⟩ (Nat.le_of_ble_eq_true rfl) dX12_direct_480 h (fun S31 H locs hW hS h => ?_)
    refine lv_aload_n hx hb dX12_direct_483 rfl (lv_at hl 0 rfl) ?_
    refine lv_iload_n hx hb dX12_direct_484 rfl (lv_at hl 1 rfl) ?_
    refine x_cVv (As := [.int a1]) F xG_ok hK hW hS um_X12_pop k_7_17 (fun _ h1 => m_r_pop hI _ h1) rfl rd_d0 rd_0 rfl rfl hl.1 rfl rfl ⟨Nat.le_of_ble_eq_true rfl, Nat.le_of_ble_eq_true rfl⟩ ⟨Nat.zero_le _, Nat.zero_le _⟩ (Nat.le_of_ble_eq_true rfl) dX12_direct_485 h (fun S32 H locs hW hS h => ?_)
    refine lv_aload_n hx hb dX12_direct_488 rfl (lv_at hl 0 rfl) ?_
    refine lv_iload_n hx hb dX12_direct_489 rfl (lv_at hl 1 rfl) ?_
    refine x_cVv (As := [.int a1]) F xG_ok hK hW hS um_X12_pop k_7_17 (fun _ h1 => m_r_pop hI _ h1) rfl rd_d0 rd_0 rfl rfl hl.1 rfl rfl ⟨Nat.le_of_ble_eq_true rfl, Nat.le_of_ble_eq_true rfl⟩ ⟨Nat.zero_le _, Nat.zero_le _⟩ (Nat.le_of_ble_eq_true rfl) dX12_direct_490 h (fun S33 H locs hW hS h => ?_)
    refine lv_goto (tgt := 496) hx hb dX12_direct_493 (by decide) ?_
    exact x_vret F hr hlk hW hS dX12_direct_496 h
  replace h := (if_neg c_1_14).symm.trans h
  have hn_1_14 := x_swN (z := 14) c_1_14 hn_1_13 rfl
  refine x_tblD (tgt := 496) hx hb dX12_direct_1 hn_1_14 (by decide) (by decide) (by decide) ?_
  exact x_vret F hr hlk hW hS dX12_direct_496 h
