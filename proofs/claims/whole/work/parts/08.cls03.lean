/-! X1_stopIfBeyond -/
def c1_stopIfBeyond (n : Nat) (S : xS)  : Option (xS) := if (xI S n 2 1) = 0 then (some S) else ((c1_stopWith n S (2 : Int32)).bind (fun S2 => some S2))
set_option maxHeartbeats 4000000 in
set_option maxRecDepth 100000 in
theorem m_c1_stopIfBeyond {l : Launch} {D : va_G} {cI cJ cL cN : ClassId} {ad : Nat → Nat → Nat} {N : Nat} (hN : N ≤ 8) (hI : xInj (cDom N) ad) {n : Nat} (hn : n < N) {S : xS}  {o : xS} (h : c1_stopIfBeyond n S  = some o) : Met l yX1_stopIfBeyond (Cond.code yX1_stopIfBeyond cX1_stopIfBeyond 1 none :: xG) { frames := 1, cells := 0, slots := 0, locals := 21 } (xPc D vwCl (cTy cI cJ cL cN) cNf cNm (cDom N) ad (cDe ad N cI cJ cL cN) [.ref (ad n 1)] S) (xQ D vwCl (cDom N) ad (cDe ad N cI cJ cL cN) none o) 0 0 (xA (cDom N) ad) := by
  unfold c1_stopIfBeyond at h
  refine x_enter (by decide) (Nat.le_of_ble_eq_true rfl) (fun p e s m below meth c F hr hlk hK hW hS ls hl => ?_)
  have hl : lv_has ls 1 [(0, .ref (ad n 1))] := hl
  have hx := F.1
  have hb := F.2.1
  refine lv_aload_n hx hb dX1_stopIfBeyond_0 rfl (lv_at hl 0 rfl) ?_
  refine x_get F hK hW xc_X1 (cd_dX1 hn) (cd_eX1 hN hn) 0 (by decide) k_1_148 (rfl) dX1_stopIfBeyond_1 ?_
  refine x_getN F hK hW xc_X5 (cd_dX5 (is5n hn)) (cd_eX5 hN (is5n hn)) 1 (by decide) kn_0 (rfl) dX1_stopIfBeyond_4 ?_
  refine lv_if_eq (tgt := 15) hx hb dX1_stopIfBeyond_7 (by decide) (fun c_1 => ?_) (fun c_1 => ?_)
  · replace h := (if_pos c_1).symm.trans h
    exact x_vret F hr hlk hW hS dX1_stopIfBeyond_15 h
  replace h := (if_neg c_1).symm.trans h
  refine lv_aload_n hx hb dX1_stopIfBeyond_10 rfl (lv_at hl 0 rfl) ?_
  refine lv_iconst (v := (2 : Int32)) hx hb dX1_stopIfBeyond_11 (by decide) ?_
  refine x_cVv (As := [.int (2 : Int32)]) F xG_ok hK hW hS um_X1_stopWith k_3_200 (fun _ h1 => m_c1_stopWith hN hI hn _ h1) rfl (cd_dX1 hn) (cd_eX1 hN hn) rfl rfl hl.1 rfl rfl ⟨Nat.le_of_ble_eq_true rfl, Nat.le_of_ble_eq_true rfl⟩ ⟨Nat.zero_le _, Nat.zero_le _⟩ (Nat.le_of_ble_eq_true rfl) dX1_stopIfBeyond_12 h (fun S2 H locs hW hS h => ?_)
  exact x_vret F hr hlk hW hS dX1_stopIfBeyond_15 h
/-! X1_wakeAtTime -/
def c1_wakeAtTime (n : Nat) (S : xS) (a1 : Int32) (a2 : Int32) : Option (xS) := (c5_setWord n 2 S ((a1 &&& (65534 : Int32)) - (6 : Int32)) (32771 : Int32)).bind (fun S1 => (c5_setWord n 2 S1 ((a1 &&& (65534 : Int32)) - (10 : Int32)) a2).bind (fun S2 => (c1_makeReady n S2 a1).bind (fun S3 => some S3)))
set_option maxHeartbeats 4000000 in
set_option maxRecDepth 100000 in
theorem m_c1_wakeAtTime {l : Launch} {D : va_G} {cI cJ cL cN : ClassId} {ad : Nat → Nat → Nat} {N : Nat} (hN : N ≤ 8) (hI : xInj (cDom N) ad) {n : Nat} (hn : n < N) {S : xS} (a1 : Int32) (a2 : Int32) {o : xS} (h : c1_wakeAtTime n S a1 a2 = some o) : Met l yX1_wakeAtTime (Cond.code yX1_wakeAtTime cX1_wakeAtTime 4 none :: xG) { frames := 2, cells := 0, slots := 0, locals := 49 } (xPc D vwCl (cTy cI cJ cL cN) cNf cNm (cDom N) ad (cDe ad N cI cJ cL cN) [.ref (ad n 1), .int a1, .int a2] S) (xQ D vwCl (cDom N) ad (cDe ad N cI cJ cL cN) none o) 0 0 (xA (cDom N) ad) := by
  unfold c1_wakeAtTime at h
  refine x_enter (by decide) (Nat.le_of_ble_eq_true rfl) (fun p e s m below meth c F hr hlk hK hW hS ls hl => ?_)
  have hl : lv_has ls 4 [(0, .ref (ad n 1)), (1, .int a1), (2, .int a2)] := hl
  have hx := F.1
  have hb := F.2.1
  refine lv_iload_n hx hb dX1_wakeAtTime_0 rfl (lv_at hl 1 rfl) ?_
  refine lv_ldc (v := (65534 : Int32)) hx hb F.2.2.2.1 (x_hts F _ k_3_76) dX1_wakeAtTime_1 ?_
  refine lv_iand hx hb dX1_wakeAtTime_3 ?_
  refine lv_istore_n (lv' := [(3, .int (a1 &&& (65534 : Int32))), (0, .ref (ad n 1)), (1, .int a1), (2, .int a2)]) hx hb dX1_wakeAtTime_4 rfl hl (by decide) rfl (fun ls hl => ?_)
  refine lv_aload_n hx hb dX1_wakeAtTime_5 rfl (lv_at hl 1 rfl) ?_
  refine x_get F hK hW xc_X1 (cd_dX1 hn) (cd_eX1 hN hn) 0 (by decide) k_1_148 (rfl) dX1_wakeAtTime_6 ?_
  refine lv_iload_n hx hb dX1_wakeAtTime_9 rfl (lv_at hl 0 rfl) ?_
  refine lv_bipush (v := (6 : Int32)) hx hb dX1_wakeAtTime_10 (by decide) ?_
  refine lv_isub hx hb dX1_wakeAtTime_12 ?_
  refine lv_ldc (v := (32771 : Int32)) hx hb F.2.2.2.1 (x_hts F _ k_3_98) dX1_wakeAtTime_13 ?_
  refine x_cVv (As := [.int ((a1 &&& (65534 : Int32)) - (6 : Int32)), .int (32771 : Int32)]) F xG_ok hK hW hS um_X5_setWord k_3_81 (fun _ h1 => m_c5_setWord hN hI (is5n hn) _ _ h1) rfl (cd_dX5 (is5n hn)) (cd_eX5 hN (is5n hn)) rfl rfl hl.1 rfl rfl ⟨Nat.le_of_ble_eq_true rfl, Nat.le_of_ble_eq_true rfl⟩ ⟨Nat.zero_le _, Nat.zero_le _⟩ (Nat.le_of_ble_eq_true rfl) dX1_wakeAtTime_15 h (fun S1 H locs hW hS h => ?_)
  refine lv_aload_n hx hb dX1_wakeAtTime_18 rfl (lv_at hl 1 rfl) ?_
  refine x_get F hK hW xc_X1 (cd_dX1 hn) (cd_eX1 hN hn) 0 (by decide) k_1_148 (rfl) dX1_wakeAtTime_19 ?_
  refine lv_iload_n hx hb dX1_wakeAtTime_22 rfl (lv_at hl 0 rfl) ?_
  refine lv_bipush (v := (10 : Int32)) hx hb dX1_wakeAtTime_23 (by decide) ?_
  refine lv_isub hx hb dX1_wakeAtTime_25 ?_
  refine lv_iload_n hx hb dX1_wakeAtTime_26 rfl (lv_at hl 3 rfl) ?_
  refine x_cVv (As := [.int ((a1 &&& (65534 : Int32)) - (10 : Int32)), .int a2]) F xG_ok hK hW hS um_X5_setWord k_3_81 (fun _ h1 => m_c5_setWord hN hI (is5n hn) _ _ h1) rfl (cd_dX5 (is5n hn)) (cd_eX5 hN (is5n hn)) rfl rfl hl.1 rfl rfl ⟨Nat.le_of_ble_eq_true rfl, Nat.le_of_ble_eq_true rfl⟩ ⟨Nat.zero_le _, Nat.zero_le _⟩ (Nat.le_of_ble_eq_true rfl) dX1_wakeAtTime_27 h (fun S2 H locs hW hS h => ?_)
  refine lv_aload_n hx hb dX1_wakeAtTime_30 rfl (lv_at hl 1 rfl) ?_
  refine lv_iload_n hx hb dX1_wakeAtTime_31 rfl (lv_at hl 2 rfl) ?_
  refine x_cVv (As := [.int a1]) F xG_ok hK hW hS um_X1_makeReady k_3_109 (fun _ h1 => m_c1_makeReady hN hI hn _ h1) rfl (cd_dX1 hn) (cd_eX1 hN hn) rfl rfl hl.1 rfl rfl ⟨Nat.le_of_ble_eq_true rfl, Nat.le_of_ble_eq_true rfl⟩ ⟨Nat.zero_le _, Nat.zero_le _⟩ (Nat.le_of_ble_eq_true rfl) dX1_wakeAtTime_32 h (fun S3 H locs hW hS h => ?_)
  exact x_vret F hr hlk hW hS dX1_wakeAtTime_35 h
/-! X10_advance -/
def c10_advance (n : Nat) (S : xS) (a1 : Int32) : Option (xS) := if a1 = 0 then (xnm (sI S n 8 3 (((xI S n 8 3) + (1 : Int32)) &&& (65535 : Int32))) (fun S3 => some S3)) else (xnm (sI S n 8 4 (((xI S n 8 4) + (1 : Int32)) &&& (65535 : Int32))) (fun S2 => some S2))
set_option maxHeartbeats 4000000 in
set_option maxRecDepth 100000 in
theorem m_c10_advance {l : Launch} {D : va_G} {cI cJ cL cN : ClassId} {ad : Nat → Nat → Nat} {N : Nat} (hN : N ≤ 8) (hI : xInj (cDom N) ad) {n : Nat} (hn : n < N) {S : xS} (a1 : Int32) {o : xS} (h : c10_advance n S a1 = some o) : Met l yX10_advance (Cond.code yX10_advance cX10_advance 2 none :: xG) { frames := 0, cells := 0, slots := 0, locals := 0 } (xPc D vwCl (cTy cI cJ cL cN) cNf cNm (cDom N) ad (cDe ad N cI cJ cL cN) [.ref (ad n 8), .int a1] S) (xQ D vwCl (cDom N) ad (cDe ad N cI cJ cL cN) none o) 0 0 (xA (cDom N) ad) := by
  unfold c10_advance at h
  refine x_enter (by decide) (Nat.le_of_ble_eq_true rfl) (fun p e s m below meth c F hr hlk hK hW hS ls hl => ?_)
  have hl : lv_has ls 2 [(0, .ref (ad n 8)), (1, .int a1)] := hl
  have hx := F.1
  have hb := F.2.1
  refine lv_iload_n hx hb dX10_advance_0 rfl (lv_at hl 1 rfl) ?_
  refine lv_if_ne (tgt := 20) hx hb dX10_advance_1 (by decide) (fun c_1 => ?_) (fun c_1 => ?_)
  · replace h := (if_neg c_1).symm.trans h
    refine lv_aload_n hx hb dX10_advance_20 rfl (lv_at hl 0 rfl) ?_
    refine lv_aload_n hx hb dX10_advance_21 rfl (lv_at hl 0 rfl) ?_
    refine x_get F hK hW xc_X10 (cd_dX10 hn) (cd_eX10 hN hn) 4 (by decide) k_1_135 (rfl) dX10_advance_22 ?_
    refine lv_iconst (v := (1 : Int32)) hx hb dX10_advance_25 (by decide) ?_
    refine lv_iadd hx hb dX10_advance_26 ?_
    refine lv_ldc (v := (65535 : Int32)) hx hb F.2.2.2.1 (x_hts F _ k_3_177) dX10_advance_27 ?_
    refine lv_iand hx hb dX10_advance_29 ?_
    refine x_put F hK hI hW hS xc_X10 (cd_dX10 hn) (cd_eX10 hN hn) 4 (by decide) k_1_135 rfl (v := (((xI S n 8 4) + (1 : Int32)) &&& (65535 : Int32))) rfl rfl (fun _ _ => rfl) (fun _ _ => Nat.le_of_ble_eq_true rfl) dX10_advance_30 h (fun S2 H locs hW hS h => ?_)
    exact x_vret F hr hlk hW hS dX10_advance_33 h
  replace h := (if_pos c_1).symm.trans h
  refine lv_aload_n hx hb dX10_advance_4 rfl (lv_at hl 0 rfl) ?_
  refine lv_aload_n hx hb dX10_advance_5 rfl (lv_at hl 0 rfl) ?_
  refine x_get F hK hW xc_X10 (cd_dX10 hn) (cd_eX10 hN hn) 3 (by decide) k_1_134 (rfl) dX10_advance_6 ?_
  refine lv_iconst (v := (1 : Int32)) hx hb dX10_advance_9 (by decide) ?_
  refine lv_iadd hx hb dX10_advance_10 ?_
  refine lv_ldc (v := (65535 : Int32)) hx hb F.2.2.2.1 (x_hts F _ k_3_177) dX10_advance_11 ?_
  refine lv_iand hx hb dX10_advance_13 ?_
  refine x_put F hK hI hW hS xc_X10 (cd_dX10 hn) (cd_eX10 hN hn) 3 (by decide) k_1_134 rfl (v := (((xI S n 8 3) + (1 : Int32)) &&& (65535 : Int32))) rfl rfl (fun _ _ => rfl) (fun _ _ => Nat.le_of_ble_eq_true rfl) dX10_advance_14 h (fun S3 H locs hW hS h => ?_)
  refine lv_goto (tgt := 33) hx hb dX10_advance_17 (by decide) ?_
  exact x_vret F hr hlk hW hS dX10_advance_33 h
/-! X10_release -/
def c10_release_b81 (n : Nat) (K12 : Int32 → Int32 → Int32 → Int32 → xS → Option (xS)) (v1 : Int32) (v3 : Int32) (v4 : Int32) (v5 : Int32) (S : xS) : Option (xS) := K12 v1 v3 v4 (v5 + (1 : Int32)) S
set_option maxHeartbeats 4000000 in
set_option maxRecDepth 100000 in
theorem m_c10_release_b81 {l : Launch} {D : va_G} {cI cJ cL cN : ClassId} {ad : Nat → Nat → Nat} {N : Nat} (hN : N ≤ 8) (hI : xInj (cDom N) ad) {n : Nat} (hn : n < N) {p : Program} {e : Env} {s : State} {m : MethodId} {args : Array Value} {below : List Frame} {meth : Method} {c : Code} (F : CallFix p m c cX10_release 6 s args (Cond.code yX10_release cX10_release 6 none :: xG) (yX10_release).cls) (hr : meth.sig.returnType = none) (hlk : meth.locks = false) (hK : xK D vwCl (cTy cI cJ cL cN) cNf cNm s) {o : xS} {K12 : Int32 → Int32 → Int32 → Int32 → xS → Option (xS)} (hk12 : ∀ (v1 : Int32) (v3 : Int32) (v4 : Int32) (v5 : Int32) (S : xS) (H : Heap) (locs : List Loc) (ls : Array Slot), K12 v1 v3 v4 v5 S = some o → xW D vwCl (cDom N) ad (cDe ad N cI cJ cL cN) S H → va_S (xA (cDom N) ad) s.heap H locs → lv_has ls 6 [(0, .ref (ad n 8)), (1, .int v1), (2, .ref (ad n 1)), (3, .int v3), (4, .int v4), (5, .int v5)] → W p l e { frames := 3, cells := 0, slots := 0, locals := 72 } s m args below meth c H locs 0 0 (MQ below (xQ D vwCl (cDom N) ad (cDe ad N cI cJ cL cN) none o) args s 0 0 (xA (cDom N) ad)) (F0 m 12 ls [])) (v1 : Int32) (v3 : Int32) (v4 : Int32) (v5 : Int32) (S : xS) {H : Heap} {locs : List Loc} {ls : Array Slot} (h : c10_release_b81 n K12 v1 v3 v4 v5 S = some o) (hW : xW D vwCl (cDom N) ad (cDe ad N cI cJ cL cN) S H) (hS : va_S (xA (cDom N) ad) s.heap H locs) (hl : lv_has ls 6 [(0, .ref (ad n 8)), (1, .int v1), (2, .ref (ad n 1)), (3, .int v3), (4, .int v4), (5, .int v5)]) : W p l e { frames := 3, cells := 0, slots := 0, locals := 72 } s m args below meth c H locs 0 0 (MQ below (xQ D vwCl (cDom N) ad (cDe ad N cI cJ cL cN) none o) args s 0 0 (xA (cDom N) ad)) (F0 m 81 ls []) := by
  have hx := F.1
  have hb := F.2.1
  unfold c10_release_b81 at h
  refine lv_iinc (v := (v5 + (1 : Int32))) (lv' := [(5, .int (v5 + (1 : Int32))), (0, .ref (ad n 8)), (1, .int v1), (2, .ref (ad n 1)), (3, .int v3), (4, .int v4)]) hx hb dX10_release_81 hl (k := 5) rfl rfl (by decide) rfl (fun ls hl => ?_)
  refine lv_goto (tgt := 12) hx hb dX10_release_84 (by decide) ?_
  exact hk12 _ _ _ _ _ _ _ _ h hW hS (lv_sub hl [1, 2, 3, 4, 5, 0] rfl)
def c10_release_b70 (n : Nat) (K12 : Int32 → Int32 → Int32 → Int32 → xS → Option (xS)) (v1 : Int32) (v3 : Int32) (v4 : Int32) (v5 : Int32) (S : xS) : Option (xS) := (c10_keep n S v5 v4).bind (fun S7 => c10_release_b81 n K12 v1 v3 (v4 + (1 : Int32)) v5 S7)
set_option maxHeartbeats 4000000 in
set_option maxRecDepth 100000 in
theorem m_c10_release_b70 {l : Launch} {D : va_G} {cI cJ cL cN : ClassId} {ad : Nat → Nat → Nat} {N : Nat} (hN : N ≤ 8) (hI : xInj (cDom N) ad) {n : Nat} (hn : n < N) {p : Program} {e : Env} {s : State} {m : MethodId} {args : Array Value} {below : List Frame} {meth : Method} {c : Code} (F : CallFix p m c cX10_release 6 s args (Cond.code yX10_release cX10_release 6 none :: xG) (yX10_release).cls) (hr : meth.sig.returnType = none) (hlk : meth.locks = false) (hK : xK D vwCl (cTy cI cJ cL cN) cNf cNm s) {o : xS} {K12 : Int32 → Int32 → Int32 → Int32 → xS → Option (xS)} (hk12 : ∀ (v1 : Int32) (v3 : Int32) (v4 : Int32) (v5 : Int32) (S : xS) (H : Heap) (locs : List Loc) (ls : Array Slot), K12 v1 v3 v4 v5 S = some o → xW D vwCl (cDom N) ad (cDe ad N cI cJ cL cN) S H → va_S (xA (cDom N) ad) s.heap H locs → lv_has ls 6 [(0, .ref (ad n 8)), (1, .int v1), (2, .ref (ad n 1)), (3, .int v3), (4, .int v4), (5, .int v5)] → W p l e { frames := 3, cells := 0, slots := 0, locals := 72 } s m args below meth c H locs 0 0 (MQ below (xQ D vwCl (cDom N) ad (cDe ad N cI cJ cL cN) none o) args s 0 0 (xA (cDom N) ad)) (F0 m 12 ls [])) (v1 : Int32) (v3 : Int32) (v4 : Int32) (v5 : Int32) (S : xS) {H : Heap} {locs : List Loc} {ls : Array Slot} (h : c10_release_b70 n K12 v1 v3 v4 v5 S = some o) (hW : xW D vwCl (cDom N) ad (cDe ad N cI cJ cL cN) S H) (hS : va_S (xA (cDom N) ad) s.heap H locs) (hl : lv_has ls 6 [(0, .ref (ad n 8)), (1, .int v1), (2, .ref (ad n 1)), (3, .int v3), (4, .int v4), (5, .int v5)]) : W p l e { frames := 3, cells := 0, slots := 0, locals := 72 } s m args below meth c H locs 0 0 (MQ below (xQ D vwCl (cDom N) ad (cDe ad N cI cJ cL cN) none o) args s 0 0 (xA (cDom N) ad)) (F0 m 70 ls []) := by
  have hx := F.1
  have hb := F.2.1
  unfold c10_release_b70 at h
  refine lv_aload_n hx hb dX10_release_70 rfl (lv_at hl 0 rfl) ?_
  refine lv_iload hx hb dX10_release_71 (lv_at hl 5 rfl) ?_
  refine lv_iload hx hb dX10_release_73 (lv_at hl 4 rfl) ?_
  refine x_cVv (As := [.int v5, .int v4]) F xG_ok hK hW hS um_X10_keep k_3_105 (fun _ h1 => m_c10_keep hN hI hn _ _ h1) rfl (cd_dX10 hn) (cd_eX10 hN hn) rfl rfl hl.1 rfl rfl ⟨Nat.le_of_ble_eq_true rfl, Nat.le_of_ble_eq_true rfl⟩ ⟨Nat.zero_le _, Nat.zero_le _⟩ (Nat.le_of_ble_eq_true rfl) dX10_release_75 h (fun S7 H locs hW hS h => ?_)
  refine lv_iinc (v := (v4 + (1 : Int32))) (lv' := [(4, .int (v4 + (1 : Int32))), (0, .ref (ad n 8)), (1, .int v1), (2, .ref (ad n 1)), (3, .int v3), (5, .int v5)]) hx hb dX10_release_78 hl (k := 4) rfl rfl (by decide) rfl (fun ls hl => ?_)
  exact m_c10_release_b81 hN hI hn F hr hlk hK hk12 _ _ _ _ _ h hW hS (lv_sub hl [1, 2, 3, 4, 0, 5] rfl)
def c10_release_b12 (n : Nat) : Nat → Int32 → Int32 → Int32 → Int32 → xS → Option (xS)
  | 0, _, _, _, _, _ => none
  | fu + 1, v1, v3, v4, v5, S => if (xI S n 8 2) ≤ v5 then (xnm (sI S n 8 2 v4) (fun S3 => some S3)) else (if (64 : Int32) ≤ v5 then (xnm (sI S n 8 2 v4) (fun S5 => some S5)) else (gd v5 64 (if ((xI S n 9 (v5).toNatClampNeg) &&& (1 : Int32)) = v1 then (gd v5 64 ((c11_isLater v3 (xI S n 10 (v5).toNatClampNeg)).bind (fun r_8 => if r_8 = 0 then (c10_release_b70 n (c10_release_b12 n fu) v1 v3 v4 v5 S) else (gd v5 64 ((c1_wakeAtTime n S (xI S n 9 (v5).toNatClampNeg) v3).bind (fun S10 => c10_release_b81 n (c10_release_b12 n fu) v1 v3 v4 v5 S10)))))) else (c10_release_b70 n (c10_release_b12 n fu) v1 v3 v4 v5 S))))
set_option maxHeartbeats 4000000 in
set_option maxRecDepth 100000 in
theorem m_c10_release_b12 {l : Launch} {D : va_G} {cI cJ cL cN : ClassId} {ad : Nat → Nat → Nat} {N : Nat} (hN : N ≤ 8) (hI : xInj (cDom N) ad) {n : Nat} (hn : n < N) {p : Program} {e : Env} {s : State} {m : MethodId} {args : Array Value} {below : List Frame} {meth : Method} {c : Code} (F : CallFix p m c cX10_release 6 s args (Cond.code yX10_release cX10_release 6 none :: xG) (yX10_release).cls) (hr : meth.sig.returnType = none) (hlk : meth.locks = false) (hK : xK D vwCl (cTy cI cJ cL cN) cNf cNm s) {o : xS} : ∀ (fu : Nat) (v1 : Int32) (v3 : Int32) (v4 : Int32) (v5 : Int32) (S : xS) {H : Heap} {locs : List Loc} {ls : Array Slot}, c10_release_b12 n fu v1 v3 v4 v5 S = some o → xW D vwCl (cDom N) ad (cDe ad N cI cJ cL cN) S H → va_S (xA (cDom N) ad) s.heap H locs → lv_has ls 6 [(0, .ref (ad n 8)), (1, .int v1), (2, .ref (ad n 1)), (3, .int v3), (4, .int v4), (5, .int v5)] → W p l e { frames := 3, cells := 0, slots := 0, locals := 72 } s m args below meth c H locs 0 0 (MQ below (xQ D vwCl (cDom N) ad (cDe ad N cI cJ cL cN) none o) args s 0 0 (xA (cDom N) ad)) (F0 m 12 ls []) := by
  have hx := F.1
  have hb := F.2.1
  intro fu
  induction fu with
  | zero =>
    intro v1 v3 v4 v5 S H locs ls h
    simp [c10_release_b12] at h
  | succ fu ih =>
    intro v1 v3 v4 v5 S H locs ls h hW hS hl
    have hk12 := fun v1 v3 v4 v5 S H locs ls (h : c10_release_b12 n fu v1 v3 v4 v5 S = some o) hW hS hl => ih v1 v3 v4 v5 S (H := H) (locs := locs) (ls := ls) h hW hS hl
    rw [c10_release_b12] at h
    refine lv_iload hx hb dX10_release_12 (lv_at hl 5 rfl) ?_
    refine lv_aload_n hx hb dX10_release_14 rfl (lv_at hl 0 rfl) ?_
    refine x_get F hK hW xc_X10 (cd_dX10 hn) (cd_eX10 hN hn) 2 (by decide) k_1_132 (rfl) dX10_release_15 ?_
    refine lv_icmp_ge (tgt := 87) hx hb dX10_release_18 (by decide) (fun c_2 => ?_) (fun c_2 => ?_)
    · replace h := (if_pos c_2).symm.trans h
      refine lv_aload_n hx hb dX10_release_87 rfl (lv_at hl 0 rfl) ?_
      refine lv_iload hx hb dX10_release_88 (lv_at hl 4 rfl) ?_
      refine x_put F hK hI hW hS xc_X10 (cd_dX10 hn) (cd_eX10 hN hn) 2 (by decide) k_1_132 rfl (v := v4) rfl rfl (fun _ _ => rfl) (fun _ _ => Nat.le_of_ble_eq_true rfl) dX10_release_90 h (fun S3 H locs hW hS h => ?_)
      exact x_vret F hr hlk hW hS dX10_release_93 h
    replace h := (if_neg c_2).symm.trans h
    refine lv_iload hx hb dX10_release_21 (lv_at hl 5 rfl) ?_
    refine lv_bipush (v := (64 : Int32)) hx hb dX10_release_23 (by decide) ?_
    refine lv_icmp_ge (tgt := 87) hx hb dX10_release_25 (by decide) (fun c_4 => ?_) (fun c_4 => ?_)
    · replace h := (if_pos c_4).symm.trans h
      refine lv_aload_n hx hb dX10_release_87 rfl (lv_at hl 0 rfl) ?_
      refine lv_iload hx hb dX10_release_88 (lv_at hl 4 rfl) ?_
      refine x_put F hK hI hW hS xc_X10 (cd_dX10 hn) (cd_eX10 hN hn) 2 (by decide) k_1_132 rfl (v := v4) rfl rfl (fun _ _ => rfl) (fun _ _ => Nat.le_of_ble_eq_true rfl) dX10_release_90 h (fun S5 H locs hW hS h => ?_)
      exact x_vret F hr hlk hW hS dX10_release_93 h
    replace h := (if_neg c_4).symm.trans h
    refine lv_aload_n hx hb dX10_release_28 rfl (lv_at hl 0 rfl) ?_
    refine x_get F hK hW xc_X10 (cd_dX10 hn) (cd_eX10 hN hn) 0 (by decide) k_1_130 (rfl) dX10_release_29 ?_
    refine lv_iload hx hb dX10_release_32 (lv_at hl 5 rfl) ?_
    refine x_iald (t0 := 0) F hK hW (cd_dA9 hn) (cd_eA9 hN hn) rfl dX10_release_34 h (fun h => ?_)
    refine lv_iconst (v := (1 : Int32)) hx hb dX10_release_35 (by decide) ?_
    refine lv_iand hx hb dX10_release_36 ?_
    refine lv_iload_n hx hb dX10_release_37 rfl (lv_at hl 1 rfl) ?_
    refine lv_icmp_ne (tgt := 70) hx hb dX10_release_38 (by decide) (fun c_6 => ?_) (fun c_6 => ?_)
    · replace h := (if_neg c_6).symm.trans h
      exact m_c10_release_b70 hN hI hn F hr hlk hK hk12 _ _ _ _ _ h hW hS (lv_sub hl [0, 1, 2, 3, 4, 5] rfl)
    replace h := (if_pos c_6).symm.trans h
    refine lv_iload_n hx hb dX10_release_41 rfl (lv_at hl 3 rfl) ?_
    refine lv_aload_n hx hb dX10_release_42 rfl (lv_at hl 0 rfl) ?_
    refine x_get F hK hW xc_X10 (cd_dX10 hn) (cd_eX10 hN hn) 1 (by decide) k_1_131 (rfl) dX10_release_43 ?_
    refine lv_iload hx hb dX10_release_46 (lv_at hl 5 rfl) ?_
    refine x_iald (t0 := 0) F hK hW (cd_dA10 hn) (cd_eA10 hN hn) rfl dX10_release_48 h (fun h => ?_)
    refine x_cSNi (As := [.int v3, .int (xI S n 10 (v5).toNatClampNeg)]) F xG_ok hS hK um_X11_isLater km_9 (fun _ h1 => m_c11_isLater _ _ h1) rfl rfl hl.1 rfl rfl ⟨Nat.le_of_ble_eq_true rfl, Nat.le_of_ble_eq_true rfl⟩ ⟨Nat.zero_le _, Nat.zero_le _⟩ (Nat.le_of_ble_eq_true rfl) dX10_release_49 h (fun r_8 locs hS h => ?_)
    refine lv_if_eq (tgt := 70) hx hb dX10_release_52 (by decide) (fun c_9 => ?_) (fun c_9 => ?_)
    · replace h := (if_pos c_9).symm.trans h
      exact m_c10_release_b70 hN hI hn F hr hlk hK hk12 _ _ _ _ _ h hW hS (lv_sub hl [0, 1, 2, 3, 4, 5] rfl)
    replace h := (if_neg c_9).symm.trans h
    refine lv_aload_n hx hb dX10_release_55 rfl (lv_at hl 2 rfl) ?_
    refine lv_aload_n hx hb dX10_release_56 rfl (lv_at hl 0 rfl) ?_
    refine x_get F hK hW xc_X10 (cd_dX10 hn) (cd_eX10 hN hn) 0 (by decide) k_1_130 (rfl) dX10_release_57 ?_
    refine lv_iload hx hb dX10_release_60 (lv_at hl 5 rfl) ?_
    refine x_iald (t0 := 0) F hK hW (cd_dA9 hn) (cd_eA9 hN hn) rfl dX10_release_62 h (fun h => ?_)
    refine lv_iload_n hx hb dX10_release_63 rfl (lv_at hl 3 rfl) ?_
    refine x_cVv (As := [.int (xI S n 9 (v5).toNatClampNeg), .int v3]) F xG_ok hK hW hS um_X1_wakeAtTime k_3_192 (fun _ h1 => m_c1_wakeAtTime hN hI hn _ _ h1) rfl (cd_dX1 hn) (cd_eX1 hN hn) rfl rfl hl.1 rfl rfl ⟨Nat.le_of_ble_eq_true rfl, Nat.le_of_ble_eq_true rfl⟩ ⟨Nat.zero_le _, Nat.zero_le _⟩ (Nat.le_of_ble_eq_true rfl) dX10_release_64 h (fun S10 H locs hW hS h => ?_)
    refine lv_goto (tgt := 81) hx hb dX10_release_67 (by decide) ?_
    exact m_c10_release_b81 hN hI hn F hr hlk hK hk12 _ _ _ _ _ h hW hS (lv_sub hl [0, 1, 2, 3, 4, 5] rfl)
def c10_release (n : Nat) (S : xS) (a1 : Int32) : Option (xS) := (c10_clockOf n S a1).bind (fun (r_1, S1) => c10_release_b12 n (100000) a1 r_1 (0 : Int32) (0 : Int32) S1)
set_option maxHeartbeats 4000000 in
set_option maxRecDepth 100000 in
theorem m_c10_release {l : Launch} {D : va_G} {cI cJ cL cN : ClassId} {ad : Nat → Nat → Nat} {N : Nat} (hN : N ≤ 8) (hI : xInj (cDom N) ad) {n : Nat} (hn : n < N) {S : xS} (a1 : Int32) {o : xS} (h : c10_release n S a1 = some o) : Met l yX10_release (Cond.code yX10_release cX10_release 6 none :: xG) { frames := 3, cells := 0, slots := 0, locals := 72 } (xPc D vwCl (cTy cI cJ cL cN) cNf cNm (cDom N) ad (cDe ad N cI cJ cL cN) [.ref (ad n 8), .int a1, .ref (ad n 1)] S) (xQ D vwCl (cDom N) ad (cDe ad N cI cJ cL cN) none o) 0 0 (xA (cDom N) ad) := by
  unfold c10_release at h
  refine x_enter (by decide) (Nat.le_of_ble_eq_true rfl) (fun p e s m below meth c F hr hlk hK hW hS ls hl => ?_)
  have hl : lv_has ls 6 [(0, .ref (ad n 8)), (1, .int a1), (2, .ref (ad n 1))] := hl
  have hx := F.1
  have hb := F.2.1
  refine lv_aload_n hx hb dX10_release_0 rfl (lv_at hl 0 rfl) ?_
  refine lv_iload_n hx hb dX10_release_1 rfl (lv_at hl 1 rfl) ?_
  refine x_cVi (As := [.int a1]) F xG_ok hK hW hS um_X10_clockOf k_3_182 (fun _ h1 => m_c10_clockOf hN hI hn _ h1) rfl (cd_dX10 hn) (cd_eX10 hN hn) rfl rfl hl.1 rfl rfl ⟨Nat.le_of_ble_eq_true rfl, Nat.le_of_ble_eq_true rfl⟩ ⟨Nat.zero_le _, Nat.zero_le _⟩ (Nat.le_of_ble_eq_true rfl) dX10_release_2 h (fun r_1 S1 H locs hW hS h => ?_)
  refine lv_istore_n (lv' := [(3, .int r_1), (0, .ref (ad n 8)), (1, .int a1), (2, .ref (ad n 1))]) hx hb dX10_release_5 rfl hl (by decide) rfl (fun ls hl => ?_)
  refine lv_iconst (v := (0 : Int32)) hx hb dX10_release_6 (by decide) ?_
  refine lv_istore (lv' := [(4, .int (0 : Int32)), (3, .int r_1), (0, .ref (ad n 8)), (1, .int a1), (2, .ref (ad n 1))]) hx hb dX10_release_7 hl (by decide) rfl (fun ls hl => ?_)
  refine lv_iconst (v := (0 : Int32)) hx hb dX10_release_9 (by decide) ?_
  refine lv_istore (lv' := [(5, .int (0 : Int32)), (4, .int (0 : Int32)), (3, .int r_1), (0, .ref (ad n 8)), (1, .int a1), (2, .ref (ad n 1))]) hx hb dX10_release_10 hl (by decide) rfl (fun ls hl => ?_)
  exact m_c10_release_b12 hN hI hn F hr hlk hK (100000) _ _ _ _ _ h hW hS (lv_sub hl [3, 4, 5, 2, 1, 0] rfl)
/-! X1_strikeClock -/
def c1_strikeClock (n : Nat) (S : xS) (a1 : Int32) : Option (xS) := (c10_advance n S a1).bind (fun S1 => (c10_release n S1 a1).bind (fun S2 => some S2))
set_option maxHeartbeats 4000000 in
set_option maxRecDepth 100000 in
theorem m_c1_strikeClock {l : Launch} {D : va_G} {cI cJ cL cN : ClassId} {ad : Nat → Nat → Nat} {N : Nat} (hN : N ≤ 8) (hI : xInj (cDom N) ad) {n : Nat} (hn : n < N) {S : xS} (a1 : Int32) {o : xS} (h : c1_strikeClock n S a1 = some o) : Met l yX1_strikeClock (Cond.code yX1_strikeClock cX1_strikeClock 2 none :: xG) { frames := 4, cells := 0, slots := 0, locals := 97 } (xPc D vwCl (cTy cI cJ cL cN) cNf cNm (cDom N) ad (cDe ad N cI cJ cL cN) [.ref (ad n 1), .int a1] S) (xQ D vwCl (cDom N) ad (cDe ad N cI cJ cL cN) none o) 0 0 (xA (cDom N) ad) := by
  unfold c1_strikeClock at h
  refine x_enter (by decide) (Nat.le_of_ble_eq_true rfl) (fun p e s m below meth c F hr hlk hK hW hS ls hl => ?_)
  have hl : lv_has ls 2 [(0, .ref (ad n 1)), (1, .int a1)] := hl
  have hx := F.1
  have hb := F.2.1
  refine lv_aload_n hx hb dX1_strikeClock_0 rfl (lv_at hl 0 rfl) ?_
  refine x_get F hK hW xc_X1 (cd_dX1 hn) (cd_eX1 hN hn) 5 (by decide) k_1_163 (rfl) dX1_strikeClock_1 ?_
  refine lv_iload_n hx hb dX1_strikeClock_4 rfl (lv_at hl 1 rfl) ?_
  refine x_cVv (As := [.int a1]) F xG_ok hK hW hS um_X10_advance k_3_173 (fun _ h1 => m_c10_advance hN hI hn _ h1) rfl (cd_dX10 hn) (cd_eX10 hN hn) rfl rfl hl.1 rfl rfl ⟨Nat.le_of_ble_eq_true rfl, Nat.le_of_ble_eq_true rfl⟩ ⟨Nat.zero_le _, Nat.zero_le _⟩ (Nat.le_of_ble_eq_true rfl) dX1_strikeClock_5 h (fun S1 H locs hW hS h => ?_)
  refine lv_aload_n hx hb dX1_strikeClock_8 rfl (lv_at hl 0 rfl) ?_
  refine x_get F hK hW xc_X1 (cd_dX1 hn) (cd_eX1 hN hn) 5 (by decide) k_1_163 (rfl) dX1_strikeClock_9 ?_
  refine lv_iload_n hx hb dX1_strikeClock_12 rfl (lv_at hl 1 rfl) ?_
  refine lv_aload_n hx hb dX1_strikeClock_13 rfl (lv_at hl 0 rfl) ?_
  refine x_cVv (As := [.int a1, .ref (ad n 1)]) F xG_ok hK hW hS um_X10_release k_3_178 (fun _ h1 => m_c10_release hN hI hn _ h1) rfl (cd_dX10 hn) (cd_eX10 hN hn) rfl rfl hl.1 rfl rfl ⟨Nat.le_of_ble_eq_true rfl, Nat.le_of_ble_eq_true rfl⟩ ⟨Nat.zero_le _, Nat.zero_le _⟩ (Nat.le_of_ble_eq_true rfl) dX1_strikeClock_14 h (fun S2 H locs hW hS h => ?_)
  exact x_vret F hr hlk hW hS dX1_strikeClock_17 h
/-! X1_processorFact -/
def c1_processorFact (n : Nat) (S : xS) (a1 : Int32) : Option (Int32 × xS) := if a1 = (0 : Int32) then (some ((xI S n 4 0), S)) else (if a1 = (1 : Int32) then (some ((xI S n 4 1), S)) else (if a1 = (2 : Int32) then (some ((xI S n 4 2), S)) else (if a1 = (3 : Int32) then (some ((xI S n 4 3), S)) else (if a1 = (4 : Int32) then (some ((xI S n 4 4), S)) else (if a1 = (5 : Int32) then (some ((xI S n 4 5), S)) else (if a1 = (6 : Int32) then (some ((xI S n 4 6), S)) else (if a1 = (7 : Int32) then (if (xI S n 1 6) = 0 then (some ((0 : Int32), S)) else (some ((1 : Int32), S))) else (some ((xI S n 1 8), S)))))))))
set_option maxHeartbeats 4000000 in
set_option maxRecDepth 100000 in
theorem m_c1_processorFact {l : Launch} {D : va_G} {cI cJ cL cN : ClassId} {ad : Nat → Nat → Nat} {N : Nat} (hN : N ≤ 8) (hI : xInj (cDom N) ad) {n : Nat} (hn : n < N) {S : xS} (a1 : Int32) {o : Int32 × xS} (h : c1_processorFact n S a1 = some o) : Met l yX1_processorFact (Cond.code yX1_processorFact cX1_processorFact 2 (some .int) :: xG) { frames := 0, cells := 0, slots := 0, locals := 0 } (xPc D vwCl (cTy cI cJ cL cN) cNf cNm (cDom N) ad (cDe ad N cI cJ cL cN) [.ref (ad n 1), .int a1] S) (xQ D vwCl (cDom N) ad (cDe ad N cI cJ cL cN) (some (.int o.1)) o.2) 0 0 (xA (cDom N) ad) := by
  unfold c1_processorFact at h
  refine x_enter (by decide) (Nat.le_of_ble_eq_true rfl) (fun p e s m below meth c F hr hlk hK hW hS ls hl => ?_)
  have hl : lv_has ls 2 [(0, .ref (ad n 1)), (1, .int a1)] := hl
  have hx := F.1
  have hb := F.2.1
  refine lv_iload_n hx hb dX1_processorFact_0 rfl (lv_at hl 1 rfl) ?_
  by_cases c_1_0 : a1 = (0 : Int32)
  · replace h := (if_pos c_1_0).symm.trans h
    refine lv_tableIn (tgt := 48) (off := 47) hx hb dX1_processorFact_1 (by rw [c_1_0]; decide) (by rw [c_1_0]; decide) (by rw [c_1_0]; decide) (by decide) ?_
    refine lv_aload_n hx hb dX1_processorFact_48 rfl (lv_at hl 0 rfl) ?_
    refine x_get F hK hW xc_X1 (cd_dX1 hn) (cd_eX1 hN hn) 1 (by decide) k_1_156 (rfl) dX1_processorFact_49 ?_
    refine x_getN F hK hW xc_X9 (cd_dX9 ⟨hn, Or.inl rfl⟩) (cd_eX9 hN ⟨hn, Or.inl rfl⟩) 0 (by decide) kn_3 (rfl) dX1_processorFact_52 ?_
    exact x_iret F hr hlk hW hS dX1_processorFact_55 h
  replace h := (if_neg c_1_0).symm.trans h
  have hn_1_0 := x_swN (z := 0) c_1_0 x_sw0 rfl
  by_cases c_1_1 : a1 = (1 : Int32)
  · replace h := (if_pos c_1_1).symm.trans h
    refine lv_tableIn (tgt := 56) (off := 55) hx hb dX1_processorFact_1 (by rw [c_1_1]; decide) (by rw [c_1_1]; decide) (by rw [c_1_1]; decide) (by decide) ?_
    refine lv_aload_n hx hb dX1_processorFact_56 rfl (lv_at hl 0 rfl) ?_
    refine x_get F hK hW xc_X1 (cd_dX1 hn) (cd_eX1 hN hn) 1 (by decide) k_1_156 (rfl) dX1_processorFact_57 ?_
    refine x_getN F hK hW xc_X9 (cd_dX9 ⟨hn, Or.inl rfl⟩) (cd_eX9 hN ⟨hn, Or.inl rfl⟩) 1 (by decide) kn_6 (rfl) dX1_processorFact_60 ?_
    exact x_iret F hr hlk hW hS dX1_processorFact_63 h
  replace h := (if_neg c_1_1).symm.trans h
  have hn_1_1 := x_swN (z := 1) c_1_1 hn_1_0 rfl
  by_cases c_1_2 : a1 = (2 : Int32)
  · replace h := (if_pos c_1_2).symm.trans h
    refine lv_tableIn (tgt := 64) (off := 63) hx hb dX1_processorFact_1 (by rw [c_1_2]; decide) (by rw [c_1_2]; decide) (by rw [c_1_2]; decide) (by decide) ?_
    refine lv_aload_n hx hb dX1_processorFact_64 rfl (lv_at hl 0 rfl) ?_
    refine x_get F hK hW xc_X1 (cd_dX1 hn) (cd_eX1 hN hn) 1 (by decide) k_1_156 (rfl) dX1_processorFact_65 ?_
    refine x_getN F hK hW xc_X9 (cd_dX9 ⟨hn, Or.inl rfl⟩) (cd_eX9 hN ⟨hn, Or.inl rfl⟩) 2 (by decide) kn_9 (rfl) dX1_processorFact_68 ?_
    exact x_iret F hr hlk hW hS dX1_processorFact_71 h
  replace h := (if_neg c_1_2).symm.trans h
  have hn_1_2 := x_swN (z := 2) c_1_2 hn_1_1 rfl
  by_cases c_1_3 : a1 = (3 : Int32)
  · replace h := (if_pos c_1_3).symm.trans h
    refine lv_tableIn (tgt := 72) (off := 71) hx hb dX1_processorFact_1 (by rw [c_1_3]; decide) (by rw [c_1_3]; decide) (by rw [c_1_3]; decide) (by decide) ?_
    refine lv_aload_n hx hb dX1_processorFact_72 rfl (lv_at hl 0 rfl) ?_
    refine x_get F hK hW xc_X1 (cd_dX1 hn) (cd_eX1 hN hn) 1 (by decide) k_1_156 (rfl) dX1_processorFact_73 ?_
    refine x_getN F hK hW xc_X9 (cd_dX9 ⟨hn, Or.inl rfl⟩) (cd_eX9 hN ⟨hn, Or.inl rfl⟩) 3 (by decide) kn_11 (rfl) dX1_processorFact_76 ?_
    exact x_iret F hr hlk hW hS dX1_processorFact_79 h
  replace h := (if_neg c_1_3).symm.trans h
  have hn_1_3 := x_swN (z := 3) c_1_3 hn_1_2 rfl
  by_cases c_1_4 : a1 = (4 : Int32)
  · replace h := (if_pos c_1_4).symm.trans h
    refine lv_tableIn (tgt := 80) (off := 79) hx hb dX1_processorFact_1 (by rw [c_1_4]; decide) (by rw [c_1_4]; decide) (by rw [c_1_4]; decide) (by decide) ?_
    refine lv_aload_n hx hb dX1_processorFact_80 rfl (lv_at hl 0 rfl) ?_
    refine x_get F hK hW xc_X1 (cd_dX1 hn) (cd_eX1 hN hn) 1 (by decide) k_1_156 (rfl) dX1_processorFact_81 ?_
    refine x_getN F hK hW xc_X9 (cd_dX9 ⟨hn, Or.inl rfl⟩) (cd_eX9 hN ⟨hn, Or.inl rfl⟩) 4 (by decide) kn_13 (rfl) dX1_processorFact_84 ?_
    exact x_iret F hr hlk hW hS dX1_processorFact_87 h
  replace h := (if_neg c_1_4).symm.trans h
  have hn_1_4 := x_swN (z := 4) c_1_4 hn_1_3 rfl
  by_cases c_1_5 : a1 = (5 : Int32)
  · replace h := (if_pos c_1_5).symm.trans h
    refine lv_tableIn (tgt := 88) (off := 87) hx hb dX1_processorFact_1 (by rw [c_1_5]; decide) (by rw [c_1_5]; decide) (by rw [c_1_5]; decide) (by decide) ?_
    refine lv_aload_n hx hb dX1_processorFact_88 rfl (lv_at hl 0 rfl) ?_
    refine x_get F hK hW xc_X1 (cd_dX1 hn) (cd_eX1 hN hn) 1 (by decide) k_1_156 (rfl) dX1_processorFact_89 ?_
    refine x_getN F hK hW xc_X9 (cd_dX9 ⟨hn, Or.inl rfl⟩) (cd_eX9 hN ⟨hn, Or.inl rfl⟩) 5 (by decide) kn_14 (rfl) dX1_processorFact_92 ?_
    exact x_iret F hr hlk hW hS dX1_processorFact_95 h
  replace h := (if_neg c_1_5).symm.trans h
  have hn_1_5 := x_swN (z := 5) c_1_5 hn_1_4 rfl
  by_cases c_1_6 : a1 = (6 : Int32)
  · replace h := (if_pos c_1_6).symm.trans h
    refine lv_tableIn (tgt := 96) (off := 95) hx hb dX1_processorFact_1 (by rw [c_1_6]; decide) (by rw [c_1_6]; decide) (by rw [c_1_6]; decide) (by decide) ?_
    refine lv_aload_n hx hb dX1_processorFact_96 rfl (lv_at hl 0 rfl) ?_
    refine x_get F hK hW xc_X1 (cd_dX1 hn) (cd_eX1 hN hn) 1 (by decide) k_1_156 (rfl) dX1_processorFact_97 ?_
    refine x_getN F hK hW xc_X9 (cd_dX9 ⟨hn, Or.inl rfl⟩) (cd_eX9 hN ⟨hn, Or.inl rfl⟩) 6 (by decide) kn_16 (rfl) dX1_processorFact_100 ?_
    exact x_iret F hr hlk hW hS dX1_processorFact_103 h
  replace h := (if_neg c_1_6).symm.trans h
  have hn_1_6 := x_swN (z := 6) c_1_6 hn_1_5 rfl
  by_cases c_1_7 : a1 = (7 : Int32)
  · replace h := (if_pos c_1_7).symm.trans h
    refine lv_tableIn (tgt := 104) (off := 103) hx hb dX1_processorFact_1 (by rw [c_1_7]; decide) (by rw [c_1_7]; decide) (by rw [c_1_7]; decide) (by decide) ?_
    refine lv_aload_n hx hb dX1_processorFact_104 rfl (lv_at hl 0 rfl) ?_
    refine x_get F hK hW xc_X1 (cd_dX1 hn) (cd_eX1 hN hn) 6 (by decide) k_1_166 (rfl) dX1_processorFact_105 ?_
    refine lv_if_eq (tgt := 115) hx hb dX1_processorFact_108 (by decide) (fun c_2 => ?_) (fun c_2 => ?_)
    · replace h := (if_pos c_2).symm.trans h
      refine lv_iconst (v := (0 : Int32)) hx hb dX1_processorFact_115 (by decide) ?_
      exact x_iret F hr hlk hW hS dX1_processorFact_116 h
    replace h := (if_neg c_2).symm.trans h
    refine lv_iconst (v := (1 : Int32)) hx hb dX1_processorFact_111 (by decide) ?_
    refine lv_goto (tgt := 116) hx hb dX1_processorFact_112 (by decide) ?_
    exact x_iret F hr hlk hW hS dX1_processorFact_116 h
  replace h := (if_neg c_1_7).symm.trans h
  have hn_1_7 := x_swN (z := 7) c_1_7 hn_1_6 rfl
  refine x_tblD (tgt := 117) hx hb dX1_processorFact_1 hn_1_7 (by decide) (by decide) (by decide) ?_
  refine lv_aload_n hx hb dX1_processorFact_117 rfl (lv_at hl 0 rfl) ?_
  refine x_get F hK hW xc_X1 (cd_dX1 hn) (cd_eX1 hN hn) 8 (by decide) k_1_169 (rfl) dX1_processorFact_118 ?_
  exact x_iret F hr hlk hW hS dX1_processorFact_121 h
/-! X1_schedulerFact -/
def c1_schedulerFact (n : Nat) (S : xS) (a1 : Int32) : Option (Int32 × xS) := if a1 = (9 : Int32) then (some ((xI S n 6 0), S)) else (if a1 = (10 : Int32) then (some ((xI S n 6 1), S)) else (if a1 = (11 : Int32) then (some ((xI S n 7 0), S)) else (if a1 = (12 : Int32) then (some ((xI S n 7 1), S)) else (if a1 = (13 : Int32) then ((c10_clockOf n S (0 : Int32)).bind (fun (r_2, S2) => some (r_2, S2))) else (if a1 = (14 : Int32) then ((c10_clockOf n S (1 : Int32)).bind (fun (r_3, S3) => some (r_3, S3))) else (if a1 = (15 : Int32) then (some ((xI S n 4 7), S)) else (if a1 = (16 : Int32) then (some ((xI S n 8 2), S)) else (if a1 = (17 : Int32) then (if (xI S n 5 6) = (2 : Int32) then (some ((0 : Int32), S)) else (some ((1 : Int32), S))) else (if a1 = (19 : Int32) then (some ((xI S n 1 10), S)) else (if a1 = (20 : Int32) then (some ((xI S n 1 9), S)) else (some ((-2 : Int32), S))))))))))))
set_option maxHeartbeats 4000000 in
set_option maxRecDepth 100000 in
theorem m_c1_schedulerFact {l : Launch} {D : va_G} {cI cJ cL cN : ClassId} {ad : Nat → Nat → Nat} {N : Nat} (hN : N ≤ 8) (hI : xInj (cDom N) ad) {n : Nat} (hn : n < N) {S : xS} (a1 : Int32) {o : Int32 × xS} (h : c1_schedulerFact n S a1 = some o) : Met l yX1_schedulerFact (Cond.code yX1_schedulerFact cX1_schedulerFact 2 (some .int) :: xG) { frames := 1, cells := 0, slots := 0, locals := 21 } (xPc D vwCl (cTy cI cJ cL cN) cNf cNm (cDom N) ad (cDe ad N cI cJ cL cN) [.ref (ad n 1), .int a1] S) (xQ D vwCl (cDom N) ad (cDe ad N cI cJ cL cN) (some (.int o.1)) o.2) 0 0 (xA (cDom N) ad) := by
  unfold c1_schedulerFact at h
  refine x_enter (by decide) (Nat.le_of_ble_eq_true rfl) (fun p e s m below meth c F hr hlk hK hW hS ls hl => ?_)
  have hl : lv_has ls 2 [(0, .ref (ad n 1)), (1, .int a1)] := hl
  have hx := F.1
  have hb := F.2.1
  refine lv_iload_n hx hb dX1_schedulerFact_0 rfl (lv_at hl 1 rfl) ?_
  by_cases c_1_9 : a1 = (9 : Int32)
  · replace h := (if_pos c_1_9).symm.trans h
    refine lv_tableIn (tgt := 64) (off := 63) hx hb dX1_schedulerFact_1 (by rw [c_1_9]; decide) (by rw [c_1_9]; decide) (by rw [c_1_9]; decide) (by decide) ?_
    refine lv_aload_n hx hb dX1_schedulerFact_64 rfl (lv_at hl 0 rfl) ?_
    refine x_get F hK hW xc_X1 (cd_dX1 hn) (cd_eX1 hN hn) 3 (by decide) k_1_159 (rfl) dX1_schedulerFact_65 ?_
    refine x_getN F hK hW xc_X8 (cd_dX8 ⟨hn, Or.inl rfl⟩) (cd_eX8 hN ⟨hn, Or.inl rfl⟩) 0 (by decide) kn_20 (rfl) dX1_schedulerFact_68 ?_
    exact x_iret F hr hlk hW hS dX1_schedulerFact_71 h
  replace h := (if_neg c_1_9).symm.trans h
  have hn_1_9 := x_swN (z := 9) c_1_9 x_sw0 rfl
  by_cases c_1_10 : a1 = (10 : Int32)
  · replace h := (if_pos c_1_10).symm.trans h
    refine lv_tableIn (tgt := 72) (off := 71) hx hb dX1_schedulerFact_1 (by rw [c_1_10]; decide) (by rw [c_1_10]; decide) (by rw [c_1_10]; decide) (by decide) ?_
    refine lv_aload_n hx hb dX1_schedulerFact_72 rfl (lv_at hl 0 rfl) ?_
    refine x_get F hK hW xc_X1 (cd_dX1 hn) (cd_eX1 hN hn) 3 (by decide) k_1_159 (rfl) dX1_schedulerFact_73 ?_
    refine x_getN F hK hW xc_X8 (cd_dX8 ⟨hn, Or.inl rfl⟩) (cd_eX8 hN ⟨hn, Or.inl rfl⟩) 1 (by decide) kn_22 (rfl) dX1_schedulerFact_76 ?_
    exact x_iret F hr hlk hW hS dX1_schedulerFact_79 h
  replace h := (if_neg c_1_10).symm.trans h
  have hn_1_10 := x_swN (z := 10) c_1_10 hn_1_9 rfl
  by_cases c_1_11 : a1 = (11 : Int32)
  · replace h := (if_pos c_1_11).symm.trans h
    refine lv_tableIn (tgt := 80) (off := 79) hx hb dX1_schedulerFact_1 (by rw [c_1_11]; decide) (by rw [c_1_11]; decide) (by rw [c_1_11]; decide) (by decide) ?_
    refine lv_aload_n hx hb dX1_schedulerFact_80 rfl (lv_at hl 0 rfl) ?_
    refine x_get F hK hW xc_X1 (cd_dX1 hn) (cd_eX1 hN hn) 4 (by decide) k_1_161 (rfl) dX1_schedulerFact_81 ?_
    refine x_getN F hK hW xc_X8 (cd_dX8 ⟨hn, Or.inr rfl⟩) (cd_eX8 hN ⟨hn, Or.inr rfl⟩) 0 (by decide) kn_20 (rfl) dX1_schedulerFact_84 ?_
    exact x_iret F hr hlk hW hS dX1_schedulerFact_87 h
  replace h := (if_neg c_1_11).symm.trans h
  have hn_1_11 := x_swN (z := 11) c_1_11 hn_1_10 rfl
  by_cases c_1_12 : a1 = (12 : Int32)
  · replace h := (if_pos c_1_12).symm.trans h
    refine lv_tableIn (tgt := 88) (off := 87) hx hb dX1_schedulerFact_1 (by rw [c_1_12]; decide) (by rw [c_1_12]; decide) (by rw [c_1_12]; decide) (by decide) ?_
    refine lv_aload_n hx hb dX1_schedulerFact_88 rfl (lv_at hl 0 rfl) ?_
    refine x_get F hK hW xc_X1 (cd_dX1 hn) (cd_eX1 hN hn) 4 (by decide) k_1_161 (rfl) dX1_schedulerFact_89 ?_
    refine x_getN F hK hW xc_X8 (cd_dX8 ⟨hn, Or.inr rfl⟩) (cd_eX8 hN ⟨hn, Or.inr rfl⟩) 1 (by decide) kn_22 (rfl) dX1_schedulerFact_92 ?_
    exact x_iret F hr hlk hW hS dX1_schedulerFact_95 h
  replace h := (if_neg c_1_12).symm.trans h
  have hn_1_12 := x_swN (z := 12) c_1_12 hn_1_11 rfl
  by_cases c_1_13 : a1 = (13 : Int32)
  · replace h := (if_pos c_1_13).symm.trans h
    refine lv_tableIn (tgt := 96) (off := 95) hx hb dX1_schedulerFact_1 (by rw [c_1_13]; decide) (by rw [c_1_13]; decide) (by rw [c_1_13]; decide) (by decide) ?_
    refine lv_aload_n hx hb dX1_schedulerFact_96 rfl (lv_at hl 0 rfl) ?_
    refine x_get F hK hW xc_X1 (cd_dX1 hn) (cd_eX1 hN hn) 5 (by decide) k_1_163 (rfl) dX1_schedulerFact_97 ?_
    refine lv_iconst (v := (0 : Int32)) hx hb dX1_schedulerFact_100 (by decide) ?_
    refine x_cVi (As := [.int (0 : Int32)]) F xG_ok hK hW hS um_X10_clockOf k_4_134 (fun _ h1 => m_c10_clockOf hN hI hn _ h1) rfl (cd_dX10 hn) (cd_eX10 hN hn) rfl rfl hl.1 rfl rfl ⟨Nat.le_of_ble_eq_true rfl, Nat.le_of_ble_eq_true rfl⟩ ⟨Nat.zero_le _, Nat.zero_le _⟩ (Nat.le_of_ble_eq_true rfl) dX1_schedulerFact_101 h (fun r_2 S2 H locs hW hS h => ?_)
    exact x_iret F hr hlk hW hS dX1_schedulerFact_104 h
  replace h := (if_neg c_1_13).symm.trans h
  have hn_1_13 := x_swN (z := 13) c_1_13 hn_1_12 rfl
  by_cases c_1_14 : a1 = (14 : Int32)
  · replace h := (if_pos c_1_14).symm.trans h
    refine lv_tableIn (tgt := 105) (off := 104) hx hb dX1_schedulerFact_1 (by rw [c_1_14]; decide) (by rw [c_1_14]; decide) (by rw [c_1_14]; decide) (by decide) ?_
    refine lv_aload_n hx hb dX1_schedulerFact_105 rfl (lv_at hl 0 rfl) ?_
    refine x_get F hK hW xc_X1 (cd_dX1 hn) (cd_eX1 hN hn) 5 (by decide) k_1_163 (rfl) dX1_schedulerFact_106 ?_
    refine lv_iconst (v := (1 : Int32)) hx hb dX1_schedulerFact_109 (by decide) ?_
    refine x_cVi (As := [.int (1 : Int32)]) F xG_ok hK hW hS um_X10_clockOf k_4_134 (fun _ h1 => m_c10_clockOf hN hI hn _ h1) rfl (cd_dX10 hn) (cd_eX10 hN hn) rfl rfl hl.1 rfl rfl ⟨Nat.le_of_ble_eq_true rfl, Nat.le_of_ble_eq_true rfl⟩ ⟨Nat.zero_le _, Nat.zero_le _⟩ (Nat.le_of_ble_eq_true rfl) dX1_schedulerFact_110 h (fun r_3 S3 H locs hW hS h => ?_)
    exact x_iret F hr hlk hW hS dX1_schedulerFact_113 h
  replace h := (if_neg c_1_14).symm.trans h
  have hn_1_14 := x_swN (z := 14) c_1_14 hn_1_13 rfl
  by_cases c_1_15 : a1 = (15 : Int32)
  · replace h := (if_pos c_1_15).symm.trans h
    refine lv_tableIn (tgt := 114) (off := 113) hx hb dX1_schedulerFact_1 (by rw [c_1_15]; decide) (by rw [c_1_15]; decide) (by rw [c_1_15]; decide) (by decide) ?_
    refine lv_aload_n hx hb dX1_schedulerFact_114 rfl (lv_at hl 0 rfl) ?_
    refine x_get F hK hW xc_X1 (cd_dX1 hn) (cd_eX1 hN hn) 1 (by decide) k_1_156 (rfl) dX1_schedulerFact_115 ?_
    refine x_getN F hK hW xc_X9 (cd_dX9 ⟨hn, Or.inl rfl⟩) (cd_eX9 hN ⟨hn, Or.inl rfl⟩) 7 (by decide) kn_19 (rfl) dX1_schedulerFact_118 ?_
    exact x_iret F hr hlk hW hS dX1_schedulerFact_121 h
  replace h := (if_neg c_1_15).symm.trans h
  have hn_1_15 := x_swN (z := 15) c_1_15 hn_1_14 rfl
  by_cases c_1_16 : a1 = (16 : Int32)
  · replace h := (if_pos c_1_16).symm.trans h
    refine lv_tableIn (tgt := 122) (off := 121) hx hb dX1_schedulerFact_1 (by rw [c_1_16]; decide) (by rw [c_1_16]; decide) (by rw [c_1_16]; decide) (by decide) ?_
    refine lv_aload_n hx hb dX1_schedulerFact_122 rfl (lv_at hl 0 rfl) ?_
    refine x_get F hK hW xc_X1 (cd_dX1 hn) (cd_eX1 hN hn) 5 (by decide) k_1_163 (rfl) dX1_schedulerFact_123 ?_
    refine x_getN F hK hW xc_X10 (cd_dX10 hn) (cd_eX10 hN hn) 2 (by decide) kn_24 (rfl) dX1_schedulerFact_126 ?_
    exact x_iret F hr hlk hW hS dX1_schedulerFact_129 h
  replace h := (if_neg c_1_16).symm.trans h
  have hn_1_16 := x_swN (z := 16) c_1_16 hn_1_15 rfl
  by_cases c_1_17 : a1 = (17 : Int32)
  · replace h := (if_pos c_1_17).symm.trans h
    refine lv_tableIn (tgt := 130) (off := 129) hx hb dX1_schedulerFact_1 (by rw [c_1_17]; decide) (by rw [c_1_17]; decide) (by rw [c_1_17]; decide) (by decide) ?_
    refine lv_aload_n hx hb dX1_schedulerFact_130 rfl (lv_at hl 0 rfl) ?_
    refine x_get F hK hW xc_X1 (cd_dX1 hn) (cd_eX1 hN hn) 2 (by decide) k_1_158 (rfl) dX1_schedulerFact_131 ?_
    refine x_getN F hK hW xc_X9 (cd_dX9 ⟨hn, Or.inr rfl⟩) (cd_eX9 hN ⟨hn, Or.inr rfl⟩) 6 (by decide) kn_16 (rfl) dX1_schedulerFact_134 ?_
    refine lv_iconst (v := (2 : Int32)) hx hb dX1_schedulerFact_137 (by decide) ?_
    refine lv_icmp_eq (tgt := 145) hx hb dX1_schedulerFact_138 (by decide) (fun c_4 => ?_) (fun c_4 => ?_)
    · replace h := (if_pos c_4).symm.trans h
      refine lv_iconst (v := (0 : Int32)) hx hb dX1_schedulerFact_145 (by decide) ?_
      exact x_iret F hr hlk hW hS dX1_schedulerFact_146 h
    replace h := (if_neg c_4).symm.trans h
    refine lv_iconst (v := (1 : Int32)) hx hb dX1_schedulerFact_141 (by decide) ?_
    refine lv_goto (tgt := 146) hx hb dX1_schedulerFact_142 (by decide) ?_
    exact x_iret F hr hlk hW hS dX1_schedulerFact_146 h
  replace h := (if_neg c_1_17).symm.trans h
  have hn_1_17 := x_swN (z := 17) c_1_17 hn_1_16 rfl
  by_cases c_1_19 : a1 = (19 : Int32)
  · replace h := (if_pos c_1_19).symm.trans h
    refine lv_tableIn (tgt := 147) (off := 146) hx hb dX1_schedulerFact_1 (by rw [c_1_19]; decide) (by rw [c_1_19]; decide) (by rw [c_1_19]; decide) (by decide) ?_
    refine lv_aload_n hx hb dX1_schedulerFact_147 rfl (lv_at hl 0 rfl) ?_
    refine x_get F hK hW xc_X1 (cd_dX1 hn) (cd_eX1 hN hn) 10 (by decide) k_1_173 (rfl) dX1_schedulerFact_148 ?_
    exact x_iret F hr hlk hW hS dX1_schedulerFact_151 h
  replace h := (if_neg c_1_19).symm.trans h
  have hn_1_19 := x_swN (z := 19) c_1_19 hn_1_17 rfl
  by_cases c_1_20 : a1 = (20 : Int32)
  · replace h := (if_pos c_1_20).symm.trans h
    refine lv_tableIn (tgt := 152) (off := 151) hx hb dX1_schedulerFact_1 (by rw [c_1_20]; decide) (by rw [c_1_20]; decide) (by rw [c_1_20]; decide) (by decide) ?_
    refine lv_aload_n hx hb dX1_schedulerFact_152 rfl (lv_at hl 0 rfl) ?_
    refine x_get F hK hW xc_X1 (cd_dX1 hn) (cd_eX1 hN hn) 9 (by decide) k_1_171 (rfl) dX1_schedulerFact_153 ?_
    exact x_iret F hr hlk hW hS dX1_schedulerFact_156 h
  replace h := (if_neg c_1_20).symm.trans h
  have hn_1_20 := x_swN (z := 20) c_1_20 hn_1_19 rfl
  refine x_tblD (tgt := 157) hx hb dX1_schedulerFact_1 hn_1_20 (by decide) (by decide) (by decide) ?_
  refine lv_bipush (v := (-2 : Int32)) hx hb dX1_schedulerFact_157 (by decide) ?_
  exact x_iret F hr hlk hW hS dX1_schedulerFact_159 h
/-! X2_isWired -/
def c2_isWired (N : Nat) (n j : Nat) (S : xS)  : Option (Int32 × xS) := xcs (xE S n j) (some ((0 : Int32), S)) (fun n_1 j_1 => gq ((n_1 < N ∧ 16 ≤ j_1 ∧ j_1 < 20) ∨ (n_1 = 8 ∧ j_1 = 16)) (some ((1 : Int32), S)))
set_option maxHeartbeats 4000000 in
set_option maxRecDepth 100000 in
theorem m_c2_isWired {l : Launch} {D : va_G} {cI cJ cL cN : ClassId} {ad : Nat → Nat → Nat} {N : Nat} (hN : N ≤ 8) (hI : xInj (cDom N) ad) {n j : Nat} (hj : isX2 N n j) {S : xS}  {o : Int32 × xS} (h : c2_isWired N n j S  = some o) : Met l yX2_isWired (Cond.code yX2_isWired cX2_isWired 1 (some .boolean) :: xG) { frames := 0, cells := 0, slots := 0, locals := 0 } (xPc D vwCl (cTy cI cJ cL cN) cNf cNm (cDom N) ad (cDe ad N cI cJ cL cN) [.ref (ad n j)] S) (xQ D vwCl (cDom N) ad (cDe ad N cI cJ cL cN) (some (.int o.1)) o.2) 0 0 (xA (cDom N) ad) := by
  unfold c2_isWired at h
  refine x_enter (by decide) (Nat.le_of_ble_eq_true rfl) (fun p e s m below meth c F hr hlk hK hW hS ls hl => ?_)
  have hl : lv_has ls 1 [(0, .ref (ad n j))] := hl
  have hx := F.1
  have hb := F.2.1
  refine lv_aload_n hx hb dX2_isWired_0 rfl (lv_at hl 0 rfl) ?_
  refine x_get F hK hW xc_X2 (cd_dX2 hj) (cd_eX2 hN hj) 0 (by decide) k_1_220 (rfl) dX2_isWired_1 ?_
  revert h
  rcases hE_1 : xE S n j with _ | ⟨n_1, j_1⟩
  · intro h
    replace h := xcs_n h
    have hl : lv_has ls 1 [(0, .ref (ad n j))] := hl
    refine lv_ifnullN (tgt := 11) hx hb dX2_isWired_4 (by decide) ?_
    refine lv_iconst (v := (0 : Int32)) hx hb dX2_isWired_11 (by decide) ?_
    exact x_zret F hr hlk hW hS rfl dX2_isWired_12 h
  intro h
  replace h := xcs_s h
  have hg_1 := (gq_use h).1
  replace h := (gq_use h).2
  have hl : lv_has ls 1 [(0, .ref (ad n j))] := hl
  refine lv_ifnull hx hb dX2_isWired_4 ?_
  refine lv_iconst (v := (1 : Int32)) hx hb dX2_isWired_7 (by decide) ?_
  refine lv_goto (tgt := 12) hx hb dX2_isWired_8 (by decide) ?_
  exact x_zret F hr hlk hW hS rfl dX2_isWired_12 h
/-! X2_join -/
def c2_join (n j : Nat) (n2 j2 : Nat) (S : xS) (a2 : Int32) : Option (xS) := xnm (sE S n j (some (n2, j2))) (fun S1 => xnm (sI S1 n j 1 a2) (fun S2 => some S2))
set_option maxHeartbeats 4000000 in
set_option maxRecDepth 100000 in
theorem m_c2_join {l : Launch} {D : va_G} {cI cJ cL cN : ClassId} {ad : Nat → Nat → Nat} {N : Nat} (hN : N ≤ 8) (hI : xInj (cDom N) ad) {n j : Nat} (hj : isX2 N n j) {n2 j2 : Nat} (hj2 : isX2 N n2 j2) {S : xS} (a2 : Int32) {o : xS} (h : c2_join n j n2 j2 S a2 = some o) : Met l yX2_join (Cond.code yX2_join cX2_join 3 none :: xG) { frames := 0, cells := 0, slots := 0, locals := 0 } (xPc D vwCl (cTy cI cJ cL cN) cNf cNm (cDom N) ad (cDe ad N cI cJ cL cN) [.ref (ad n j), .ref (ad n2 j2), .int a2] S) (xQ D vwCl (cDom N) ad (cDe ad N cI cJ cL cN) none o) 0 0 (xA (cDom N) ad) := by
  unfold c2_join at h
  refine x_enter (by decide) (Nat.le_of_ble_eq_true rfl) (fun p e s m below meth c F hr hlk hK hW hS ls hl => ?_)
  have hl : lv_has ls 3 [(0, .ref (ad n j)), (1, .ref (ad n2 j2)), (2, .int a2)] := hl
  have hx := F.1
  have hb := F.2.1
  refine lv_aload_n hx hb dX2_join_0 rfl (lv_at hl 0 rfl) ?_
  refine lv_aload_n hx hb dX2_join_1 rfl (lv_at hl 1 rfl) ?_
  refine x_putE F hK hI hW hS xc_X2 (cd_dX2 hj) (cd_eX2 hN hj) 0 (by decide) k_1_220 rfl rfl rfl (fun _ _ => rfl) (fun _ _ => Nat.le_of_ble_eq_true rfl) dX2_join_2 h (fun S1 H locs hW hS h => ?_)
  refine lv_aload_n hx hb dX2_join_5 rfl (lv_at hl 0 rfl) ?_
  refine lv_iload_n hx hb dX2_join_6 rfl (lv_at hl 2 rfl) ?_
  refine x_put F hK hI hW hS xc_X2 (cd_dX2 hj) (cd_eX2 hN hj) 1 (by decide) k_1_221 rfl (v := a2) rfl rfl (fun _ _ => rfl) (fun _ _ => Nat.le_of_ble_eq_true rfl) dX2_join_7 h (fun S2 H locs hW hS h => ?_)
  exact x_vret F hr hlk hW hS dX2_join_10 h
/-! X2_mayBeginData -/
def c2_mayBeginData (n j : Nat) (S : xS)  : Option (Int32 × xS) := if (xI S n j 3) = 0 then (if (xI S n j 6) = 0 then (if (xI S n j 7) = 0 then (some ((1 : Int32), S)) else (some ((0 : Int32), S))) else (some ((0 : Int32), S))) else (some ((0 : Int32), S))
set_option maxHeartbeats 4000000 in
set_option maxRecDepth 100000 in
theorem m_c2_mayBeginData {l : Launch} {D : va_G} {cI cJ cL cN : ClassId} {ad : Nat → Nat → Nat} {N : Nat} (hN : N ≤ 8) (hI : xInj (cDom N) ad) {n j : Nat} (hj : isX2 N n j) {S : xS}  {o : Int32 × xS} (h : c2_mayBeginData n j S  = some o) : Met l yX2_mayBeginData (Cond.code yX2_mayBeginData cX2_mayBeginData 1 (some .boolean) :: xG) { frames := 0, cells := 0, slots := 0, locals := 0 } (xPc D vwCl (cTy cI cJ cL cN) cNf cNm (cDom N) ad (cDe ad N cI cJ cL cN) [.ref (ad n j)] S) (xQ D vwCl (cDom N) ad (cDe ad N cI cJ cL cN) (some (.int o.1)) o.2) 0 0 (xA (cDom N) ad) := by
  unfold c2_mayBeginData at h
  refine x_enter (by decide) (Nat.le_of_ble_eq_true rfl) (fun p e s m below meth c F hr hlk hK hW hS ls hl => ?_)
  have hl : lv_has ls 1 [(0, .ref (ad n j))] := hl
  have hx := F.1
  have hb := F.2.1
  refine lv_aload_n hx hb dX2_mayBeginData_0 rfl (lv_at hl 0 rfl) ?_
  refine x_get F hK hW xc_X2 (cd_dX2 hj) (cd_eX2 hN hj) 3 (by decide) k_1_224 (rfl) dX2_mayBeginData_1 ?_
  refine lv_if_ne (tgt := 25) hx hb dX2_mayBeginData_4 (by decide) (fun c_1 => ?_) (fun c_1 => ?_)
  · replace h := (if_neg c_1).symm.trans h
    refine lv_iconst (v := (0 : Int32)) hx hb dX2_mayBeginData_25 (by decide) ?_
    exact x_zret F hr hlk hW hS rfl dX2_mayBeginData_26 h
  replace h := (if_pos c_1).symm.trans h
  refine lv_aload_n hx hb dX2_mayBeginData_7 rfl (lv_at hl 0 rfl) ?_
  refine x_get F hK hW xc_X2 (cd_dX2 hj) (cd_eX2 hN hj) 6 (by decide) k_1_228 (rfl) dX2_mayBeginData_8 ?_
  refine lv_if_ne (tgt := 25) hx hb dX2_mayBeginData_11 (by decide) (fun c_2 => ?_) (fun c_2 => ?_)
  · replace h := (if_neg c_2).symm.trans h
    refine lv_iconst (v := (0 : Int32)) hx hb dX2_mayBeginData_25 (by decide) ?_
    exact x_zret F hr hlk hW hS rfl dX2_mayBeginData_26 h
  replace h := (if_pos c_2).symm.trans h
  refine lv_aload_n hx hb dX2_mayBeginData_14 rfl (lv_at hl 0 rfl) ?_
  refine x_get F hK hW xc_X2 (cd_dX2 hj) (cd_eX2 hN hj) 7 (by decide) k_1_232 (rfl) dX2_mayBeginData_15 ?_
  refine lv_if_ne (tgt := 25) hx hb dX2_mayBeginData_18 (by decide) (fun c_3 => ?_) (fun c_3 => ?_)
  · replace h := (if_neg c_3).symm.trans h
    refine lv_iconst (v := (0 : Int32)) hx hb dX2_mayBeginData_25 (by decide) ?_
    exact x_zret F hr hlk hW hS rfl dX2_mayBeginData_26 h
  replace h := (if_pos c_3).symm.trans h
  refine lv_iconst (v := (1 : Int32)) hx hb dX2_mayBeginData_21 (by decide) ?_
  refine lv_goto (tgt := 26) hx hb dX2_mayBeginData_22 (by decide) ?_
  exact x_zret F hr hlk hW hS rfl dX2_mayBeginData_26 h
/-! X2_beginData -/
def c2_beginData (n j : Nat) (S : xS) (a1 : Int32) : Option (xS) := xnm (sI S n j 2 ((3 : Int32) ||| (a1 <<< ((2 : Int32) &&& 31)))) (fun S1 => xnm (sI S1 n j 3 (11 : Int32)) (fun S2 => xnm (sI S2 n j 7 (1 : Int32)) (fun S3 => some S3)))
set_option maxHeartbeats 4000000 in
set_option maxRecDepth 100000 in
theorem m_c2_beginData {l : Launch} {D : va_G} {cI cJ cL cN : ClassId} {ad : Nat → Nat → Nat} {N : Nat} (hN : N ≤ 8) (hI : xInj (cDom N) ad) {n j : Nat} (hj : isX2 N n j) {S : xS} (a1 : Int32) {o : xS} (h : c2_beginData n j S a1 = some o) : Met l yX2_beginData (Cond.code yX2_beginData cX2_beginData 2 none :: xG) { frames := 0, cells := 0, slots := 0, locals := 0 } (xPc D vwCl (cTy cI cJ cL cN) cNf cNm (cDom N) ad (cDe ad N cI cJ cL cN) [.ref (ad n j), .int a1] S) (xQ D vwCl (cDom N) ad (cDe ad N cI cJ cL cN) none o) 0 0 (xA (cDom N) ad) := by
  unfold c2_beginData at h
  refine x_enter (by decide) (Nat.le_of_ble_eq_true rfl) (fun p e s m below meth c F hr hlk hK hW hS ls hl => ?_)
  have hl : lv_has ls 2 [(0, .ref (ad n j)), (1, .int a1)] := hl
  have hx := F.1
  have hb := F.2.1
  refine lv_aload_n hx hb dX2_beginData_0 rfl (lv_at hl 0 rfl) ?_
  refine lv_iconst (v := (3 : Int32)) hx hb dX2_beginData_1 (by decide) ?_
  refine lv_iload_n hx hb dX2_beginData_2 rfl (lv_at hl 1 rfl) ?_
  refine lv_iconst (v := (2 : Int32)) hx hb dX2_beginData_3 (by decide) ?_
  refine lv_ishl hx hb dX2_beginData_4 ?_
  refine lv_ior hx hb dX2_beginData_5 ?_
  refine x_put F hK hI hW hS xc_X2 (cd_dX2 hj) (cd_eX2 hN hj) 2 (by decide) k_1_223 rfl (v := ((3 : Int32) ||| (a1 <<< ((2 : Int32) &&& 31)))) rfl rfl (fun _ _ => rfl) (fun _ _ => Nat.le_of_ble_eq_true rfl) dX2_beginData_6 h (fun S1 H locs hW hS h => ?_)
  refine lv_aload_n hx hb dX2_beginData_9 rfl (lv_at hl 0 rfl) ?_
  refine lv_bipush (v := (11 : Int32)) hx hb dX2_beginData_10 (by decide) ?_
  refine x_put F hK hI hW hS xc_X2 (cd_dX2 hj) (cd_eX2 hN hj) 3 (by decide) k_1_224 rfl (v := (11 : Int32)) rfl rfl (fun _ _ => rfl) (fun _ _ => Nat.le_of_ble_eq_true rfl) dX2_beginData_12 h (fun S2 H locs hW hS h => ?_)
  refine lv_aload_n hx hb dX2_beginData_15 rfl (lv_at hl 0 rfl) ?_
  refine lv_iconst (v := (1 : Int32)) hx hb dX2_beginData_16 (by decide) ?_
  refine x_put F hK hI hW hS xc_X2 (cd_dX2 hj) (cd_eX2 hN hj) 7 (by decide) k_1_232 rfl (v := (1 : Int32)) rfl rfl (fun _ _ => rfl) (fun _ _ => Nat.le_of_ble_eq_true rfl) dX2_beginData_17 h (fun S3 H locs hW hS h => ?_)
  exact x_vret F hr hlk hW hS dX2_beginData_20 h
/-! X2_putNextBit -/
def c2_putNextBit_b34 (n j : Nat)  (S : xS) : Option (xS) := xnm (sI S n j 5 ((xI S n j 2) &&& (1 : Int32))) (fun S2 => xnm (sI S2 n j 2 ((xI S2 n j 2) >>> ((1 : Int32) &&& 31))) (fun S3 => if (xI S3 n j 3) = 0 then (some S3) else (xnm (sI S3 n j 4 ((xI S3 n j 4) + (1 : Int32))) (fun S5 => if (xI S5 n j 4) = (xI S5 n j 3) then (xnm (sI S5 n j 4 (0 : Int32)) (fun S7 => xnm (sI S7 n j 3 (0 : Int32)) (fun S8 => some S8))) else (some S5)))))
set_option maxHeartbeats 4000000 in
set_option maxRecDepth 100000 in
theorem m_c2_putNextBit_b34 {l : Launch} {D : va_G} {cI cJ cL cN : ClassId} {ad : Nat → Nat → Nat} {N : Nat} (hN : N ≤ 8) (hI : xInj (cDom N) ad) {n j : Nat} (hj : isX2 N n j) {p : Program} {e : Env} {s : State} {m : MethodId} {args : Array Value} {below : List Frame} {meth : Method} {c : Code} (F : CallFix p m c cX2_putNextBit 1 s args (Cond.code yX2_putNextBit cX2_putNextBit 1 none :: xG) (yX2_putNextBit).cls) (hr : meth.sig.returnType = none) (hlk : meth.locks = false) (hK : xK D vwCl (cTy cI cJ cL cN) cNf cNm s) {o : xS}  (S : xS) {H : Heap} {locs : List Loc} {ls : Array Slot} (h : c2_putNextBit_b34 n j  S = some o) (hW : xW D vwCl (cDom N) ad (cDe ad N cI cJ cL cN) S H) (hS : va_S (xA (cDom N) ad) s.heap H locs) (hl : lv_has ls 1 [(0, .ref (ad n j))]) : W p l e { frames := 0, cells := 0, slots := 0, locals := 0 } s m args below meth c H locs 0 0 (MQ below (xQ D vwCl (cDom N) ad (cDe ad N cI cJ cL cN) none o) args s 0 0 (xA (cDom N) ad)) (F0 m 34 ls []) := by
  have hx := F.1
  have hb := F.2.1
  unfold c2_putNextBit_b34 at h
  refine lv_aload_n hx hb dX2_putNextBit_34 rfl (lv_at hl 0 rfl) ?_
  refine lv_aload_n hx hb dX2_putNextBit_35 rfl (lv_at hl 0 rfl) ?_
  refine x_get F hK hW xc_X2 (cd_dX2 hj) (cd_eX2 hN hj) 2 (by decide) k_1_223 (rfl) dX2_putNextBit_36 ?_
  refine lv_iconst (v := (1 : Int32)) hx hb dX2_putNextBit_39 (by decide) ?_
  refine lv_iand hx hb dX2_putNextBit_40 ?_
  refine x_put F hK hI hW hS xc_X2 (cd_dX2 hj) (cd_eX2 hN hj) 5 (by decide) k_1_227 rfl (v := ((xI S n j 2) &&& (1 : Int32))) rfl rfl (fun _ _ => rfl) (fun _ _ => Nat.le_of_ble_eq_true rfl) dX2_putNextBit_41 h (fun S2 H locs hW hS h => ?_)
  refine lv_aload_n hx hb dX2_putNextBit_44 rfl (lv_at hl 0 rfl) ?_
  refine lv_dup hx hb dX2_putNextBit_45 rfl ?_
  refine x_get F hK hW xc_X2 (cd_dX2 hj) (cd_eX2 hN hj) 2 (by decide) k_1_223 (rfl) dX2_putNextBit_46 ?_
  refine lv_iconst (v := (1 : Int32)) hx hb dX2_putNextBit_49 (by decide) ?_
  refine lv_ishr hx hb dX2_putNextBit_50 ?_
  refine x_put F hK hI hW hS xc_X2 (cd_dX2 hj) (cd_eX2 hN hj) 2 (by decide) k_1_223 rfl (v := ((xI S2 n j 2) >>> ((1 : Int32) &&& 31))) rfl rfl (fun _ _ => rfl) (fun _ _ => Nat.le_of_ble_eq_true rfl) dX2_putNextBit_51 h (fun S3 H locs hW hS h => ?_)
  refine lv_aload_n hx hb dX2_putNextBit_54 rfl (lv_at hl 0 rfl) ?_
  refine x_get F hK hW xc_X2 (cd_dX2 hj) (cd_eX2 hN hj) 3 (by decide) k_1_224 (rfl) dX2_putNextBit_55 ?_
  refine lv_if_ne (tgt := 62) hx hb dX2_putNextBit_58 (by decide) (fun c_4 => ?_) (fun c_4 => ?_)
  · replace h := (if_neg c_4).symm.trans h
    refine lv_aload_n hx hb dX2_putNextBit_62 rfl (lv_at hl 0 rfl) ?_
    refine lv_dup hx hb dX2_putNextBit_63 rfl ?_
    refine x_get F hK hW xc_X2 (cd_dX2 hj) (cd_eX2 hN hj) 4 (by decide) k_1_225 (rfl) dX2_putNextBit_64 ?_
    refine lv_iconst (v := (1 : Int32)) hx hb dX2_putNextBit_67 (by decide) ?_
    refine lv_iadd hx hb dX2_putNextBit_68 ?_
    refine x_put F hK hI hW hS xc_X2 (cd_dX2 hj) (cd_eX2 hN hj) 4 (by decide) k_1_225 rfl (v := ((xI S3 n j 4) + (1 : Int32))) rfl rfl (fun _ _ => rfl) (fun _ _ => Nat.le_of_ble_eq_true rfl) dX2_putNextBit_69 h (fun S5 H locs hW hS h => ?_)
    refine lv_aload_n hx hb dX2_putNextBit_72 rfl (lv_at hl 0 rfl) ?_
    refine x_get F hK hW xc_X2 (cd_dX2 hj) (cd_eX2 hN hj) 4 (by decide) k_1_225 (rfl) dX2_putNextBit_73 ?_
    refine lv_aload_n hx hb dX2_putNextBit_76 rfl (lv_at hl 0 rfl) ?_
    refine x_get F hK hW xc_X2 (cd_dX2 hj) (cd_eX2 hN hj) 3 (by decide) k_1_224 (rfl) dX2_putNextBit_77 ?_
    refine lv_icmp_ne (tgt := 93) hx hb dX2_putNextBit_80 (by decide) (fun c_6 => ?_) (fun c_6 => ?_)
    · replace h := (if_neg c_6).symm.trans h
      exact x_vret F hr hlk hW hS dX2_putNextBit_93 h
    replace h := (if_pos c_6).symm.trans h
    refine lv_aload_n hx hb dX2_putNextBit_83 rfl (lv_at hl 0 rfl) ?_
    refine lv_iconst (v := (0 : Int32)) hx hb dX2_putNextBit_84 (by decide) ?_
    refine x_put F hK hI hW hS xc_X2 (cd_dX2 hj) (cd_eX2 hN hj) 4 (by decide) k_1_225 rfl (v := (0 : Int32)) rfl rfl (fun _ _ => rfl) (fun _ _ => Nat.le_of_ble_eq_true rfl) dX2_putNextBit_85 h (fun S7 H locs hW hS h => ?_)
    refine lv_aload_n hx hb dX2_putNextBit_88 rfl (lv_at hl 0 rfl) ?_
    refine lv_iconst (v := (0 : Int32)) hx hb dX2_putNextBit_89 (by decide) ?_
    refine x_put F hK hI hW hS xc_X2 (cd_dX2 hj) (cd_eX2 hN hj) 3 (by decide) k_1_224 rfl (v := (0 : Int32)) rfl rfl (fun _ _ => rfl) (fun _ _ => Nat.le_of_ble_eq_true rfl) dX2_putNextBit_90 h (fun S8 H locs hW hS h => ?_)
    exact x_vret F hr hlk hW hS dX2_putNextBit_93 h
  replace h := (if_pos c_4).symm.trans h
  exact x_vret F hr hlk hW hS dX2_putNextBit_61 h
def c2_putNextBit (n j : Nat) (S : xS)  : Option (xS) := if (xI S n j 3) = 0 then (if (xI S n j 6) ≤ 0 then (c2_putNextBit_b34 n j  S) else (xnm (sI S n j 6 ((xI S n j 6) - (1 : Int32))) (fun S10 => xnm (sI S10 n j 2 (1 : Int32)) (fun S11 => xnm (sI S11 n j 3 (2 : Int32)) (fun S12 => c2_putNextBit_b34 n j  S12))))) else (c2_putNextBit_b34 n j  S)
set_option maxHeartbeats 4000000 in
set_option maxRecDepth 100000 in
theorem m_c2_putNextBit {l : Launch} {D : va_G} {cI cJ cL cN : ClassId} {ad : Nat → Nat → Nat} {N : Nat} (hN : N ≤ 8) (hI : xInj (cDom N) ad) {n j : Nat} (hj : isX2 N n j) {S : xS}  {o : xS} (h : c2_putNextBit n j S  = some o) : Met l yX2_putNextBit (Cond.code yX2_putNextBit cX2_putNextBit 1 none :: xG) { frames := 0, cells := 0, slots := 0, locals := 0 } (xPc D vwCl (cTy cI cJ cL cN) cNf cNm (cDom N) ad (cDe ad N cI cJ cL cN) [.ref (ad n j)] S) (xQ D vwCl (cDom N) ad (cDe ad N cI cJ cL cN) none o) 0 0 (xA (cDom N) ad) := by
  unfold c2_putNextBit at h
  refine x_enter (by decide) (Nat.le_of_ble_eq_true rfl) (fun p e s m below meth c F hr hlk hK hW hS ls hl => ?_)
  have hl : lv_has ls 1 [(0, .ref (ad n j))] := hl
  have hx := F.1
  have hb := F.2.1
  refine lv_aload_n hx hb dX2_putNextBit_0 rfl (lv_at hl 0 rfl) ?_
  refine x_get F hK hW xc_X2 (cd_dX2 hj) (cd_eX2 hN hj) 3 (by decide) k_1_224 (rfl) dX2_putNextBit_1 ?_
  refine lv_if_ne (tgt := 34) hx hb dX2_putNextBit_4 (by decide) (fun c_1 => ?_) (fun c_1 => ?_)
  · replace h := (if_neg c_1).symm.trans h
    exact m_c2_putNextBit_b34 hN hI hj F hr hlk hK  _ h hW hS (lv_sub hl [0] rfl)
  replace h := (if_pos c_1).symm.trans h
  refine lv_aload_n hx hb dX2_putNextBit_7 rfl (lv_at hl 0 rfl) ?_
  refine x_get F hK hW xc_X2 (cd_dX2 hj) (cd_eX2 hN hj) 6 (by decide) k_1_228 (rfl) dX2_putNextBit_8 ?_
  refine lv_if_le (tgt := 34) hx hb dX2_putNextBit_11 (by decide) (fun c_9 => ?_) (fun c_9 => ?_)
  · replace h := (if_pos c_9).symm.trans h
    exact m_c2_putNextBit_b34 hN hI hj F hr hlk hK  _ h hW hS (lv_sub hl [0] rfl)
  replace h := (if_neg c_9).symm.trans h
  refine lv_aload_n hx hb dX2_putNextBit_14 rfl (lv_at hl 0 rfl) ?_
  refine lv_dup hx hb dX2_putNextBit_15 rfl ?_
  refine x_get F hK hW xc_X2 (cd_dX2 hj) (cd_eX2 hN hj) 6 (by decide) k_1_228 (rfl) dX2_putNextBit_16 ?_
  refine lv_iconst (v := (1 : Int32)) hx hb dX2_putNextBit_19 (by decide) ?_
  refine lv_isub hx hb dX2_putNextBit_20 ?_
  refine x_put F hK hI hW hS xc_X2 (cd_dX2 hj) (cd_eX2 hN hj) 6 (by decide) k_1_228 rfl (v := ((xI S n j 6) - (1 : Int32))) rfl rfl (fun _ _ => rfl) (fun _ _ => Nat.le_of_ble_eq_true rfl) dX2_putNextBit_21 h (fun S10 H locs hW hS h => ?_)
  refine lv_aload_n hx hb dX2_putNextBit_24 rfl (lv_at hl 0 rfl) ?_
  refine lv_iconst (v := (1 : Int32)) hx hb dX2_putNextBit_25 (by decide) ?_
  refine x_put F hK hI hW hS xc_X2 (cd_dX2 hj) (cd_eX2 hN hj) 2 (by decide) k_1_223 rfl (v := (1 : Int32)) rfl rfl (fun _ _ => rfl) (fun _ _ => Nat.le_of_ble_eq_true rfl) dX2_putNextBit_26 h (fun S11 H locs hW hS h => ?_)
  refine lv_aload_n hx hb dX2_putNextBit_29 rfl (lv_at hl 0 rfl) ?_
  refine lv_iconst (v := (2 : Int32)) hx hb dX2_putNextBit_30 (by decide) ?_
  refine x_put F hK hI hW hS xc_X2 (cd_dX2 hj) (cd_eX2 hN hj) 3 (by decide) k_1_224 rfl (v := (2 : Int32)) rfl rfl (fun _ _ => rfl) (fun _ _ => Nat.le_of_ble_eq_true rfl) dX2_putNextBit_31 h (fun S12 H locs hW hS h => ?_)
  exact m_c2_putNextBit_b34 hN hI hj F hr hlk hK  _ h hW hS (lv_sub hl [0] rfl)
/-! X2_endOfAcknowledgement -/
def c2_endOfAcknowledgement (n j : Nat) (S : xS)  : Option (Int32 × xS) := xnm (sI S n j 7 (0 : Int32)) (fun S1 => if (xI S n j 7) = 0 then (some ((-1 : Int32), S1)) else (some ((-2 : Int32), S1)))
set_option maxHeartbeats 4000000 in
set_option maxRecDepth 100000 in
theorem m_c2_endOfAcknowledgement {l : Launch} {D : va_G} {cI cJ cL cN : ClassId} {ad : Nat → Nat → Nat} {N : Nat} (hN : N ≤ 8) (hI : xInj (cDom N) ad) {n j : Nat} (hj : isX2 N n j) {S : xS}  {o : Int32 × xS} (h : c2_endOfAcknowledgement n j S  = some o) : Met l yX2_endOfAcknowledgement (Cond.code yX2_endOfAcknowledgement cX2_endOfAcknowledgement 2 (some .int) :: xG) { frames := 0, cells := 0, slots := 0, locals := 0 } (xPc D vwCl (cTy cI cJ cL cN) cNf cNm (cDom N) ad (cDe ad N cI cJ cL cN) [.ref (ad n j)] S) (xQ D vwCl (cDom N) ad (cDe ad N cI cJ cL cN) (some (.int o.1)) o.2) 0 0 (xA (cDom N) ad) := by
  unfold c2_endOfAcknowledgement at h
  refine x_enter (by decide) (Nat.le_of_ble_eq_true rfl) (fun p e s m below meth c F hr hlk hK hW hS ls hl => ?_)
  have hl : lv_has ls 2 [(0, .ref (ad n j))] := hl
  have hx := F.1
  have hb := F.2.1
  refine lv_aload_n hx hb dX2_endOfAcknowledgement_0 rfl (lv_at hl 0 rfl) ?_
  refine x_get F hK hW xc_X2 (cd_dX2 hj) (cd_eX2 hN hj) 7 (by decide) k_1_232 (rfl) dX2_endOfAcknowledgement_1 ?_
  refine lv_istore_n (lv' := [(1, .int (xI S n j 7)), (0, .ref (ad n j))]) hx hb dX2_endOfAcknowledgement_4 rfl hl (by decide) rfl (fun ls hl => ?_)
  refine lv_aload_n hx hb dX2_endOfAcknowledgement_5 rfl (lv_at hl 1 rfl) ?_
  refine lv_iconst (v := (0 : Int32)) hx hb dX2_endOfAcknowledgement_6 (by decide) ?_
  refine x_put F hK hI hW hS xc_X2 (cd_dX2 hj) (cd_eX2 hN hj) 7 (by decide) k_1_232 rfl (v := (0 : Int32)) rfl rfl (fun _ _ => rfl) (fun _ _ => Nat.le_of_ble_eq_true rfl) dX2_endOfAcknowledgement_7 h (fun S1 H locs hW hS h => ?_)
  refine lv_iload_n hx hb dX2_endOfAcknowledgement_10 rfl (lv_at hl 0 rfl) ?_
  refine lv_if_eq (tgt := 19) hx hb dX2_endOfAcknowledgement_11 (by decide) (fun c_2 => ?_) (fun c_2 => ?_)
  · replace h := (if_pos c_2).symm.trans h
    refine lv_iconst (v := (-1 : Int32)) hx hb dX2_endOfAcknowledgement_19 (by decide) ?_
    exact x_iret F hr hlk hW hS dX2_endOfAcknowledgement_20 h
  replace h := (if_neg c_2).symm.trans h
  refine lv_bipush (v := (-2 : Int32)) hx hb dX2_endOfAcknowledgement_14 (by decide) ?_
  refine lv_goto (tgt := 20) hx hb dX2_endOfAcknowledgement_16 (by decide) ?_
  exact x_iret F hr hlk hW hS dX2_endOfAcknowledgement_20 h
/-! X2_readNextBit -/
def c2_readNextBit_b94 (N : Nat) (n j : Nat)  (S : xS) : Option (Int32 × xS) := xnm (sI S n j 8 ((xI S n j 8) + (1 : Int32))) (fun S5 => if (11 : Int32) ≤ (xI S5 n j 8) then (xnm (sI S5 n j 8 (0 : Int32)) (fun S7 => some ((xI S7 n j 9), S7))) else (some ((-1 : Int32), S5)))
set_option maxHeartbeats 4000000 in
set_option maxRecDepth 100000 in
theorem m_c2_readNextBit_b94 {l : Launch} {D : va_G} {cI cJ cL cN : ClassId} {ad : Nat → Nat → Nat} {N : Nat} (hN : N ≤ 8) (hI : xInj (cDom N) ad) {n j : Nat} (hj : isX2 N n j) {p : Program} {e : Env} {s : State} {m : MethodId} {args : Array Value} {below : List Frame} {meth : Method} {c : Code} (F : CallFix p m c cX2_readNextBit 2 s args (Cond.code yX2_readNextBit cX2_readNextBit 2 (some .int) :: xG) (yX2_readNextBit).cls) (hr : meth.sig.returnType = (some .int)) (hlk : meth.locks = false) (hK : xK D vwCl (cTy cI cJ cL cN) cNf cNm s) {o : Int32 × xS}  (S : xS) {H : Heap} {locs : List Loc} {ls : Array Slot} (h : c2_readNextBit_b94 N n j  S = some o) (hW : xW D vwCl (cDom N) ad (cDe ad N cI cJ cL cN) S H) (hS : va_S (xA (cDom N) ad) s.heap H locs) (hl : lv_has ls 2 [(0, .ref (ad n j))]) : W p l e { frames := 1, cells := 0, slots := 0, locals := 21 } s m args below meth c H locs 0 0 (MQ below (xQ D vwCl (cDom N) ad (cDe ad N cI cJ cL cN) (some (.int o.1)) o.2) args s 0 0 (xA (cDom N) ad)) (F0 m 94 ls []) := by
  have hx := F.1
  have hb := F.2.1
  unfold c2_readNextBit_b94 at h
  refine lv_aload_n hx hb dX2_readNextBit_94 rfl (lv_at hl 0 rfl) ?_
  refine lv_dup hx hb dX2_readNextBit_95 rfl ?_
  refine x_get F hK hW xc_X2 (cd_dX2 hj) (cd_eX2 hN hj) 8 (by decide) k_1_234 (rfl) dX2_readNextBit_96 ?_
  refine lv_iconst (v := (1 : Int32)) hx hb dX2_readNextBit_99 (by decide) ?_
  refine lv_iadd hx hb dX2_readNextBit_100 ?_
  refine x_put F hK hI hW hS xc_X2 (cd_dX2 hj) (cd_eX2 hN hj) 8 (by decide) k_1_234 rfl (v := ((xI S n j 8) + (1 : Int32))) rfl rfl (fun _ _ => rfl) (fun _ _ => Nat.le_of_ble_eq_true rfl) dX2_readNextBit_101 h (fun S5 H locs hW hS h => ?_)
  refine lv_aload_n hx hb dX2_readNextBit_104 rfl (lv_at hl 0 rfl) ?_
  refine x_get F hK hW xc_X2 (cd_dX2 hj) (cd_eX2 hN hj) 8 (by decide) k_1_234 (rfl) dX2_readNextBit_105 ?_
  refine lv_bipush (v := (11 : Int32)) hx hb dX2_readNextBit_108 (by decide) ?_
  refine lv_icmp_ge (tgt := 115) hx hb dX2_readNextBit_110 (by decide) (fun c_6 => ?_) (fun c_6 => ?_)
  · replace h := (if_pos c_6).symm.trans h
    refine lv_aload_n hx hb dX2_readNextBit_115 rfl (lv_at hl 0 rfl) ?_
    refine lv_iconst (v := (0 : Int32)) hx hb dX2_readNextBit_116 (by decide) ?_
    refine x_put F hK hI hW hS xc_X2 (cd_dX2 hj) (cd_eX2 hN hj) 8 (by decide) k_1_234 rfl (v := (0 : Int32)) rfl rfl (fun _ _ => rfl) (fun _ _ => Nat.le_of_ble_eq_true rfl) dX2_readNextBit_117 h (fun S7 H locs hW hS h => ?_)
    refine lv_aload_n hx hb dX2_readNextBit_120 rfl (lv_at hl 0 rfl) ?_
    refine x_get F hK hW xc_X2 (cd_dX2 hj) (cd_eX2 hN hj) 9 (by decide) k_1_236 (rfl) dX2_readNextBit_121 ?_
    exact x_iret F hr hlk hW hS dX2_readNextBit_124 h
  replace h := (if_neg c_6).symm.trans h
  refine lv_iconst (v := (-1 : Int32)) hx hb dX2_readNextBit_113 (by decide) ?_
  exact x_iret F hr hlk hW hS dX2_readNextBit_114 h
def c2_readNextBit_b60 (N : Nat) (n j : Nat) (v1 : Int32) (S : xS) : Option (Int32 × xS) := if (xI S n j 8) < (2 : Int32) then (c2_readNextBit_b94 N n j  S) else (if (10 : Int32) ≤ (xI S n j 8) then (c2_readNextBit_b94 N n j  S) else (xnm (sI S n j 9 ((xI S n j 9) ||| (v1 <<< (((xI S n j 8) - (2 : Int32)) &&& 31)))) (fun S9 => c2_readNextBit_b94 N n j  S9)))
set_option maxHeartbeats 4000000 in
set_option maxRecDepth 100000 in
theorem m_c2_readNextBit_b60 {l : Launch} {D : va_G} {cI cJ cL cN : ClassId} {ad : Nat → Nat → Nat} {N : Nat} (hN : N ≤ 8) (hI : xInj (cDom N) ad) {n j : Nat} (hj : isX2 N n j) {p : Program} {e : Env} {s : State} {m : MethodId} {args : Array Value} {below : List Frame} {meth : Method} {c : Code} (F : CallFix p m c cX2_readNextBit 2 s args (Cond.code yX2_readNextBit cX2_readNextBit 2 (some .int) :: xG) (yX2_readNextBit).cls) (hr : meth.sig.returnType = (some .int)) (hlk : meth.locks = false) (hK : xK D vwCl (cTy cI cJ cL cN) cNf cNm s) {o : Int32 × xS} (v1 : Int32) (S : xS) {H : Heap} {locs : List Loc} {ls : Array Slot} (h : c2_readNextBit_b60 N n j v1 S = some o) (hW : xW D vwCl (cDom N) ad (cDe ad N cI cJ cL cN) S H) (hS : va_S (xA (cDom N) ad) s.heap H locs) (hl : lv_has ls 2 [(0, .ref (ad n j)), (1, .int v1)]) : W p l e { frames := 1, cells := 0, slots := 0, locals := 21 } s m args below meth c H locs 0 0 (MQ below (xQ D vwCl (cDom N) ad (cDe ad N cI cJ cL cN) (some (.int o.1)) o.2) args s 0 0 (xA (cDom N) ad)) (F0 m 60 ls []) := by
  have hx := F.1
  have hb := F.2.1
  unfold c2_readNextBit_b60 at h
  refine lv_aload_n hx hb dX2_readNextBit_60 rfl (lv_at hl 0 rfl) ?_
  refine x_get F hK hW xc_X2 (cd_dX2 hj) (cd_eX2 hN hj) 8 (by decide) k_1_234 (rfl) dX2_readNextBit_61 ?_
  refine lv_iconst (v := (2 : Int32)) hx hb dX2_readNextBit_64 (by decide) ?_
  refine lv_icmp_lt (tgt := 94) hx hb dX2_readNextBit_65 (by decide) (fun c_4 => ?_) (fun c_4 => ?_)
  · replace h := (if_pos c_4).symm.trans h
    exact m_c2_readNextBit_b94 hN hI hj F hr hlk hK  _ h hW hS (lv_sub hl [0] rfl)
  replace h := (if_neg c_4).symm.trans h
  refine lv_aload_n hx hb dX2_readNextBit_68 rfl (lv_at hl 0 rfl) ?_
  refine x_get F hK hW xc_X2 (cd_dX2 hj) (cd_eX2 hN hj) 8 (by decide) k_1_234 (rfl) dX2_readNextBit_69 ?_
  refine lv_bipush (v := (10 : Int32)) hx hb dX2_readNextBit_72 (by decide) ?_
  refine lv_icmp_ge (tgt := 94) hx hb dX2_readNextBit_74 (by decide) (fun c_8 => ?_) (fun c_8 => ?_)
  · replace h := (if_pos c_8).symm.trans h
    exact m_c2_readNextBit_b94 hN hI hj F hr hlk hK  _ h hW hS (lv_sub hl [0] rfl)
  replace h := (if_neg c_8).symm.trans h
  refine lv_aload_n hx hb dX2_readNextBit_77 rfl (lv_at hl 0 rfl) ?_
  refine lv_dup hx hb dX2_readNextBit_78 rfl ?_
  refine x_get F hK hW xc_X2 (cd_dX2 hj) (cd_eX2 hN hj) 9 (by decide) k_1_236 (rfl) dX2_readNextBit_79 ?_
  refine lv_iload_n hx hb dX2_readNextBit_82 rfl (lv_at hl 1 rfl) ?_
  refine lv_aload_n hx hb dX2_readNextBit_83 rfl (lv_at hl 0 rfl) ?_
  refine x_get F hK hW xc_X2 (cd_dX2 hj) (cd_eX2 hN hj) 8 (by decide) k_1_234 (rfl) dX2_readNextBit_84 ?_
  refine lv_iconst (v := (2 : Int32)) hx hb dX2_readNextBit_87 (by decide) ?_
  refine lv_isub hx hb dX2_readNextBit_88 ?_
  refine lv_ishl hx hb dX2_readNextBit_89 ?_
  refine lv_ior hx hb dX2_readNextBit_90 ?_
  refine x_put F hK hI hW hS xc_X2 (cd_dX2 hj) (cd_eX2 hN hj) 9 (by decide) k_1_236 rfl (v := ((xI S n j 9) ||| (v1 <<< (((xI S n j 8) - (2 : Int32)) &&& 31)))) rfl rfl (fun _ _ => rfl) (fun _ _ => Nat.le_of_ble_eq_true rfl) dX2_readNextBit_91 h (fun S9 H locs hW hS h => ?_)
  exact m_c2_readNextBit_b94 hN hI hj F hr hlk hK  _ h hW hS (lv_sub hl [0] rfl)
def c2_readNextBit_b18 (N : Nat) (n j : Nat) (t0 : Int32) (S : xS) : Option (Int32 × xS) := if (xI S n j 8) = 0 then (xnm (sI S n j 8 t0) (fun S13 => xnm (sI S13 n j 9 (0 : Int32)) (fun S14 => some ((-1 : Int32), S14)))) else (if (xI S n j 8) = (1 : Int32) then (if t0 = 0 then (xnm (sI S n j 8 (0 : Int32)) (fun S11 => (c2_endOfAcknowledgement n j S11 ).bind (fun (r_12, S12) => some (r_12, S12)))) else (c2_readNextBit_b60 N n j t0 S)) else (c2_readNextBit_b60 N n j t0 S))
set_option maxHeartbeats 4000000 in
set_option maxRecDepth 100000 in
theorem m_c2_readNextBit_b18 {l : Launch} {D : va_G} {cI cJ cL cN : ClassId} {ad : Nat → Nat → Nat} {N : Nat} (hN : N ≤ 8) (hI : xInj (cDom N) ad) {n j : Nat} (hj : isX2 N n j) {p : Program} {e : Env} {s : State} {m : MethodId} {args : Array Value} {below : List Frame} {meth : Method} {c : Code} (F : CallFix p m c cX2_readNextBit 2 s args (Cond.code yX2_readNextBit cX2_readNextBit 2 (some .int) :: xG) (yX2_readNextBit).cls) (hr : meth.sig.returnType = (some .int)) (hlk : meth.locks = false) (hK : xK D vwCl (cTy cI cJ cL cN) cNf cNm s) {o : Int32 × xS} (t0 : Int32) (S : xS) {H : Heap} {locs : List Loc} {ls : Array Slot} (h : c2_readNextBit_b18 N n j t0 S = some o) (hW : xW D vwCl (cDom N) ad (cDe ad N cI cJ cL cN) S H) (hS : va_S (xA (cDom N) ad) s.heap H locs) (hl : lv_has ls 2 [(0, .ref (ad n j))]) : W p l e { frames := 1, cells := 0, slots := 0, locals := 21 } s m args below meth c H locs 0 0 (MQ below (xQ D vwCl (cDom N) ad (cDe ad N cI cJ cL cN) (some (.int o.1)) o.2) args s 0 0 (xA (cDom N) ad)) (F0 m 18 ls [.int t0]) := by
  have hx := F.1
  have hb := F.2.1
  unfold c2_readNextBit_b18 at h
  refine lv_istore_n (lv' := [(1, .int t0), (0, .ref (ad n j))]) hx hb dX2_readNextBit_18 rfl hl (by decide) rfl (fun ls hl => ?_)
  refine lv_aload_n hx hb dX2_readNextBit_19 rfl (lv_at hl 1 rfl) ?_
  refine x_get F hK hW xc_X2 (cd_dX2 hj) (cd_eX2 hN hj) 8 (by decide) k_1_234 (rfl) dX2_readNextBit_20 ?_
  refine lv_if_ne (tgt := 38) hx hb dX2_readNextBit_23 (by decide) (fun c_2 => ?_) (fun c_2 => ?_)
  · replace h := (if_neg c_2).symm.trans h
    refine lv_aload_n hx hb dX2_readNextBit_38 rfl (lv_at hl 1 rfl) ?_
    refine x_get F hK hW xc_X2 (cd_dX2 hj) (cd_eX2 hN hj) 8 (by decide) k_1_234 (rfl) dX2_readNextBit_39 ?_
    refine lv_iconst (v := (1 : Int32)) hx hb dX2_readNextBit_42 (by decide) ?_
    refine lv_icmp_ne (tgt := 60) hx hb dX2_readNextBit_43 (by decide) (fun c_3 => ?_) (fun c_3 => ?_)
    · replace h := (if_neg c_3).symm.trans h
      exact m_c2_readNextBit_b60 hN hI hj F hr hlk hK _ _ h hW hS (lv_sub hl [1, 0] rfl)
    replace h := (if_pos c_3).symm.trans h
    refine lv_iload_n hx hb dX2_readNextBit_46 rfl (lv_at hl 0 rfl) ?_
    refine lv_if_ne (tgt := 60) hx hb dX2_readNextBit_47 (by decide) (fun c_10 => ?_) (fun c_10 => ?_)
    · replace h := (if_neg c_10).symm.trans h
      exact m_c2_readNextBit_b60 hN hI hj F hr hlk hK _ _ h hW hS (lv_sub hl [1, 0] rfl)
    replace h := (if_pos c_10).symm.trans h
    refine lv_aload_n hx hb dX2_readNextBit_50 rfl (lv_at hl 1 rfl) ?_
    refine lv_iconst (v := (0 : Int32)) hx hb dX2_readNextBit_51 (by decide) ?_
    refine x_put F hK hI hW hS xc_X2 (cd_dX2 hj) (cd_eX2 hN hj) 8 (by decide) k_1_234 rfl (v := (0 : Int32)) rfl rfl (fun _ _ => rfl) (fun _ _ => Nat.le_of_ble_eq_true rfl) dX2_readNextBit_52 h (fun S11 H locs hW hS h => ?_)
    refine lv_aload_n hx hb dX2_readNextBit_55 rfl (lv_at hl 1 rfl) ?_
    refine x_cVi (As := []) F xG_ok hK hW hS um_X2_endOfAcknowledgement k_3_60 (fun _ h1 => m_c2_endOfAcknowledgement hN hI hj  h1) rfl (cd_dX2 hj) (cd_eX2 hN hj) rfl rfl hl.1 rfl rfl ⟨Nat.le_of_ble_eq_true rfl, Nat.le_of_ble_eq_true rfl⟩ ⟨Nat.zero_le _, Nat.zero_le _⟩ (Nat.le_of_ble_eq_true rfl) dX2_readNextBit_56 h (fun r_12 S12 H locs hW hS h => ?_)
    exact x_iret F hr hlk hW hS dX2_readNextBit_59 h
  replace h := (if_pos c_2).symm.trans h
  refine lv_aload_n hx hb dX2_readNextBit_26 rfl (lv_at hl 1 rfl) ?_
  refine lv_iload_n hx hb dX2_readNextBit_27 rfl (lv_at hl 0 rfl) ?_
  refine x_put F hK hI hW hS xc_X2 (cd_dX2 hj) (cd_eX2 hN hj) 8 (by decide) k_1_234 rfl (v := t0) rfl rfl (fun _ _ => rfl) (fun _ _ => Nat.le_of_ble_eq_true rfl) dX2_readNextBit_28 h (fun S13 H locs hW hS h => ?_)
  refine lv_aload_n hx hb dX2_readNextBit_31 rfl (lv_at hl 1 rfl) ?_
  refine lv_iconst (v := (0 : Int32)) hx hb dX2_readNextBit_32 (by decide) ?_
  refine x_put F hK hI hW hS xc_X2 (cd_dX2 hj) (cd_eX2 hN hj) 9 (by decide) k_1_236 rfl (v := (0 : Int32)) rfl rfl (fun _ _ => rfl) (fun _ _ => Nat.le_of_ble_eq_true rfl) dX2_readNextBit_33 h (fun S14 H locs hW hS h => ?_)
  refine lv_iconst (v := (-1 : Int32)) hx hb dX2_readNextBit_36 (by decide) ?_
  exact x_iret F hr hlk hW hS dX2_readNextBit_37 h
def c2_readNextBit (N : Nat) (n j : Nat) (S : xS)  : Option (Int32 × xS) := xcs (xE S n j) (c2_readNextBit_b18 N n j (0 : Int32) S) (fun n_1 j_1 => gq ((n_1 < N ∧ 16 ≤ j_1 ∧ j_1 < 20) ∨ (n_1 = 8 ∧ j_1 = 16)) (c2_readNextBit_b18 N n j (xI S n_1 j_1 5) S))
set_option maxHeartbeats 4000000 in
set_option maxRecDepth 100000 in
theorem m_c2_readNextBit {l : Launch} {D : va_G} {cI cJ cL cN : ClassId} {ad : Nat → Nat → Nat} {N : Nat} (hN : N ≤ 8) (hI : xInj (cDom N) ad) {n j : Nat} (hj : isX2 N n j) {S : xS}  {o : Int32 × xS} (h : c2_readNextBit N n j S  = some o) : Met l yX2_readNextBit (Cond.code yX2_readNextBit cX2_readNextBit 2 (some .int) :: xG) { frames := 1, cells := 0, slots := 0, locals := 21 } (xPc D vwCl (cTy cI cJ cL cN) cNf cNm (cDom N) ad (cDe ad N cI cJ cL cN) [.ref (ad n j)] S) (xQ D vwCl (cDom N) ad (cDe ad N cI cJ cL cN) (some (.int o.1)) o.2) 0 0 (xA (cDom N) ad) := by
  unfold c2_readNextBit at h
  refine x_enter (by decide) (Nat.le_of_ble_eq_true rfl) (fun p e s m below meth c F hr hlk hK hW hS ls hl => ?_)
  have hl : lv_has ls 2 [(0, .ref (ad n j))] := hl
  have hx := F.1
  have hb := F.2.1
  refine lv_aload_n hx hb dX2_readNextBit_0 rfl (lv_at hl 0 rfl) ?_
  refine x_get F hK hW xc_X2 (cd_dX2 hj) (cd_eX2 hN hj) 0 (by decide) k_1_220 (rfl) dX2_readNextBit_1 ?_
  revert h
  rcases hE_1 : xE S n j with _ | ⟨n_1, j_1⟩
  · intro h
    replace h := xcs_n h
    have hl : lv_has ls 2 [(0, .ref (ad n j))] := hl
    refine lv_ifnonnullN hx hb dX2_readNextBit_4 ?_
    refine lv_iconst (v := (0 : Int32)) hx hb dX2_readNextBit_7 (by decide) ?_
    refine lv_goto (tgt := 18) hx hb dX2_readNextBit_8 (by decide) ?_
    exact m_c2_readNextBit_b18 hN hI hj F hr hlk hK _ _ h hW hS (lv_sub hl [0] rfl)
  intro h
  replace h := xcs_s h
  have hg_1 := (gq_use h).1
  replace h := (gq_use h).2
  have hl : lv_has ls 2 [(0, .ref (ad n j))] := hl
  refine lv_ifnonnull (tgt := 11) hx hb dX2_readNextBit_4 (by decide) ?_
  refine lv_aload_n hx hb dX2_readNextBit_11 rfl (lv_at hl 0 rfl) ?_
  refine x_get F hK hW xc_X2 (cd_dX2 hj) (cd_eX2 hN hj) 0 (by decide) k_1_220 (v := .ref (ad n_1 j_1)) (by rw [hE_1]; rfl) dX2_readNextBit_12 ?_
  refine x_get F hK hW xc_X2 (cd_dX2 hg_1) (cd_eX2 hN hg_1) 5 (by decide) k_1_227 (rfl) dX2_readNextBit_15 ?_
  exact m_c2_readNextBit_b18 hN hI hj F hr hlk hK _ _ h hW hS (lv_sub hl [0] rfl)
/-! X3_hasRoomFor -/
def c3_hasRoomFor  (S : xS) (a1 : Int32) : Option (Int32 × xS) := if (4096 : Int32) < ((xI S 8 0 3) + a1) then (some ((0 : Int32), S)) else (some ((1 : Int32), S))
set_option maxHeartbeats 4000000 in
set_option maxRecDepth 100000 in
theorem m_c3_hasRoomFor {l : Launch} {D : va_G} {cI cJ cL cN : ClassId} {ad : Nat → Nat → Nat} {N : Nat} (hN : N ≤ 8) (hI : xInj (cDom N) ad)  {S : xS} (a1 : Int32) {o : Int32 × xS} (h : c3_hasRoomFor  S a1 = some o) : Met l yX3_hasRoomFor (Cond.code yX3_hasRoomFor cX3_hasRoomFor 2 (some .boolean) :: xG) { frames := 0, cells := 0, slots := 0, locals := 0 } (xPc D vwCl (cTy cI cJ cL cN) cNf cNm (cDom N) ad (cDe ad N cI cJ cL cN) [.ref (ad 8 0), .int a1] S) (xQ D vwCl (cDom N) ad (cDe ad N cI cJ cL cN) (some (.int o.1)) o.2) 0 0 (xA (cDom N) ad) := by
  unfold c3_hasRoomFor at h
  refine x_enter (by decide) (Nat.le_of_ble_eq_true rfl) (fun p e s m below meth c F hr hlk hK hW hS ls hl => ?_)
  have hl : lv_has ls 2 [(0, .ref (ad 8 0)), (1, .int a1)] := hl
  have hx := F.1
  have hb := F.2.1
  refine lv_aload_n hx hb dX3_hasRoomFor_0 rfl (lv_at hl 0 rfl) ?_
  refine x_get F hK hW xc_X3 cd_dX3 cd_eX3 3 (by decide) k_2_152 (rfl) dX3_hasRoomFor_1 ?_
  refine lv_iload_n hx hb dX3_hasRoomFor_4 rfl (lv_at hl 1 rfl) ?_
  refine lv_iadd hx hb dX3_hasRoomFor_5 ?_
  refine lv_sipush (v := (4096 : Int32)) hx hb dX3_hasRoomFor_6 (by decide) ?_
  refine lv_icmp_gt (tgt := 16) hx hb dX3_hasRoomFor_9 (by decide) (fun c_1 => ?_) (fun c_1 => ?_)
  · replace h := (if_pos c_1).symm.trans h
    refine lv_iconst (v := (0 : Int32)) hx hb dX3_hasRoomFor_16 (by decide) ?_
    exact x_zret F hr hlk hW hS rfl dX3_hasRoomFor_17 h
  replace h := (if_neg c_1).symm.trans h
  refine lv_iconst (v := (1 : Int32)) hx hb dX3_hasRoomFor_12 (by decide) ?_
  refine lv_goto (tgt := 17) hx hb dX3_hasRoomFor_13 (by decide) ?_
  exact x_zret F hr hlk hW hS rfl dX3_hasRoomFor_17 h
/-! X3_append -/
def c3_append  (S : xS) (a1 : Int32) : Option (xS) := (c5_setByte 8 2 S ((32768 : Int32) + (jrem ((xI S 8 0 2) + (xI S 8 0 3)) (4096 : Int32))) a1).bind (fun S1 => xnm (sI S1 8 0 3 ((xI S1 8 0 3) + (1 : Int32))) (fun S2 => some S2))
set_option maxHeartbeats 4000000 in
set_option maxRecDepth 100000 in
theorem m_c3_append {l : Launch} {D : va_G} {cI cJ cL cN : ClassId} {ad : Nat → Nat → Nat} {N : Nat} (hN : N ≤ 8) (hI : xInj (cDom N) ad)  {S : xS} (a1 : Int32) {o : xS} (h : c3_append  S a1 = some o) : Met l yX3_append (Cond.code yX3_append cX3_append 2 none :: xG) { frames := 1, cells := 0, slots := 0, locals := 26 } (xPc D vwCl (cTy cI cJ cL cN) cNf cNm (cDom N) ad (cDe ad N cI cJ cL cN) [.ref (ad 8 0), .int a1] S) (xQ D vwCl (cDom N) ad (cDe ad N cI cJ cL cN) none o) 0 0 (xA (cDom N) ad) := by
  unfold c3_append at h
  refine x_enter (by decide) (Nat.le_of_ble_eq_true rfl) (fun p e s m below meth c F hr hlk hK hW hS ls hl => ?_)
  have hl : lv_has ls 2 [(0, .ref (ad 8 0)), (1, .int a1)] := hl
  have hx := F.1
  have hb := F.2.1
  refine lv_aload_n hx hb dX3_append_0 rfl (lv_at hl 0 rfl) ?_
  refine x_get F hK hW xc_X3 cd_dX3 cd_eX3 1 (by decide) k_2_150 (rfl) dX3_append_1 ?_
  refine lv_ldc (v := (32768 : Int32)) hx hb F.2.2.2.1 (x_hts F _ k_2_214) dX3_append_4 ?_
  refine lv_aload_n hx hb dX3_append_6 rfl (lv_at hl 0 rfl) ?_
  refine x_get F hK hW xc_X3 cd_dX3 cd_eX3 2 (by decide) k_2_151 (rfl) dX3_append_7 ?_
  refine lv_aload_n hx hb dX3_append_10 rfl (lv_at hl 0 rfl) ?_
  refine x_get F hK hW xc_X3 cd_dX3 cd_eX3 3 (by decide) k_2_152 (rfl) dX3_append_11 ?_
  refine lv_iadd hx hb dX3_append_14 ?_
  refine lv_sipush (v := (4096 : Int32)) hx hb dX3_append_15 (by decide) ?_
  refine x_irem hx hb dX3_append_18 (by decide) ?_
  refine lv_iadd hx hb dX3_append_19 ?_
  refine lv_iload_n hx hb dX3_append_20 rfl (lv_at hl 1 rfl) ?_
  refine x_cVv (As := [.int ((32768 : Int32) + (jrem ((xI S 8 0 2) + (xI S 8 0 3)) (4096 : Int32))), .int a1]) F xG_ok hK hW hS um_X5_setByte k_2_215 (fun _ h1 => m_c5_setByte hN hI (Or.inr ⟨rfl, Or.inl rfl⟩) _ _ h1) rfl (cd_dX5 (Or.inr ⟨rfl, Or.inl rfl⟩)) (cd_eX5 hN (Or.inr ⟨rfl, Or.inl rfl⟩)) rfl rfl hl.1 rfl rfl ⟨Nat.le_of_ble_eq_true rfl, Nat.le_of_ble_eq_true rfl⟩ ⟨Nat.zero_le _, Nat.zero_le _⟩ (Nat.le_of_ble_eq_true rfl) dX3_append_21 h (fun S1 H locs hW hS h => ?_)
  refine lv_aload_n hx hb dX3_append_24 rfl (lv_at hl 0 rfl) ?_
  refine lv_dup hx hb dX3_append_25 rfl ?_
  refine x_get F hK hW xc_X3 cd_dX3 cd_eX3 3 (by decide) k_2_152 (rfl) dX3_append_26 ?_
  refine lv_iconst (v := (1 : Int32)) hx hb dX3_append_29 (by decide) ?_
  refine lv_iadd hx hb dX3_append_30 ?_
  refine x_put F hK hI hW hS xc_X3 cd_dX3 cd_eX3 3 (by decide) k_2_152 rfl (v := ((xI S1 8 0 3) + (1 : Int32))) rfl rfl (fun _ _ => rfl) (fun _ _ => Nat.le_of_ble_eq_true rfl) dX3_append_31 h (fun S2 H locs hW hS h => ?_)
  exact x_vret F hr hlk hW hS dX3_append_34 h
/-! X3_keptAt -/
def c3_keptAt  (S : xS) (a1 : Int32) : Option (Int32 × xS) := if a1 < 0 then (some ((-1 : Int32), S)) else (if a1 < (xI S 8 0 5) then ((c5_byteAt 8 4 S ((32768 : Int32) + a1)).bind (fun (r_3, S3) => some (r_3, S3))) else (some ((-1 : Int32), S)))
set_option maxHeartbeats 4000000 in
set_option maxRecDepth 100000 in
theorem m_c3_keptAt {l : Launch} {D : va_G} {cI cJ cL cN : ClassId} {ad : Nat → Nat → Nat} {N : Nat} (hN : N ≤ 8) (hI : xInj (cDom N) ad)  {S : xS} (a1 : Int32) {o : Int32 × xS} (h : c3_keptAt  S a1 = some o) : Met l yX3_keptAt (Cond.code yX3_keptAt cX3_keptAt 2 (some .int) :: xG) { frames := 1, cells := 0, slots := 0, locals := 22 } (xPc D vwCl (cTy cI cJ cL cN) cNf cNm (cDom N) ad (cDe ad N cI cJ cL cN) [.ref (ad 8 0), .int a1] S) (xQ D vwCl (cDom N) ad (cDe ad N cI cJ cL cN) (some (.int o.1)) o.2) 0 0 (xA (cDom N) ad) := by
  unfold c3_keptAt at h
  refine x_enter (by decide) (Nat.le_of_ble_eq_true rfl) (fun p e s m below meth c F hr hlk hK hW hS ls hl => ?_)
  have hl : lv_has ls 2 [(0, .ref (ad 8 0)), (1, .int a1)] := hl
  have hx := F.1
  have hb := F.2.1
  refine lv_iload_n hx hb dX3_keptAt_0 rfl (lv_at hl 1 rfl) ?_
  refine lv_if_lt (tgt := 12) hx hb dX3_keptAt_1 (by decide) (fun c_1 => ?_) (fun c_1 => ?_)
  · replace h := (if_pos c_1).symm.trans h
    refine lv_iconst (v := (-1 : Int32)) hx hb dX3_keptAt_12 (by decide) ?_
    exact x_iret F hr hlk hW hS dX3_keptAt_13 h
  replace h := (if_neg c_1).symm.trans h
  refine lv_iload_n hx hb dX3_keptAt_4 rfl (lv_at hl 1 rfl) ?_
  refine lv_aload_n hx hb dX3_keptAt_5 rfl (lv_at hl 0 rfl) ?_
  refine x_get F hK hW xc_X3 cd_dX3 cd_eX3 5 (by decide) k_2_154 (rfl) dX3_keptAt_6 ?_
  refine lv_icmp_lt (tgt := 14) hx hb dX3_keptAt_9 (by decide) (fun c_2 => ?_) (fun c_2 => ?_)
  · replace h := (if_pos c_2).symm.trans h
    refine lv_aload_n hx hb dX3_keptAt_14 rfl (lv_at hl 0 rfl) ?_
    refine x_get F hK hW xc_X3 cd_dX3 cd_eX3 4 (by decide) k_2_153 (rfl) dX3_keptAt_15 ?_
    refine lv_ldc (v := (32768 : Int32)) hx hb F.2.2.2.1 (x_hts F _ k_2_214) dX3_keptAt_18 ?_
    refine lv_iload_n hx hb dX3_keptAt_20 rfl (lv_at hl 1 rfl) ?_
    refine lv_iadd hx hb dX3_keptAt_21 ?_
    refine x_cVi (As := [.int ((32768 : Int32) + a1)]) F xG_ok hK hW hS um_X5_byteAt k_3_49 (fun _ h1 => m_c5_byteAt hN hI (Or.inr ⟨rfl, Or.inr rfl⟩) _ h1) rfl (cd_dX5 (Or.inr ⟨rfl, Or.inr rfl⟩)) (cd_eX5 hN (Or.inr ⟨rfl, Or.inr rfl⟩)) rfl rfl hl.1 rfl rfl ⟨Nat.le_of_ble_eq_true rfl, Nat.le_of_ble_eq_true rfl⟩ ⟨Nat.zero_le _, Nat.zero_le _⟩ (Nat.le_of_ble_eq_true rfl) dX3_keptAt_22 h (fun r_3 S3 H locs hW hS h => ?_)
    exact x_iret F hr hlk hW hS dX3_keptAt_25 h
  replace h := (if_neg c_2).symm.trans h
  refine lv_iconst (v := (-1 : Int32)) hx hb dX3_keptAt_12 (by decide) ?_
  exact x_iret F hr hlk hW hS dX3_keptAt_13 h
/-! X3_putBit -/
def c3_putBit  (S : xS)  : Option (xS) := if (xI S 8 0 3) ≤ 0 then ((c2_putNextBit 8 16 S ).bind (fun S2 => some S2)) else ((c2_mayBeginData 8 16 S ).bind (fun (r_3, S3) => if r_3 = 0 then ((c2_putNextBit 8 16 S3 ).bind (fun S5 => some S5)) else ((c5_byteAt 8 2 S3 ((32768 : Int32) + (xI S3 8 0 2))).bind (fun (r_6, S6) => (c2_beginData 8 16 S6 r_6).bind (fun S7 => (c2_putNextBit 8 16 S7 ).bind (fun S8 => some S8))))))
set_option maxHeartbeats 4000000 in
set_option maxRecDepth 100000 in
theorem m_c3_putBit {l : Launch} {D : va_G} {cI cJ cL cN : ClassId} {ad : Nat → Nat → Nat} {N : Nat} (hN : N ≤ 8) (hI : xInj (cDom N) ad)  {S : xS}  {o : xS} (h : c3_putBit  S  = some o) : Met l yX3_putBit (Cond.code yX3_putBit cX3_putBit 1 none :: xG) { frames := 1, cells := 0, slots := 0, locals := 22 } (xPc D vwCl (cTy cI cJ cL cN) cNf cNm (cDom N) ad (cDe ad N cI cJ cL cN) [.ref (ad 8 0)] S) (xQ D vwCl (cDom N) ad (cDe ad N cI cJ cL cN) none o) 0 0 (xA (cDom N) ad) := by
  unfold c3_putBit at h
  refine x_enter (by decide) (Nat.le_of_ble_eq_true rfl) (fun p e s m below meth c F hr hlk hK hW hS ls hl => ?_)
  have hl : lv_has ls 1 [(0, .ref (ad 8 0))] := hl
  have hx := F.1
  have hb := F.2.1
  refine lv_aload_n hx hb dX3_putBit_0 rfl (lv_at hl 0 rfl) ?_
  refine x_get F hK hW xc_X3 cd_dX3 cd_eX3 3 (by decide) k_2_152 (rfl) dX3_putBit_1 ?_
  refine lv_if_le (tgt := 38) hx hb dX3_putBit_4 (by decide) (fun c_1 => ?_) (fun c_1 => ?_)
  · replace h := (if_pos c_1).symm.trans h
    refine lv_aload_n hx hb dX3_putBit_38 rfl (lv_at hl 0 rfl) ?_
    refine x_get F hK hW xc_X3 cd_dX3 cd_eX3 0 (by decide) k_2_148 (rfl) dX3_putBit_39 ?_
    refine x_cVv (As := []) F xG_ok hK hW hS um_X2_putNextBit k_3_51 (fun _ h1 => m_c2_putNextBit hN hI (Or.inr ⟨rfl, rfl⟩)  h1) rfl (cd_dX2 (Or.inr ⟨rfl, rfl⟩)) (cd_eX2 hN (Or.inr ⟨rfl, rfl⟩)) rfl rfl hl.1 rfl rfl ⟨Nat.le_of_ble_eq_true rfl, Nat.le_of_ble_eq_true rfl⟩ ⟨Nat.zero_le _, Nat.zero_le _⟩ (Nat.le_of_ble_eq_true rfl) dX3_putBit_42 h (fun S2 H locs hW hS h => ?_)
    exact x_vret F hr hlk hW hS dX3_putBit_45 h
  replace h := (if_neg c_1).symm.trans h
  refine lv_aload_n hx hb dX3_putBit_7 rfl (lv_at hl 0 rfl) ?_
  refine x_get F hK hW xc_X3 cd_dX3 cd_eX3 0 (by decide) k_2_148 (rfl) dX3_putBit_8 ?_
  refine x_cVi (As := []) F xG_ok hK hW hS um_X2_mayBeginData k_3_48 (fun _ h1 => m_c2_mayBeginData hN hI (Or.inr ⟨rfl, rfl⟩)  h1) rfl (cd_dX2 (Or.inr ⟨rfl, rfl⟩)) (cd_eX2 hN (Or.inr ⟨rfl, rfl⟩)) rfl rfl hl.1 rfl rfl ⟨Nat.le_of_ble_eq_true rfl, Nat.le_of_ble_eq_true rfl⟩ ⟨Nat.zero_le _, Nat.zero_le _⟩ (Nat.le_of_ble_eq_true rfl) dX3_putBit_11 h (fun r_3 S3 H locs hW hS h => ?_)
  refine lv_if_eq (tgt := 38) hx hb dX3_putBit_14 (by decide) (fun c_4 => ?_) (fun c_4 => ?_)
  · replace h := (if_pos c_4).symm.trans h
    refine lv_aload_n hx hb dX3_putBit_38 rfl (lv_at hl 0 rfl) ?_
    refine x_get F hK hW xc_X3 cd_dX3 cd_eX3 0 (by decide) k_2_148 (rfl) dX3_putBit_39 ?_
    refine x_cVv (As := []) F xG_ok hK hW hS um_X2_putNextBit k_3_51 (fun _ h1 => m_c2_putNextBit hN hI (Or.inr ⟨rfl, rfl⟩)  h1) rfl (cd_dX2 (Or.inr ⟨rfl, rfl⟩)) (cd_eX2 hN (Or.inr ⟨rfl, rfl⟩)) rfl rfl hl.1 rfl rfl ⟨Nat.le_of_ble_eq_true rfl, Nat.le_of_ble_eq_true rfl⟩ ⟨Nat.zero_le _, Nat.zero_le _⟩ (Nat.le_of_ble_eq_true rfl) dX3_putBit_42 h (fun S5 H locs hW hS h => ?_)
    exact x_vret F hr hlk hW hS dX3_putBit_45 h
  replace h := (if_neg c_4).symm.trans h
  refine lv_aload_n hx hb dX3_putBit_17 rfl (lv_at hl 0 rfl) ?_
  refine x_get F hK hW xc_X3 cd_dX3 cd_eX3 0 (by decide) k_2_148 (rfl) dX3_putBit_18 ?_
  refine lv_aload_n hx hb dX3_putBit_21 rfl (lv_at hl 0 rfl) ?_
  refine x_get F hK hW xc_X3 cd_dX3 cd_eX3 1 (by decide) k_2_150 (rfl) dX3_putBit_22 ?_
  refine lv_ldc (v := (32768 : Int32)) hx hb F.2.2.2.1 (x_hts F _ k_2_214) dX3_putBit_25 ?_
  refine lv_aload_n hx hb dX3_putBit_27 rfl (lv_at hl 0 rfl) ?_
  refine x_get F hK hW xc_X3 cd_dX3 cd_eX3 2 (by decide) k_2_151 (rfl) dX3_putBit_28 ?_
  refine lv_iadd hx hb dX3_putBit_31 ?_
  refine x_cVi (As := [.int ((32768 : Int32) + (xI S3 8 0 2))]) F xG_ok hK hW hS um_X5_byteAt k_3_49 (fun _ h1 => m_c5_byteAt hN hI (Or.inr ⟨rfl, Or.inl rfl⟩) _ h1) rfl (cd_dX5 (Or.inr ⟨rfl, Or.inl rfl⟩)) (cd_eX5 hN (Or.inr ⟨rfl, Or.inl rfl⟩)) rfl rfl hl.1 rfl rfl ⟨Nat.le_of_ble_eq_true rfl, Nat.le_of_ble_eq_true rfl⟩ ⟨Nat.zero_le _, Nat.zero_le _⟩ (Nat.le_of_ble_eq_true rfl) dX3_putBit_32 h (fun r_6 S6 H locs hW hS h => ?_)
  refine x_cVv (As := [.int r_6]) F xG_ok hK hW hS um_X2_beginData k_3_50 (fun _ h1 => m_c2_beginData hN hI (Or.inr ⟨rfl, rfl⟩) _ h1) rfl (cd_dX2 (Or.inr ⟨rfl, rfl⟩)) (cd_eX2 hN (Or.inr ⟨rfl, rfl⟩)) rfl rfl hl.1 rfl rfl ⟨Nat.le_of_ble_eq_true rfl, Nat.le_of_ble_eq_true rfl⟩ ⟨Nat.zero_le _, Nat.zero_le _⟩ (Nat.le_of_ble_eq_true rfl) dX3_putBit_35 h (fun S7 H locs hW hS h => ?_)
  refine lv_aload_n hx hb dX3_putBit_38 rfl (lv_at hl 0 rfl) ?_
  refine x_get F hK hW xc_X3 cd_dX3 cd_eX3 0 (by decide) k_2_148 (rfl) dX3_putBit_39 ?_
  refine x_cVv (As := []) F xG_ok hK hW hS um_X2_putNextBit k_3_51 (fun _ h1 => m_c2_putNextBit hN hI (Or.inr ⟨rfl, rfl⟩)  h1) rfl (cd_dX2 (Or.inr ⟨rfl, rfl⟩)) (cd_eX2 hN (Or.inr ⟨rfl, rfl⟩)) rfl rfl hl.1 rfl rfl ⟨Nat.le_of_ble_eq_true rfl, Nat.le_of_ble_eq_true rfl⟩ ⟨Nat.zero_le _, Nat.zero_le _⟩ (Nat.le_of_ble_eq_true rfl) dX3_putBit_42 h (fun S8 H locs hW hS h => ?_)
  exact x_vret F hr hlk hW hS dX3_putBit_45 h
/-! X3_dropFirst -/
def c3_dropFirst  (S : xS)  : Option (xS) := xnm (sI S 8 0 2 (jrem ((xI S 8 0 2) + (1 : Int32)) (4096 : Int32))) (fun S1 => xnm (sI S1 8 0 3 ((xI S1 8 0 3) - (1 : Int32))) (fun S2 => some S2))
set_option maxHeartbeats 4000000 in
set_option maxRecDepth 100000 in
theorem m_c3_dropFirst {l : Launch} {D : va_G} {cI cJ cL cN : ClassId} {ad : Nat → Nat → Nat} {N : Nat} (hN : N ≤ 8) (hI : xInj (cDom N) ad)  {S : xS}  {o : xS} (h : c3_dropFirst  S  = some o) : Met l yX3_dropFirst (Cond.code yX3_dropFirst cX3_dropFirst 1 none :: xG) { frames := 0, cells := 0, slots := 0, locals := 0 } (xPc D vwCl (cTy cI cJ cL cN) cNf cNm (cDom N) ad (cDe ad N cI cJ cL cN) [.ref (ad 8 0)] S) (xQ D vwCl (cDom N) ad (cDe ad N cI cJ cL cN) none o) 0 0 (xA (cDom N) ad) := by
  unfold c3_dropFirst at h
  refine x_enter (by decide) (Nat.le_of_ble_eq_true rfl) (fun p e s m below meth c F hr hlk hK hW hS ls hl => ?_)
  have hl : lv_has ls 1 [(0, .ref (ad 8 0))] := hl
  have hx := F.1
  have hb := F.2.1
  refine lv_aload_n hx hb dX3_dropFirst_0 rfl (lv_at hl 0 rfl) ?_
  refine lv_aload_n hx hb dX3_dropFirst_1 rfl (lv_at hl 0 rfl) ?_
  refine x_get F hK hW xc_X3 cd_dX3 cd_eX3 2 (by decide) k_2_151 (rfl) dX3_dropFirst_2 ?_
  refine lv_iconst (v := (1 : Int32)) hx hb dX3_dropFirst_5 (by decide) ?_
  refine lv_iadd hx hb dX3_dropFirst_6 ?_
  refine lv_sipush (v := (4096 : Int32)) hx hb dX3_dropFirst_7 (by decide) ?_
  refine x_irem hx hb dX3_dropFirst_10 (by decide) ?_
  refine x_put F hK hI hW hS xc_X3 cd_dX3 cd_eX3 2 (by decide) k_2_151 rfl (v := (jrem ((xI S 8 0 2) + (1 : Int32)) (4096 : Int32))) rfl rfl (fun _ _ => rfl) (fun _ _ => Nat.le_of_ble_eq_true rfl) dX3_dropFirst_11 h (fun S1 H locs hW hS h => ?_)
  refine lv_aload_n hx hb dX3_dropFirst_14 rfl (lv_at hl 0 rfl) ?_
  refine lv_dup hx hb dX3_dropFirst_15 rfl ?_
  refine x_get F hK hW xc_X3 cd_dX3 cd_eX3 3 (by decide) k_2_152 (rfl) dX3_dropFirst_16 ?_
  refine lv_iconst (v := (1 : Int32)) hx hb dX3_dropFirst_19 (by decide) ?_
  refine lv_isub hx hb dX3_dropFirst_20 ?_
  refine x_put F hK hI hW hS xc_X3 cd_dX3 cd_eX3 3 (by decide) k_2_152 rfl (v := ((xI S1 8 0 3) - (1 : Int32))) rfl rfl (fun _ _ => rfl) (fun _ _ => Nat.le_of_ble_eq_true rfl) dX3_dropFirst_21 h (fun S2 H locs hW hS h => ?_)
  exact x_vret F hr hlk hW hS dX3_dropFirst_24 h
/-! X3_keep -/
def c3_keep  (S : xS) (a1 : Int32) : Option (xS) := xnm (sI S 8 16 6 ((xI S 8 16 6) + (1 : Int32))) (fun S1 => if (4096 : Int32) ≤ (xI S1 8 0 5) then (some S1) else ((c5_setByte 8 4 S1 ((32768 : Int32) + (xI S1 8 0 5)) a1).bind (fun S3 => xnm (sI S3 8 0 5 ((xI S3 8 0 5) + (1 : Int32))) (fun S4 => some S4))))
set_option maxHeartbeats 4000000 in
set_option maxRecDepth 100000 in
theorem m_c3_keep {l : Launch} {D : va_G} {cI cJ cL cN : ClassId} {ad : Nat → Nat → Nat} {N : Nat} (hN : N ≤ 8) (hI : xInj (cDom N) ad)  {S : xS} (a1 : Int32) {o : xS} (h : c3_keep  S a1 = some o) : Met l yX3_keep (Cond.code yX3_keep cX3_keep 2 none :: xG) { frames := 1, cells := 0, slots := 0, locals := 26 } (xPc D vwCl (cTy cI cJ cL cN) cNf cNm (cDom N) ad (cDe ad N cI cJ cL cN) [.ref (ad 8 0), .int a1] S) (xQ D vwCl (cDom N) ad (cDe ad N cI cJ cL cN) none o) 0 0 (xA (cDom N) ad) := by
  unfold c3_keep at h
  refine x_enter (by decide) (Nat.le_of_ble_eq_true rfl) (fun p e s m below meth c F hr hlk hK hW hS ls hl => ?_)
  have hl : lv_has ls 2 [(0, .ref (ad 8 0)), (1, .int a1)] := hl
  have hx := F.1
  have hb := F.2.1
  refine lv_aload_n hx hb dX3_keep_0 rfl (lv_at hl 0 rfl) ?_
  refine x_get F hK hW xc_X3 cd_dX3 cd_eX3 0 (by decide) k_2_148 (rfl) dX3_keep_1 ?_
  refine lv_dup hx hb dX3_keep_4 rfl ?_
  refine x_getN F hK hW xc_X2 (cd_dX2 (Or.inr ⟨rfl, rfl⟩)) (cd_eX2 hN (Or.inr ⟨rfl, rfl⟩)) 6 (by decide) kn_44 (rfl) dX3_keep_5 ?_
  refine lv_iconst (v := (1 : Int32)) hx hb dX3_keep_8 (by decide) ?_
  refine lv_iadd hx hb dX3_keep_9 ?_
  refine x_putN F hK hI hW hS xc_X2 (cd_dX2 (Or.inr ⟨rfl, rfl⟩)) (cd_eX2 hN (Or.inr ⟨rfl, rfl⟩)) 6 (by decide) kn_44 rfl (v := ((xI S 8 16 6) + (1 : Int32))) rfl rfl (fun _ _ => rfl) (fun _ _ => Nat.le_of_ble_eq_true rfl) dX3_keep_10 h (fun S1 H locs hW hS h => ?_)
  refine lv_aload_n hx hb dX3_keep_13 rfl (lv_at hl 0 rfl) ?_
  refine x_get F hK hW xc_X3 cd_dX3 cd_eX3 5 (by decide) k_2_154 (rfl) dX3_keep_14 ?_
  refine lv_sipush (v := (4096 : Int32)) hx hb dX3_keep_17 (by decide) ?_
  refine lv_icmp_ge (tgt := 48) hx hb dX3_keep_20 (by decide) (fun c_2 => ?_) (fun c_2 => ?_)
  · replace h := (if_pos c_2).symm.trans h
    exact x_vret F hr hlk hW hS dX3_keep_48 h
  replace h := (if_neg c_2).symm.trans h
  refine lv_aload_n hx hb dX3_keep_23 rfl (lv_at hl 0 rfl) ?_
  refine x_get F hK hW xc_X3 cd_dX3 cd_eX3 4 (by decide) k_2_153 (rfl) dX3_keep_24 ?_
  refine lv_ldc (v := (32768 : Int32)) hx hb F.2.2.2.1 (x_hts F _ k_2_214) dX3_keep_27 ?_
  refine lv_aload_n hx hb dX3_keep_29 rfl (lv_at hl 0 rfl) ?_
  refine x_get F hK hW xc_X3 cd_dX3 cd_eX3 5 (by decide) k_2_154 (rfl) dX3_keep_30 ?_
  refine lv_iadd hx hb dX3_keep_33 ?_
  refine lv_iload_n hx hb dX3_keep_34 rfl (lv_at hl 1 rfl) ?_
  refine x_cVv (As := [.int ((32768 : Int32) + (xI S1 8 0 5)), .int a1]) F xG_ok hK hW hS um_X5_setByte k_2_215 (fun _ h1 => m_c5_setByte hN hI (Or.inr ⟨rfl, Or.inr rfl⟩) _ _ h1) rfl (cd_dX5 (Or.inr ⟨rfl, Or.inr rfl⟩)) (cd_eX5 hN (Or.inr ⟨rfl, Or.inr rfl⟩)) rfl rfl hl.1 rfl rfl ⟨Nat.le_of_ble_eq_true rfl, Nat.le_of_ble_eq_true rfl⟩ ⟨Nat.zero_le _, Nat.zero_le _⟩ (Nat.le_of_ble_eq_true rfl) dX3_keep_35 h (fun S3 H locs hW hS h => ?_)
  refine lv_aload_n hx hb dX3_keep_38 rfl (lv_at hl 0 rfl) ?_
  refine lv_dup hx hb dX3_keep_39 rfl ?_
  refine x_get F hK hW xc_X3 cd_dX3 cd_eX3 5 (by decide) k_2_154 (rfl) dX3_keep_40 ?_
  refine lv_iconst (v := (1 : Int32)) hx hb dX3_keep_43 (by decide) ?_
  refine lv_iadd hx hb dX3_keep_44 ?_
  refine x_put F hK hI hW hS xc_X3 cd_dX3 cd_eX3 5 (by decide) k_2_154 rfl (v := ((xI S3 8 0 5) + (1 : Int32))) rfl rfl (fun _ _ => rfl) (fun _ _ => Nat.le_of_ble_eq_true rfl) dX3_keep_45 h (fun S4 H locs hW hS h => ?_)
  exact x_vret F hr hlk hW hS dX3_keep_48 h
/-! X3_takeBit -/
def c3_takeBit (N : Nat) (S : xS)  : Option (xS) := (c2_readNextBit N 8 16 S ).bind (fun (r_1, S1) => if r_1 = (-2 : Int32) then ((c3_dropFirst  S1 ).bind (fun S5 => some S5)) else (if r_1 = (-1 : Int32) then (some S1) else ((c3_keep  S1 r_1).bind (fun S4 => some S4))))
set_option maxHeartbeats 4000000 in
set_option maxRecDepth 100000 in
theorem m_c3_takeBit {l : Launch} {D : va_G} {cI cJ cL cN : ClassId} {ad : Nat → Nat → Nat} {N : Nat} (hN : N ≤ 8) (hI : xInj (cDom N) ad)  {S : xS}  {o : xS} (h : c3_takeBit N S  = some o) : Met l yX3_takeBit (Cond.code yX3_takeBit cX3_takeBit 2 none :: xG) { frames := 2, cells := 0, slots := 0, locals := 47 } (xPc D vwCl (cTy cI cJ cL cN) cNf cNm (cDom N) ad (cDe ad N cI cJ cL cN) [.ref (ad 8 0)] S) (xQ D vwCl (cDom N) ad (cDe ad N cI cJ cL cN) none o) 0 0 (xA (cDom N) ad) := by
  unfold c3_takeBit at h
  refine x_enter (by decide) (Nat.le_of_ble_eq_true rfl) (fun p e s m below meth c F hr hlk hK hW hS ls hl => ?_)
  have hl : lv_has ls 2 [(0, .ref (ad 8 0))] := hl
  have hx := F.1
  have hb := F.2.1
  refine lv_aload_n hx hb dX3_takeBit_0 rfl (lv_at hl 0 rfl) ?_
  refine x_get F hK hW xc_X3 cd_dX3 cd_eX3 0 (by decide) k_2_148 (rfl) dX3_takeBit_1 ?_
  refine x_cVi (As := []) F xG_ok hK hW hS um_X2_readNextBit k_3_119 (fun _ h1 => m_c2_readNextBit hN hI (Or.inr ⟨rfl, rfl⟩)  h1) rfl (cd_dX2 (Or.inr ⟨rfl, rfl⟩)) (cd_eX2 hN (Or.inr ⟨rfl, rfl⟩)) rfl rfl hl.1 rfl rfl ⟨Nat.le_of_ble_eq_true rfl, Nat.le_of_ble_eq_true rfl⟩ ⟨Nat.zero_le _, Nat.zero_le _⟩ (Nat.le_of_ble_eq_true rfl) dX3_takeBit_4 h (fun r_1 S1 H locs hW hS h => ?_)
  refine lv_istore_n (lv' := [(1, .int r_1), (0, .ref (ad 8 0))]) hx hb dX3_takeBit_7 rfl hl (by decide) rfl (fun ls hl => ?_)
  refine lv_iload_n hx hb dX3_takeBit_8 rfl (lv_at hl 0 rfl) ?_
  refine lv_bipush (v := (-2 : Int32)) hx hb dX3_takeBit_9 (by decide) ?_
  refine lv_icmp_ne (tgt := 21) hx hb dX3_takeBit_11 (by decide) (fun c_2 => ?_) (fun c_2 => ?_)
  · replace h := (if_neg c_2).symm.trans h
    refine lv_iload_n hx hb dX3_takeBit_21 rfl (lv_at hl 0 rfl) ?_
    refine lv_iconst (v := (-1 : Int32)) hx hb dX3_takeBit_22 (by decide) ?_
    refine lv_icmp_eq (tgt := 31) hx hb dX3_takeBit_23 (by decide) (fun c_3 => ?_) (fun c_3 => ?_)
    · replace h := (if_pos c_3).symm.trans h
      exact x_vret F hr hlk hW hS dX3_takeBit_31 h
    replace h := (if_neg c_3).symm.trans h
    refine lv_aload_n hx hb dX3_takeBit_26 rfl (lv_at hl 1 rfl) ?_
    refine lv_iload_n hx hb dX3_takeBit_27 rfl (lv_at hl 0 rfl) ?_
    refine x_cVv (As := [.int r_1]) F xG_ok hK hW hS um_X3_keep k_3_124 (fun _ h1 => m_c3_keep hN hI  _ h1) rfl cd_dX3 cd_eX3 rfl rfl hl.1 rfl rfl ⟨Nat.le_of_ble_eq_true rfl, Nat.le_of_ble_eq_true rfl⟩ ⟨Nat.zero_le _, Nat.zero_le _⟩ (Nat.le_of_ble_eq_true rfl) dX3_takeBit_28 h (fun S4 H locs hW hS h => ?_)
    exact x_vret F hr hlk hW hS dX3_takeBit_31 h
  replace h := (if_pos c_2).symm.trans h
  refine lv_aload_n hx hb dX3_takeBit_14 rfl (lv_at hl 1 rfl) ?_
  refine x_cVv (As := []) F xG_ok hK hW hS um_X3_dropFirst k_3_120 (fun _ h1 => m_c3_dropFirst hN hI   h1) rfl cd_dX3 cd_eX3 rfl rfl hl.1 rfl rfl ⟨Nat.le_of_ble_eq_true rfl, Nat.le_of_ble_eq_true rfl⟩ ⟨Nat.zero_le _, Nat.zero_le _⟩ (Nat.le_of_ble_eq_true rfl) dX3_takeBit_15 h (fun S5 H locs hW hS h => ?_)
  refine lv_goto (tgt := 31) hx hb dX3_takeBit_18 (by decide) ?_
  exact x_vret F hr hlk hW hS dX3_takeBit_31 h
/-! X4_putBit -/
def c4_putBit (n j : Nat) (S : xS)  : Option (xS) := if (xI S n j 3) ≤ 0 then ((c2_putNextBit n (j + 4) S ).bind (fun S2 => some S2)) else ((c2_mayBeginData n (j + 4) S ).bind (fun (r_3, S3) => if r_3 = 0 then ((c2_putNextBit n (j + 4) S3 ).bind (fun S5 => some S5)) else (if (xI S3 n j 5) = (-1 : Int32) then ((c5_byteAt n 2 S3 (xI S3 n j 4)).bind (fun (r_9, S9) => (c2_beginData n (j + 4) S9 r_9).bind (fun S10 => (c2_putNextBit n (j + 4) S10 ).bind (fun S11 => some S11)))) else ((c2_beginData n (j + 4) S3 ((xI S3 n j 5) &&& (255 : Int32))).bind (fun S7 => (c2_putNextBit n (j + 4) S7 ).bind (fun S8 => some S8))))))
set_option maxHeartbeats 4000000 in
set_option maxRecDepth 100000 in
theorem m_c4_putBit {l : Launch} {D : va_G} {cI cJ cL cN : ClassId} {ad : Nat → Nat → Nat} {N : Nat} (hN : N ≤ 8) (hI : xInj (cDom N) ad) {n j : Nat} (hj : isX4 N n j) {S : xS}  {o : xS} (h : c4_putBit n j S  = some o) : Met l yX4_putBit (Cond.code yX4_putBit cX4_putBit 1 none :: xG) { frames := 1, cells := 0, slots := 0, locals := 22 } (xPc D vwCl (cTy cI cJ cL cN) cNf cNm (cDom N) ad (cDe ad N cI cJ cL cN) [.ref (ad n j)] S) (xQ D vwCl (cDom N) ad (cDe ad N cI cJ cL cN) none o) 0 0 (xA (cDom N) ad) := by
  unfold c4_putBit at h
  refine x_enter (by decide) (Nat.le_of_ble_eq_true rfl) (fun p e s m below meth c F hr hlk hK hW hS ls hl => ?_)
  have hl : lv_has ls 1 [(0, .ref (ad n j))] := hl
  have hx := F.1
  have hb := F.2.1
  refine lv_aload_n hx hb dX4_putBit_0 rfl (lv_at hl 0 rfl) ?_
  refine x_get F hK hW xc_X4 (cd_dX4 hj) (cd_eX4 hN hj) 3 (by decide) k_2_24 (rfl) dX4_putBit_1 ?_
  refine lv_if_le (tgt := 57) hx hb dX4_putBit_4 (by decide) (fun c_1 => ?_) (fun c_1 => ?_)
  · replace h := (if_pos c_1).symm.trans h
    refine lv_aload_n hx hb dX4_putBit_57 rfl (lv_at hl 0 rfl) ?_
    refine x_get F hK hW xc_X4 (cd_dX4 hj) (cd_eX4 hN hj) 1 (by decide) k_2_19 (rfl) dX4_putBit_58 ?_
    refine x_cVv (As := []) F xG_ok hK hW hS um_X2_putNextBit k_3_40 (fun _ h1 => m_c2_putNextBit hN hI (is2l hj)  h1) rfl (cd_dX2 (is2l hj)) (cd_eX2 hN (is2l hj)) rfl rfl hl.1 rfl rfl ⟨Nat.le_of_ble_eq_true rfl, Nat.le_of_ble_eq_true rfl⟩ ⟨Nat.zero_le _, Nat.zero_le _⟩ (Nat.le_of_ble_eq_true rfl) dX4_putBit_61 h (fun S2 H locs hW hS h => ?_)
    exact x_vret F hr hlk hW hS dX4_putBit_64 h
  replace h := (if_neg c_1).symm.trans h
  refine lv_aload_n hx hb dX4_putBit_7 rfl (lv_at hl 0 rfl) ?_
  refine x_get F hK hW xc_X4 (cd_dX4 hj) (cd_eX4 hN hj) 1 (by decide) k_2_19 (rfl) dX4_putBit_8 ?_
  refine x_cVi (As := []) F xG_ok hK hW hS um_X2_mayBeginData k_3_28 (fun _ h1 => m_c2_mayBeginData hN hI (is2l hj)  h1) rfl (cd_dX2 (is2l hj)) (cd_eX2 hN (is2l hj)) rfl rfl hl.1 rfl rfl ⟨Nat.le_of_ble_eq_true rfl, Nat.le_of_ble_eq_true rfl⟩ ⟨Nat.zero_le _, Nat.zero_le _⟩ (Nat.le_of_ble_eq_true rfl) dX4_putBit_11 h (fun r_3 S3 H locs hW hS h => ?_)
  refine lv_if_eq (tgt := 57) hx hb dX4_putBit_14 (by decide) (fun c_4 => ?_) (fun c_4 => ?_)
  · replace h := (if_pos c_4).symm.trans h
    refine lv_aload_n hx hb dX4_putBit_57 rfl (lv_at hl 0 rfl) ?_
    refine x_get F hK hW xc_X4 (cd_dX4 hj) (cd_eX4 hN hj) 1 (by decide) k_2_19 (rfl) dX4_putBit_58 ?_
    refine x_cVv (As := []) F xG_ok hK hW hS um_X2_putNextBit k_3_40 (fun _ h1 => m_c2_putNextBit hN hI (is2l hj)  h1) rfl (cd_dX2 (is2l hj)) (cd_eX2 hN (is2l hj)) rfl rfl hl.1 rfl rfl ⟨Nat.le_of_ble_eq_true rfl, Nat.le_of_ble_eq_true rfl⟩ ⟨Nat.zero_le _, Nat.zero_le _⟩ (Nat.le_of_ble_eq_true rfl) dX4_putBit_61 h (fun S5 H locs hW hS h => ?_)
    exact x_vret F hr hlk hW hS dX4_putBit_64 h
  replace h := (if_neg c_4).symm.trans h
  refine lv_aload_n hx hb dX4_putBit_17 rfl (lv_at hl 0 rfl) ?_
  refine x_get F hK hW xc_X4 (cd_dX4 hj) (cd_eX4 hN hj) 1 (by decide) k_2_19 (rfl) dX4_putBit_18 ?_
  refine lv_aload_n hx hb dX4_putBit_21 rfl (lv_at hl 0 rfl) ?_
  refine x_get F hK hW xc_X4 (cd_dX4 hj) (cd_eX4 hN hj) 5 (by decide) k_2_27 (rfl) dX4_putBit_22 ?_
  refine lv_iconst (v := (-1 : Int32)) hx hb dX4_putBit_25 (by decide) ?_
  refine lv_icmp_ne (tgt := 46) hx hb dX4_putBit_26 (by decide) (fun c_6 => ?_) (fun c_6 => ?_)
  · replace h := (if_neg c_6).symm.trans h
    refine lv_aload_n hx hb dX4_putBit_46 rfl (lv_at hl 0 rfl) ?_
    refine x_get F hK hW xc_X4 (cd_dX4 hj) (cd_eX4 hN hj) 5 (by decide) k_2_27 (rfl) dX4_putBit_47 ?_
    refine lv_sipush (v := (255 : Int32)) hx hb dX4_putBit_50 (by decide) ?_
    refine lv_iand hx hb dX4_putBit_53 ?_
    refine x_cVv (As := [.int ((xI S3 n j 5) &&& (255 : Int32))]) F xG_ok hK hW hS um_X2_beginData k_3_36 (fun _ h1 => m_c2_beginData hN hI (is2l hj) _ h1) rfl (cd_dX2 (is2l hj)) (cd_eX2 hN (is2l hj)) rfl rfl hl.1 rfl rfl ⟨Nat.le_of_ble_eq_true rfl, Nat.le_of_ble_eq_true rfl⟩ ⟨Nat.zero_le _, Nat.zero_le _⟩ (Nat.le_of_ble_eq_true rfl) dX4_putBit_54 h (fun S7 H locs hW hS h => ?_)
    refine lv_aload_n hx hb dX4_putBit_57 rfl (lv_at hl 0 rfl) ?_
    refine x_get F hK hW xc_X4 (cd_dX4 hj) (cd_eX4 hN hj) 1 (by decide) k_2_19 (rfl) dX4_putBit_58 ?_
    refine x_cVv (As := []) F xG_ok hK hW hS um_X2_putNextBit k_3_40 (fun _ h1 => m_c2_putNextBit hN hI (is2l hj)  h1) rfl (cd_dX2 (is2l hj)) (cd_eX2 hN (is2l hj)) rfl rfl hl.1 rfl rfl ⟨Nat.le_of_ble_eq_true rfl, Nat.le_of_ble_eq_true rfl⟩ ⟨Nat.zero_le _, Nat.zero_le _⟩ (Nat.le_of_ble_eq_true rfl) dX4_putBit_61 h (fun S8 H locs hW hS h => ?_)
    exact x_vret F hr hlk hW hS dX4_putBit_64 h
  replace h := (if_pos c_6).symm.trans h
  refine lv_aload_n hx hb dX4_putBit_29 rfl (lv_at hl 0 rfl) ?_
  refine x_get F hK hW xc_X4 (cd_dX4 hj) (cd_eX4 hN hj) 0 (by decide) k_2_18 (rfl) dX4_putBit_30 ?_
  refine x_getN F hK hW xc_X1 (cd_dX1 (hj).1) (cd_eX1 hN (hj).1) 0 (by decide) kn_27 (rfl) dX4_putBit_33 ?_
  refine lv_aload_n hx hb dX4_putBit_36 rfl (lv_at hl 0 rfl) ?_
  refine x_get F hK hW xc_X4 (cd_dX4 hj) (cd_eX4 hN hj) 4 (by decide) k_2_26 (rfl) dX4_putBit_37 ?_
  refine x_cVi (As := [.int (xI S3 n j 4)]) F xG_ok hK hW hS um_X5_byteAt k_3_32 (fun _ h1 => m_c5_byteAt hN hI (is5n (hj).1) _ h1) rfl (cd_dX5 (is5n (hj).1)) (cd_eX5 hN (is5n (hj).1)) rfl rfl hl.1 rfl rfl ⟨Nat.le_of_ble_eq_true rfl, Nat.le_of_ble_eq_true rfl⟩ ⟨Nat.zero_le _, Nat.zero_le _⟩ (Nat.le_of_ble_eq_true rfl) dX4_putBit_40 h (fun r_9 S9 H locs hW hS h => ?_)
  refine lv_goto (tgt := 54) hx hb dX4_putBit_43 (by decide) ?_
  refine x_cVv (As := [.int r_9]) F xG_ok hK hW hS um_X2_beginData k_3_36 (fun _ h1 => m_c2_beginData hN hI (is2l hj) _ h1) rfl (cd_dX2 (is2l hj)) (cd_eX2 hN (is2l hj)) rfl rfl hl.1 rfl rfl ⟨Nat.le_of_ble_eq_true rfl, Nat.le_of_ble_eq_true rfl⟩ ⟨Nat.zero_le _, Nat.zero_le _⟩ (Nat.le_of_ble_eq_true rfl) dX4_putBit_54 h (fun S10 H locs hW hS h => ?_)
  refine lv_aload_n hx hb dX4_putBit_57 rfl (lv_at hl 0 rfl) ?_
  refine x_get F hK hW xc_X4 (cd_dX4 hj) (cd_eX4 hN hj) 1 (by decide) k_2_19 (rfl) dX4_putBit_58 ?_
  refine x_cVv (As := []) F xG_ok hK hW hS um_X2_putNextBit k_3_40 (fun _ h1 => m_c2_putNextBit hN hI (is2l hj)  h1) rfl (cd_dX2 (is2l hj)) (cd_eX2 hN (is2l hj)) rfl rfl hl.1 rfl rfl ⟨Nat.le_of_ble_eq_true rfl, Nat.le_of_ble_eq_true rfl⟩ ⟨Nat.zero_le _, Nat.zero_le _⟩ (Nat.le_of_ble_eq_true rfl) dX4_putBit_61 h (fun S11 H locs hW hS h => ?_)
  exact x_vret F hr hlk hW hS dX4_putBit_64 h
/-! X4_finishSending -/
def c4_finishSending (n j : Nat) (S : xS)  : Option (xS) := xnm (sI S n j 2 (-1 : Int32)) (fun S1 => xnm (sI S1 n j 5 (-1 : Int32)) (fun S2 => if (xI S n j 2) = (-1 : Int32) then (some S2) else ((c1_makeReady n S2 (xI S n j 2)).bind (fun S4 => some S4))))
set_option maxHeartbeats 4000000 in
set_option maxRecDepth 100000 in
theorem m_c4_finishSending {l : Launch} {D : va_G} {cI cJ cL cN : ClassId} {ad : Nat → Nat → Nat} {N : Nat} (hN : N ≤ 8) (hI : xInj (cDom N) ad) {n j : Nat} (hj : isX4 N n j) {S : xS}  {o : xS} (h : c4_finishSending n j S  = some o) : Met l yX4_finishSending (Cond.code yX4_finishSending cX4_finishSending 2 none :: xG) { frames := 2, cells := 0, slots := 0, locals := 49 } (xPc D vwCl (cTy cI cJ cL cN) cNf cNm (cDom N) ad (cDe ad N cI cJ cL cN) [.ref (ad n j)] S) (xQ D vwCl (cDom N) ad (cDe ad N cI cJ cL cN) none o) 0 0 (xA (cDom N) ad) := by
  unfold c4_finishSending at h
  refine x_enter (by decide) (Nat.le_of_ble_eq_true rfl) (fun p e s m below meth c F hr hlk hK hW hS ls hl => ?_)
  have hl : lv_has ls 2 [(0, .ref (ad n j))] := hl
  have hx := F.1
  have hb := F.2.1
  refine lv_aload_n hx hb dX4_finishSending_0 rfl (lv_at hl 0 rfl) ?_
  refine x_get F hK hW xc_X4 (cd_dX4 hj) (cd_eX4 hN hj) 2 (by decide) k_2_22 (rfl) dX4_finishSending_1 ?_
  refine lv_istore_n (lv' := [(1, .int (xI S n j 2)), (0, .ref (ad n j))]) hx hb dX4_finishSending_4 rfl hl (by decide) rfl (fun ls hl => ?_)
  refine lv_aload_n hx hb dX4_finishSending_5 rfl (lv_at hl 1 rfl) ?_
  refine lv_iconst (v := (-1 : Int32)) hx hb dX4_finishSending_6 (by decide) ?_
  refine x_put F hK hI hW hS xc_X4 (cd_dX4 hj) (cd_eX4 hN hj) 2 (by decide) k_2_22 rfl (v := (-1 : Int32)) rfl rfl (fun _ _ => rfl) (fun _ _ => Nat.le_of_ble_eq_true rfl) dX4_finishSending_7 h (fun S1 H locs hW hS h => ?_)
  refine lv_aload_n hx hb dX4_finishSending_10 rfl (lv_at hl 1 rfl) ?_
  refine lv_iconst (v := (-1 : Int32)) hx hb dX4_finishSending_11 (by decide) ?_
  refine x_put F hK hI hW hS xc_X4 (cd_dX4 hj) (cd_eX4 hN hj) 5 (by decide) k_2_27 rfl (v := (-1 : Int32)) rfl rfl (fun _ _ => rfl) (fun _ _ => Nat.le_of_ble_eq_true rfl) dX4_finishSending_12 h (fun S2 H locs hW hS h => ?_)
  refine lv_iload_n hx hb dX4_finishSending_15 rfl (lv_at hl 0 rfl) ?_
  refine lv_iconst (v := (-1 : Int32)) hx hb dX4_finishSending_16 (by decide) ?_
  refine lv_icmp_eq (tgt := 28) hx hb dX4_finishSending_17 (by decide) (fun c_3 => ?_) (fun c_3 => ?_)
  · replace h := (if_pos c_3).symm.trans h
    exact x_vret F hr hlk hW hS dX4_finishSending_28 h
  replace h := (if_neg c_3).symm.trans h
  refine lv_aload_n hx hb dX4_finishSending_20 rfl (lv_at hl 1 rfl) ?_
  refine x_get F hK hW xc_X4 (cd_dX4 hj) (cd_eX4 hN hj) 0 (by decide) k_2_18 (rfl) dX4_finishSending_21 ?_
  refine lv_iload_n hx hb dX4_finishSending_24 rfl (lv_at hl 0 rfl) ?_
  refine x_cVv (As := [.int (xI S n j 2)]) F xG_ok hK hW hS um_X1_makeReady k_3_72 (fun _ h1 => m_c1_makeReady hN hI (hj).1 _ h1) rfl (cd_dX1 (hj).1) (cd_eX1 hN (hj).1) rfl rfl hl.1 rfl rfl ⟨Nat.le_of_ble_eq_true rfl, Nat.le_of_ble_eq_true rfl⟩ ⟨Nat.zero_le _, Nat.zero_le _⟩ (Nat.le_of_ble_eq_true rfl) dX4_finishSending_25 h (fun S4 H locs hW hS h => ?_)
  exact x_vret F hr hlk hW hS dX4_finishSending_28 h
/-! X4_acknowledge -/
def c4_acknowledge_b52 (n j : Nat)  (S : xS) : Option (xS) := if (xI S n j 3) = 0 then ((c4_finishSending n j S ).bind (fun S6 => some S6)) else (some S)
set_option maxHeartbeats 4000000 in
set_option maxRecDepth 100000 in
theorem m_c4_acknowledge_b52 {l : Launch} {D : va_G} {cI cJ cL cN : ClassId} {ad : Nat → Nat → Nat} {N : Nat} (hN : N ≤ 8) (hI : xInj (cDom N) ad) {n j : Nat} (hj : isX4 N n j) {p : Program} {e : Env} {s : State} {m : MethodId} {args : Array Value} {below : List Frame} {meth : Method} {c : Code} (F : CallFix p m c cX4_acknowledge 1 s args (Cond.code yX4_acknowledge cX4_acknowledge 1 none :: xG) (yX4_acknowledge).cls) (hr : meth.sig.returnType = none) (hlk : meth.locks = false) (hK : xK D vwCl (cTy cI cJ cL cN) cNf cNm s) {o : xS}  (S : xS) {H : Heap} {locs : List Loc} {ls : Array Slot} (h : c4_acknowledge_b52 n j  S = some o) (hW : xW D vwCl (cDom N) ad (cDe ad N cI cJ cL cN) S H) (hS : va_S (xA (cDom N) ad) s.heap H locs) (hl : lv_has ls 1 [(0, .ref (ad n j))]) : W p l e { frames := 3, cells := 0, slots := 0, locals := 70 } s m args below meth c H locs 0 0 (MQ below (xQ D vwCl (cDom N) ad (cDe ad N cI cJ cL cN) none o) args s 0 0 (xA (cDom N) ad)) (F0 m 52 ls []) := by
  have hx := F.1
  have hb := F.2.1
  unfold c4_acknowledge_b52 at h
  refine lv_aload_n hx hb dX4_acknowledge_52 rfl (lv_at hl 0 rfl) ?_
  refine x_get F hK hW xc_X4 (cd_dX4 hj) (cd_eX4 hN hj) 3 (by decide) k_2_24 (rfl) dX4_acknowledge_53 ?_
  refine lv_if_ne (tgt := 63) hx hb dX4_acknowledge_56 (by decide) (fun c_5 => ?_) (fun c_5 => ?_)
  · replace h := (if_neg c_5).symm.trans h
    exact x_vret F hr hlk hW hS dX4_acknowledge_63 h
  replace h := (if_pos c_5).symm.trans h
  refine lv_aload_n hx hb dX4_acknowledge_59 rfl (lv_at hl 0 rfl) ?_
  refine x_cVv (As := []) F xG_ok hK hW hS um_X4_finishSending k_3_68 (fun _ h1 => m_c4_finishSending hN hI hj  h1) rfl (cd_dX4 hj) (cd_eX4 hN hj) rfl rfl hl.1 rfl rfl ⟨Nat.le_of_ble_eq_true rfl, Nat.le_of_ble_eq_true rfl⟩ ⟨Nat.zero_le _, Nat.zero_le _⟩ (Nat.le_of_ble_eq_true rfl) dX4_acknowledge_60 h (fun S6 H locs hW hS h => ?_)
  exact x_vret F hr hlk hW hS dX4_acknowledge_63 h
def c4_acknowledge (n j : Nat) (S : xS)  : Option (xS) := if (xI S n j 6) = 0 then (xnm (sI S n j 3 ((xI S n j 3) - (1 : Int32))) (fun S2 => xnm (sI S2 n j 4 ((xI S2 n j 4) + (1 : Int32))) (fun S3 => if (xI S3 n j 5) = (-1 : Int32) then (c4_acknowledge_b52 n j  S3) else (xnm (sI S3 n j 5 ((xI S3 n j 5) >>> ((8 : Int32) &&& 31))) (fun S7 => c4_acknowledge_b52 n j  S7))))) else (xnm (sI S n j 6 (0 : Int32)) (fun S8 => some S8))
set_option maxHeartbeats 4000000 in
set_option maxRecDepth 100000 in
theorem m_c4_acknowledge {l : Launch} {D : va_G} {cI cJ cL cN : ClassId} {ad : Nat → Nat → Nat} {N : Nat} (hN : N ≤ 8) (hI : xInj (cDom N) ad) {n j : Nat} (hj : isX4 N n j) {S : xS}  {o : xS} (h : c4_acknowledge n j S  = some o) : Met l yX4_acknowledge (Cond.code yX4_acknowledge cX4_acknowledge 1 none :: xG) { frames := 3, cells := 0, slots := 0, locals := 70 } (xPc D vwCl (cTy cI cJ cL cN) cNf cNm (cDom N) ad (cDe ad N cI cJ cL cN) [.ref (ad n j)] S) (xQ D vwCl (cDom N) ad (cDe ad N cI cJ cL cN) none o) 0 0 (xA (cDom N) ad) := by
  unfold c4_acknowledge at h
  refine x_enter (by decide) (Nat.le_of_ble_eq_true rfl) (fun p e s m below meth c F hr hlk hK hW hS ls hl => ?_)
  have hl : lv_has ls 1 [(0, .ref (ad n j))] := hl
  have hx := F.1
  have hb := F.2.1
  refine lv_aload_n hx hb dX4_acknowledge_0 rfl (lv_at hl 0 rfl) ?_
  refine x_get F hK hW xc_X4 (cd_dX4 hj) (cd_eX4 hN hj) 6 (by decide) k_2_28 (rfl) dX4_acknowledge_1 ?_
  refine lv_if_eq (tgt := 13) hx hb dX4_acknowledge_4 (by decide) (fun c_1 => ?_) (fun c_1 => ?_)
  · replace h := (if_pos c_1).symm.trans h
    refine lv_aload_n hx hb dX4_acknowledge_13 rfl (lv_at hl 0 rfl) ?_
    refine lv_dup hx hb dX4_acknowledge_14 rfl ?_
    refine x_get F hK hW xc_X4 (cd_dX4 hj) (cd_eX4 hN hj) 3 (by decide) k_2_24 (rfl) dX4_acknowledge_15 ?_
    refine lv_iconst (v := (1 : Int32)) hx hb dX4_acknowledge_18 (by decide) ?_
    refine lv_isub hx hb dX4_acknowledge_19 ?_
    refine x_put F hK hI hW hS xc_X4 (cd_dX4 hj) (cd_eX4 hN hj) 3 (by decide) k_2_24 rfl (v := ((xI S n j 3) - (1 : Int32))) rfl rfl (fun _ _ => rfl) (fun _ _ => Nat.le_of_ble_eq_true rfl) dX4_acknowledge_20 h (fun S2 H locs hW hS h => ?_)
    refine lv_aload_n hx hb dX4_acknowledge_23 rfl (lv_at hl 0 rfl) ?_
    refine lv_dup hx hb dX4_acknowledge_24 rfl ?_
    refine x_get F hK hW xc_X4 (cd_dX4 hj) (cd_eX4 hN hj) 4 (by decide) k_2_26 (rfl) dX4_acknowledge_25 ?_
    refine lv_iconst (v := (1 : Int32)) hx hb dX4_acknowledge_28 (by decide) ?_
    refine lv_iadd hx hb dX4_acknowledge_29 ?_
    refine x_put F hK hI hW hS xc_X4 (cd_dX4 hj) (cd_eX4 hN hj) 4 (by decide) k_2_26 rfl (v := ((xI S2 n j 4) + (1 : Int32))) rfl rfl (fun _ _ => rfl) (fun _ _ => Nat.le_of_ble_eq_true rfl) dX4_acknowledge_30 h (fun S3 H locs hW hS h => ?_)
    refine lv_aload_n hx hb dX4_acknowledge_33 rfl (lv_at hl 0 rfl) ?_
    refine x_get F hK hW xc_X4 (cd_dX4 hj) (cd_eX4 hN hj) 5 (by decide) k_2_27 (rfl) dX4_acknowledge_34 ?_
    refine lv_iconst (v := (-1 : Int32)) hx hb dX4_acknowledge_37 (by decide) ?_
    refine lv_icmp_eq (tgt := 52) hx hb dX4_acknowledge_38 (by decide) (fun c_4 => ?_) (fun c_4 => ?_)
    · replace h := (if_pos c_4).symm.trans h
      exact m_c4_acknowledge_b52 hN hI hj F hr hlk hK  _ h hW hS (lv_sub hl [0] rfl)
    replace h := (if_neg c_4).symm.trans h
    refine lv_aload_n hx hb dX4_acknowledge_41 rfl (lv_at hl 0 rfl) ?_
    refine lv_dup hx hb dX4_acknowledge_42 rfl ?_
    refine x_get F hK hW xc_X4 (cd_dX4 hj) (cd_eX4 hN hj) 5 (by decide) k_2_27 (rfl) dX4_acknowledge_43 ?_
    refine lv_bipush (v := (8 : Int32)) hx hb dX4_acknowledge_46 (by decide) ?_
    refine lv_ishr hx hb dX4_acknowledge_48 ?_
    refine x_put F hK hI hW hS xc_X4 (cd_dX4 hj) (cd_eX4 hN hj) 5 (by decide) k_2_27 rfl (v := ((xI S3 n j 5) >>> ((8 : Int32) &&& 31))) rfl rfl (fun _ _ => rfl) (fun _ _ => Nat.le_of_ble_eq_true rfl) dX4_acknowledge_49 h (fun S7 H locs hW hS h => ?_)
    exact m_c4_acknowledge_b52 hN hI hj F hr hlk hK  _ h hW hS (lv_sub hl [0] rfl)
  replace h := (if_neg c_1).symm.trans h
  refine lv_aload_n hx hb dX4_acknowledge_7 rfl (lv_at hl 0 rfl) ?_
  refine lv_iconst (v := (0 : Int32)) hx hb dX4_acknowledge_8 (by decide) ?_
  refine x_put F hK hI hW hS xc_X4 (cd_dX4 hj) (cd_eX4 hN hj) 6 (by decide) k_2_28 rfl (v := (0 : Int32)) rfl rfl (fun _ _ => rfl) (fun _ _ => Nat.le_of_ble_eq_true rfl) dX4_acknowledge_9 h (fun S8 H locs hW hS h => ?_)
  exact x_vret F hr hlk hW hS dX4_acknowledge_12 h
/-! X4_keep -/
def c4_keep (n j : Nat) (S : xS) (a1 : Int32) : Option (xS) := xnm (sI S n j 10 a1) (fun S1 => if (xI S1 n j 11) = (-1 : Int32) then (some S1) else ((c1_alert n S1 (xI S1 n j 11)).bind (fun (r_3, S3) => xnm (sI S3 n j 11 (-1 : Int32)) (fun S4 => some S4))))
set_option maxHeartbeats 4000000 in
set_option maxRecDepth 100000 in
theorem m_c4_keep {l : Launch} {D : va_G} {cI cJ cL cN : ClassId} {ad : Nat → Nat → Nat} {N : Nat} (hN : N ≤ 8) (hI : xInj (cDom N) ad) {n j : Nat} (hj : isX4 N n j) {S : xS} (a1 : Int32) {o : xS} (h : c4_keep n j S a1 = some o) : Met l yX4_keep (Cond.code yX4_keep cX4_keep 2 none :: xG) { frames := 3, cells := 0, slots := 0, locals := 72 } (xPc D vwCl (cTy cI cJ cL cN) cNf cNm (cDom N) ad (cDe ad N cI cJ cL cN) [.ref (ad n j), .int a1] S) (xQ D vwCl (cDom N) ad (cDe ad N cI cJ cL cN) none o) 0 0 (xA (cDom N) ad) := by
  unfold c4_keep at h
  refine x_enter (by decide) (Nat.le_of_ble_eq_true rfl) (fun p e s m below meth c F hr hlk hK hW hS ls hl => ?_)
  have hl : lv_has ls 2 [(0, .ref (ad n j)), (1, .int a1)] := hl
  have hx := F.1
  have hb := F.2.1
  refine lv_aload_n hx hb dX4_keep_0 rfl (lv_at hl 0 rfl) ?_
  refine lv_iload_n hx hb dX4_keep_1 rfl (lv_at hl 1 rfl) ?_
  refine x_put F hK hI hW hS xc_X4 (cd_dX4 hj) (cd_eX4 hN hj) 10 (by decide) k_2_33 rfl (v := a1) rfl rfl (fun _ _ => rfl) (fun _ _ => Nat.le_of_ble_eq_true rfl) dX4_keep_2 h (fun S1 H locs hW hS h => ?_)
  refine lv_aload_n hx hb dX4_keep_5 rfl (lv_at hl 0 rfl) ?_
  refine x_get F hK hW xc_X4 (cd_dX4 hj) (cd_eX4 hN hj) 11 (by decide) k_2_36 (rfl) dX4_keep_6 ?_
  refine lv_iconst (v := (-1 : Int32)) hx hb dX4_keep_9 (by decide) ?_
  refine lv_icmp_eq (tgt := 30) hx hb dX4_keep_10 (by decide) (fun c_2 => ?_) (fun c_2 => ?_)
  · replace h := (if_pos c_2).symm.trans h
    exact x_vret F hr hlk hW hS dX4_keep_30 h
  replace h := (if_neg c_2).symm.trans h
  refine lv_aload_n hx hb dX4_keep_13 rfl (lv_at hl 0 rfl) ?_
  refine x_get F hK hW xc_X4 (cd_dX4 hj) (cd_eX4 hN hj) 0 (by decide) k_2_18 (rfl) dX4_keep_14 ?_
  refine lv_aload_n hx hb dX4_keep_17 rfl (lv_at hl 0 rfl) ?_
  refine x_get F hK hW xc_X4 (cd_dX4 hj) (cd_eX4 hN hj) 11 (by decide) k_2_36 (rfl) dX4_keep_18 ?_
  refine x_cVi (As := [.int (xI S1 n j 11)]) F xG_ok hK hW hS um_X1_alert k_3_90 (fun _ h1 => m_c1_alert hN hI (hj).1 _ h1) rfl (cd_dX1 (hj).1) (cd_eX1 hN (hj).1) rfl rfl hl.1 rfl rfl ⟨Nat.le_of_ble_eq_true rfl, Nat.le_of_ble_eq_true rfl⟩ ⟨Nat.zero_le _, Nat.zero_le _⟩ (Nat.le_of_ble_eq_true rfl) dX4_keep_21 h (fun r_3 S3 H locs hW hS h => ?_)
  refine lv_pop hx hb dX4_keep_24 rfl ?_
  refine lv_aload_n hx hb dX4_keep_25 rfl (lv_at hl 0 rfl) ?_
  refine lv_iconst (v := (-1 : Int32)) hx hb dX4_keep_26 (by decide) ?_
  refine x_put F hK hI hW hS xc_X4 (cd_dX4 hj) (cd_eX4 hN hj) 11 (by decide) k_2_36 rfl (v := (-1 : Int32)) rfl rfl (fun _ _ => rfl) (fun _ _ => Nat.le_of_ble_eq_true rfl) dX4_keep_27 h (fun S4 H locs hW hS h => ?_)
  exact x_vret F hr hlk hW hS dX4_keep_30 h
/-! X4_accept -/
def c4_accept (n j : Nat) (S : xS) (a1 : Int32) : Option (xS) := if (xI S n j 7) = (-1 : Int32) then ((c4_keep n j S a1).bind (fun S5 => some S5)) else ((c4_deliver n j S a1).bind (fun S2 => if (xI S2 n j 7) = (-1 : Int32) then ((c1_makeReady n S2 (xI S n j 7)).bind (fun S4 => some S4)) else (some S2)))
set_option maxHeartbeats 4000000 in
set_option maxRecDepth 100000 in
theorem m_c4_accept {l : Launch} {D : va_G} {cI cJ cL cN : ClassId} {ad : Nat → Nat → Nat} {N : Nat} (hN : N ≤ 8) (hI : xInj (cDom N) ad) {n j : Nat} (hj : isX4 N n j) {S : xS} (a1 : Int32) {o : xS} (h : c4_accept n j S a1 = some o) : Met l yX4_accept (Cond.code yX4_accept cX4_accept 3 none :: xG) { frames := 4, cells := 0, slots := 0, locals := 93 } (xPc D vwCl (cTy cI cJ cL cN) cNf cNm (cDom N) ad (cDe ad N cI cJ cL cN) [.ref (ad n j), .int a1] S) (xQ D vwCl (cDom N) ad (cDe ad N cI cJ cL cN) none o) 0 0 (xA (cDom N) ad) := by
  unfold c4_accept at h
  refine x_enter (by decide) (Nat.le_of_ble_eq_true rfl) (fun p e s m below meth c F hr hlk hK hW hS ls hl => ?_)
  have hl : lv_has ls 3 [(0, .ref (ad n j)), (1, .int a1)] := hl
  have hx := F.1
  have hb := F.2.1
  refine lv_aload_n hx hb dX4_accept_0 rfl (lv_at hl 0 rfl) ?_
  refine x_get F hK hW xc_X4 (cd_dX4 hj) (cd_eX4 hN hj) 7 (by decide) k_2_29 (rfl) dX4_accept_1 ?_
  refine lv_iconst (v := (-1 : Int32)) hx hb dX4_accept_4 (by decide) ?_
  refine lv_icmp_ne (tgt := 14) hx hb dX4_accept_5 (by decide) (fun c_1 => ?_) (fun c_1 => ?_)
  · replace h := (if_neg c_1).symm.trans h
    refine lv_aload_n hx hb dX4_accept_14 rfl (lv_at hl 0 rfl) ?_
    refine x_get F hK hW xc_X4 (cd_dX4 hj) (cd_eX4 hN hj) 7 (by decide) k_2_29 (rfl) dX4_accept_15 ?_
    refine lv_istore_n (lv' := [(2, .int (xI S n j 7)), (0, .ref (ad n j)), (1, .int a1)]) hx hb dX4_accept_18 rfl hl (by decide) rfl (fun ls hl => ?_)
    refine lv_aload_n hx hb dX4_accept_19 rfl (lv_at hl 1 rfl) ?_
    refine lv_iload_n hx hb dX4_accept_20 rfl (lv_at hl 2 rfl) ?_
    refine x_cVv (As := [.int a1]) F xG_ok hK hW hS um_X4_deliver k_3_110 (fun _ h1 => m_c4_deliver hN hI hj _ h1) rfl (cd_dX4 hj) (cd_eX4 hN hj) rfl rfl hl.1 rfl rfl ⟨Nat.le_of_ble_eq_true rfl, Nat.le_of_ble_eq_true rfl⟩ ⟨Nat.zero_le _, Nat.zero_le _⟩ (Nat.le_of_ble_eq_true rfl) dX4_accept_21 h (fun S2 H locs hW hS h => ?_)
    refine lv_aload_n hx hb dX4_accept_24 rfl (lv_at hl 1 rfl) ?_
    refine x_get F hK hW xc_X4 (cd_dX4 hj) (cd_eX4 hN hj) 7 (by decide) k_2_29 (rfl) dX4_accept_25 ?_
    refine lv_iconst (v := (-1 : Int32)) hx hb dX4_accept_28 (by decide) ?_
    refine lv_icmp_ne (tgt := 40) hx hb dX4_accept_29 (by decide) (fun c_3 => ?_) (fun c_3 => ?_)
    · replace h := (if_neg c_3).symm.trans h
      exact x_vret F hr hlk hW hS dX4_accept_40 h
    replace h := (if_pos c_3).symm.trans h
    refine lv_aload_n hx hb dX4_accept_32 rfl (lv_at hl 1 rfl) ?_
    refine x_get F hK hW xc_X4 (cd_dX4 hj) (cd_eX4 hN hj) 0 (by decide) k_2_18 (rfl) dX4_accept_33 ?_
    refine lv_iload_n hx hb dX4_accept_36 rfl (lv_at hl 0 rfl) ?_
    refine x_cVv (As := [.int (xI S n j 7)]) F xG_ok hK hW hS um_X1_makeReady k_3_72 (fun _ h1 => m_c1_makeReady hN hI (hj).1 _ h1) rfl (cd_dX1 (hj).1) (cd_eX1 hN (hj).1) rfl rfl hl.1 rfl rfl ⟨Nat.le_of_ble_eq_true rfl, Nat.le_of_ble_eq_true rfl⟩ ⟨Nat.zero_le _, Nat.zero_le _⟩ (Nat.le_of_ble_eq_true rfl) dX4_accept_37 h (fun S4 H locs hW hS h => ?_)
    exact x_vret F hr hlk hW hS dX4_accept_40 h
  replace h := (if_pos c_1).symm.trans h
  refine lv_aload_n hx hb dX4_accept_8 rfl (lv_at hl 0 rfl) ?_
  refine lv_iload_n hx hb dX4_accept_9 rfl (lv_at hl 1 rfl) ?_
  refine x_cVv (As := [.int a1]) F xG_ok hK hW hS um_X4_keep k_3_86 (fun _ h1 => m_c4_keep hN hI hj _ h1) rfl (cd_dX4 hj) (cd_eX4 hN hj) rfl rfl hl.1 rfl rfl ⟨Nat.le_of_ble_eq_true rfl, Nat.le_of_ble_eq_true rfl⟩ ⟨Nat.zero_le _, Nat.zero_le _⟩ (Nat.le_of_ble_eq_true rfl) dX4_accept_10 h (fun S5 H locs hW hS h => ?_)
  exact x_vret F hr hlk hW hS dX4_accept_13 h
/-! X4_takeBit -/
def c4_takeBit (N : Nat) (n j : Nat) (S : xS)  : Option (xS) := (c2_readNextBit N n (j + 4) S ).bind (fun (r_1, S1) => if r_1 = (-2 : Int32) then ((c4_acknowledge n j S1 ).bind (fun S5 => some S5)) else (if r_1 = (-1 : Int32) then (some S1) else ((c4_accept n j S1 r_1).bind (fun S4 => some S4))))
set_option maxHeartbeats 4000000 in
set_option maxRecDepth 100000 in
theorem m_c4_takeBit {l : Launch} {D : va_G} {cI cJ cL cN : ClassId} {ad : Nat → Nat → Nat} {N : Nat} (hN : N ≤ 8) (hI : xInj (cDom N) ad) {n j : Nat} (hj : isX4 N n j) {S : xS}  {o : xS} (h : c4_takeBit N n j S  = some o) : Met l yX4_takeBit (Cond.code yX4_takeBit cX4_takeBit 2 none :: xG) { frames := 5, cells := 0, slots := 0, locals := 115 } (xPc D vwCl (cTy cI cJ cL cN) cNf cNm (cDom N) ad (cDe ad N cI cJ cL cN) [.ref (ad n j)] S) (xQ D vwCl (cDom N) ad (cDe ad N cI cJ cL cN) none o) 0 0 (xA (cDom N) ad) := by
  unfold c4_takeBit at h
  refine x_enter (by decide) (Nat.le_of_ble_eq_true rfl) (fun p e s m below meth c F hr hlk hK hW hS ls hl => ?_)
  have hl : lv_has ls 2 [(0, .ref (ad n j))] := hl
  have hx := F.1
  have hb := F.2.1
  refine lv_aload_n hx hb dX4_takeBit_0 rfl (lv_at hl 0 rfl) ?_
  refine x_get F hK hW xc_X4 (cd_dX4 hj) (cd_eX4 hN hj) 1 (by decide) k_2_19 (rfl) dX4_takeBit_1 ?_
  refine x_cVi (As := []) F xG_ok hK hW hS um_X2_readNextBit k_3_56 (fun _ h1 => m_c2_readNextBit hN hI (is2l hj)  h1) rfl (cd_dX2 (is2l hj)) (cd_eX2 hN (is2l hj)) rfl rfl hl.1 rfl rfl ⟨Nat.le_of_ble_eq_true rfl, Nat.le_of_ble_eq_true rfl⟩ ⟨Nat.zero_le _, Nat.zero_le _⟩ (Nat.le_of_ble_eq_true rfl) dX4_takeBit_4 h (fun r_1 S1 H locs hW hS h => ?_)
  refine lv_istore_n (lv' := [(1, .int r_1), (0, .ref (ad n j))]) hx hb dX4_takeBit_7 rfl hl (by decide) rfl (fun ls hl => ?_)
  refine lv_iload_n hx hb dX4_takeBit_8 rfl (lv_at hl 0 rfl) ?_
  refine lv_bipush (v := (-2 : Int32)) hx hb dX4_takeBit_9 (by decide) ?_
  refine lv_icmp_ne (tgt := 21) hx hb dX4_takeBit_11 (by decide) (fun c_2 => ?_) (fun c_2 => ?_)
  · replace h := (if_neg c_2).symm.trans h
    refine lv_iload_n hx hb dX4_takeBit_21 rfl (lv_at hl 0 rfl) ?_
    refine lv_iconst (v := (-1 : Int32)) hx hb dX4_takeBit_22 (by decide) ?_
    refine lv_icmp_eq (tgt := 31) hx hb dX4_takeBit_23 (by decide) (fun c_3 => ?_) (fun c_3 => ?_)
    · replace h := (if_pos c_3).symm.trans h
      exact x_vret F hr hlk hW hS dX4_takeBit_31 h
    replace h := (if_neg c_3).symm.trans h
    refine lv_aload_n hx hb dX4_takeBit_26 rfl (lv_at hl 1 rfl) ?_
    refine lv_iload_n hx hb dX4_takeBit_27 rfl (lv_at hl 0 rfl) ?_
    refine x_cVv (As := [.int r_1]) F xG_ok hK hW hS um_X4_accept k_3_82 (fun _ h1 => m_c4_accept hN hI hj _ h1) rfl (cd_dX4 hj) (cd_eX4 hN hj) rfl rfl hl.1 rfl rfl ⟨Nat.le_of_ble_eq_true rfl, Nat.le_of_ble_eq_true rfl⟩ ⟨Nat.zero_le _, Nat.zero_le _⟩ (Nat.le_of_ble_eq_true rfl) dX4_takeBit_28 h (fun S4 H locs hW hS h => ?_)
    exact x_vret F hr hlk hW hS dX4_takeBit_31 h
  replace h := (if_pos c_2).symm.trans h
  refine lv_aload_n hx hb dX4_takeBit_14 rfl (lv_at hl 1 rfl) ?_
  refine x_cVv (As := []) F xG_ok hK hW hS um_X4_acknowledge k_3_64 (fun _ h1 => m_c4_acknowledge hN hI hj  h1) rfl (cd_dX4 hj) (cd_eX4 hN hj) rfl rfl hl.1 rfl rfl ⟨Nat.le_of_ble_eq_true rfl, Nat.le_of_ble_eq_true rfl⟩ ⟨Nat.zero_le _, Nat.zero_le _⟩ (Nat.le_of_ble_eq_true rfl) dX4_takeBit_15 h (fun S5 H locs hW hS h => ?_)
  refine lv_goto (tgt := 31) hx hb dX4_takeBit_18 (by decide) ?_
  exact x_vret F hr hlk hW hS dX4_takeBit_31 h
