/-! X0_linkOf -/
def c0_linkOf (n : Nat) (S : xS) (a1 : Int32) : Option (Option (Nat × Nat) × xS) := if (((a1 &&& (65534 : Int32)) - (32768 : Int32)) >>> ((1 : Int32) &&& 31)) < 0 then (some (none, S)) else (if (((a1 &&& (65534 : Int32)) - (32768 : Int32)) >>> ((1 : Int32) &&& 31)) < (8 : Int32) then (gd (jrem (((a1 &&& (65534 : Int32)) - (32768 : Int32)) >>> ((1 : Int32) &&& 31)) (4 : Int32)) 4 (some (some (n, (12 + ((jrem (((a1 &&& (65534 : Int32)) - (32768 : Int32)) >>> ((1 : Int32) &&& 31)) (4 : Int32))).toNatClampNeg)), S))) else (some (none, S)))
set_option maxHeartbeats 4000000 in
set_option maxRecDepth 100000 in
theorem m_c0_linkOf {l : Launch} {D : va_G} {cI cJ cL cN : ClassId} {ad : Nat → Nat → Nat} {N : Nat} (hN : N ≤ 8) (hI : xInj (cDom N) ad) {n : Nat} (hn : n < N) {S : xS} (a1 : Int32) {o : Option (Nat × Nat) × xS} (h : c0_linkOf n S a1 = some o) : Met l yX0_linkOf (Cond.code yX0_linkOf cX0_linkOf 3 (some (.object "TransputerNet$Link")) :: xG) { frames := 0, cells := 0, slots := 0, locals := 0 } (xPc D vwCl (cTy cI cJ cL cN) cNf cNm (cDom N) ad (cDe ad N cI cJ cL cN) [.ref (ad n 21), .int a1] S) (xQ D vwCl (cDom N) ad (cDe ad N cI cJ cL cN) (some (xRv ad o.1)) o.2) 0 0 (xA (cDom N) ad) := by
  unfold c0_linkOf at h
  refine x_enter (by decide) (Nat.le_of_ble_eq_true rfl) (fun p e s m below meth c F hr hlk hK hW hS ls hl => ?_)
  have hl : lv_has ls 3 [(0, .ref (ad n 21)), (1, .int a1)] := hl
  have hx := F.1
  have hb := F.2.1
  refine lv_iload_n hx hb dX0_linkOf_0 rfl (lv_at hl 1 rfl) ?_
  refine lv_ldc (v := (65534 : Int32)) hx hb F.2.2.2.1 (x_hts F _ k_4_190) dX0_linkOf_1 ?_
  refine lv_iand hx hb dX0_linkOf_3 ?_
  refine lv_ldc (v := (32768 : Int32)) hx hb F.2.2.2.1 (x_hts F _ k_4_191) dX0_linkOf_4 ?_
  refine lv_isub hx hb dX0_linkOf_6 ?_
  refine lv_iconst (v := (1 : Int32)) hx hb dX0_linkOf_7 (by decide) ?_
  refine lv_ishr hx hb dX0_linkOf_8 ?_
  refine lv_istore_n (lv' := [(2, .int (((a1 &&& (65534 : Int32)) - (32768 : Int32)) >>> ((1 : Int32) &&& 31))), (0, .ref (ad n 21)), (1, .int a1)]) hx hb dX0_linkOf_9 rfl hl (by decide) rfl (fun ls hl => ?_)
  refine lv_iload_n hx hb dX0_linkOf_10 rfl (lv_at hl 0 rfl) ?_
  refine lv_if_lt (tgt := 20) hx hb dX0_linkOf_11 (by decide) (fun c_1 => ?_) (fun c_1 => ?_)
  · replace h := (if_pos c_1).symm.trans h
    refine lv_null hx hb dX0_linkOf_20 ?_
    exact x_aret F hr hlk hW hS (r := none) rfl dX0_linkOf_21 h
  replace h := (if_neg c_1).symm.trans h
  refine lv_iload_n hx hb dX0_linkOf_14 rfl (lv_at hl 0 rfl) ?_
  refine lv_bipush (v := (8 : Int32)) hx hb dX0_linkOf_15 (by decide) ?_
  refine lv_icmp_lt (tgt := 22) hx hb dX0_linkOf_17 (by decide) (fun c_2 => ?_) (fun c_2 => ?_)
  · replace h := (if_pos c_2).symm.trans h
    refine lv_aload_n hx hb dX0_linkOf_22 rfl (lv_at hl 1 rfl) ?_
    refine x_get F hK hW xc_X0 (cd_dX0 hn) (cd_eX0 hN hn) 3 (by decide) k_2_75 (rfl) dX0_linkOf_23 ?_
    refine lv_iload_n hx hb dX0_linkOf_26 rfl (lv_at hl 0 rfl) ?_
    refine lv_iconst (v := (4 : Int32)) hx hb dX0_linkOf_27 (by decide) ?_
    refine x_irem hx hb dX0_linkOf_28 (by decide) ?_
    have hk_3 := gd_lt h
    refine x_aald (t0 := 2) F hK hW (cd_dAL hn) (cd_eAL hN hn) rfl dX0_linkOf_29 h (fun h => ?_)
    exact x_aret F hr hlk hW hS (r := some (n, (12 + ((jrem (((a1 &&& (65534 : Int32)) - (32768 : Int32)) >>> ((1 : Int32) &&& 31)) (4 : Int32))).toNatClampNeg))) rfl dX0_linkOf_30 h
  replace h := (if_neg c_2).symm.trans h
  refine lv_null hx hb dX0_linkOf_20 ?_
  exact x_aret F hr hlk hW hS (r := none) rfl dX0_linkOf_21 h
/-! X1_stopWith -/
def c1_stopWith (n : Nat) (S : xS) (a1 : Int32) : Option (xS) := if (xI S n 1 8) = 0 then (xnm (sI S n 1 8 a1) (fun S2 => some S2)) else (some S)
set_option maxHeartbeats 4000000 in
set_option maxRecDepth 100000 in
theorem m_c1_stopWith {l : Launch} {D : va_G} {cI cJ cL cN : ClassId} {ad : Nat → Nat → Nat} {N : Nat} (hN : N ≤ 8) (hI : xInj (cDom N) ad) {n : Nat} (hn : n < N) {S : xS} (a1 : Int32) {o : xS} (h : c1_stopWith n S a1 = some o) : Met l yX1_stopWith (Cond.code yX1_stopWith cX1_stopWith 2 none :: xG) { frames := 0, cells := 0, slots := 0, locals := 0 } (xPc D vwCl (cTy cI cJ cL cN) cNf cNm (cDom N) ad (cDe ad N cI cJ cL cN) [.ref (ad n 1), .int a1] S) (xQ D vwCl (cDom N) ad (cDe ad N cI cJ cL cN) none o) 0 0 (xA (cDom N) ad) := by
  unfold c1_stopWith at h
  refine x_enter (by decide) (Nat.le_of_ble_eq_true rfl) (fun p e s m below meth c F hr hlk hK hW hS ls hl => ?_)
  have hl : lv_has ls 2 [(0, .ref (ad n 1)), (1, .int a1)] := hl
  have hx := F.1
  have hb := F.2.1
  refine lv_aload_n hx hb dX1_stopWith_0 rfl (lv_at hl 0 rfl) ?_
  refine x_get F hK hW xc_X1 (cd_dX1 hn) (cd_eX1 hN hn) 8 (by decide) k_1_169 (rfl) dX1_stopWith_1 ?_
  refine lv_if_ne (tgt := 12) hx hb dX1_stopWith_4 (by decide) (fun c_1 => ?_) (fun c_1 => ?_)
  · replace h := (if_neg c_1).symm.trans h
    exact x_vret F hr hlk hW hS dX1_stopWith_12 h
  replace h := (if_pos c_1).symm.trans h
  refine lv_aload_n hx hb dX1_stopWith_7 rfl (lv_at hl 0 rfl) ?_
  refine lv_iload_n hx hb dX1_stopWith_8 rfl (lv_at hl 1 rfl) ?_
  refine x_put F hK hI hW hS xc_X1 (cd_dX1 hn) (cd_eX1 hN hn) 8 (by decide) k_1_169 rfl (v := a1) rfl rfl (fun _ _ => rfl) (fun _ _ => Nat.le_of_ble_eq_true rfl) dX1_stopWith_9 h (fun S2 H locs hW hS h => ?_)
  exact x_vret F hr hlk hW hS dX1_stopWith_12 h
/-! X9_popAll -/
def c9_popAll (n j : Nat) (S : xS)  : Option (xS) := xnm (sI S n j 0 (xI S n j 2)) (fun S1 => xnm (sI S1 n j 1 (xI S1 n j 2)) (fun S2 => some S2))
set_option maxHeartbeats 4000000 in
set_option maxRecDepth 100000 in
theorem m_c9_popAll {l : Launch} {D : va_G} {cI cJ cL cN : ClassId} {ad : Nat → Nat → Nat} {N : Nat} (hN : N ≤ 8) (hI : xInj (cDom N) ad) {n j : Nat} (hj : isX9 N n j) {S : xS}  {o : xS} (h : c9_popAll n j S  = some o) : Met l yX9_popAll (Cond.code yX9_popAll cX9_popAll 1 none :: xG) { frames := 0, cells := 0, slots := 0, locals := 0 } (xPc D vwCl (cTy cI cJ cL cN) cNf cNm (cDom N) ad (cDe ad N cI cJ cL cN) [.ref (ad n j)] S) (xQ D vwCl (cDom N) ad (cDe ad N cI cJ cL cN) none o) 0 0 (xA (cDom N) ad) := by
  unfold c9_popAll at h
  refine x_enter (by decide) (Nat.le_of_ble_eq_true rfl) (fun p e s m below meth c F hr hlk hK hW hS ls hl => ?_)
  have hl : lv_has ls 1 [(0, .ref (ad n j))] := hl
  have hx := F.1
  have hb := F.2.1
  refine lv_aload_n hx hb dX9_popAll_0 rfl (lv_at hl 0 rfl) ?_
  refine lv_aload_n hx hb dX9_popAll_1 rfl (lv_at hl 0 rfl) ?_
  refine x_get F hK hW xc_X9 (cd_dX9 hj) (cd_eX9 hN hj) 2 (by decide) k_1_70 (rfl) dX9_popAll_2 ?_
  refine x_put F hK hI hW hS xc_X9 (cd_dX9 hj) (cd_eX9 hN hj) 0 (by decide) k_1_62 rfl (v := (xI S n j 2)) rfl rfl (fun _ _ => rfl) (fun _ _ => Nat.le_of_ble_eq_true rfl) dX9_popAll_5 h (fun S1 H locs hW hS h => ?_)
  refine lv_aload_n hx hb dX9_popAll_8 rfl (lv_at hl 0 rfl) ?_
  refine lv_aload_n hx hb dX9_popAll_9 rfl (lv_at hl 0 rfl) ?_
  refine x_get F hK hW xc_X9 (cd_dX9 hj) (cd_eX9 hN hj) 2 (by decide) k_1_70 (rfl) dX9_popAll_10 ?_
  refine x_put F hK hI hW hS xc_X9 (cd_dX9 hj) (cd_eX9 hN hj) 1 (by decide) k_1_66 rfl (v := (xI S1 n j 2)) rfl rfl (fun _ _ => rfl) (fun _ _ => Nat.le_of_ble_eq_true rfl) dX9_popAll_13 h (fun S2 H locs hW hS h => ?_)
  exact x_vret F hr hlk hW hS dX9_popAll_16 h
/-! X1_own -/
def c1_own (n : Nat) (S : xS)  : Option (Int32 × xS) := some (((xI S n 4 5) ||| ((xI S n 4 6) &&& (1 : Int32))), S)
set_option maxHeartbeats 4000000 in
set_option maxRecDepth 100000 in
theorem m_c1_own {l : Launch} {D : va_G} {cI cJ cL cN : ClassId} {ad : Nat → Nat → Nat} {N : Nat} (hN : N ≤ 8) (hI : xInj (cDom N) ad) {n : Nat} (hn : n < N) {S : xS}  {o : Int32 × xS} (h : c1_own n S  = some o) : Met l yX1_own (Cond.code yX1_own cX1_own 1 (some .int) :: xG) { frames := 0, cells := 0, slots := 0, locals := 0 } (xPc D vwCl (cTy cI cJ cL cN) cNf cNm (cDom N) ad (cDe ad N cI cJ cL cN) [.ref (ad n 1)] S) (xQ D vwCl (cDom N) ad (cDe ad N cI cJ cL cN) (some (.int o.1)) o.2) 0 0 (xA (cDom N) ad) := by
  unfold c1_own at h
  refine x_enter (by decide) (Nat.le_of_ble_eq_true rfl) (fun p e s m below meth c F hr hlk hK hW hS ls hl => ?_)
  have hl : lv_has ls 1 [(0, .ref (ad n 1))] := hl
  have hx := F.1
  have hb := F.2.1
  refine lv_aload_n hx hb dX1_own_0 rfl (lv_at hl 0 rfl) ?_
  refine x_get F hK hW xc_X1 (cd_dX1 hn) (cd_eX1 hN hn) 1 (by decide) k_1_156 (rfl) dX1_own_1 ?_
  refine x_getN F hK hW xc_X9 (cd_dX9 ⟨hn, Or.inl rfl⟩) (cd_eX9 hN ⟨hn, Or.inl rfl⟩) 5 (by decide) kn_14 (rfl) dX1_own_4 ?_
  refine lv_aload_n hx hb dX1_own_7 rfl (lv_at hl 0 rfl) ?_
  refine x_get F hK hW xc_X1 (cd_dX1 hn) (cd_eX1 hN hn) 1 (by decide) k_1_156 (rfl) dX1_own_8 ?_
  refine x_getN F hK hW xc_X9 (cd_dX9 ⟨hn, Or.inl rfl⟩) (cd_eX9 hN ⟨hn, Or.inl rfl⟩) 6 (by decide) kn_16 (rfl) dX1_own_11 ?_
  refine lv_iconst (v := (1 : Int32)) hx hb dX1_own_14 (by decide) ?_
  refine lv_iand hx hb dX1_own_15 ?_
  refine lv_ior hx hb dX1_own_16 ?_
  exact x_iret F hr hlk hW hS dX1_own_17 h
/-! X4_beginReceiving -/
def c4_beginReceiving (n j : Nat) (S : xS) (a1 : Int32) (a2 : Int32) (a3 : Int32) : Option (xS) := xnm (sI S n j 7 a1) (fun S1 => xnm (sI S1 n j 8 a2) (fun S2 => xnm (sI S2 n j 9 a3) (fun S3 => some S3)))
set_option maxHeartbeats 4000000 in
set_option maxRecDepth 100000 in
theorem m_c4_beginReceiving {l : Launch} {D : va_G} {cI cJ cL cN : ClassId} {ad : Nat → Nat → Nat} {N : Nat} (hN : N ≤ 8) (hI : xInj (cDom N) ad) {n j : Nat} (hj : isX4 N n j) {S : xS} (a1 : Int32) (a2 : Int32) (a3 : Int32) {o : xS} (h : c4_beginReceiving n j S a1 a2 a3 = some o) : Met l yX4_beginReceiving (Cond.code yX4_beginReceiving cX4_beginReceiving 4 none :: xG) { frames := 0, cells := 0, slots := 0, locals := 0 } (xPc D vwCl (cTy cI cJ cL cN) cNf cNm (cDom N) ad (cDe ad N cI cJ cL cN) [.ref (ad n j), .int a1, .int a2, .int a3] S) (xQ D vwCl (cDom N) ad (cDe ad N cI cJ cL cN) none o) 0 0 (xA (cDom N) ad) := by
  unfold c4_beginReceiving at h
  refine x_enter (by decide) (Nat.le_of_ble_eq_true rfl) (fun p e s m below meth c F hr hlk hK hW hS ls hl => ?_)
  have hl : lv_has ls 4 [(0, .ref (ad n j)), (1, .int a1), (2, .int a2), (3, .int a3)] := hl
  have hx := F.1
  have hb := F.2.1
  refine lv_aload_n hx hb dX4_beginReceiving_0 rfl (lv_at hl 0 rfl) ?_
  refine lv_iload_n hx hb dX4_beginReceiving_1 rfl (lv_at hl 1 rfl) ?_
  refine x_put F hK hI hW hS xc_X4 (cd_dX4 hj) (cd_eX4 hN hj) 7 (by decide) k_2_29 rfl (v := a1) rfl rfl (fun _ _ => rfl) (fun _ _ => Nat.le_of_ble_eq_true rfl) dX4_beginReceiving_2 h (fun S1 H locs hW hS h => ?_)
  refine lv_aload_n hx hb dX4_beginReceiving_5 rfl (lv_at hl 0 rfl) ?_
  refine lv_iload_n hx hb dX4_beginReceiving_6 rfl (lv_at hl 2 rfl) ?_
  refine x_put F hK hI hW hS xc_X4 (cd_dX4 hj) (cd_eX4 hN hj) 8 (by decide) k_2_31 rfl (v := a2) rfl rfl (fun _ _ => rfl) (fun _ _ => Nat.le_of_ble_eq_true rfl) dX4_beginReceiving_7 h (fun S2 H locs hW hS h => ?_)
  refine lv_aload_n hx hb dX4_beginReceiving_10 rfl (lv_at hl 0 rfl) ?_
  refine lv_iload_n hx hb dX4_beginReceiving_11 rfl (lv_at hl 3 rfl) ?_
  refine x_put F hK hI hW hS xc_X4 (cd_dX4 hj) (cd_eX4 hN hj) 9 (by decide) k_2_32 rfl (v := a3) rfl rfl (fun _ _ => rfl) (fun _ _ => Nat.le_of_ble_eq_true rfl) dX4_beginReceiving_12 h (fun S3 H locs hW hS h => ?_)
  exact x_vret F hr hlk hW hS dX4_beginReceiving_15 h
/-! X4_releaseKept -/
def c4_releaseKept (n j : Nat) (S : xS)  : Option (Int32 × xS) := xnm (sI S n j 10 (-1 : Int32)) (fun S1 => some ((xI S n j 10), S1))
set_option maxHeartbeats 4000000 in
set_option maxRecDepth 100000 in
theorem m_c4_releaseKept {l : Launch} {D : va_G} {cI cJ cL cN : ClassId} {ad : Nat → Nat → Nat} {N : Nat} (hN : N ≤ 8) (hI : xInj (cDom N) ad) {n j : Nat} (hj : isX4 N n j) {S : xS}  {o : Int32 × xS} (h : c4_releaseKept n j S  = some o) : Met l yX4_releaseKept (Cond.code yX4_releaseKept cX4_releaseKept 2 (some .int) :: xG) { frames := 0, cells := 0, slots := 0, locals := 0 } (xPc D vwCl (cTy cI cJ cL cN) cNf cNm (cDom N) ad (cDe ad N cI cJ cL cN) [.ref (ad n j)] S) (xQ D vwCl (cDom N) ad (cDe ad N cI cJ cL cN) (some (.int o.1)) o.2) 0 0 (xA (cDom N) ad) := by
  unfold c4_releaseKept at h
  refine x_enter (by decide) (Nat.le_of_ble_eq_true rfl) (fun p e s m below meth c F hr hlk hK hW hS ls hl => ?_)
  have hl : lv_has ls 2 [(0, .ref (ad n j))] := hl
  have hx := F.1
  have hb := F.2.1
  refine lv_aload_n hx hb dX4_releaseKept_0 rfl (lv_at hl 0 rfl) ?_
  refine x_get F hK hW xc_X4 (cd_dX4 hj) (cd_eX4 hN hj) 10 (by decide) k_2_33 (rfl) dX4_releaseKept_1 ?_
  refine lv_istore_n (lv' := [(1, .int (xI S n j 10)), (0, .ref (ad n j))]) hx hb dX4_releaseKept_4 rfl hl (by decide) rfl (fun ls hl => ?_)
  refine lv_aload_n hx hb dX4_releaseKept_5 rfl (lv_at hl 1 rfl) ?_
  refine lv_iconst (v := (-1 : Int32)) hx hb dX4_releaseKept_6 (by decide) ?_
  refine x_put F hK hI hW hS xc_X4 (cd_dX4 hj) (cd_eX4 hN hj) 10 (by decide) k_2_33 rfl (v := (-1 : Int32)) rfl rfl (fun _ _ => rfl) (fun _ _ => Nat.le_of_ble_eq_true rfl) dX4_releaseKept_7 h (fun S1 H locs hW hS h => ?_)
  refine lv_iload_n hx hb dX4_releaseKept_10 rfl (lv_at hl 0 rfl) ?_
  exact x_iret F hr hlk hW hS dX4_releaseKept_11 h
/-! X5_setByte -/
def c5_setByte (n j : Nat) (S : xS) (a1 : Int32) (a2 : Int32) : Option (xS) := if ((a1 &&& (65535 : Int32)) - (32768 : Int32)) < 0 then (xnm (sI S n j 1 (1 : Int32)) (fun S2 => some S2)) else (if ((a1 &&& (65535 : Int32)) - (32768 : Int32)) < (4096 : Int32) then (gd (((a1 &&& (65535 : Int32)) - (32768 : Int32)) >>> ((3 : Int32) &&& 31)) 512 (gd (((a1 &&& (65535 : Int32)) - (32768 : Int32)) >>> ((3 : Int32) &&& 31)) 512 (xnm (sJ S n (j + 1) ((((a1 &&& (65535 : Int32)) - (32768 : Int32)) >>> ((3 : Int32) &&& 31))).toNatClampNeg (((xJ S n (j + 1) ((((a1 &&& (65535 : Int32)) - (32768 : Int32)) >>> ((3 : Int32) &&& 31))).toNatClampNeg) &&& ((jlshl (255 : Int64) ((((a1 &&& (65535 : Int32)) - (32768 : Int32)) &&& (7 : Int32)) <<< ((3 : Int32) &&& 31))) ^^^ (-1 : Int64))) ||| (jlshl ((a2.toInt64) &&& (255 : Int64)) ((((a1 &&& (65535 : Int32)) - (32768 : Int32)) &&& (7 : Int32)) <<< ((3 : Int32) &&& 31))))) (fun S4 => some S4)))) else (xnm (sI S n j 1 (1 : Int32)) (fun S5 => some S5)))
set_option maxHeartbeats 4000000 in
set_option maxRecDepth 100000 in
theorem m_c5_setByte {l : Launch} {D : va_G} {cI cJ cL cN : ClassId} {ad : Nat → Nat → Nat} {N : Nat} (hN : N ≤ 8) (hI : xInj (cDom N) ad) {n j : Nat} (hj : isX5 N n j) {S : xS} (a1 : Int32) (a2 : Int32) {o : xS} (h : c5_setByte n j S a1 a2 = some o) : Met l yX5_setByte (Cond.code yX5_setByte cX5_setByte 7 none :: xG) { frames := 0, cells := 0, slots := 0, locals := 0 } (xPc D vwCl (cTy cI cJ cL cN) cNf cNm (cDom N) ad (cDe ad N cI cJ cL cN) [.ref (ad n j), .int a1, .int a2] S) (xQ D vwCl (cDom N) ad (cDe ad N cI cJ cL cN) none o) 0 0 (xA (cDom N) ad) := by
  unfold c5_setByte at h
  refine x_enter (by decide) (Nat.le_of_ble_eq_true rfl) (fun p e s m below meth c F hr hlk hK hW hS ls hl => ?_)
  have hl : lv_has ls 7 [(0, .ref (ad n j)), (1, .int a1), (2, .int a2)] := hl
  have hx := F.1
  have hb := F.2.1
  refine lv_iload_n hx hb dX5_setByte_0 rfl (lv_at hl 1 rfl) ?_
  refine lv_ldc (v := (65535 : Int32)) hx hb F.2.2.2.1 (x_hts F _ k_2_219) dX5_setByte_1 ?_
  refine lv_iand hx hb dX5_setByte_3 ?_
  refine lv_ldc (v := (32768 : Int32)) hx hb F.2.2.2.1 (x_hts F _ k_1_204) dX5_setByte_4 ?_
  refine lv_isub hx hb dX5_setByte_6 ?_
  refine lv_istore_n (lv' := [(3, .int ((a1 &&& (65535 : Int32)) - (32768 : Int32))), (0, .ref (ad n j)), (1, .int a1), (2, .int a2)]) hx hb dX5_setByte_7 rfl hl (by decide) rfl (fun ls hl => ?_)
  refine lv_iload_n hx hb dX5_setByte_8 rfl (lv_at hl 0 rfl) ?_
  refine lv_if_lt (tgt := 19) hx hb dX5_setByte_9 (by decide) (fun c_1 => ?_) (fun c_1 => ?_)
  · replace h := (if_pos c_1).symm.trans h
    refine lv_aload_n hx hb dX5_setByte_19 rfl (lv_at hl 1 rfl) ?_
    refine lv_iconst (v := (1 : Int32)) hx hb dX5_setByte_20 (by decide) ?_
    refine x_put F hK hI hW hS xc_X5 (cd_dX5 hj) (cd_eX5 hN hj) 1 (by decide) k_1_48 rfl (v := (1 : Int32)) rfl rfl (fun _ _ => rfl) (fun _ _ => Nat.le_of_ble_eq_true rfl) dX5_setByte_21 h (fun S2 H locs hW hS h => ?_)
    exact x_vret F hr hlk hW hS dX5_setByte_24 h
  replace h := (if_neg c_1).symm.trans h
  refine lv_iload_n hx hb dX5_setByte_12 rfl (lv_at hl 0 rfl) ?_
  refine lv_sipush (v := (4096 : Int32)) hx hb dX5_setByte_13 (by decide) ?_
  refine lv_icmp_lt (tgt := 25) hx hb dX5_setByte_16 (by decide) (fun c_3 => ?_) (fun c_3 => ?_)
  · replace h := (if_pos c_3).symm.trans h
    refine lv_iload_n hx hb dX5_setByte_25 rfl (lv_at hl 0 rfl) ?_
    refine lv_bipush (v := (7 : Int32)) hx hb dX5_setByte_26 (by decide) ?_
    refine lv_iand hx hb dX5_setByte_28 ?_
    refine lv_iconst (v := (3 : Int32)) hx hb dX5_setByte_29 (by decide) ?_
    refine lv_ishl hx hb dX5_setByte_30 ?_
    refine lv_istore (lv' := [(4, .int ((((a1 &&& (65535 : Int32)) - (32768 : Int32)) &&& (7 : Int32)) <<< ((3 : Int32) &&& 31))), (3, .int ((a1 &&& (65535 : Int32)) - (32768 : Int32))), (0, .ref (ad n j)), (1, .int a1), (2, .int a2)]) hx hb dX5_setByte_31 hl (by decide) rfl (fun ls hl => ?_)
    refine lv_aload_n hx hb dX5_setByte_33 rfl (lv_at hl 2 rfl) ?_
    refine x_get F hK hW xc_X5 (cd_dX5 hj) (cd_eX5 hN hj) 0 (by decide) k_1_47 (rfl) dX5_setByte_34 ?_
    refine lv_iload_n hx hb dX5_setByte_37 rfl (lv_at hl 1 rfl) ?_
    refine lv_iconst (v := (3 : Int32)) hx hb dX5_setByte_38 (by decide) ?_
    refine lv_ishr hx hb dX5_setByte_39 ?_
    refine x_lald (t0 := 1) F hK hW (cd_dAJ hj) (cd_eAJ hN hj) rfl dX5_setByte_40 h (fun h => ?_)
    refine lv_ldc2 (v := (255 : Int64)) hx hb F.2.2.2.1 (x_hts F _ k_2_220) dX5_setByte_41 ?_
    refine lv_iload hx hb dX5_setByte_44 (lv_at hl 0 rfl) ?_
    refine lv_lshl (v := (jlshl (255 : Int64) ((((a1 &&& (65535 : Int32)) - (32768 : Int32)) &&& (7 : Int32)) <<< ((3 : Int32) &&& 31)))) hx hb dX5_setByte_46 rfl ?_
    refine lv_ldc2 (v := (-1 : Int64)) hx hb F.2.2.2.1 (x_hts F _ k_1_206) dX5_setByte_47 ?_
    refine lv_lxor hx hb dX5_setByte_50 ?_
    refine lv_land hx hb dX5_setByte_51 ?_
    refine lv_lstore (lv' := [(5, .long ((xJ S n (j + 1) ((((a1 &&& (65535 : Int32)) - (32768 : Int32)) >>> ((3 : Int32) &&& 31))).toNatClampNeg) &&& ((jlshl (255 : Int64) ((((a1 &&& (65535 : Int32)) - (32768 : Int32)) &&& (7 : Int32)) <<< ((3 : Int32) &&& 31))) ^^^ (-1 : Int64)))), (4, .int ((((a1 &&& (65535 : Int32)) - (32768 : Int32)) &&& (7 : Int32)) <<< ((3 : Int32) &&& 31))), (3, .int ((a1 &&& (65535 : Int32)) - (32768 : Int32))), (0, .ref (ad n j)), (1, .int a1), (2, .int a2)]) hx hb dX5_setByte_52 hl (by decide) rfl (fun ls hl => ?_)
    refine lv_aload_n hx hb dX5_setByte_54 rfl (lv_at hl 3 rfl) ?_
    refine x_get F hK hW xc_X5 (cd_dX5 hj) (cd_eX5 hN hj) 0 (by decide) k_1_47 (rfl) dX5_setByte_55 ?_
    refine lv_iload_n hx hb dX5_setByte_58 rfl (lv_at hl 2 rfl) ?_
    refine lv_iconst (v := (3 : Int32)) hx hb dX5_setByte_59 (by decide) ?_
    refine lv_ishr hx hb dX5_setByte_60 ?_
    refine lv_lload hx hb dX5_setByte_61 (lv_at hl 0 rfl) ?_
    refine lv_iload_n hx hb dX5_setByte_63 rfl (lv_at hl 5 rfl) ?_
    refine lv_i2l (v := a2.toInt64) hx hb dX5_setByte_64 rfl ?_
    refine lv_ldc2 (v := (255 : Int64)) hx hb F.2.2.2.1 (x_hts F _ k_2_220) dX5_setByte_65 ?_
    refine lv_land hx hb dX5_setByte_68 ?_
    refine lv_iload hx hb dX5_setByte_69 (lv_at hl 1 rfl) ?_
    refine lv_lshl (v := (jlshl ((a2.toInt64) &&& (255 : Int64)) ((((a1 &&& (65535 : Int32)) - (32768 : Int32)) &&& (7 : Int32)) <<< ((3 : Int32) &&& 31)))) hx hb dX5_setByte_71 rfl ?_
    refine lv_lor hx hb dX5_setByte_72 ?_
    refine x_last (t0 := 1) F hK hI hW hS (cd_dAJ hj) (cd_eAJ hN hj) rfl dX5_setByte_73 h (fun S4 H locs hW hS h => ?_)
    exact x_vret F hr hlk hW hS dX5_setByte_74 h
  replace h := (if_neg c_3).symm.trans h
  refine lv_aload_n hx hb dX5_setByte_19 rfl (lv_at hl 1 rfl) ?_
  refine lv_iconst (v := (1 : Int32)) hx hb dX5_setByte_20 (by decide) ?_
  refine x_put F hK hI hW hS xc_X5 (cd_dX5 hj) (cd_eX5 hN hj) 1 (by decide) k_1_48 rfl (v := (1 : Int32)) rfl rfl (fun _ _ => rfl) (fun _ _ => Nat.le_of_ble_eq_true rfl) dX5_setByte_21 h (fun S5 H locs hW hS h => ?_)
  exact x_vret F hr hlk hW hS dX5_setByte_24 h
/-! X4_deliver -/
def c4_deliver (n j : Nat) (S : xS) (a1 : Int32) : Option (xS) := (c5_setByte n 2 S (xI S n j 9) a1).bind (fun S1 => xnm (sI S1 n (j + 4) 6 ((xI S1 n (j + 4) 6) + (1 : Int32))) (fun S2 => xnm (sI S2 n j 9 ((xI S2 n j 9) + (1 : Int32))) (fun S3 => xnm (sI S3 n j 8 ((xI S3 n j 8) - (1 : Int32))) (fun S4 => if (xI S4 n j 8) = 0 then (xnm (sI S4 n j 7 (-1 : Int32)) (fun S6 => some S6)) else (some S4)))))
set_option maxHeartbeats 4000000 in
set_option maxRecDepth 100000 in
theorem m_c4_deliver {l : Launch} {D : va_G} {cI cJ cL cN : ClassId} {ad : Nat → Nat → Nat} {N : Nat} (hN : N ≤ 8) (hI : xInj (cDom N) ad) {n j : Nat} (hj : isX4 N n j) {S : xS} (a1 : Int32) {o : xS} (h : c4_deliver n j S a1 = some o) : Met l yX4_deliver (Cond.code yX4_deliver cX4_deliver 2 none :: xG) { frames := 1, cells := 0, slots := 0, locals := 26 } (xPc D vwCl (cTy cI cJ cL cN) cNf cNm (cDom N) ad (cDe ad N cI cJ cL cN) [.ref (ad n j), .int a1] S) (xQ D vwCl (cDom N) ad (cDe ad N cI cJ cL cN) none o) 0 0 (xA (cDom N) ad) := by
  unfold c4_deliver at h
  refine x_enter (by decide) (Nat.le_of_ble_eq_true rfl) (fun p e s m below meth c F hr hlk hK hW hS ls hl => ?_)
  have hl : lv_has ls 2 [(0, .ref (ad n j)), (1, .int a1)] := hl
  have hx := F.1
  have hb := F.2.1
  refine lv_aload_n hx hb dX4_deliver_0 rfl (lv_at hl 0 rfl) ?_
  refine x_get F hK hW xc_X4 (cd_dX4 hj) (cd_eX4 hN hj) 0 (by decide) k_2_18 (rfl) dX4_deliver_1 ?_
  refine x_getN F hK hW xc_X1 (cd_dX1 (hj).1) (cd_eX1 hN (hj).1) 0 (by decide) kn_27 (rfl) dX4_deliver_4 ?_
  refine lv_aload_n hx hb dX4_deliver_7 rfl (lv_at hl 0 rfl) ?_
  refine x_get F hK hW xc_X4 (cd_dX4 hj) (cd_eX4 hN hj) 9 (by decide) k_2_32 (rfl) dX4_deliver_8 ?_
  refine lv_iload_n hx hb dX4_deliver_11 rfl (lv_at hl 1 rfl) ?_
  refine x_cVv (As := [.int (xI S n j 9), .int a1]) F xG_ok hK hW hS um_X5_setByte k_3_114 (fun _ h1 => m_c5_setByte hN hI (is5n (hj).1) _ _ h1) rfl (cd_dX5 (is5n (hj).1)) (cd_eX5 hN (is5n (hj).1)) rfl rfl hl.1 rfl rfl ⟨Nat.le_of_ble_eq_true rfl, Nat.le_of_ble_eq_true rfl⟩ ⟨Nat.zero_le _, Nat.zero_le _⟩ (Nat.le_of_ble_eq_true rfl) dX4_deliver_12 h (fun S1 H locs hW hS h => ?_)
  refine lv_aload_n hx hb dX4_deliver_15 rfl (lv_at hl 0 rfl) ?_
  refine x_get F hK hW xc_X4 (cd_dX4 hj) (cd_eX4 hN hj) 1 (by decide) k_2_19 (rfl) dX4_deliver_16 ?_
  refine lv_dup hx hb dX4_deliver_19 rfl ?_
  refine x_getN F hK hW xc_X2 (cd_dX2 (is2l hj)) (cd_eX2 hN (is2l hj)) 6 (by decide) kn_45 (rfl) dX4_deliver_20 ?_
  refine lv_iconst (v := (1 : Int32)) hx hb dX4_deliver_23 (by decide) ?_
  refine lv_iadd hx hb dX4_deliver_24 ?_
  refine x_putN F hK hI hW hS xc_X2 (cd_dX2 (is2l hj)) (cd_eX2 hN (is2l hj)) 6 (by decide) kn_45 rfl (v := ((xI S1 n (j + 4) 6) + (1 : Int32))) rfl rfl (fun _ _ => rfl) (fun _ _ => Nat.le_of_ble_eq_true rfl) dX4_deliver_25 h (fun S2 H locs hW hS h => ?_)
  refine lv_aload_n hx hb dX4_deliver_28 rfl (lv_at hl 0 rfl) ?_
  refine lv_dup hx hb dX4_deliver_29 rfl ?_
  refine x_get F hK hW xc_X4 (cd_dX4 hj) (cd_eX4 hN hj) 9 (by decide) k_2_32 (rfl) dX4_deliver_30 ?_
  refine lv_iconst (v := (1 : Int32)) hx hb dX4_deliver_33 (by decide) ?_
  refine lv_iadd hx hb dX4_deliver_34 ?_
  refine x_put F hK hI hW hS xc_X4 (cd_dX4 hj) (cd_eX4 hN hj) 9 (by decide) k_2_32 rfl (v := ((xI S2 n j 9) + (1 : Int32))) rfl rfl (fun _ _ => rfl) (fun _ _ => Nat.le_of_ble_eq_true rfl) dX4_deliver_35 h (fun S3 H locs hW hS h => ?_)
  refine lv_aload_n hx hb dX4_deliver_38 rfl (lv_at hl 0 rfl) ?_
  refine lv_dup hx hb dX4_deliver_39 rfl ?_
  refine x_get F hK hW xc_X4 (cd_dX4 hj) (cd_eX4 hN hj) 8 (by decide) k_2_31 (rfl) dX4_deliver_40 ?_
  refine lv_iconst (v := (1 : Int32)) hx hb dX4_deliver_43 (by decide) ?_
  refine lv_isub hx hb dX4_deliver_44 ?_
  refine x_put F hK hI hW hS xc_X4 (cd_dX4 hj) (cd_eX4 hN hj) 8 (by decide) k_2_31 rfl (v := ((xI S3 n j 8) - (1 : Int32))) rfl rfl (fun _ _ => rfl) (fun _ _ => Nat.le_of_ble_eq_true rfl) dX4_deliver_45 h (fun S4 H locs hW hS h => ?_)
  refine lv_aload_n hx hb dX4_deliver_48 rfl (lv_at hl 0 rfl) ?_
  refine x_get F hK hW xc_X4 (cd_dX4 hj) (cd_eX4 hN hj) 8 (by decide) k_2_31 (rfl) dX4_deliver_49 ?_
  refine lv_if_ne (tgt := 60) hx hb dX4_deliver_52 (by decide) (fun c_5 => ?_) (fun c_5 => ?_)
  · replace h := (if_neg c_5).symm.trans h
    exact x_vret F hr hlk hW hS dX4_deliver_60 h
  replace h := (if_pos c_5).symm.trans h
  refine lv_aload_n hx hb dX4_deliver_55 rfl (lv_at hl 0 rfl) ?_
  refine lv_iconst (v := (-1 : Int32)) hx hb dX4_deliver_56 (by decide) ?_
  refine x_put F hK hI hW hS xc_X4 (cd_dX4 hj) (cd_eX4 hN hj) 7 (by decide) k_2_29 rfl (v := (-1 : Int32)) rfl rfl (fun _ _ => rfl) (fun _ _ => Nat.le_of_ble_eq_true rfl) dX4_deliver_57 h (fun S6 H locs hW hS h => ?_)
  exact x_vret F hr hlk hW hS dX4_deliver_60 h
/-! X5_setWord -/
def c5_setWord (n j : Nat) (S : xS) (a1 : Int32) (a2 : Int32) : Option (xS) := if ((a1 &&& (65534 : Int32)) - (32768 : Int32)) < 0 then (xnm (sI S n j 1 (1 : Int32)) (fun S2 => some S2)) else (if ((a1 &&& (65534 : Int32)) - (32768 : Int32)) < (4096 : Int32) then (gd (((a1 &&& (65534 : Int32)) - (32768 : Int32)) >>> ((3 : Int32) &&& 31)) 512 (gd (((a1 &&& (65534 : Int32)) - (32768 : Int32)) >>> ((3 : Int32) &&& 31)) 512 (xnm (sJ S n (j + 1) ((((a1 &&& (65534 : Int32)) - (32768 : Int32)) >>> ((3 : Int32) &&& 31))).toNatClampNeg (((xJ S n (j + 1) ((((a1 &&& (65534 : Int32)) - (32768 : Int32)) >>> ((3 : Int32) &&& 31))).toNatClampNeg) &&& ((jlshl (65535 : Int64) ((((a1 &&& (65534 : Int32)) - (32768 : Int32)) &&& (7 : Int32)) <<< ((3 : Int32) &&& 31))) ^^^ (-1 : Int64))) ||| (jlshl ((a2.toInt64) &&& (65535 : Int64)) ((((a1 &&& (65534 : Int32)) - (32768 : Int32)) &&& (7 : Int32)) <<< ((3 : Int32) &&& 31))))) (fun S4 => some S4)))) else (xnm (sI S n j 1 (1 : Int32)) (fun S5 => some S5)))
set_option maxHeartbeats 4000000 in
set_option maxRecDepth 100000 in
theorem m_c5_setWord {l : Launch} {D : va_G} {cI cJ cL cN : ClassId} {ad : Nat → Nat → Nat} {N : Nat} (hN : N ≤ 8) (hI : xInj (cDom N) ad) {n j : Nat} (hj : isX5 N n j) {S : xS} (a1 : Int32) (a2 : Int32) {o : xS} (h : c5_setWord n j S a1 a2 = some o) : Met l yX5_setWord (Cond.code yX5_setWord cX5_setWord 7 none :: xG) { frames := 0, cells := 0, slots := 0, locals := 0 } (xPc D vwCl (cTy cI cJ cL cN) cNf cNm (cDom N) ad (cDe ad N cI cJ cL cN) [.ref (ad n j), .int a1, .int a2] S) (xQ D vwCl (cDom N) ad (cDe ad N cI cJ cL cN) none o) 0 0 (xA (cDom N) ad) := by
  unfold c5_setWord at h
  refine x_enter (by decide) (Nat.le_of_ble_eq_true rfl) (fun p e s m below meth c F hr hlk hK hW hS ls hl => ?_)
  have hl : lv_has ls 7 [(0, .ref (ad n j)), (1, .int a1), (2, .int a2)] := hl
  have hx := F.1
  have hb := F.2.1
  refine lv_iload_n hx hb dX5_setWord_0 rfl (lv_at hl 1 rfl) ?_
  refine lv_ldc (v := (65534 : Int32)) hx hb F.2.2.2.1 (x_hts F _ k_1_203) dX5_setWord_1 ?_
  refine lv_iand hx hb dX5_setWord_3 ?_
  refine lv_ldc (v := (32768 : Int32)) hx hb F.2.2.2.1 (x_hts F _ k_1_204) dX5_setWord_4 ?_
  refine lv_isub hx hb dX5_setWord_6 ?_
  refine lv_istore_n (lv' := [(3, .int ((a1 &&& (65534 : Int32)) - (32768 : Int32))), (0, .ref (ad n j)), (1, .int a1), (2, .int a2)]) hx hb dX5_setWord_7 rfl hl (by decide) rfl (fun ls hl => ?_)
  refine lv_iload_n hx hb dX5_setWord_8 rfl (lv_at hl 0 rfl) ?_
  refine lv_if_lt (tgt := 19) hx hb dX5_setWord_9 (by decide) (fun c_1 => ?_) (fun c_1 => ?_)
  · replace h := (if_pos c_1).symm.trans h
    refine lv_aload_n hx hb dX5_setWord_19 rfl (lv_at hl 1 rfl) ?_
    refine lv_iconst (v := (1 : Int32)) hx hb dX5_setWord_20 (by decide) ?_
    refine x_put F hK hI hW hS xc_X5 (cd_dX5 hj) (cd_eX5 hN hj) 1 (by decide) k_1_48 rfl (v := (1 : Int32)) rfl rfl (fun _ _ => rfl) (fun _ _ => Nat.le_of_ble_eq_true rfl) dX5_setWord_21 h (fun S2 H locs hW hS h => ?_)
    exact x_vret F hr hlk hW hS dX5_setWord_24 h
  replace h := (if_neg c_1).symm.trans h
  refine lv_iload_n hx hb dX5_setWord_12 rfl (lv_at hl 0 rfl) ?_
  refine lv_sipush (v := (4096 : Int32)) hx hb dX5_setWord_13 (by decide) ?_
  refine lv_icmp_lt (tgt := 25) hx hb dX5_setWord_16 (by decide) (fun c_3 => ?_) (fun c_3 => ?_)
  · replace h := (if_pos c_3).symm.trans h
    refine lv_iload_n hx hb dX5_setWord_25 rfl (lv_at hl 0 rfl) ?_
    refine lv_bipush (v := (7 : Int32)) hx hb dX5_setWord_26 (by decide) ?_
    refine lv_iand hx hb dX5_setWord_28 ?_
    refine lv_iconst (v := (3 : Int32)) hx hb dX5_setWord_29 (by decide) ?_
    refine lv_ishl hx hb dX5_setWord_30 ?_
    refine lv_istore (lv' := [(4, .int ((((a1 &&& (65534 : Int32)) - (32768 : Int32)) &&& (7 : Int32)) <<< ((3 : Int32) &&& 31))), (3, .int ((a1 &&& (65534 : Int32)) - (32768 : Int32))), (0, .ref (ad n j)), (1, .int a1), (2, .int a2)]) hx hb dX5_setWord_31 hl (by decide) rfl (fun ls hl => ?_)
    refine lv_aload_n hx hb dX5_setWord_33 rfl (lv_at hl 2 rfl) ?_
    refine x_get F hK hW xc_X5 (cd_dX5 hj) (cd_eX5 hN hj) 0 (by decide) k_1_47 (rfl) dX5_setWord_34 ?_
    refine lv_iload_n hx hb dX5_setWord_37 rfl (lv_at hl 1 rfl) ?_
    refine lv_iconst (v := (3 : Int32)) hx hb dX5_setWord_38 (by decide) ?_
    refine lv_ishr hx hb dX5_setWord_39 ?_
    refine x_lald (t0 := 1) F hK hW (cd_dAJ hj) (cd_eAJ hN hj) rfl dX5_setWord_40 h (fun h => ?_)
    refine lv_ldc2 (v := (65535 : Int64)) hx hb F.2.2.2.1 (x_hts F _ k_1_205) dX5_setWord_41 ?_
    refine lv_iload hx hb dX5_setWord_44 (lv_at hl 0 rfl) ?_
    refine lv_lshl (v := (jlshl (65535 : Int64) ((((a1 &&& (65534 : Int32)) - (32768 : Int32)) &&& (7 : Int32)) <<< ((3 : Int32) &&& 31)))) hx hb dX5_setWord_46 rfl ?_
    refine lv_ldc2 (v := (-1 : Int64)) hx hb F.2.2.2.1 (x_hts F _ k_1_206) dX5_setWord_47 ?_
    refine lv_lxor hx hb dX5_setWord_50 ?_
    refine lv_land hx hb dX5_setWord_51 ?_
    refine lv_lstore (lv' := [(5, .long ((xJ S n (j + 1) ((((a1 &&& (65534 : Int32)) - (32768 : Int32)) >>> ((3 : Int32) &&& 31))).toNatClampNeg) &&& ((jlshl (65535 : Int64) ((((a1 &&& (65534 : Int32)) - (32768 : Int32)) &&& (7 : Int32)) <<< ((3 : Int32) &&& 31))) ^^^ (-1 : Int64)))), (4, .int ((((a1 &&& (65534 : Int32)) - (32768 : Int32)) &&& (7 : Int32)) <<< ((3 : Int32) &&& 31))), (3, .int ((a1 &&& (65534 : Int32)) - (32768 : Int32))), (0, .ref (ad n j)), (1, .int a1), (2, .int a2)]) hx hb dX5_setWord_52 hl (by decide) rfl (fun ls hl => ?_)
    refine lv_aload_n hx hb dX5_setWord_54 rfl (lv_at hl 3 rfl) ?_
    refine x_get F hK hW xc_X5 (cd_dX5 hj) (cd_eX5 hN hj) 0 (by decide) k_1_47 (rfl) dX5_setWord_55 ?_
    refine lv_iload_n hx hb dX5_setWord_58 rfl (lv_at hl 2 rfl) ?_
    refine lv_iconst (v := (3 : Int32)) hx hb dX5_setWord_59 (by decide) ?_
    refine lv_ishr hx hb dX5_setWord_60 ?_
    refine lv_lload hx hb dX5_setWord_61 (lv_at hl 0 rfl) ?_
    refine lv_iload_n hx hb dX5_setWord_63 rfl (lv_at hl 5 rfl) ?_
    refine lv_i2l (v := a2.toInt64) hx hb dX5_setWord_64 rfl ?_
    refine lv_ldc2 (v := (65535 : Int64)) hx hb F.2.2.2.1 (x_hts F _ k_1_205) dX5_setWord_65 ?_
    refine lv_land hx hb dX5_setWord_68 ?_
    refine lv_iload hx hb dX5_setWord_69 (lv_at hl 1 rfl) ?_
    refine lv_lshl (v := (jlshl ((a2.toInt64) &&& (65535 : Int64)) ((((a1 &&& (65534 : Int32)) - (32768 : Int32)) &&& (7 : Int32)) <<< ((3 : Int32) &&& 31)))) hx hb dX5_setWord_71 rfl ?_
    refine lv_lor hx hb dX5_setWord_72 ?_
    refine x_last (t0 := 1) F hK hI hW hS (cd_dAJ hj) (cd_eAJ hN hj) rfl dX5_setWord_73 h (fun S4 H locs hW hS h => ?_)
    exact x_vret F hr hlk hW hS dX5_setWord_74 h
  replace h := (if_neg c_3).symm.trans h
  refine lv_aload_n hx hb dX5_setWord_19 rfl (lv_at hl 1 rfl) ?_
  refine lv_iconst (v := (1 : Int32)) hx hb dX5_setWord_20 (by decide) ?_
  refine x_put F hK hI hW hS xc_X5 (cd_dX5 hj) (cd_eX5 hN hj) 1 (by decide) k_1_48 rfl (v := (1 : Int32)) rfl rfl (fun _ _ => rfl) (fun _ _ => Nat.le_of_ble_eq_true rfl) dX5_setWord_21 h (fun S5 H locs hW hS h => ?_)
  exact x_vret F hr hlk hW hS dX5_setWord_24 h
/-! X1_leaveWaiting -/
def c1_leaveWaiting (n : Nat) (S : xS)  : Option (xS) := (c5_setWord n 2 S ((xI S n 4 5) - (2 : Int32)) (xI S n 4 4)).bind (fun S1 => xnm (sI S1 n 4 6 (2 : Int32)) (fun S2 => some S2))
set_option maxHeartbeats 4000000 in
set_option maxRecDepth 100000 in
theorem m_c1_leaveWaiting {l : Launch} {D : va_G} {cI cJ cL cN : ClassId} {ad : Nat → Nat → Nat} {N : Nat} (hN : N ≤ 8) (hI : xInj (cDom N) ad) {n : Nat} (hn : n < N) {S : xS}  {o : xS} (h : c1_leaveWaiting n S  = some o) : Met l yX1_leaveWaiting (Cond.code yX1_leaveWaiting cX1_leaveWaiting 1 none :: xG) { frames := 1, cells := 0, slots := 0, locals := 26 } (xPc D vwCl (cTy cI cJ cL cN) cNf cNm (cDom N) ad (cDe ad N cI cJ cL cN) [.ref (ad n 1)] S) (xQ D vwCl (cDom N) ad (cDe ad N cI cJ cL cN) none o) 0 0 (xA (cDom N) ad) := by
  unfold c1_leaveWaiting at h
  refine x_enter (by decide) (Nat.le_of_ble_eq_true rfl) (fun p e s m below meth c F hr hlk hK hW hS ls hl => ?_)
  have hl : lv_has ls 1 [(0, .ref (ad n 1))] := hl
  have hx := F.1
  have hb := F.2.1
  refine lv_aload_n hx hb dX1_leaveWaiting_0 rfl (lv_at hl 0 rfl) ?_
  refine x_get F hK hW xc_X1 (cd_dX1 hn) (cd_eX1 hN hn) 0 (by decide) k_1_148 (rfl) dX1_leaveWaiting_1 ?_
  refine lv_aload_n hx hb dX1_leaveWaiting_4 rfl (lv_at hl 0 rfl) ?_
  refine x_get F hK hW xc_X1 (cd_dX1 hn) (cd_eX1 hN hn) 1 (by decide) k_1_156 (rfl) dX1_leaveWaiting_5 ?_
  refine x_getN F hK hW xc_X9 (cd_dX9 ⟨hn, Or.inl rfl⟩) (cd_eX9 hN ⟨hn, Or.inl rfl⟩) 5 (by decide) kn_14 (rfl) dX1_leaveWaiting_8 ?_
  refine lv_iconst (v := (2 : Int32)) hx hb dX1_leaveWaiting_11 (by decide) ?_
  refine lv_isub hx hb dX1_leaveWaiting_12 ?_
  refine lv_aload_n hx hb dX1_leaveWaiting_13 rfl (lv_at hl 0 rfl) ?_
  refine x_get F hK hW xc_X1 (cd_dX1 hn) (cd_eX1 hN hn) 1 (by decide) k_1_156 (rfl) dX1_leaveWaiting_14 ?_
  refine x_getN F hK hW xc_X9 (cd_dX9 ⟨hn, Or.inl rfl⟩) (cd_eX9 hN ⟨hn, Or.inl rfl⟩) 4 (by decide) kn_13 (rfl) dX1_leaveWaiting_17 ?_
  refine x_cVv (As := [.int ((xI S n 4 5) - (2 : Int32)), .int (xI S n 4 4)]) F xG_ok hK hW hS um_X5_setWord k_3_81 (fun _ h1 => m_c5_setWord hN hI (is5n hn) _ _ h1) rfl (cd_dX5 (is5n hn)) (cd_eX5 hN (is5n hn)) rfl rfl hl.1 rfl rfl ⟨Nat.le_of_ble_eq_true rfl, Nat.le_of_ble_eq_true rfl⟩ ⟨Nat.zero_le _, Nat.zero_le _⟩ (Nat.le_of_ble_eq_true rfl) dX1_leaveWaiting_20 h (fun S1 H locs hW hS h => ?_)
  refine lv_aload_n hx hb dX1_leaveWaiting_23 rfl (lv_at hl 0 rfl) ?_
  refine x_get F hK hW xc_X1 (cd_dX1 hn) (cd_eX1 hN hn) 1 (by decide) k_1_156 (rfl) dX1_leaveWaiting_24 ?_
  refine lv_iconst (v := (2 : Int32)) hx hb dX1_leaveWaiting_27 (by decide) ?_
  refine x_putN F hK hI hW hS xc_X9 (cd_dX9 ⟨hn, Or.inl rfl⟩) (cd_eX9 hN ⟨hn, Or.inl rfl⟩) 6 (by decide) kn_16 rfl (v := (2 : Int32)) rfl rfl (fun _ _ => rfl) (fun _ _ => Nat.le_of_ble_eq_true rfl) dX1_leaveWaiting_28 h (fun S2 H locs hW hS h => ?_)
  exact x_vret F hr hlk hW hS dX1_leaveWaiting_31 h
/-! X0_inputFromLink -/
def c0_inputFromLink_b58 (n : Nat) (j2 : Nat)  (S : xS) : Option (xS) := if (xI S n j2 7) = (-1 : Int32) then (some S) else ((c1_leaveWaiting n S ).bind (fun S8 => some S8))
set_option maxHeartbeats 4000000 in
set_option maxRecDepth 100000 in
theorem m_c0_inputFromLink_b58 {l : Launch} {D : va_G} {cI cJ cL cN : ClassId} {ad : Nat → Nat → Nat} {N : Nat} (hN : N ≤ 8) (hI : xInj (cDom N) ad) {n : Nat} (hn : n < N) {j2 : Nat} (hj2 : isX4 N n j2) {p : Program} {e : Env} {s : State} {m : MethodId} {args : Array Value} {below : List Frame} {meth : Method} {c : Code} (F : CallFix p m c cX0_inputFromLink 4 s args (Cond.code yX0_inputFromLink cX0_inputFromLink 4 none :: xG) (yX0_inputFromLink).cls) (hr : meth.sig.returnType = none) (hlk : meth.locks = false) (hK : xK D vwCl (cTy cI cJ cL cN) cNf cNm s) {o : xS}  (S : xS) {H : Heap} {locs : List Loc} {ls : Array Slot} (h : c0_inputFromLink_b58 n j2  S = some o) (hW : xW D vwCl (cDom N) ad (cDe ad N cI cJ cL cN) S H) (hS : va_S (xA (cDom N) ad) s.heap H locs) (hl : lv_has ls 4 [(0, .ref (ad n 21)), (1, .ref (ad n j2))]) : W p l e { frames := 2, cells := 0, slots := 0, locals := 47 } s m args below meth c H locs 0 0 (MQ below (xQ D vwCl (cDom N) ad (cDe ad N cI cJ cL cN) none o) args s 0 0 (xA (cDom N) ad)) (F0 m 58 ls []) := by
  have hx := F.1
  have hb := F.2.1
  unfold c0_inputFromLink_b58 at h
  refine lv_aload_n hx hb dX0_inputFromLink_58 rfl (lv_at hl 1 rfl) ?_
  refine x_getN F hK hW xc_X4 (cd_dX4 hj2) (cd_eX4 hN hj2) 7 (by decide) kn_52 (rfl) dX0_inputFromLink_59 ?_
  refine lv_iconst (v := (-1 : Int32)) hx hb dX0_inputFromLink_62 (by decide) ?_
  refine lv_icmp_eq (tgt := 73) hx hb dX0_inputFromLink_63 (by decide) (fun c_7 => ?_) (fun c_7 => ?_)
  · replace h := (if_pos c_7).symm.trans h
    exact x_vret F hr hlk hW hS dX0_inputFromLink_73 h
  replace h := (if_neg c_7).symm.trans h
  refine lv_aload_n hx hb dX0_inputFromLink_66 rfl (lv_at hl 0 rfl) ?_
  refine x_get F hK hW xc_X0 (cd_dX0 hn) (cd_eX0 hN hn) 0 (by decide) k_2_72 (rfl) dX0_inputFromLink_67 ?_
  refine x_cVv (As := []) F xG_ok hK hW hS um_X1_leaveWaiting k_4_204 (fun _ h1 => m_c1_leaveWaiting hN hI hn  h1) rfl (cd_dX1 hn) (cd_eX1 hN hn) rfl rfl hl.1 rfl rfl ⟨Nat.le_of_ble_eq_true rfl, Nat.le_of_ble_eq_true rfl⟩ ⟨Nat.zero_le _, Nat.zero_le _⟩ (Nat.le_of_ble_eq_true rfl) dX0_inputFromLink_70 h (fun S8 H locs hW hS h => ?_)
  exact x_vret F hr hlk hW hS dX0_inputFromLink_73 h
def c0_inputFromLink (n : Nat) (j2 : Nat) (S : xS) (a2 : Int32) (a3 : Int32) : Option (xS) := (c9_popAll n 4 S ).bind (fun S1 => if a2 = 0 then (some S1) else (if (xI S1 n j2 7) = (-1 : Int32) then ((c1_own n S1 ).bind (fun (r_4, S4) => (c4_beginReceiving n j2 S4 r_4 a2 a3).bind (fun S5 => if (xI S5 n j2 10) = (-1 : Int32) then (c0_inputFromLink_b58 n j2  S5) else ((c4_releaseKept n j2 S5 ).bind (fun (r_9, S9) => (c4_deliver n j2 S9 r_9).bind (fun S10 => c0_inputFromLink_b58 n j2  S10)))))) else ((c1_stopWith n S1 (3 : Int32)).bind (fun S11 => some S11))))
set_option maxHeartbeats 4000000 in
set_option maxRecDepth 100000 in
theorem m_c0_inputFromLink {l : Launch} {D : va_G} {cI cJ cL cN : ClassId} {ad : Nat → Nat → Nat} {N : Nat} (hN : N ≤ 8) (hI : xInj (cDom N) ad) {n : Nat} (hn : n < N) {j2 : Nat} (hj2 : isX4 N n j2) {S : xS} (a2 : Int32) (a3 : Int32) {o : xS} (h : c0_inputFromLink n j2 S a2 a3 = some o) : Met l yX0_inputFromLink (Cond.code yX0_inputFromLink cX0_inputFromLink 4 none :: xG) { frames := 2, cells := 0, slots := 0, locals := 47 } (xPc D vwCl (cTy cI cJ cL cN) cNf cNm (cDom N) ad (cDe ad N cI cJ cL cN) [.ref (ad n 21), .ref (ad n j2), .int a2, .int a3] S) (xQ D vwCl (cDom N) ad (cDe ad N cI cJ cL cN) none o) 0 0 (xA (cDom N) ad) := by
  unfold c0_inputFromLink at h
  refine x_enter (by decide) (Nat.le_of_ble_eq_true rfl) (fun p e s m below meth c F hr hlk hK hW hS ls hl => ?_)
  have hl : lv_has ls 4 [(0, .ref (ad n 21)), (1, .ref (ad n j2)), (2, .int a2), (3, .int a3)] := hl
  have hx := F.1
  have hb := F.2.1
  refine lv_aload_n hx hb dX0_inputFromLink_0 rfl (lv_at hl 0 rfl) ?_
  refine x_get F hK hW xc_X0 (cd_dX0 hn) (cd_eX0 hN hn) 1 (by decide) k_2_73 (rfl) dX0_inputFromLink_1 ?_
  refine x_cVv (As := []) F xG_ok hK hW hS um_X9_popAll k_4_196 (fun _ h1 => m_c9_popAll hN hI ⟨hn, Or.inl rfl⟩  h1) rfl (cd_dX9 ⟨hn, Or.inl rfl⟩) (cd_eX9 hN ⟨hn, Or.inl rfl⟩) rfl rfl hl.1 rfl rfl ⟨Nat.le_of_ble_eq_true rfl, Nat.le_of_ble_eq_true rfl⟩ ⟨Nat.zero_le _, Nat.zero_le _⟩ (Nat.le_of_ble_eq_true rfl) dX0_inputFromLink_4 h (fun S1 H locs hW hS h => ?_)
  refine lv_iload_n hx hb dX0_inputFromLink_7 rfl (lv_at hl 2 rfl) ?_
  refine lv_if_ne (tgt := 12) hx hb dX0_inputFromLink_8 (by decide) (fun c_2 => ?_) (fun c_2 => ?_)
  · replace h := (if_neg c_2).symm.trans h
    refine lv_aload_n hx hb dX0_inputFromLink_12 rfl (lv_at hl 1 rfl) ?_
    refine x_getN F hK hW xc_X4 (cd_dX4 hj2) (cd_eX4 hN hj2) 7 (by decide) kn_52 (rfl) dX0_inputFromLink_13 ?_
    refine lv_iconst (v := (-1 : Int32)) hx hb dX0_inputFromLink_16 (by decide) ?_
    refine lv_icmp_eq (tgt := 29) hx hb dX0_inputFromLink_17 (by decide) (fun c_3 => ?_) (fun c_3 => ?_)
    · replace h := (if_pos c_3).symm.trans h
      refine lv_aload_n hx hb dX0_inputFromLink_29 rfl (lv_at hl 1 rfl) ?_
      refine lv_aload_n hx hb dX0_inputFromLink_30 rfl (lv_at hl 0 rfl) ?_
      refine x_get F hK hW xc_X0 (cd_dX0 hn) (cd_eX0 hN hn) 0 (by decide) k_2_72 (rfl) dX0_inputFromLink_31 ?_
      refine x_cVi (As := []) F xG_ok hK hW hS um_X1_own k_4_197 (fun _ h1 => m_c1_own hN hI hn  h1) rfl (cd_dX1 hn) (cd_eX1 hN hn) rfl rfl hl.1 rfl rfl ⟨Nat.le_of_ble_eq_true rfl, Nat.le_of_ble_eq_true rfl⟩ ⟨Nat.zero_le _, Nat.zero_le _⟩ (Nat.le_of_ble_eq_true rfl) dX0_inputFromLink_34 h (fun r_4 S4 H locs hW hS h => ?_)
      refine lv_iload_n hx hb dX0_inputFromLink_37 rfl (lv_at hl 2 rfl) ?_
      refine lv_iload_n hx hb dX0_inputFromLink_38 rfl (lv_at hl 3 rfl) ?_
      refine x_cVv (As := [.int r_4, .int a2, .int a3]) F xG_ok hK hW hS um_X4_beginReceiving k_4_198 (fun _ h1 => m_c4_beginReceiving hN hI hj2 _ _ _ h1) rfl (cd_dX4 hj2) (cd_eX4 hN hj2) rfl rfl hl.1 rfl rfl ⟨Nat.le_of_ble_eq_true rfl, Nat.le_of_ble_eq_true rfl⟩ ⟨Nat.zero_le _, Nat.zero_le _⟩ (Nat.le_of_ble_eq_true rfl) dX0_inputFromLink_39 h (fun S5 H locs hW hS h => ?_)
      refine lv_aload_n hx hb dX0_inputFromLink_42 rfl (lv_at hl 1 rfl) ?_
      refine x_getN F hK hW xc_X4 (cd_dX4 hj2) (cd_eX4 hN hj2) 10 (by decide) kn_54 (rfl) dX0_inputFromLink_43 ?_
      refine lv_iconst (v := (-1 : Int32)) hx hb dX0_inputFromLink_46 (by decide) ?_
      refine lv_icmp_eq (tgt := 58) hx hb dX0_inputFromLink_47 (by decide) (fun c_6 => ?_) (fun c_6 => ?_)
      · replace h := (if_pos c_6).symm.trans h
        exact m_c0_inputFromLink_b58 hN hI hn hj2 F hr hlk hK  _ h hW hS (lv_sub hl [0, 1] rfl)
      replace h := (if_neg c_6).symm.trans h
      refine lv_aload_n hx hb dX0_inputFromLink_50 rfl (lv_at hl 1 rfl) ?_
      refine lv_aload_n hx hb dX0_inputFromLink_51 rfl (lv_at hl 1 rfl) ?_
      refine x_cVi (As := []) F xG_ok hK hW hS um_X4_releaseKept k_4_202 (fun _ h1 => m_c4_releaseKept hN hI hj2  h1) rfl (cd_dX4 hj2) (cd_eX4 hN hj2) rfl rfl hl.1 rfl rfl ⟨Nat.le_of_ble_eq_true rfl, Nat.le_of_ble_eq_true rfl⟩ ⟨Nat.zero_le _, Nat.zero_le _⟩ (Nat.le_of_ble_eq_true rfl) dX0_inputFromLink_52 h (fun r_9 S9 H locs hW hS h => ?_)
      refine x_cVv (As := [.int r_9]) F xG_ok hK hW hS um_X4_deliver k_4_203 (fun _ h1 => m_c4_deliver hN hI hj2 _ h1) rfl (cd_dX4 hj2) (cd_eX4 hN hj2) rfl rfl hl.1 rfl rfl ⟨Nat.le_of_ble_eq_true rfl, Nat.le_of_ble_eq_true rfl⟩ ⟨Nat.zero_le _, Nat.zero_le _⟩ (Nat.le_of_ble_eq_true rfl) dX0_inputFromLink_55 h (fun S10 H locs hW hS h => ?_)
      exact m_c0_inputFromLink_b58 hN hI hn hj2 F hr hlk hK  _ h hW hS (lv_sub hl [0, 1] rfl)
    replace h := (if_neg c_3).symm.trans h
    refine lv_aload_n hx hb dX0_inputFromLink_20 rfl (lv_at hl 0 rfl) ?_
    refine x_get F hK hW xc_X0 (cd_dX0 hn) (cd_eX0 hN hn) 0 (by decide) k_2_72 (rfl) dX0_inputFromLink_21 ?_
    refine lv_iconst (v := (3 : Int32)) hx hb dX0_inputFromLink_24 (by decide) ?_
    refine x_cVv (As := [.int (3 : Int32)]) F xG_ok hK hW hS um_X1_stopWith k_4_185 (fun _ h1 => m_c1_stopWith hN hI hn _ h1) rfl (cd_dX1 hn) (cd_eX1 hN hn) rfl rfl hl.1 rfl rfl ⟨Nat.le_of_ble_eq_true rfl, Nat.le_of_ble_eq_true rfl⟩ ⟨Nat.zero_le _, Nat.zero_le _⟩ (Nat.le_of_ble_eq_true rfl) dX0_inputFromLink_25 h (fun S11 H locs hW hS h => ?_)
    exact x_vret F hr hlk hW hS dX0_inputFromLink_28 h
  replace h := (if_pos c_2).symm.trans h
  exact x_vret F hr hlk hW hS dX0_inputFromLink_11 h
/-! X5_wordAt -/
def c5_wordAt (n j : Nat) (S : xS) (a1 : Int32) : Option (Int32 × xS) := if ((a1 &&& (65534 : Int32)) - (32768 : Int32)) < 0 then (xnm (sI S n j 1 (1 : Int32)) (fun S2 => some ((0 : Int32), S2))) else (if ((a1 &&& (65534 : Int32)) - (32768 : Int32)) < (4096 : Int32) then (gd (((a1 &&& (65534 : Int32)) - (32768 : Int32)) >>> ((3 : Int32) &&& 31)) 512 (some ((((lush (xJ S n (j + 1) ((((a1 &&& (65534 : Int32)) - (32768 : Int32)) >>> ((3 : Int32) &&& 31))).toNatClampNeg) ((((a1 &&& (65534 : Int32)) - (32768 : Int32)) &&& (7 : Int32)) <<< ((3 : Int32) &&& 31))).toInt32) &&& (65535 : Int32)), S))) else (xnm (sI S n j 1 (1 : Int32)) (fun S4 => some ((0 : Int32), S4))))
set_option maxHeartbeats 4000000 in
set_option maxRecDepth 100000 in
theorem m_c5_wordAt {l : Launch} {D : va_G} {cI cJ cL cN : ClassId} {ad : Nat → Nat → Nat} {N : Nat} (hN : N ≤ 8) (hI : xInj (cDom N) ad) {n j : Nat} (hj : isX5 N n j) {S : xS} (a1 : Int32) {o : Int32 × xS} (h : c5_wordAt n j S a1 = some o) : Met l yX5_wordAt (Cond.code yX5_wordAt cX5_wordAt 3 (some .int) :: xG) { frames := 0, cells := 0, slots := 0, locals := 0 } (xPc D vwCl (cTy cI cJ cL cN) cNf cNm (cDom N) ad (cDe ad N cI cJ cL cN) [.ref (ad n j), .int a1] S) (xQ D vwCl (cDom N) ad (cDe ad N cI cJ cL cN) (some (.int o.1)) o.2) 0 0 (xA (cDom N) ad) := by
  unfold c5_wordAt at h
  refine x_enter (by decide) (Nat.le_of_ble_eq_true rfl) (fun p e s m below meth c F hr hlk hK hW hS ls hl => ?_)
  have hl : lv_has ls 3 [(0, .ref (ad n j)), (1, .int a1)] := hl
  have hx := F.1
  have hb := F.2.1
  refine lv_iload_n hx hb dX5_wordAt_0 rfl (lv_at hl 1 rfl) ?_
  refine lv_ldc (v := (65534 : Int32)) hx hb F.2.2.2.1 (x_hts F _ k_1_203) dX5_wordAt_1 ?_
  refine lv_iand hx hb dX5_wordAt_3 ?_
  refine lv_ldc (v := (32768 : Int32)) hx hb F.2.2.2.1 (x_hts F _ k_1_204) dX5_wordAt_4 ?_
  refine lv_isub hx hb dX5_wordAt_6 ?_
  refine lv_istore_n (lv' := [(2, .int ((a1 &&& (65534 : Int32)) - (32768 : Int32))), (0, .ref (ad n j)), (1, .int a1)]) hx hb dX5_wordAt_7 rfl hl (by decide) rfl (fun ls hl => ?_)
  refine lv_iload_n hx hb dX5_wordAt_8 rfl (lv_at hl 0 rfl) ?_
  refine lv_if_lt (tgt := 19) hx hb dX5_wordAt_9 (by decide) (fun c_1 => ?_) (fun c_1 => ?_)
  · replace h := (if_pos c_1).symm.trans h
    refine lv_aload_n hx hb dX5_wordAt_19 rfl (lv_at hl 1 rfl) ?_
    refine lv_iconst (v := (1 : Int32)) hx hb dX5_wordAt_20 (by decide) ?_
    refine x_put F hK hI hW hS xc_X5 (cd_dX5 hj) (cd_eX5 hN hj) 1 (by decide) k_1_48 rfl (v := (1 : Int32)) rfl rfl (fun _ _ => rfl) (fun _ _ => Nat.le_of_ble_eq_true rfl) dX5_wordAt_21 h (fun S2 H locs hW hS h => ?_)
    refine lv_iconst (v := (0 : Int32)) hx hb dX5_wordAt_24 (by decide) ?_
    exact x_iret F hr hlk hW hS dX5_wordAt_25 h
  replace h := (if_neg c_1).symm.trans h
  refine lv_iload_n hx hb dX5_wordAt_12 rfl (lv_at hl 0 rfl) ?_
  refine lv_sipush (v := (4096 : Int32)) hx hb dX5_wordAt_13 (by decide) ?_
  refine lv_icmp_lt (tgt := 26) hx hb dX5_wordAt_16 (by decide) (fun c_3 => ?_) (fun c_3 => ?_)
  · replace h := (if_pos c_3).symm.trans h
    refine lv_aload_n hx hb dX5_wordAt_26 rfl (lv_at hl 1 rfl) ?_
    refine x_get F hK hW xc_X5 (cd_dX5 hj) (cd_eX5 hN hj) 0 (by decide) k_1_47 (rfl) dX5_wordAt_27 ?_
    refine lv_iload_n hx hb dX5_wordAt_30 rfl (lv_at hl 0 rfl) ?_
    refine lv_iconst (v := (3 : Int32)) hx hb dX5_wordAt_31 (by decide) ?_
    refine lv_ishr hx hb dX5_wordAt_32 ?_
    refine x_lald (t0 := 1) F hK hW (cd_dAJ hj) (cd_eAJ hN hj) rfl dX5_wordAt_33 h (fun h => ?_)
    refine lv_iload_n hx hb dX5_wordAt_34 rfl (lv_at hl 0 rfl) ?_
    refine lv_bipush (v := (7 : Int32)) hx hb dX5_wordAt_35 (by decide) ?_
    refine lv_iand hx hb dX5_wordAt_37 ?_
    refine lv_iconst (v := (3 : Int32)) hx hb dX5_wordAt_38 (by decide) ?_
    refine lv_ishl hx hb dX5_wordAt_39 ?_
    refine lv_lushr (v := (lush (xJ S n (j + 1) ((((a1 &&& (65534 : Int32)) - (32768 : Int32)) >>> ((3 : Int32) &&& 31))).toNatClampNeg) ((((a1 &&& (65534 : Int32)) - (32768 : Int32)) &&& (7 : Int32)) <<< ((3 : Int32) &&& 31)))) hx hb dX5_wordAt_40 rfl ?_
    refine lv_l2i (v := (lush (xJ S n (j + 1) ((((a1 &&& (65534 : Int32)) - (32768 : Int32)) >>> ((3 : Int32) &&& 31))).toNatClampNeg) ((((a1 &&& (65534 : Int32)) - (32768 : Int32)) &&& (7 : Int32)) <<< ((3 : Int32) &&& 31))).toInt32) hx hb dX5_wordAt_41 rfl ?_
    refine lv_ldc (v := (65535 : Int32)) hx hb F.2.2.2.1 (x_hts F _ k_2_219) dX5_wordAt_42 ?_
    refine lv_iand hx hb dX5_wordAt_44 ?_
    exact x_iret F hr hlk hW hS dX5_wordAt_45 h
  replace h := (if_neg c_3).symm.trans h
  refine lv_aload_n hx hb dX5_wordAt_19 rfl (lv_at hl 1 rfl) ?_
  refine lv_iconst (v := (1 : Int32)) hx hb dX5_wordAt_20 (by decide) ?_
  refine x_put F hK hI hW hS xc_X5 (cd_dX5 hj) (cd_eX5 hN hj) 1 (by decide) k_1_48 rfl (v := (1 : Int32)) rfl rfl (fun _ _ => rfl) (fun _ _ => Nat.le_of_ble_eq_true rfl) dX5_wordAt_21 h (fun S4 H locs hW hS h => ?_)
  refine lv_iconst (v := (0 : Int32)) hx hb dX5_wordAt_24 (by decide) ?_
  exact x_iret F hr hlk hW hS dX5_wordAt_25 h
/-! X1_setLocal -/
def c1_setLocal (n : Nat) (S : xS) (a1 : Int32) (a2 : Int32) : Option (xS) := (c5_setWord n 2 S ((xI S n 4 5) + ((2 : Int32) * a1)) a2).bind (fun S1 => some S1)
set_option maxHeartbeats 4000000 in
set_option maxRecDepth 100000 in
theorem m_c1_setLocal {l : Launch} {D : va_G} {cI cJ cL cN : ClassId} {ad : Nat → Nat → Nat} {N : Nat} (hN : N ≤ 8) (hI : xInj (cDom N) ad) {n : Nat} (hn : n < N) {S : xS} (a1 : Int32) (a2 : Int32) {o : xS} (h : c1_setLocal n S a1 a2 = some o) : Met l yX1_setLocal (Cond.code yX1_setLocal cX1_setLocal 3 none :: xG) { frames := 1, cells := 0, slots := 0, locals := 26 } (xPc D vwCl (cTy cI cJ cL cN) cNf cNm (cDom N) ad (cDe ad N cI cJ cL cN) [.ref (ad n 1), .int a1, .int a2] S) (xQ D vwCl (cDom N) ad (cDe ad N cI cJ cL cN) none o) 0 0 (xA (cDom N) ad) := by
  unfold c1_setLocal at h
  refine x_enter (by decide) (Nat.le_of_ble_eq_true rfl) (fun p e s m below meth c F hr hlk hK hW hS ls hl => ?_)
  have hl : lv_has ls 3 [(0, .ref (ad n 1)), (1, .int a1), (2, .int a2)] := hl
  have hx := F.1
  have hb := F.2.1
  refine lv_aload_n hx hb dX1_setLocal_0 rfl (lv_at hl 0 rfl) ?_
  refine x_get F hK hW xc_X1 (cd_dX1 hn) (cd_eX1 hN hn) 0 (by decide) k_1_148 (rfl) dX1_setLocal_1 ?_
  refine lv_aload_n hx hb dX1_setLocal_4 rfl (lv_at hl 0 rfl) ?_
  refine x_get F hK hW xc_X1 (cd_dX1 hn) (cd_eX1 hN hn) 1 (by decide) k_1_156 (rfl) dX1_setLocal_5 ?_
  refine x_getN F hK hW xc_X9 (cd_dX9 ⟨hn, Or.inl rfl⟩) (cd_eX9 hN ⟨hn, Or.inl rfl⟩) 5 (by decide) kn_14 (rfl) dX1_setLocal_8 ?_
  refine lv_iconst (v := (2 : Int32)) hx hb dX1_setLocal_11 (by decide) ?_
  refine lv_iload_n hx hb dX1_setLocal_12 rfl (lv_at hl 1 rfl) ?_
  refine lv_imul hx hb dX1_setLocal_13 ?_
  refine lv_iadd hx hb dX1_setLocal_14 ?_
  refine lv_iload_n hx hb dX1_setLocal_15 rfl (lv_at hl 2 rfl) ?_
  refine x_cVv (As := [.int ((xI S n 4 5) + ((2 : Int32) * a1)), .int a2]) F xG_ok hK hW hS um_X5_setWord k_3_81 (fun _ h1 => m_c5_setWord hN hI (is5n hn) _ _ h1) rfl (cd_dX5 (is5n hn)) (cd_eX5 hN (is5n hn)) rfl rfl hl.1 rfl rfl ⟨Nat.le_of_ble_eq_true rfl, Nat.le_of_ble_eq_true rfl⟩ ⟨Nat.zero_le _, Nat.zero_le _⟩ (Nat.le_of_ble_eq_true rfl) dX1_setLocal_16 h (fun S1 H locs hW hS h => ?_)
  exact x_vret F hr hlk hW hS dX1_setLocal_19 h
/-! X0_waitAt -/
def c0_waitAt (n : Nat) (S : xS) (a1 : Int32) (a2 : Int32) : Option (xS) := (c1_own n S ).bind (fun (r_1, S1) => (c5_setWord n 2 S1 a1 r_1).bind (fun S2 => (c1_setLocal n S2 (-3 : Int32) a2).bind (fun S3 => (c9_popAll n 4 S3 ).bind (fun S4 => (c1_leaveWaiting n S4 ).bind (fun S5 => some S5)))))
set_option maxHeartbeats 4000000 in
set_option maxRecDepth 100000 in
theorem m_c0_waitAt {l : Launch} {D : va_G} {cI cJ cL cN : ClassId} {ad : Nat → Nat → Nat} {N : Nat} (hN : N ≤ 8) (hI : xInj (cDom N) ad) {n : Nat} (hn : n < N) {S : xS} (a1 : Int32) (a2 : Int32) {o : xS} (h : c0_waitAt n S a1 a2 = some o) : Met l yX0_waitAt (Cond.code yX0_waitAt cX0_waitAt 3 none :: xG) { frames := 2, cells := 0, slots := 0, locals := 48 } (xPc D vwCl (cTy cI cJ cL cN) cNf cNm (cDom N) ad (cDe ad N cI cJ cL cN) [.ref (ad n 21), .int a1, .int a2] S) (xQ D vwCl (cDom N) ad (cDe ad N cI cJ cL cN) none o) 0 0 (xA (cDom N) ad) := by
  unfold c0_waitAt at h
  refine x_enter (by decide) (Nat.le_of_ble_eq_true rfl) (fun p e s m below meth c F hr hlk hK hW hS ls hl => ?_)
  have hl : lv_has ls 3 [(0, .ref (ad n 21)), (1, .int a1), (2, .int a2)] := hl
  have hx := F.1
  have hb := F.2.1
  refine lv_aload_n hx hb dX0_waitAt_0 rfl (lv_at hl 0 rfl) ?_
  refine x_get F hK hW xc_X0 (cd_dX0 hn) (cd_eX0 hN hn) 2 (by decide) k_2_74 (rfl) dX0_waitAt_1 ?_
  refine lv_iload_n hx hb dX0_waitAt_4 rfl (lv_at hl 1 rfl) ?_
  refine lv_aload_n hx hb dX0_waitAt_5 rfl (lv_at hl 0 rfl) ?_
  refine x_get F hK hW xc_X0 (cd_dX0 hn) (cd_eX0 hN hn) 0 (by decide) k_2_72 (rfl) dX0_waitAt_6 ?_
  refine x_cVi (As := []) F xG_ok hK hW hS um_X1_own k_4_197 (fun _ h1 => m_c1_own hN hI hn  h1) rfl (cd_dX1 hn) (cd_eX1 hN hn) rfl rfl hl.1 rfl rfl ⟨Nat.le_of_ble_eq_true rfl, Nat.le_of_ble_eq_true rfl⟩ ⟨Nat.zero_le _, Nat.zero_le _⟩ (Nat.le_of_ble_eq_true rfl) dX0_waitAt_9 h (fun r_1 S1 H locs hW hS h => ?_)
  refine x_cVv (As := [.int a1, .int r_1]) F xG_ok hK hW hS um_X5_setWord k_4_210 (fun _ h1 => m_c5_setWord hN hI (is5n hn) _ _ h1) rfl (cd_dX5 (is5n hn)) (cd_eX5 hN (is5n hn)) rfl rfl hl.1 rfl rfl ⟨Nat.le_of_ble_eq_true rfl, Nat.le_of_ble_eq_true rfl⟩ ⟨Nat.zero_le _, Nat.zero_le _⟩ (Nat.le_of_ble_eq_true rfl) dX0_waitAt_12 h (fun S2 H locs hW hS h => ?_)
  refine lv_aload_n hx hb dX0_waitAt_15 rfl (lv_at hl 0 rfl) ?_
  refine x_get F hK hW xc_X0 (cd_dX0 hn) (cd_eX0 hN hn) 0 (by decide) k_2_72 (rfl) dX0_waitAt_16 ?_
  refine lv_bipush (v := (-3 : Int32)) hx hb dX0_waitAt_19 (by decide) ?_
  refine lv_iload_n hx hb dX0_waitAt_21 rfl (lv_at hl 2 rfl) ?_
  refine x_cVv (As := [.int (-3 : Int32), .int a2]) F xG_ok hK hW hS um_X1_setLocal k_4_211 (fun _ h1 => m_c1_setLocal hN hI hn _ _ h1) rfl (cd_dX1 hn) (cd_eX1 hN hn) rfl rfl hl.1 rfl rfl ⟨Nat.le_of_ble_eq_true rfl, Nat.le_of_ble_eq_true rfl⟩ ⟨Nat.zero_le _, Nat.zero_le _⟩ (Nat.le_of_ble_eq_true rfl) dX0_waitAt_22 h (fun S3 H locs hW hS h => ?_)
  refine lv_aload_n hx hb dX0_waitAt_25 rfl (lv_at hl 0 rfl) ?_
  refine x_get F hK hW xc_X0 (cd_dX0 hn) (cd_eX0 hN hn) 1 (by decide) k_2_73 (rfl) dX0_waitAt_26 ?_
  refine x_cVv (As := []) F xG_ok hK hW hS um_X9_popAll k_4_196 (fun _ h1 => m_c9_popAll hN hI ⟨hn, Or.inl rfl⟩  h1) rfl (cd_dX9 ⟨hn, Or.inl rfl⟩) (cd_eX9 hN ⟨hn, Or.inl rfl⟩) rfl rfl hl.1 rfl rfl ⟨Nat.le_of_ble_eq_true rfl, Nat.le_of_ble_eq_true rfl⟩ ⟨Nat.zero_le _, Nat.zero_le _⟩ (Nat.le_of_ble_eq_true rfl) dX0_waitAt_29 h (fun S4 H locs hW hS h => ?_)
  refine lv_aload_n hx hb dX0_waitAt_32 rfl (lv_at hl 0 rfl) ?_
  refine x_get F hK hW xc_X0 (cd_dX0 hn) (cd_eX0 hN hn) 0 (by decide) k_2_72 (rfl) dX0_waitAt_33 ?_
  refine x_cVv (As := []) F xG_ok hK hW hS um_X1_leaveWaiting k_4_204 (fun _ h1 => m_c1_leaveWaiting hN hI hn  h1) rfl (cd_dX1 hn) (cd_eX1 hN hn) rfl rfl hl.1 rfl rfl ⟨Nat.le_of_ble_eq_true rfl, Nat.le_of_ble_eq_true rfl⟩ ⟨Nat.zero_le _, Nat.zero_le _⟩ (Nat.le_of_ble_eq_true rfl) dX0_waitAt_36 h (fun S5 H locs hW hS h => ?_)
  exact x_vret F hr hlk hW hS dX0_waitAt_39 h
/-! X5_byteAt -/
def c5_byteAt (n j : Nat) (S : xS) (a1 : Int32) : Option (Int32 × xS) := if ((a1 &&& (65535 : Int32)) - (32768 : Int32)) < 0 then (xnm (sI S n j 1 (1 : Int32)) (fun S2 => some ((0 : Int32), S2))) else (if ((a1 &&& (65535 : Int32)) - (32768 : Int32)) < (4096 : Int32) then (gd (((a1 &&& (65535 : Int32)) - (32768 : Int32)) >>> ((3 : Int32) &&& 31)) 512 (some ((((lush (xJ S n (j + 1) ((((a1 &&& (65535 : Int32)) - (32768 : Int32)) >>> ((3 : Int32) &&& 31))).toNatClampNeg) ((((a1 &&& (65535 : Int32)) - (32768 : Int32)) &&& (7 : Int32)) <<< ((3 : Int32) &&& 31))).toInt32) &&& (255 : Int32)), S))) else (xnm (sI S n j 1 (1 : Int32)) (fun S4 => some ((0 : Int32), S4))))
set_option maxHeartbeats 4000000 in
set_option maxRecDepth 100000 in
theorem m_c5_byteAt {l : Launch} {D : va_G} {cI cJ cL cN : ClassId} {ad : Nat → Nat → Nat} {N : Nat} (hN : N ≤ 8) (hI : xInj (cDom N) ad) {n j : Nat} (hj : isX5 N n j) {S : xS} (a1 : Int32) {o : Int32 × xS} (h : c5_byteAt n j S a1 = some o) : Met l yX5_byteAt (Cond.code yX5_byteAt cX5_byteAt 3 (some .int) :: xG) { frames := 0, cells := 0, slots := 0, locals := 0 } (xPc D vwCl (cTy cI cJ cL cN) cNf cNm (cDom N) ad (cDe ad N cI cJ cL cN) [.ref (ad n j), .int a1] S) (xQ D vwCl (cDom N) ad (cDe ad N cI cJ cL cN) (some (.int o.1)) o.2) 0 0 (xA (cDom N) ad) := by
  unfold c5_byteAt at h
  refine x_enter (by decide) (Nat.le_of_ble_eq_true rfl) (fun p e s m below meth c F hr hlk hK hW hS ls hl => ?_)
  have hl : lv_has ls 3 [(0, .ref (ad n j)), (1, .int a1)] := hl
  have hx := F.1
  have hb := F.2.1
  refine lv_iload_n hx hb dX5_byteAt_0 rfl (lv_at hl 1 rfl) ?_
  refine lv_ldc (v := (65535 : Int32)) hx hb F.2.2.2.1 (x_hts F _ k_2_219) dX5_byteAt_1 ?_
  refine lv_iand hx hb dX5_byteAt_3 ?_
  refine lv_ldc (v := (32768 : Int32)) hx hb F.2.2.2.1 (x_hts F _ k_1_204) dX5_byteAt_4 ?_
  refine lv_isub hx hb dX5_byteAt_6 ?_
  refine lv_istore_n (lv' := [(2, .int ((a1 &&& (65535 : Int32)) - (32768 : Int32))), (0, .ref (ad n j)), (1, .int a1)]) hx hb dX5_byteAt_7 rfl hl (by decide) rfl (fun ls hl => ?_)
  refine lv_iload_n hx hb dX5_byteAt_8 rfl (lv_at hl 0 rfl) ?_
  refine lv_if_lt (tgt := 19) hx hb dX5_byteAt_9 (by decide) (fun c_1 => ?_) (fun c_1 => ?_)
  · replace h := (if_pos c_1).symm.trans h
    refine lv_aload_n hx hb dX5_byteAt_19 rfl (lv_at hl 1 rfl) ?_
    refine lv_iconst (v := (1 : Int32)) hx hb dX5_byteAt_20 (by decide) ?_
    refine x_put F hK hI hW hS xc_X5 (cd_dX5 hj) (cd_eX5 hN hj) 1 (by decide) k_1_48 rfl (v := (1 : Int32)) rfl rfl (fun _ _ => rfl) (fun _ _ => Nat.le_of_ble_eq_true rfl) dX5_byteAt_21 h (fun S2 H locs hW hS h => ?_)
    refine lv_iconst (v := (0 : Int32)) hx hb dX5_byteAt_24 (by decide) ?_
    exact x_iret F hr hlk hW hS dX5_byteAt_25 h
  replace h := (if_neg c_1).symm.trans h
  refine lv_iload_n hx hb dX5_byteAt_12 rfl (lv_at hl 0 rfl) ?_
  refine lv_sipush (v := (4096 : Int32)) hx hb dX5_byteAt_13 (by decide) ?_
  refine lv_icmp_lt (tgt := 26) hx hb dX5_byteAt_16 (by decide) (fun c_3 => ?_) (fun c_3 => ?_)
  · replace h := (if_pos c_3).symm.trans h
    refine lv_aload_n hx hb dX5_byteAt_26 rfl (lv_at hl 1 rfl) ?_
    refine x_get F hK hW xc_X5 (cd_dX5 hj) (cd_eX5 hN hj) 0 (by decide) k_1_47 (rfl) dX5_byteAt_27 ?_
    refine lv_iload_n hx hb dX5_byteAt_30 rfl (lv_at hl 0 rfl) ?_
    refine lv_iconst (v := (3 : Int32)) hx hb dX5_byteAt_31 (by decide) ?_
    refine lv_ishr hx hb dX5_byteAt_32 ?_
    refine x_lald (t0 := 1) F hK hW (cd_dAJ hj) (cd_eAJ hN hj) rfl dX5_byteAt_33 h (fun h => ?_)
    refine lv_iload_n hx hb dX5_byteAt_34 rfl (lv_at hl 0 rfl) ?_
    refine lv_bipush (v := (7 : Int32)) hx hb dX5_byteAt_35 (by decide) ?_
    refine lv_iand hx hb dX5_byteAt_37 ?_
    refine lv_iconst (v := (3 : Int32)) hx hb dX5_byteAt_38 (by decide) ?_
    refine lv_ishl hx hb dX5_byteAt_39 ?_
    refine lv_lushr (v := (lush (xJ S n (j + 1) ((((a1 &&& (65535 : Int32)) - (32768 : Int32)) >>> ((3 : Int32) &&& 31))).toNatClampNeg) ((((a1 &&& (65535 : Int32)) - (32768 : Int32)) &&& (7 : Int32)) <<< ((3 : Int32) &&& 31)))) hx hb dX5_byteAt_40 rfl ?_
    refine lv_l2i (v := (lush (xJ S n (j + 1) ((((a1 &&& (65535 : Int32)) - (32768 : Int32)) >>> ((3 : Int32) &&& 31))).toNatClampNeg) ((((a1 &&& (65535 : Int32)) - (32768 : Int32)) &&& (7 : Int32)) <<< ((3 : Int32) &&& 31))).toInt32) hx hb dX5_byteAt_41 rfl ?_
    refine lv_sipush (v := (255 : Int32)) hx hb dX5_byteAt_42 (by decide) ?_
    refine lv_iand hx hb dX5_byteAt_45 ?_
    exact x_iret F hr hlk hW hS dX5_byteAt_46 h
  replace h := (if_neg c_3).symm.trans h
  refine lv_aload_n hx hb dX5_byteAt_19 rfl (lv_at hl 1 rfl) ?_
  refine lv_iconst (v := (1 : Int32)) hx hb dX5_byteAt_20 (by decide) ?_
  refine x_put F hK hI hW hS xc_X5 (cd_dX5 hj) (cd_eX5 hN hj) 1 (by decide) k_1_48 rfl (v := (1 : Int32)) rfl rfl (fun _ _ => rfl) (fun _ _ => Nat.le_of_ble_eq_true rfl) dX5_byteAt_21 h (fun S4 H locs hW hS h => ?_)
  refine lv_iconst (v := (0 : Int32)) hx hb dX5_byteAt_24 (by decide) ?_
  exact x_iret F hr hlk hW hS dX5_byteAt_25 h
/-! X5_copy -/
def c5_copy_b3 (n j : Nat) : Nat → Int32 → Int32 → Int32 → Int32 → xS → Option (xS)
  | 0, _, _, _, _, _ => none
  | fu + 1, v1, v2, v3, v4, S => if v3 ≤ v4 then (some S) else ((c5_byteAt n j S (v1 + v4)).bind (fun (r_2, S2) => (c5_setByte n j S2 (v2 + v4) r_2).bind (fun S3 => (c5_copy_b3 n j fu) v1 v2 v3 (v4 + (1 : Int32)) S3)))
set_option maxHeartbeats 4000000 in
set_option maxRecDepth 100000 in
theorem m_c5_copy_b3 {l : Launch} {D : va_G} {cI cJ cL cN : ClassId} {ad : Nat → Nat → Nat} {N : Nat} (hN : N ≤ 8) (hI : xInj (cDom N) ad) {n j : Nat} (hj : isX5 N n j) {p : Program} {e : Env} {s : State} {m : MethodId} {args : Array Value} {below : List Frame} {meth : Method} {c : Code} (F : CallFix p m c cX5_copy 5 s args (Cond.code yX5_copy cX5_copy 5 none :: xG) (yX5_copy).cls) (hr : meth.sig.returnType = none) (hlk : meth.locks = false) (hK : xK D vwCl (cTy cI cJ cL cN) cNf cNm s) {o : xS} : ∀ (fu : Nat) (v1 : Int32) (v2 : Int32) (v3 : Int32) (v4 : Int32) (S : xS) {H : Heap} {locs : List Loc} {ls : Array Slot}, c5_copy_b3 n j fu v1 v2 v3 v4 S = some o → xW D vwCl (cDom N) ad (cDe ad N cI cJ cL cN) S H → va_S (xA (cDom N) ad) s.heap H locs → lv_has ls 5 [(0, .ref (ad n j)), (1, .int v1), (2, .int v2), (3, .int v3), (4, .int v4)] → W p l e { frames := 1, cells := 0, slots := 0, locals := 26 } s m args below meth c H locs 0 0 (MQ below (xQ D vwCl (cDom N) ad (cDe ad N cI cJ cL cN) none o) args s 0 0 (xA (cDom N) ad)) (F0 m 3 ls []) := by
  have hx := F.1
  have hb := F.2.1
  intro fu
  induction fu with
  | zero =>
    intro v1 v2 v3 v4 S H locs ls h
    simp [c5_copy_b3] at h
  | succ fu ih =>
    intro v1 v2 v3 v4 S H locs ls h hW hS hl
    have hk3 := fun v1 v2 v3 v4 S H locs ls (h : c5_copy_b3 n j fu v1 v2 v3 v4 S = some o) hW hS hl => ih v1 v2 v3 v4 S (H := H) (locs := locs) (ls := ls) h hW hS hl
    rw [c5_copy_b3] at h
    refine lv_iload hx hb dX5_copy_3 (lv_at hl 4 rfl) ?_
    refine lv_iload_n hx hb dX5_copy_5 rfl (lv_at hl 3 rfl) ?_
    refine lv_icmp_ge (tgt := 31) hx hb dX5_copy_6 (by decide) (fun c_1 => ?_) (fun c_1 => ?_)
    · replace h := (if_pos c_1).symm.trans h
      exact x_vret F hr hlk hW hS dX5_copy_31 h
    replace h := (if_neg c_1).symm.trans h
    refine lv_aload_n hx hb dX5_copy_9 rfl (lv_at hl 0 rfl) ?_
    refine lv_iload_n hx hb dX5_copy_10 rfl (lv_at hl 2 rfl) ?_
    refine lv_iload hx hb dX5_copy_11 (lv_at hl 4 rfl) ?_
    refine lv_iadd hx hb dX5_copy_13 ?_
    refine lv_aload_n hx hb dX5_copy_14 rfl (lv_at hl 0 rfl) ?_
    refine lv_iload_n hx hb dX5_copy_15 rfl (lv_at hl 1 rfl) ?_
    refine lv_iload hx hb dX5_copy_16 (lv_at hl 4 rfl) ?_
    refine lv_iadd hx hb dX5_copy_18 ?_
    refine x_cVi (As := [.int (v1 + v4)]) F xG_ok hK hW hS um_X5_byteAt k_4_153 (fun _ h1 => m_c5_byteAt hN hI hj _ h1) rfl (cd_dX5 hj) (cd_eX5 hN hj) rfl rfl hl.1 rfl rfl ⟨Nat.le_of_ble_eq_true rfl, Nat.le_of_ble_eq_true rfl⟩ ⟨Nat.zero_le _, Nat.zero_le _⟩ (Nat.le_of_ble_eq_true rfl) dX5_copy_19 h (fun r_2 S2 H locs hW hS h => ?_)
    refine x_cVv (As := [.int (v2 + v4), .int r_2]) F xG_ok hK hW hS um_X5_setByte k_4_154 (fun _ h1 => m_c5_setByte hN hI hj _ _ h1) rfl (cd_dX5 hj) (cd_eX5 hN hj) rfl rfl hl.1 rfl rfl ⟨Nat.le_of_ble_eq_true rfl, Nat.le_of_ble_eq_true rfl⟩ ⟨Nat.zero_le _, Nat.zero_le _⟩ (Nat.le_of_ble_eq_true rfl) dX5_copy_22 h (fun S3 H locs hW hS h => ?_)
    refine lv_iinc (v := (v4 + (1 : Int32))) (lv' := [(4, .int (v4 + (1 : Int32))), (0, .ref (ad n j)), (1, .int v1), (2, .int v2), (3, .int v3)]) hx hb dX5_copy_25 hl (k := 4) rfl rfl (by decide) rfl (fun ls hl => ?_)
    refine lv_goto (tgt := 3) hx hb dX5_copy_28 (by decide) ?_
    exact hk3 _ _ _ _ _ _ _ _ h hW hS (lv_sub hl [1, 2, 3, 4, 0] rfl)
def c5_copy (n j : Nat) (S : xS) (a1 : Int32) (a2 : Int32) (a3 : Int32) : Option (xS) := c5_copy_b3 n j (100000) a1 a2 a3 (0 : Int32) S
set_option maxHeartbeats 4000000 in
set_option maxRecDepth 100000 in
theorem m_c5_copy {l : Launch} {D : va_G} {cI cJ cL cN : ClassId} {ad : Nat → Nat → Nat} {N : Nat} (hN : N ≤ 8) (hI : xInj (cDom N) ad) {n j : Nat} (hj : isX5 N n j) {S : xS} (a1 : Int32) (a2 : Int32) (a3 : Int32) {o : xS} (h : c5_copy n j S a1 a2 a3 = some o) : Met l yX5_copy (Cond.code yX5_copy cX5_copy 5 none :: xG) { frames := 1, cells := 0, slots := 0, locals := 26 } (xPc D vwCl (cTy cI cJ cL cN) cNf cNm (cDom N) ad (cDe ad N cI cJ cL cN) [.ref (ad n j), .int a1, .int a2, .int a3] S) (xQ D vwCl (cDom N) ad (cDe ad N cI cJ cL cN) none o) 0 0 (xA (cDom N) ad) := by
  unfold c5_copy at h
  refine x_enter (by decide) (Nat.le_of_ble_eq_true rfl) (fun p e s m below meth c F hr hlk hK hW hS ls hl => ?_)
  have hl : lv_has ls 5 [(0, .ref (ad n j)), (1, .int a1), (2, .int a2), (3, .int a3)] := hl
  have hx := F.1
  have hb := F.2.1
  refine lv_iconst (v := (0 : Int32)) hx hb dX5_copy_0 (by decide) ?_
  refine lv_istore (lv' := [(4, .int (0 : Int32)), (0, .ref (ad n j)), (1, .int a1), (2, .int a2), (3, .int a3)]) hx hb dX5_copy_1 hl (by decide) rfl (fun ls hl => ?_)
  exact m_c5_copy_b3 hN hI hj F hr hlk hK (100000) _ _ _ _ _ h hW hS (lv_sub hl [1, 2, 3, 4, 0] rfl)
/-! X1_copyBytes -/
def c1_copyBytes (n : Nat) (S : xS) (a1 : Int32) (a2 : Int32) (a3 : Int32) : Option (xS) := (c5_copy n 2 S a1 a2 a3).bind (fun S1 => xnm (sI S1 n 1 9 (a3 / (4 : Int32))) (fun S2 => some S2))
set_option maxHeartbeats 4000000 in
set_option maxRecDepth 100000 in
theorem m_c1_copyBytes {l : Launch} {D : va_G} {cI cJ cL cN : ClassId} {ad : Nat → Nat → Nat} {N : Nat} (hN : N ≤ 8) (hI : xInj (cDom N) ad) {n : Nat} (hn : n < N) {S : xS} (a1 : Int32) (a2 : Int32) (a3 : Int32) {o : xS} (h : c1_copyBytes n S a1 a2 a3 = some o) : Met l yX1_copyBytes (Cond.code yX1_copyBytes cX1_copyBytes 4 none :: xG) { frames := 2, cells := 0, slots := 0, locals := 50 } (xPc D vwCl (cTy cI cJ cL cN) cNf cNm (cDom N) ad (cDe ad N cI cJ cL cN) [.ref (ad n 1), .int a1, .int a2, .int a3] S) (xQ D vwCl (cDom N) ad (cDe ad N cI cJ cL cN) none o) 0 0 (xA (cDom N) ad) := by
  unfold c1_copyBytes at h
  refine x_enter (by decide) (Nat.le_of_ble_eq_true rfl) (fun p e s m below meth c F hr hlk hK hW hS ls hl => ?_)
  have hl : lv_has ls 4 [(0, .ref (ad n 1)), (1, .int a1), (2, .int a2), (3, .int a3)] := hl
  have hx := F.1
  have hb := F.2.1
  refine lv_aload_n hx hb dX1_copyBytes_0 rfl (lv_at hl 0 rfl) ?_
  refine x_get F hK hW xc_X1 (cd_dX1 hn) (cd_eX1 hN hn) 0 (by decide) k_1_148 (rfl) dX1_copyBytes_1 ?_
  refine lv_iload_n hx hb dX1_copyBytes_4 rfl (lv_at hl 1 rfl) ?_
  refine lv_iload_n hx hb dX1_copyBytes_5 rfl (lv_at hl 2 rfl) ?_
  refine lv_iload_n hx hb dX1_copyBytes_6 rfl (lv_at hl 3 rfl) ?_
  refine x_cVv (As := [.int a1, .int a2, .int a3]) F xG_ok hK hW hS um_X5_copy k_4_149 (fun _ h1 => m_c5_copy hN hI (is5n hn) _ _ _ h1) rfl (cd_dX5 (is5n hn)) (cd_eX5 hN (is5n hn)) rfl rfl hl.1 rfl rfl ⟨Nat.le_of_ble_eq_true rfl, Nat.le_of_ble_eq_true rfl⟩ ⟨Nat.zero_le _, Nat.zero_le _⟩ (Nat.le_of_ble_eq_true rfl) dX1_copyBytes_7 h (fun S1 H locs hW hS h => ?_)
  refine lv_aload_n hx hb dX1_copyBytes_10 rfl (lv_at hl 0 rfl) ?_
  refine lv_iload_n hx hb dX1_copyBytes_11 rfl (lv_at hl 3 rfl) ?_
  refine lv_iconst (v := (4 : Int32)) hx hb dX1_copyBytes_12 (by decide) ?_
  refine lv_idiv hx hb dX1_copyBytes_13 (by decide) ?_
  refine x_put F hK hI hW hS xc_X1 (cd_dX1 hn) (cd_eX1 hN hn) 9 (by decide) k_1_171 rfl (v := (a3 / (4 : Int32))) rfl rfl (fun _ _ => rfl) (fun _ _ => Nat.le_of_ble_eq_true rfl) dX1_copyBytes_14 h (fun S2 H locs hW hS h => ?_)
  exact x_vret F hr hlk hW hS dX1_copyBytes_17 h
/-! X8_isEmpty -/
def c8_isEmpty (n j : Nat) (S : xS)  : Option (Int32 × xS) := if (xI S n j 0) = (32768 : Int32) then (some ((1 : Int32), S)) else (some ((0 : Int32), S))
set_option maxHeartbeats 4000000 in
set_option maxRecDepth 100000 in
theorem m_c8_isEmpty {l : Launch} {D : va_G} {cI cJ cL cN : ClassId} {ad : Nat → Nat → Nat} {N : Nat} (hN : N ≤ 8) (hI : xInj (cDom N) ad) {n j : Nat} (hj : isX8 N n j) {S : xS}  {o : Int32 × xS} (h : c8_isEmpty n j S  = some o) : Met l yX8_isEmpty (Cond.code yX8_isEmpty cX8_isEmpty 1 (some .boolean) :: xG) { frames := 0, cells := 0, slots := 0, locals := 0 } (xPc D vwCl (cTy cI cJ cL cN) cNf cNm (cDom N) ad (cDe ad N cI cJ cL cN) [.ref (ad n j)] S) (xQ D vwCl (cDom N) ad (cDe ad N cI cJ cL cN) (some (.int o.1)) o.2) 0 0 (xA (cDom N) ad) := by
  unfold c8_isEmpty at h
  refine x_enter (by decide) (Nat.le_of_ble_eq_true rfl) (fun p e s m below meth c F hr hlk hK hW hS ls hl => ?_)
  have hl : lv_has ls 1 [(0, .ref (ad n j))] := hl
  have hx := F.1
  have hb := F.2.1
  refine lv_aload_n hx hb dX8_isEmpty_0 rfl (lv_at hl 0 rfl) ?_
  refine x_get F hK hW xc_X8 (cd_dX8 hj) (cd_eX8 hN hj) 0 (by decide) k_1_113 (rfl) dX8_isEmpty_1 ?_
  refine lv_ldc (v := (32768 : Int32)) hx hb F.2.2.2.1 (x_hts F _ k_1_112) dX8_isEmpty_4 ?_
  refine lv_icmp_ne (tgt := 13) hx hb dX8_isEmpty_6 (by decide) (fun c_1 => ?_) (fun c_1 => ?_)
  · replace h := (if_neg c_1).symm.trans h
    refine lv_iconst (v := (0 : Int32)) hx hb dX8_isEmpty_13 (by decide) ?_
    exact x_zret F hr hlk hW hS rfl dX8_isEmpty_14 h
  replace h := (if_pos c_1).symm.trans h
  refine lv_iconst (v := (1 : Int32)) hx hb dX8_isEmpty_9 (by decide) ?_
  refine lv_goto (tgt := 14) hx hb dX8_isEmpty_10 (by decide) ?_
  exact x_zret F hr hlk hW hS rfl dX8_isEmpty_14 h
/-! X1_makeReady -/
def c1_makeReady_b17 (n : Nat) (v1 : Int32) (S : xS) : Option (xS) := (c8_isEmpty n 7 S ).bind (fun (r_2, S2) => if r_2 = 0 then ((c5_setWord n 2 S2 ((xI S2 n 7 1) - (4 : Int32)) (v1 &&& (65534 : Int32))).bind (fun S4 => xnm (sI S4 n 7 1 (v1 &&& (65534 : Int32))) (fun S5 => some S5))) else (xnm (sI S2 n 7 0 (v1 &&& (65534 : Int32))) (fun S6 => xnm (sI S6 n 7 1 (v1 &&& (65534 : Int32))) (fun S7 => some S7))))
set_option maxHeartbeats 4000000 in
set_option maxRecDepth 100000 in
theorem m_c1_makeReady_b17 {l : Launch} {D : va_G} {cI cJ cL cN : ClassId} {ad : Nat → Nat → Nat} {N : Nat} (hN : N ≤ 8) (hI : xInj (cDom N) ad) {n : Nat} (hn : n < N) {p : Program} {e : Env} {s : State} {m : MethodId} {args : Array Value} {below : List Frame} {meth : Method} {c : Code} (F : CallFix p m c cX1_makeReady 4 s args (Cond.code yX1_makeReady cX1_makeReady 4 none :: xG) (yX1_makeReady).cls) (hr : meth.sig.returnType = none) (hlk : meth.locks = false) (hK : xK D vwCl (cTy cI cJ cL cN) cNf cNm s) {o : xS} (v1 : Int32) (S : xS) {H : Heap} {locs : List Loc} {ls : Array Slot} (h : c1_makeReady_b17 n v1 S = some o) (hW : xW D vwCl (cDom N) ad (cDe ad N cI cJ cL cN) S H) (hS : va_S (xA (cDom N) ad) s.heap H locs) (hl : lv_has ls 4 [(0, .ref (ad n 1)), (1, .int v1)]) : W p l e { frames := 1, cells := 0, slots := 0, locals := 26 } s m args below meth c H locs 0 0 (MQ below (xQ D vwCl (cDom N) ad (cDe ad N cI cJ cL cN) none o) args s 0 0 (xA (cDom N) ad)) (F0 m 17 ls [.ref (ad n 7)]) := by
  have hx := F.1
  have hb := F.2.1
  unfold c1_makeReady_b17 at h
  refine lv_astore_n (lv' := [(2, .ref (ad n 7)), (0, .ref (ad n 1)), (1, .int v1)]) hx hb dX1_makeReady_17 rfl hl (by decide) rfl (fun ls hl => ?_)
  refine lv_iload_n hx hb dX1_makeReady_18 rfl (lv_at hl 2 rfl) ?_
  refine lv_ldc (v := (65534 : Int32)) hx hb F.2.2.2.1 (x_hts F _ k_3_76) dX1_makeReady_19 ?_
  refine lv_iand hx hb dX1_makeReady_21 ?_
  refine lv_istore_n (lv' := [(3, .int (v1 &&& (65534 : Int32))), (2, .ref (ad n 7)), (0, .ref (ad n 1)), (1, .int v1)]) hx hb dX1_makeReady_22 rfl hl (by decide) rfl (fun ls hl => ?_)
  refine lv_aload_n hx hb dX1_makeReady_23 rfl (lv_at hl 1 rfl) ?_
  refine x_cVi (As := []) F xG_ok hK hW hS um_X8_isEmpty k_3_77 (fun _ h1 => m_c8_isEmpty hN hI ⟨hn, Or.inr rfl⟩  h1) rfl (cd_dX8 ⟨hn, Or.inr rfl⟩) (cd_eX8 hN ⟨hn, Or.inr rfl⟩) rfl rfl hl.1 rfl rfl ⟨Nat.le_of_ble_eq_true rfl, Nat.le_of_ble_eq_true rfl⟩ ⟨Nat.zero_le _, Nat.zero_le _⟩ (Nat.le_of_ble_eq_true rfl) dX1_makeReady_24 h (fun r_2 S2 H locs hW hS h => ?_)
  refine lv_if_eq (tgt := 38) hx hb dX1_makeReady_27 (by decide) (fun c_3 => ?_) (fun c_3 => ?_)
  · replace h := (if_pos c_3).symm.trans h
    refine lv_aload_n hx hb dX1_makeReady_38 rfl (lv_at hl 2 rfl) ?_
    refine x_get F hK hW xc_X1 (cd_dX1 hn) (cd_eX1 hN hn) 0 (by decide) k_1_148 (rfl) dX1_makeReady_39 ?_
    refine lv_aload_n hx hb dX1_makeReady_42 rfl (lv_at hl 1 rfl) ?_
    refine x_getN F hK hW xc_X8 (cd_dX8 ⟨hn, Or.inr rfl⟩) (cd_eX8 hN ⟨hn, Or.inr rfl⟩) 1 (by decide) kn_22 (rfl) dX1_makeReady_43 ?_
    refine lv_iconst (v := (4 : Int32)) hx hb dX1_makeReady_46 (by decide) ?_
    refine lv_isub hx hb dX1_makeReady_47 ?_
    refine lv_iload_n hx hb dX1_makeReady_48 rfl (lv_at hl 0 rfl) ?_
    refine x_cVv (As := [.int ((xI S2 n 7 1) - (4 : Int32)), .int (v1 &&& (65534 : Int32))]) F xG_ok hK hW hS um_X5_setWord k_3_81 (fun _ h1 => m_c5_setWord hN hI (is5n hn) _ _ h1) rfl (cd_dX5 (is5n hn)) (cd_eX5 hN (is5n hn)) rfl rfl hl.1 rfl rfl ⟨Nat.le_of_ble_eq_true rfl, Nat.le_of_ble_eq_true rfl⟩ ⟨Nat.zero_le _, Nat.zero_le _⟩ (Nat.le_of_ble_eq_true rfl) dX1_makeReady_49 h (fun S4 H locs hW hS h => ?_)
    refine lv_aload_n hx hb dX1_makeReady_52 rfl (lv_at hl 1 rfl) ?_
    refine lv_iload_n hx hb dX1_makeReady_53 rfl (lv_at hl 0 rfl) ?_
    refine x_putN F hK hI hW hS xc_X8 (cd_dX8 ⟨hn, Or.inr rfl⟩) (cd_eX8 hN ⟨hn, Or.inr rfl⟩) 1 (by decide) kn_22 rfl (v := (v1 &&& (65534 : Int32))) rfl rfl (fun _ _ => rfl) (fun _ _ => Nat.le_of_ble_eq_true rfl) dX1_makeReady_54 h (fun S5 H locs hW hS h => ?_)
    exact x_vret F hr hlk hW hS dX1_makeReady_57 h
  replace h := (if_neg c_3).symm.trans h
  refine lv_aload_n hx hb dX1_makeReady_30 rfl (lv_at hl 1 rfl) ?_
  refine lv_iload_n hx hb dX1_makeReady_31 rfl (lv_at hl 0 rfl) ?_
  refine x_putN F hK hI hW hS xc_X8 (cd_dX8 ⟨hn, Or.inr rfl⟩) (cd_eX8 hN ⟨hn, Or.inr rfl⟩) 0 (by decide) kn_20 rfl (v := (v1 &&& (65534 : Int32))) rfl rfl (fun _ _ => rfl) (fun _ _ => Nat.le_of_ble_eq_true rfl) dX1_makeReady_32 h (fun S6 H locs hW hS h => ?_)
  refine lv_goto (tgt := 52) hx hb dX1_makeReady_35 (by decide) ?_
  refine lv_aload_n hx hb dX1_makeReady_52 rfl (lv_at hl 1 rfl) ?_
  refine lv_iload_n hx hb dX1_makeReady_53 rfl (lv_at hl 0 rfl) ?_
  refine x_putN F hK hI hW hS xc_X8 (cd_dX8 ⟨hn, Or.inr rfl⟩) (cd_eX8 hN ⟨hn, Or.inr rfl⟩) 1 (by decide) kn_22 rfl (v := (v1 &&& (65534 : Int32))) rfl rfl (fun _ _ => rfl) (fun _ _ => Nat.le_of_ble_eq_true rfl) dX1_makeReady_54 h (fun S7 H locs hW hS h => ?_)
  exact x_vret F hr hlk hW hS dX1_makeReady_57 h
def c1_makeReady_b17x1 (n : Nat) (v1 : Int32) (S : xS) : Option (xS) := (c8_isEmpty n 6 S ).bind (fun (r_8, S8) => if r_8 = 0 then ((c5_setWord n 2 S8 ((xI S8 n 6 1) - (4 : Int32)) (v1 &&& (65534 : Int32))).bind (fun S10 => xnm (sI S10 n 6 1 (v1 &&& (65534 : Int32))) (fun S11 => some S11))) else (xnm (sI S8 n 6 0 (v1 &&& (65534 : Int32))) (fun S12 => xnm (sI S12 n 6 1 (v1 &&& (65534 : Int32))) (fun S13 => some S13))))
set_option maxHeartbeats 4000000 in
set_option maxRecDepth 100000 in
theorem m_c1_makeReady_b17x1 {l : Launch} {D : va_G} {cI cJ cL cN : ClassId} {ad : Nat → Nat → Nat} {N : Nat} (hN : N ≤ 8) (hI : xInj (cDom N) ad) {n : Nat} (hn : n < N) {p : Program} {e : Env} {s : State} {m : MethodId} {args : Array Value} {below : List Frame} {meth : Method} {c : Code} (F : CallFix p m c cX1_makeReady 4 s args (Cond.code yX1_makeReady cX1_makeReady 4 none :: xG) (yX1_makeReady).cls) (hr : meth.sig.returnType = none) (hlk : meth.locks = false) (hK : xK D vwCl (cTy cI cJ cL cN) cNf cNm s) {o : xS} (v1 : Int32) (S : xS) {H : Heap} {locs : List Loc} {ls : Array Slot} (h : c1_makeReady_b17x1 n v1 S = some o) (hW : xW D vwCl (cDom N) ad (cDe ad N cI cJ cL cN) S H) (hS : va_S (xA (cDom N) ad) s.heap H locs) (hl : lv_has ls 4 [(0, .ref (ad n 1)), (1, .int v1)]) : W p l e { frames := 1, cells := 0, slots := 0, locals := 26 } s m args below meth c H locs 0 0 (MQ below (xQ D vwCl (cDom N) ad (cDe ad N cI cJ cL cN) none o) args s 0 0 (xA (cDom N) ad)) (F0 m 17 ls [.ref (ad n 6)]) := by
  have hx := F.1
  have hb := F.2.1
  unfold c1_makeReady_b17x1 at h
  refine lv_astore_n (lv' := [(2, .ref (ad n 6)), (0, .ref (ad n 1)), (1, .int v1)]) hx hb dX1_makeReady_17 rfl hl (by decide) rfl (fun ls hl => ?_)
  refine lv_iload_n hx hb dX1_makeReady_18 rfl (lv_at hl 2 rfl) ?_
  refine lv_ldc (v := (65534 : Int32)) hx hb F.2.2.2.1 (x_hts F _ k_3_76) dX1_makeReady_19 ?_
  refine lv_iand hx hb dX1_makeReady_21 ?_
  refine lv_istore_n (lv' := [(3, .int (v1 &&& (65534 : Int32))), (2, .ref (ad n 6)), (0, .ref (ad n 1)), (1, .int v1)]) hx hb dX1_makeReady_22 rfl hl (by decide) rfl (fun ls hl => ?_)
  refine lv_aload_n hx hb dX1_makeReady_23 rfl (lv_at hl 1 rfl) ?_
  refine x_cVi (As := []) F xG_ok hK hW hS um_X8_isEmpty k_3_77 (fun _ h1 => m_c8_isEmpty hN hI ⟨hn, Or.inl rfl⟩  h1) rfl (cd_dX8 ⟨hn, Or.inl rfl⟩) (cd_eX8 hN ⟨hn, Or.inl rfl⟩) rfl rfl hl.1 rfl rfl ⟨Nat.le_of_ble_eq_true rfl, Nat.le_of_ble_eq_true rfl⟩ ⟨Nat.zero_le _, Nat.zero_le _⟩ (Nat.le_of_ble_eq_true rfl) dX1_makeReady_24 h (fun r_8 S8 H locs hW hS h => ?_)
  refine lv_if_eq (tgt := 38) hx hb dX1_makeReady_27 (by decide) (fun c_9 => ?_) (fun c_9 => ?_)
  · replace h := (if_pos c_9).symm.trans h
    refine lv_aload_n hx hb dX1_makeReady_38 rfl (lv_at hl 2 rfl) ?_
    refine x_get F hK hW xc_X1 (cd_dX1 hn) (cd_eX1 hN hn) 0 (by decide) k_1_148 (rfl) dX1_makeReady_39 ?_
    refine lv_aload_n hx hb dX1_makeReady_42 rfl (lv_at hl 1 rfl) ?_
    refine x_getN F hK hW xc_X8 (cd_dX8 ⟨hn, Or.inl rfl⟩) (cd_eX8 hN ⟨hn, Or.inl rfl⟩) 1 (by decide) kn_22 (rfl) dX1_makeReady_43 ?_
    refine lv_iconst (v := (4 : Int32)) hx hb dX1_makeReady_46 (by decide) ?_
    refine lv_isub hx hb dX1_makeReady_47 ?_
    refine lv_iload_n hx hb dX1_makeReady_48 rfl (lv_at hl 0 rfl) ?_
    refine x_cVv (As := [.int ((xI S8 n 6 1) - (4 : Int32)), .int (v1 &&& (65534 : Int32))]) F xG_ok hK hW hS um_X5_setWord k_3_81 (fun _ h1 => m_c5_setWord hN hI (is5n hn) _ _ h1) rfl (cd_dX5 (is5n hn)) (cd_eX5 hN (is5n hn)) rfl rfl hl.1 rfl rfl ⟨Nat.le_of_ble_eq_true rfl, Nat.le_of_ble_eq_true rfl⟩ ⟨Nat.zero_le _, Nat.zero_le _⟩ (Nat.le_of_ble_eq_true rfl) dX1_makeReady_49 h (fun S10 H locs hW hS h => ?_)
    refine lv_aload_n hx hb dX1_makeReady_52 rfl (lv_at hl 1 rfl) ?_
    refine lv_iload_n hx hb dX1_makeReady_53 rfl (lv_at hl 0 rfl) ?_
    refine x_putN F hK hI hW hS xc_X8 (cd_dX8 ⟨hn, Or.inl rfl⟩) (cd_eX8 hN ⟨hn, Or.inl rfl⟩) 1 (by decide) kn_22 rfl (v := (v1 &&& (65534 : Int32))) rfl rfl (fun _ _ => rfl) (fun _ _ => Nat.le_of_ble_eq_true rfl) dX1_makeReady_54 h (fun S11 H locs hW hS h => ?_)
    exact x_vret F hr hlk hW hS dX1_makeReady_57 h
  replace h := (if_neg c_9).symm.trans h
  refine lv_aload_n hx hb dX1_makeReady_30 rfl (lv_at hl 1 rfl) ?_
  refine lv_iload_n hx hb dX1_makeReady_31 rfl (lv_at hl 0 rfl) ?_
  refine x_putN F hK hI hW hS xc_X8 (cd_dX8 ⟨hn, Or.inl rfl⟩) (cd_eX8 hN ⟨hn, Or.inl rfl⟩) 0 (by decide) kn_20 rfl (v := (v1 &&& (65534 : Int32))) rfl rfl (fun _ _ => rfl) (fun _ _ => Nat.le_of_ble_eq_true rfl) dX1_makeReady_32 h (fun S12 H locs hW hS h => ?_)
  refine lv_goto (tgt := 52) hx hb dX1_makeReady_35 (by decide) ?_
  refine lv_aload_n hx hb dX1_makeReady_52 rfl (lv_at hl 1 rfl) ?_
  refine lv_iload_n hx hb dX1_makeReady_53 rfl (lv_at hl 0 rfl) ?_
  refine x_putN F hK hI hW hS xc_X8 (cd_dX8 ⟨hn, Or.inl rfl⟩) (cd_eX8 hN ⟨hn, Or.inl rfl⟩) 1 (by decide) kn_22 rfl (v := (v1 &&& (65534 : Int32))) rfl rfl (fun _ _ => rfl) (fun _ _ => Nat.le_of_ble_eq_true rfl) dX1_makeReady_54 h (fun S13 H locs hW hS h => ?_)
  exact x_vret F hr hlk hW hS dX1_makeReady_57 h
def c1_makeReady (n : Nat) (S : xS) (a1 : Int32) : Option (xS) := if (a1 &&& (1 : Int32)) = 0 then (c1_makeReady_b17x1 n a1 S) else (c1_makeReady_b17 n a1 S)
set_option maxHeartbeats 4000000 in
set_option maxRecDepth 100000 in
theorem m_c1_makeReady {l : Launch} {D : va_G} {cI cJ cL cN : ClassId} {ad : Nat → Nat → Nat} {N : Nat} (hN : N ≤ 8) (hI : xInj (cDom N) ad) {n : Nat} (hn : n < N) {S : xS} (a1 : Int32) {o : xS} (h : c1_makeReady n S a1 = some o) : Met l yX1_makeReady (Cond.code yX1_makeReady cX1_makeReady 4 none :: xG) { frames := 1, cells := 0, slots := 0, locals := 26 } (xPc D vwCl (cTy cI cJ cL cN) cNf cNm (cDom N) ad (cDe ad N cI cJ cL cN) [.ref (ad n 1), .int a1] S) (xQ D vwCl (cDom N) ad (cDe ad N cI cJ cL cN) none o) 0 0 (xA (cDom N) ad) := by
  unfold c1_makeReady at h
  refine x_enter (by decide) (Nat.le_of_ble_eq_true rfl) (fun p e s m below meth c F hr hlk hK hW hS ls hl => ?_)
  have hl : lv_has ls 4 [(0, .ref (ad n 1)), (1, .int a1)] := hl
  have hx := F.1
  have hb := F.2.1
  refine lv_iload_n hx hb dX1_makeReady_0 rfl (lv_at hl 1 rfl) ?_
  refine lv_iconst (v := (1 : Int32)) hx hb dX1_makeReady_1 (by decide) ?_
  refine lv_iand hx hb dX1_makeReady_2 ?_
  refine lv_if_ne (tgt := 13) hx hb dX1_makeReady_3 (by decide) (fun c_1 => ?_) (fun c_1 => ?_)
  · replace h := (if_neg c_1).symm.trans h
    refine lv_aload_n hx hb dX1_makeReady_13 rfl (lv_at hl 0 rfl) ?_
    refine x_get F hK hW xc_X1 (cd_dX1 hn) (cd_eX1 hN hn) 4 (by decide) k_1_161 (rfl) dX1_makeReady_14 ?_
    exact m_c1_makeReady_b17 hN hI hn F hr hlk hK _ _ h hW hS (lv_sub hl [0, 1] rfl)
  replace h := (if_pos c_1).symm.trans h
  refine lv_aload_n hx hb dX1_makeReady_6 rfl (lv_at hl 0 rfl) ?_
  refine x_get F hK hW xc_X1 (cd_dX1 hn) (cd_eX1 hN hn) 3 (by decide) k_1_159 (rfl) dX1_makeReady_7 ?_
  refine lv_goto (tgt := 17) hx hb dX1_makeReady_10 (by decide) ?_
  exact m_c1_makeReady_b17x1 hN hI hn F hr hlk hK _ _ h hW hS (lv_sub hl [0, 1] rfl)
/-! X0_freePartner -/
def c0_freePartner (n : Nat) (S : xS) (a1 : Int32) (a2 : Int32) : Option (xS) := (c5_setWord n 2 S a1 (32768 : Int32)).bind (fun S1 => (c1_makeReady n S1 a2).bind (fun S2 => (c9_popAll n 4 S2 ).bind (fun S3 => some S3)))
set_option maxHeartbeats 4000000 in
set_option maxRecDepth 100000 in
theorem m_c0_freePartner {l : Launch} {D : va_G} {cI cJ cL cN : ClassId} {ad : Nat → Nat → Nat} {N : Nat} (hN : N ≤ 8) (hI : xInj (cDom N) ad) {n : Nat} (hn : n < N) {S : xS} (a1 : Int32) (a2 : Int32) {o : xS} (h : c0_freePartner n S a1 a2 = some o) : Met l yX0_freePartner (Cond.code yX0_freePartner cX0_freePartner 3 none :: xG) { frames := 2, cells := 0, slots := 0, locals := 49 } (xPc D vwCl (cTy cI cJ cL cN) cNf cNm (cDom N) ad (cDe ad N cI cJ cL cN) [.ref (ad n 21), .int a1, .int a2] S) (xQ D vwCl (cDom N) ad (cDe ad N cI cJ cL cN) none o) 0 0 (xA (cDom N) ad) := by
  unfold c0_freePartner at h
  refine x_enter (by decide) (Nat.le_of_ble_eq_true rfl) (fun p e s m below meth c F hr hlk hK hW hS ls hl => ?_)
  have hl : lv_has ls 3 [(0, .ref (ad n 21)), (1, .int a1), (2, .int a2)] := hl
  have hx := F.1
  have hb := F.2.1
  refine lv_aload_n hx hb dX0_freePartner_0 rfl (lv_at hl 0 rfl) ?_
  refine x_get F hK hW xc_X0 (cd_dX0 hn) (cd_eX0 hN hn) 2 (by decide) k_2_74 (rfl) dX0_freePartner_1 ?_
  refine lv_iload_n hx hb dX0_freePartner_4 rfl (lv_at hl 1 rfl) ?_
  refine lv_ldc (v := (32768 : Int32)) hx hb F.2.2.2.1 (x_hts F _ k_4_191) dX0_freePartner_5 ?_
  refine x_cVv (As := [.int a1, .int (32768 : Int32)]) F xG_ok hK hW hS um_X5_setWord k_4_210 (fun _ h1 => m_c5_setWord hN hI (is5n hn) _ _ h1) rfl (cd_dX5 (is5n hn)) (cd_eX5 hN (is5n hn)) rfl rfl hl.1 rfl rfl ⟨Nat.le_of_ble_eq_true rfl, Nat.le_of_ble_eq_true rfl⟩ ⟨Nat.zero_le _, Nat.zero_le _⟩ (Nat.le_of_ble_eq_true rfl) dX0_freePartner_7 h (fun S1 H locs hW hS h => ?_)
  refine lv_aload_n hx hb dX0_freePartner_10 rfl (lv_at hl 0 rfl) ?_
  refine x_get F hK hW xc_X0 (cd_dX0 hn) (cd_eX0 hN hn) 0 (by decide) k_2_72 (rfl) dX0_freePartner_11 ?_
  refine lv_iload_n hx hb dX0_freePartner_14 rfl (lv_at hl 2 rfl) ?_
  refine x_cVv (As := [.int a2]) F xG_ok hK hW hS um_X1_makeReady k_4_217 (fun _ h1 => m_c1_makeReady hN hI hn _ h1) rfl (cd_dX1 hn) (cd_eX1 hN hn) rfl rfl hl.1 rfl rfl ⟨Nat.le_of_ble_eq_true rfl, Nat.le_of_ble_eq_true rfl⟩ ⟨Nat.zero_le _, Nat.zero_le _⟩ (Nat.le_of_ble_eq_true rfl) dX0_freePartner_15 h (fun S2 H locs hW hS h => ?_)
  refine lv_aload_n hx hb dX0_freePartner_18 rfl (lv_at hl 0 rfl) ?_
  refine x_get F hK hW xc_X0 (cd_dX0 hn) (cd_eX0 hN hn) 1 (by decide) k_2_73 (rfl) dX0_freePartner_19 ?_
  refine x_cVv (As := []) F xG_ok hK hW hS um_X9_popAll k_4_196 (fun _ h1 => m_c9_popAll hN hI ⟨hn, Or.inl rfl⟩  h1) rfl (cd_dX9 ⟨hn, Or.inl rfl⟩) (cd_eX9 hN ⟨hn, Or.inl rfl⟩) rfl rfl hl.1 rfl rfl ⟨Nat.le_of_ble_eq_true rfl, Nat.le_of_ble_eq_true rfl⟩ ⟨Nat.zero_le _, Nat.zero_le _⟩ (Nat.le_of_ble_eq_true rfl) dX0_freePartner_22 h (fun S3 H locs hW hS h => ?_)
  exact x_vret F hr hlk hW hS dX0_freePartner_25 h
/-! X0_input -/
def c0_input (n : Nat) (S : xS)  : Option (xS) := if (xI S n 4 0) ≤ (4096 : Int32) then ((c0_linkOf n S (xI S n 4 1)).bind (fun (r_2, S2) => xcs r_2 ((c5_wordAt n 2 S2 (xI S n 4 1)).bind (fun (r_4, S4) => if r_4 = (32768 : Int32) then ((c0_waitAt n S4 (xI S n 4 1) (xI S n 4 2)).bind (fun S9 => some S9)) else ((c5_wordAt n 2 S4 ((r_4 &&& (65534 : Int32)) - (6 : Int32))).bind (fun (r_6, S6) => (c1_copyBytes n S6 r_6 (xI S n 4 2) (xI S n 4 0)).bind (fun S7 => (c0_freePartner n S7 (xI S n 4 1) r_4).bind (fun S8 => some S8)))))) (fun n_3 j_3 => gq (n = n_3 ∧ 12 ≤ j_3 ∧ j_3 < 16) ((c0_inputFromLink n j_3 S2 (xI S n 4 0) (xI S n 4 2)).bind (fun S10 => some S10))))) else ((c1_stopWith n S (5 : Int32)).bind (fun S11 => some S11))
set_option maxHeartbeats 4000000 in
set_option maxRecDepth 100000 in
theorem m_c0_input {l : Launch} {D : va_G} {cI cJ cL cN : ClassId} {ad : Nat → Nat → Nat} {N : Nat} (hN : N ≤ 8) (hI : xInj (cDom N) ad) {n : Nat} (hn : n < N) {S : xS}  {o : xS} (h : c0_input n S  = some o) : Met l yX0_input (Cond.code yX0_input cX0_input 6 none :: xG) { frames := 3, cells := 0, slots := 0, locals := 73 } (xPc D vwCl (cTy cI cJ cL cN) cNf cNm (cDom N) ad (cDe ad N cI cJ cL cN) [.ref (ad n 21)] S) (xQ D vwCl (cDom N) ad (cDe ad N cI cJ cL cN) none o) 0 0 (xA (cDom N) ad) := by
  unfold c0_input at h
  refine x_enter (by decide) (Nat.le_of_ble_eq_true rfl) (fun p e s m below meth c F hr hlk hK hW hS ls hl => ?_)
  have hl : lv_has ls 6 [(0, .ref (ad n 21))] := hl
  have hx := F.1
  have hb := F.2.1
  refine lv_aload_n hx hb dX0_input_0 rfl (lv_at hl 0 rfl) ?_
  refine x_get F hK hW xc_X0 (cd_dX0 hn) (cd_eX0 hN hn) 1 (by decide) k_2_73 (rfl) dX0_input_1 ?_
  refine x_getN F hK hW xc_X9 (cd_dX9 ⟨hn, Or.inl rfl⟩) (cd_eX9 hN ⟨hn, Or.inl rfl⟩) 0 (by decide) kn_1 (rfl) dX0_input_4 ?_
  refine lv_istore_n (lv' := [(1, .int (xI S n 4 0)), (0, .ref (ad n 21))]) hx hb dX0_input_7 rfl hl (by decide) rfl (fun ls hl => ?_)
  refine lv_aload_n hx hb dX0_input_8 rfl (lv_at hl 1 rfl) ?_
  refine x_get F hK hW xc_X0 (cd_dX0 hn) (cd_eX0 hN hn) 1 (by decide) k_2_73 (rfl) dX0_input_9 ?_
  refine x_getN F hK hW xc_X9 (cd_dX9 ⟨hn, Or.inl rfl⟩) (cd_eX9 hN ⟨hn, Or.inl rfl⟩) 1 (by decide) kn_4 (rfl) dX0_input_12 ?_
  refine lv_istore_n (lv' := [(2, .int (xI S n 4 1)), (1, .int (xI S n 4 0)), (0, .ref (ad n 21))]) hx hb dX0_input_15 rfl hl (by decide) rfl (fun ls hl => ?_)
  refine lv_aload_n hx hb dX0_input_16 rfl (lv_at hl 2 rfl) ?_
  refine x_get F hK hW xc_X0 (cd_dX0 hn) (cd_eX0 hN hn) 1 (by decide) k_2_73 (rfl) dX0_input_17 ?_
  refine x_getN F hK hW xc_X9 (cd_dX9 ⟨hn, Or.inl rfl⟩) (cd_eX9 hN ⟨hn, Or.inl rfl⟩) 2 (by decide) kn_7 (rfl) dX0_input_20 ?_
  refine lv_istore_n (lv' := [(3, .int (xI S n 4 2)), (2, .int (xI S n 4 1)), (1, .int (xI S n 4 0)), (0, .ref (ad n 21))]) hx hb dX0_input_23 rfl hl (by decide) rfl (fun ls hl => ?_)
  refine lv_iload_n hx hb dX0_input_24 rfl (lv_at hl 2 rfl) ?_
  refine lv_sipush (v := (4096 : Int32)) hx hb dX0_input_25 (by decide) ?_
  refine lv_icmp_le (tgt := 40) hx hb dX0_input_28 (by decide) (fun c_1 => ?_) (fun c_1 => ?_)
  · replace h := (if_pos c_1).symm.trans h
    refine lv_aload_n hx hb dX0_input_40 rfl (lv_at hl 3 rfl) ?_
    refine lv_iload_n hx hb dX0_input_41 rfl (lv_at hl 1 rfl) ?_
    refine x_cVq (As := [.int (xI S n 4 1)]) F xG_ok hK hW hS um_X0_linkOf k_4_186 (fun _ h1 => m_c0_linkOf hN hI hn _ h1) rfl (cd_dX0 hn) (cd_eX0 hN hn) rfl rfl hl.1 rfl rfl ⟨Nat.le_of_ble_eq_true rfl, Nat.le_of_ble_eq_true rfl⟩ ⟨Nat.zero_le _, Nat.zero_le _⟩ (Nat.le_of_ble_eq_true rfl) dX0_input_42 h (fun r_2 S2 H locs hW hS h => ?_)
    refine x_astoreq (lv' := [(4, xRv ad r_2), (3, .int (xI S n 4 2)), (2, .int (xI S n 4 1)), (1, .int (xI S n 4 0)), (0, .ref (ad n 21))]) hx hb dX0_input_45 hl (by decide) rfl (fun ls hl => ?_)
    refine x_aloadq hx hb dX0_input_47 (lv_at hl 0 rfl) ?_
    rcases r_2 with _ | ⟨n_3, j_3⟩
    · replace h := xcs_n h
      have hl : lv_has ls 6 [(4, .null), (3, .int (xI S n 4 2)), (2, .int (xI S n 4 1)), (1, .int (xI S n 4 0)), (0, .ref (ad n 21))] := hl
      refine lv_ifnullN (tgt := 61) hx hb dX0_input_49 (by decide) ?_
      refine lv_aload_n hx hb dX0_input_61 rfl (lv_at hl 4 rfl) ?_
      refine x_get F hK hW xc_X0 (cd_dX0 hn) (cd_eX0 hN hn) 2 (by decide) k_2_74 (rfl) dX0_input_62 ?_
      refine lv_iload_n hx hb dX0_input_65 rfl (lv_at hl 2 rfl) ?_
      refine x_cVi (As := [.int (xI S n 4 1)]) F xG_ok hK hW hS um_X5_wordAt k_4_205 (fun _ h1 => m_c5_wordAt hN hI (is5n hn) _ h1) rfl (cd_dX5 (is5n hn)) (cd_eX5 hN (is5n hn)) rfl rfl hl.1 rfl rfl ⟨Nat.le_of_ble_eq_true rfl, Nat.le_of_ble_eq_true rfl⟩ ⟨Nat.zero_le _, Nat.zero_le _⟩ (Nat.le_of_ble_eq_true rfl) dX0_input_66 h (fun r_4 S4 H locs hW hS h => ?_)
      refine lv_istore (lv' := [(5, .int r_4), (4, .null), (3, .int (xI S n 4 2)), (2, .int (xI S n 4 1)), (1, .int (xI S n 4 0)), (0, .ref (ad n 21))]) hx hb dX0_input_69 hl (by decide) rfl (fun ls hl => ?_)
      refine lv_iload hx hb dX0_input_71 (lv_at hl 0 rfl) ?_
      refine lv_ldc (v := (32768 : Int32)) hx hb F.2.2.2.1 (x_hts F _ k_4_191) dX0_input_73 ?_
      refine lv_icmp_ne (tgt := 85) hx hb dX0_input_75 (by decide) (fun c_5 => ?_) (fun c_5 => ?_)
      · replace h := (if_neg c_5).symm.trans h
        refine lv_aload_n hx hb dX0_input_85 rfl (lv_at hl 5 rfl) ?_
        refine x_get F hK hW xc_X0 (cd_dX0 hn) (cd_eX0 hN hn) 0 (by decide) k_2_72 (rfl) dX0_input_86 ?_
        refine lv_aload_n hx hb dX0_input_89 rfl (lv_at hl 5 rfl) ?_
        refine x_get F hK hW xc_X0 (cd_dX0 hn) (cd_eX0 hN hn) 2 (by decide) k_2_74 (rfl) dX0_input_90 ?_
        refine lv_iload hx hb dX0_input_93 (lv_at hl 0 rfl) ?_
        refine lv_ldc (v := (65534 : Int32)) hx hb F.2.2.2.1 (x_hts F _ k_4_190) dX0_input_95 ?_
        refine lv_iand hx hb dX0_input_97 ?_
        refine lv_bipush (v := (6 : Int32)) hx hb dX0_input_98 (by decide) ?_
        refine lv_isub hx hb dX0_input_100 ?_
        refine x_cVi (As := [.int ((r_4 &&& (65534 : Int32)) - (6 : Int32))]) F xG_ok hK hW hS um_X5_wordAt k_4_205 (fun _ h1 => m_c5_wordAt hN hI (is5n hn) _ h1) rfl (cd_dX5 (is5n hn)) (cd_eX5 hN (is5n hn)) rfl rfl hl.1 rfl rfl ⟨Nat.le_of_ble_eq_true rfl, Nat.le_of_ble_eq_true rfl⟩ ⟨Nat.zero_le _, Nat.zero_le _⟩ (Nat.le_of_ble_eq_true rfl) dX0_input_101 h (fun r_6 S6 H locs hW hS h => ?_)
        refine lv_iload_n hx hb dX0_input_104 rfl (lv_at hl 2 rfl) ?_
        refine lv_iload_n hx hb dX0_input_105 rfl (lv_at hl 4 rfl) ?_
        refine x_cVv (As := [.int r_6, .int (xI S n 4 2), .int (xI S n 4 0)]) F xG_ok hK hW hS um_X1_copyBytes k_4_212 (fun _ h1 => m_c1_copyBytes hN hI hn _ _ _ h1) rfl (cd_dX1 hn) (cd_eX1 hN hn) rfl rfl hl.1 rfl rfl ⟨Nat.le_of_ble_eq_true rfl, Nat.le_of_ble_eq_true rfl⟩ ⟨Nat.zero_le _, Nat.zero_le _⟩ (Nat.le_of_ble_eq_true rfl) dX0_input_106 h (fun S7 H locs hW hS h => ?_)
        refine lv_aload_n hx hb dX0_input_109 rfl (lv_at hl 5 rfl) ?_
        refine lv_iload_n hx hb dX0_input_110 rfl (lv_at hl 3 rfl) ?_
        refine lv_iload hx hb dX0_input_111 (lv_at hl 0 rfl) ?_
        refine x_cVv (As := [.int (xI S n 4 1), .int r_4]) F xG_ok hK hW hS um_X0_freePartner k_4_213 (fun _ h1 => m_c0_freePartner hN hI hn _ _ h1) rfl (cd_dX0 hn) (cd_eX0 hN hn) rfl rfl hl.1 rfl rfl ⟨Nat.le_of_ble_eq_true rfl, Nat.le_of_ble_eq_true rfl⟩ ⟨Nat.zero_le _, Nat.zero_le _⟩ (Nat.le_of_ble_eq_true rfl) dX0_input_113 h (fun S8 H locs hW hS h => ?_)
        exact x_vret F hr hlk hW hS dX0_input_116 h
      replace h := (if_pos c_5).symm.trans h
      refine lv_aload_n hx hb dX0_input_78 rfl (lv_at hl 5 rfl) ?_
      refine lv_iload_n hx hb dX0_input_79 rfl (lv_at hl 3 rfl) ?_
      refine lv_iload_n hx hb dX0_input_80 rfl (lv_at hl 2 rfl) ?_
      refine x_cVv (As := [.int (xI S n 4 1), .int (xI S n 4 2)]) F xG_ok hK hW hS um_X0_waitAt k_4_206 (fun _ h1 => m_c0_waitAt hN hI hn _ _ h1) rfl (cd_dX0 hn) (cd_eX0 hN hn) rfl rfl hl.1 rfl rfl ⟨Nat.le_of_ble_eq_true rfl, Nat.le_of_ble_eq_true rfl⟩ ⟨Nat.zero_le _, Nat.zero_le _⟩ (Nat.le_of_ble_eq_true rfl) dX0_input_81 h (fun S9 H locs hW hS h => ?_)
      exact x_vret F hr hlk hW hS dX0_input_84 h
    replace h := xcs_s h
    have hg_3 := (gq_use h).1
    replace h := (gq_use h).2
    obtain ⟨he_3, -⟩ := id hg_3
    subst he_3
    have hl : lv_has ls 6 [(4, .ref (ad n j_3)), (3, .int (xI S n 4 2)), (2, .int (xI S n 4 1)), (1, .int (xI S n 4 0)), (0, .ref (ad n 21))] := hl
    refine lv_ifnull hx hb dX0_input_49 ?_
    refine lv_aload_n hx hb dX0_input_52 rfl (lv_at hl 4 rfl) ?_
    refine lv_aload hx hb dX0_input_53 (lv_at hl 0 rfl) ?_
    refine lv_iload_n hx hb dX0_input_55 rfl (lv_at hl 3 rfl) ?_
    refine lv_iload_n hx hb dX0_input_56 rfl (lv_at hl 1 rfl) ?_
    refine x_cVv (As := [.ref (ad n j_3), .int (xI S n 4 0), .int (xI S n 4 2)]) F xG_ok hK hW hS um_X0_inputFromLink k_4_192 (fun _ h1 => m_c0_inputFromLink hN hI hn ⟨hn, hg_3.2.1, hg_3.2.2⟩ _ _ h1) rfl (cd_dX0 hn) (cd_eX0 hN hn) rfl rfl hl.1 rfl rfl ⟨Nat.le_of_ble_eq_true rfl, Nat.le_of_ble_eq_true rfl⟩ ⟨Nat.zero_le _, Nat.zero_le _⟩ (Nat.le_of_ble_eq_true rfl) dX0_input_57 h (fun S10 H locs hW hS h => ?_)
    exact x_vret F hr hlk hW hS dX0_input_60 h
  replace h := (if_neg c_1).symm.trans h
  refine lv_aload_n hx hb dX0_input_31 rfl (lv_at hl 3 rfl) ?_
  refine x_get F hK hW xc_X0 (cd_dX0 hn) (cd_eX0 hN hn) 0 (by decide) k_2_72 (rfl) dX0_input_32 ?_
  refine lv_iconst (v := (5 : Int32)) hx hb dX0_input_35 (by decide) ?_
  refine x_cVv (As := [.int (5 : Int32)]) F xG_ok hK hW hS um_X1_stopWith k_4_185 (fun _ h1 => m_c1_stopWith hN hI hn _ h1) rfl (cd_dX1 hn) (cd_eX1 hN hn) rfl rfl hl.1 rfl rfl ⟨Nat.le_of_ble_eq_true rfl, Nat.le_of_ble_eq_true rfl⟩ ⟨Nat.zero_le _, Nat.zero_le _⟩ (Nat.le_of_ble_eq_true rfl) dX0_input_36 h (fun S11 H locs hW hS h => ?_)
  exact x_vret F hr hlk hW hS dX0_input_39 h
/-! X4_beginSending -/
def c4_beginSending (n j : Nat) (S : xS) (a1 : Int32) (a2 : Int32) (a3 : Int32) : Option (xS) := xnm (sI S n j 2 a1) (fun S1 => xnm (sI S1 n j 3 a2) (fun S2 => xnm (sI S2 n j 4 a3) (fun S3 => some S3)))
set_option maxHeartbeats 4000000 in
set_option maxRecDepth 100000 in
theorem m_c4_beginSending {l : Launch} {D : va_G} {cI cJ cL cN : ClassId} {ad : Nat → Nat → Nat} {N : Nat} (hN : N ≤ 8) (hI : xInj (cDom N) ad) {n j : Nat} (hj : isX4 N n j) {S : xS} (a1 : Int32) (a2 : Int32) (a3 : Int32) {o : xS} (h : c4_beginSending n j S a1 a2 a3 = some o) : Met l yX4_beginSending (Cond.code yX4_beginSending cX4_beginSending 4 none :: xG) { frames := 0, cells := 0, slots := 0, locals := 0 } (xPc D vwCl (cTy cI cJ cL cN) cNf cNm (cDom N) ad (cDe ad N cI cJ cL cN) [.ref (ad n j), .int a1, .int a2, .int a3] S) (xQ D vwCl (cDom N) ad (cDe ad N cI cJ cL cN) none o) 0 0 (xA (cDom N) ad) := by
  unfold c4_beginSending at h
  refine x_enter (by decide) (Nat.le_of_ble_eq_true rfl) (fun p e s m below meth c F hr hlk hK hW hS ls hl => ?_)
  have hl : lv_has ls 4 [(0, .ref (ad n j)), (1, .int a1), (2, .int a2), (3, .int a3)] := hl
  have hx := F.1
  have hb := F.2.1
  refine lv_aload_n hx hb dX4_beginSending_0 rfl (lv_at hl 0 rfl) ?_
  refine lv_iload_n hx hb dX4_beginSending_1 rfl (lv_at hl 1 rfl) ?_
  refine x_put F hK hI hW hS xc_X4 (cd_dX4 hj) (cd_eX4 hN hj) 2 (by decide) k_2_22 rfl (v := a1) rfl rfl (fun _ _ => rfl) (fun _ _ => Nat.le_of_ble_eq_true rfl) dX4_beginSending_2 h (fun S1 H locs hW hS h => ?_)
  refine lv_aload_n hx hb dX4_beginSending_5 rfl (lv_at hl 0 rfl) ?_
  refine lv_iload_n hx hb dX4_beginSending_6 rfl (lv_at hl 2 rfl) ?_
  refine x_put F hK hI hW hS xc_X4 (cd_dX4 hj) (cd_eX4 hN hj) 3 (by decide) k_2_24 rfl (v := a2) rfl rfl (fun _ _ => rfl) (fun _ _ => Nat.le_of_ble_eq_true rfl) dX4_beginSending_7 h (fun S2 H locs hW hS h => ?_)
  refine lv_aload_n hx hb dX4_beginSending_10 rfl (lv_at hl 0 rfl) ?_
  refine lv_iload_n hx hb dX4_beginSending_11 rfl (lv_at hl 3 rfl) ?_
  refine x_put F hK hI hW hS xc_X4 (cd_dX4 hj) (cd_eX4 hN hj) 4 (by decide) k_2_26 rfl (v := a3) rfl rfl (fun _ _ => rfl) (fun _ _ => Nat.le_of_ble_eq_true rfl) dX4_beginSending_12 h (fun S3 H locs hW hS h => ?_)
  exact x_vret F hr hlk hW hS dX4_beginSending_15 h
/-! X0_outputToLink -/
def c0_outputToLink (n : Nat) (j2 : Nat) (S : xS) (a2 : Int32) (a3 : Int32) : Option (xS) := (c9_popAll n 4 S ).bind (fun S1 => if a2 = 0 then (some S1) else (if (xI S1 n j2 2) = (-1 : Int32) then ((c1_own n S1 ).bind (fun (r_4, S4) => (c4_beginSending n j2 S4 r_4 a2 a3).bind (fun S5 => (c1_leaveWaiting n S5 ).bind (fun S6 => some S6)))) else ((c1_stopWith n S1 (3 : Int32)).bind (fun S7 => some S7))))
set_option maxHeartbeats 4000000 in
set_option maxRecDepth 100000 in
theorem m_c0_outputToLink {l : Launch} {D : va_G} {cI cJ cL cN : ClassId} {ad : Nat → Nat → Nat} {N : Nat} (hN : N ≤ 8) (hI : xInj (cDom N) ad) {n : Nat} (hn : n < N) {j2 : Nat} (hj2 : isX4 N n j2) {S : xS} (a2 : Int32) (a3 : Int32) {o : xS} (h : c0_outputToLink n j2 S a2 a3 = some o) : Met l yX0_outputToLink (Cond.code yX0_outputToLink cX0_outputToLink 4 none :: xG) { frames := 2, cells := 0, slots := 0, locals := 46 } (xPc D vwCl (cTy cI cJ cL cN) cNf cNm (cDom N) ad (cDe ad N cI cJ cL cN) [.ref (ad n 21), .ref (ad n j2), .int a2, .int a3] S) (xQ D vwCl (cDom N) ad (cDe ad N cI cJ cL cN) none o) 0 0 (xA (cDom N) ad) := by
  unfold c0_outputToLink at h
  refine x_enter (by decide) (Nat.le_of_ble_eq_true rfl) (fun p e s m below meth c F hr hlk hK hW hS ls hl => ?_)
  have hl : lv_has ls 4 [(0, .ref (ad n 21)), (1, .ref (ad n j2)), (2, .int a2), (3, .int a3)] := hl
  have hx := F.1
  have hb := F.2.1
  refine lv_aload_n hx hb dX0_outputToLink_0 rfl (lv_at hl 0 rfl) ?_
  refine x_get F hK hW xc_X0 (cd_dX0 hn) (cd_eX0 hN hn) 1 (by decide) k_2_73 (rfl) dX0_outputToLink_1 ?_
  refine x_cVv (As := []) F xG_ok hK hW hS um_X9_popAll k_4_196 (fun _ h1 => m_c9_popAll hN hI ⟨hn, Or.inl rfl⟩  h1) rfl (cd_dX9 ⟨hn, Or.inl rfl⟩) (cd_eX9 hN ⟨hn, Or.inl rfl⟩) rfl rfl hl.1 rfl rfl ⟨Nat.le_of_ble_eq_true rfl, Nat.le_of_ble_eq_true rfl⟩ ⟨Nat.zero_le _, Nat.zero_le _⟩ (Nat.le_of_ble_eq_true rfl) dX0_outputToLink_4 h (fun S1 H locs hW hS h => ?_)
  refine lv_iload_n hx hb dX0_outputToLink_7 rfl (lv_at hl 2 rfl) ?_
  refine lv_if_ne (tgt := 12) hx hb dX0_outputToLink_8 (by decide) (fun c_2 => ?_) (fun c_2 => ?_)
  · replace h := (if_neg c_2).symm.trans h
    refine lv_aload_n hx hb dX0_outputToLink_12 rfl (lv_at hl 1 rfl) ?_
    refine x_getN F hK hW xc_X4 (cd_dX4 hj2) (cd_eX4 hN hj2) 2 (by decide) kn_50 (rfl) dX0_outputToLink_13 ?_
    refine lv_iconst (v := (-1 : Int32)) hx hb dX0_outputToLink_16 (by decide) ?_
    refine lv_icmp_eq (tgt := 29) hx hb dX0_outputToLink_17 (by decide) (fun c_3 => ?_) (fun c_3 => ?_)
    · replace h := (if_pos c_3).symm.trans h
      refine lv_aload_n hx hb dX0_outputToLink_29 rfl (lv_at hl 1 rfl) ?_
      refine lv_aload_n hx hb dX0_outputToLink_30 rfl (lv_at hl 0 rfl) ?_
      refine x_get F hK hW xc_X0 (cd_dX0 hn) (cd_eX0 hN hn) 0 (by decide) k_2_72 (rfl) dX0_outputToLink_31 ?_
      refine x_cVi (As := []) F xG_ok hK hW hS um_X1_own k_4_197 (fun _ h1 => m_c1_own hN hI hn  h1) rfl (cd_dX1 hn) (cd_eX1 hN hn) rfl rfl hl.1 rfl rfl ⟨Nat.le_of_ble_eq_true rfl, Nat.le_of_ble_eq_true rfl⟩ ⟨Nat.zero_le _, Nat.zero_le _⟩ (Nat.le_of_ble_eq_true rfl) dX0_outputToLink_34 h (fun r_4 S4 H locs hW hS h => ?_)
      refine lv_iload_n hx hb dX0_outputToLink_37 rfl (lv_at hl 2 rfl) ?_
      refine lv_iload_n hx hb dX0_outputToLink_38 rfl (lv_at hl 3 rfl) ?_
      refine x_cVv (As := [.int r_4, .int a2, .int a3]) F xG_ok hK hW hS um_X4_beginSending k_4_226 (fun _ h1 => m_c4_beginSending hN hI hj2 _ _ _ h1) rfl (cd_dX4 hj2) (cd_eX4 hN hj2) rfl rfl hl.1 rfl rfl ⟨Nat.le_of_ble_eq_true rfl, Nat.le_of_ble_eq_true rfl⟩ ⟨Nat.zero_le _, Nat.zero_le _⟩ (Nat.le_of_ble_eq_true rfl) dX0_outputToLink_39 h (fun S5 H locs hW hS h => ?_)
      refine lv_aload_n hx hb dX0_outputToLink_42 rfl (lv_at hl 0 rfl) ?_
      refine x_get F hK hW xc_X0 (cd_dX0 hn) (cd_eX0 hN hn) 0 (by decide) k_2_72 (rfl) dX0_outputToLink_43 ?_
      refine x_cVv (As := []) F xG_ok hK hW hS um_X1_leaveWaiting k_4_204 (fun _ h1 => m_c1_leaveWaiting hN hI hn  h1) rfl (cd_dX1 hn) (cd_eX1 hN hn) rfl rfl hl.1 rfl rfl ⟨Nat.le_of_ble_eq_true rfl, Nat.le_of_ble_eq_true rfl⟩ ⟨Nat.zero_le _, Nat.zero_le _⟩ (Nat.le_of_ble_eq_true rfl) dX0_outputToLink_46 h (fun S6 H locs hW hS h => ?_)
      exact x_vret F hr hlk hW hS dX0_outputToLink_49 h
    replace h := (if_neg c_3).symm.trans h
    refine lv_aload_n hx hb dX0_outputToLink_20 rfl (lv_at hl 0 rfl) ?_
    refine x_get F hK hW xc_X0 (cd_dX0 hn) (cd_eX0 hN hn) 0 (by decide) k_2_72 (rfl) dX0_outputToLink_21 ?_
    refine lv_iconst (v := (3 : Int32)) hx hb dX0_outputToLink_24 (by decide) ?_
    refine x_cVv (As := [.int (3 : Int32)]) F xG_ok hK hW hS um_X1_stopWith k_4_185 (fun _ h1 => m_c1_stopWith hN hI hn _ h1) rfl (cd_dX1 hn) (cd_eX1 hN hn) rfl rfl hl.1 rfl rfl ⟨Nat.le_of_ble_eq_true rfl, Nat.le_of_ble_eq_true rfl⟩ ⟨Nat.zero_le _, Nat.zero_le _⟩ (Nat.le_of_ble_eq_true rfl) dX0_outputToLink_25 h (fun S7 H locs hW hS h => ?_)
    exact x_vret F hr hlk hW hS dX0_outputToLink_28 h
  replace h := (if_pos c_2).symm.trans h
  exact x_vret F hr hlk hW hS dX0_outputToLink_11 h
/-! X10_keep -/
def c10_keep (n : Nat) (S : xS) (a1 : Int32) (a2 : Int32) : Option (xS) := if a1 < 0 then (some S) else (if (64 : Int32) ≤ a1 then (some S) else (if a2 < 0 then (some S) else (if a2 < (64 : Int32) then (gd a1 64 (gd a2 64 (xnm (sI S n 9 (a2).toNatClampNeg (xI S n 9 (a1).toNatClampNeg)) (fun S5 => gd a1 64 (gd a2 64 (xnm (sI S5 n 10 (a2).toNatClampNeg (xI S5 n 10 (a1).toNatClampNeg)) (fun S6 => some S6))))))) else (some S))))
set_option maxHeartbeats 4000000 in
set_option maxRecDepth 100000 in
theorem m_c10_keep {l : Launch} {D : va_G} {cI cJ cL cN : ClassId} {ad : Nat → Nat → Nat} {N : Nat} (hN : N ≤ 8) (hI : xInj (cDom N) ad) {n : Nat} (hn : n < N) {S : xS} (a1 : Int32) (a2 : Int32) {o : xS} (h : c10_keep n S a1 a2 = some o) : Met l yX10_keep (Cond.code yX10_keep cX10_keep 3 none :: xG) { frames := 0, cells := 0, slots := 0, locals := 0 } (xPc D vwCl (cTy cI cJ cL cN) cNf cNm (cDom N) ad (cDe ad N cI cJ cL cN) [.ref (ad n 8), .int a1, .int a2] S) (xQ D vwCl (cDom N) ad (cDe ad N cI cJ cL cN) none o) 0 0 (xA (cDom N) ad) := by
  unfold c10_keep at h
  refine x_enter (by decide) (Nat.le_of_ble_eq_true rfl) (fun p e s m below meth c F hr hlk hK hW hS ls hl => ?_)
  have hl : lv_has ls 3 [(0, .ref (ad n 8)), (1, .int a1), (2, .int a2)] := hl
  have hx := F.1
  have hb := F.2.1
  refine lv_iload_n hx hb dX10_keep_0 rfl (lv_at hl 1 rfl) ?_
  refine lv_if_lt (tgt := 20) hx hb dX10_keep_1 (by decide) (fun c_1 => ?_) (fun c_1 => ?_)
  · replace h := (if_pos c_1).symm.trans h
    exact x_vret F hr hlk hW hS dX10_keep_20 h
  replace h := (if_neg c_1).symm.trans h
  refine lv_iload_n hx hb dX10_keep_4 rfl (lv_at hl 1 rfl) ?_
  refine lv_bipush (v := (64 : Int32)) hx hb dX10_keep_5 (by decide) ?_
  refine lv_icmp_ge (tgt := 20) hx hb dX10_keep_7 (by decide) (fun c_2 => ?_) (fun c_2 => ?_)
  · replace h := (if_pos c_2).symm.trans h
    exact x_vret F hr hlk hW hS dX10_keep_20 h
  replace h := (if_neg c_2).symm.trans h
  refine lv_iload_n hx hb dX10_keep_10 rfl (lv_at hl 2 rfl) ?_
  refine lv_if_lt (tgt := 20) hx hb dX10_keep_11 (by decide) (fun c_3 => ?_) (fun c_3 => ?_)
  · replace h := (if_pos c_3).symm.trans h
    exact x_vret F hr hlk hW hS dX10_keep_20 h
  replace h := (if_neg c_3).symm.trans h
  refine lv_iload_n hx hb dX10_keep_14 rfl (lv_at hl 2 rfl) ?_
  refine lv_bipush (v := (64 : Int32)) hx hb dX10_keep_15 (by decide) ?_
  refine lv_icmp_lt (tgt := 21) hx hb dX10_keep_17 (by decide) (fun c_4 => ?_) (fun c_4 => ?_)
  · replace h := (if_pos c_4).symm.trans h
    refine lv_aload_n hx hb dX10_keep_21 rfl (lv_at hl 0 rfl) ?_
    refine x_get F hK hW xc_X10 (cd_dX10 hn) (cd_eX10 hN hn) 0 (by decide) k_1_130 (rfl) dX10_keep_22 ?_
    refine lv_iload_n hx hb dX10_keep_25 rfl (lv_at hl 2 rfl) ?_
    refine lv_aload_n hx hb dX10_keep_26 rfl (lv_at hl 0 rfl) ?_
    refine x_get F hK hW xc_X10 (cd_dX10 hn) (cd_eX10 hN hn) 0 (by decide) k_1_130 (rfl) dX10_keep_27 ?_
    refine lv_iload_n hx hb dX10_keep_30 rfl (lv_at hl 1 rfl) ?_
    refine x_iald (t0 := 0) F hK hW (cd_dA9 hn) (cd_eA9 hN hn) rfl dX10_keep_31 h (fun h => ?_)
    refine x_iast (t0 := 0) F hK hI hW hS (cd_dA9 hn) (cd_eA9 hN hn) rfl dX10_keep_32 h (fun S5 H locs hW hS h => ?_)
    refine lv_aload_n hx hb dX10_keep_33 rfl (lv_at hl 0 rfl) ?_
    refine x_get F hK hW xc_X10 (cd_dX10 hn) (cd_eX10 hN hn) 1 (by decide) k_1_131 (rfl) dX10_keep_34 ?_
    refine lv_iload_n hx hb dX10_keep_37 rfl (lv_at hl 2 rfl) ?_
    refine lv_aload_n hx hb dX10_keep_38 rfl (lv_at hl 0 rfl) ?_
    refine x_get F hK hW xc_X10 (cd_dX10 hn) (cd_eX10 hN hn) 1 (by decide) k_1_131 (rfl) dX10_keep_39 ?_
    refine lv_iload_n hx hb dX10_keep_42 rfl (lv_at hl 1 rfl) ?_
    refine x_iald (t0 := 0) F hK hW (cd_dA10 hn) (cd_eA10 hN hn) rfl dX10_keep_43 h (fun h => ?_)
    refine x_iast (t0 := 0) F hK hI hW hS (cd_dA10 hn) (cd_eA10 hN hn) rfl dX10_keep_44 h (fun S6 H locs hW hS h => ?_)
    exact x_vret F hr hlk hW hS dX10_keep_45 h
  replace h := (if_neg c_4).symm.trans h
  exact x_vret F hr hlk hW hS dX10_keep_20 h
/-! X10_drop -/
def c10_drop_b37 (n : Nat) (K4 : Int32 → Int32 → Int32 → xS → Option (xS)) (v1 : Int32) (v2 : Int32) (v3 : Int32) (S : xS) : Option (xS) := K4 v1 v2 (v3 + (1 : Int32)) S
set_option maxHeartbeats 4000000 in
set_option maxRecDepth 100000 in
theorem m_c10_drop_b37 {l : Launch} {D : va_G} {cI cJ cL cN : ClassId} {ad : Nat → Nat → Nat} {N : Nat} (hN : N ≤ 8) (hI : xInj (cDom N) ad) {n : Nat} (hn : n < N) {p : Program} {e : Env} {s : State} {m : MethodId} {args : Array Value} {below : List Frame} {meth : Method} {c : Code} (F : CallFix p m c cX10_drop 4 s args (Cond.code yX10_drop cX10_drop 4 none :: xG) (yX10_drop).cls) (hr : meth.sig.returnType = none) (hlk : meth.locks = false) (hK : xK D vwCl (cTy cI cJ cL cN) cNf cNm s) {o : xS} {K4 : Int32 → Int32 → Int32 → xS → Option (xS)} (hk4 : ∀ (v1 : Int32) (v2 : Int32) (v3 : Int32) (S : xS) (H : Heap) (locs : List Loc) (ls : Array Slot), K4 v1 v2 v3 S = some o → xW D vwCl (cDom N) ad (cDe ad N cI cJ cL cN) S H → va_S (xA (cDom N) ad) s.heap H locs → lv_has ls 4 [(0, .ref (ad n 8)), (1, .int v1), (2, .int v2), (3, .int v3)] → W p l e { frames := 1, cells := 0, slots := 0, locals := 22 } s m args below meth c H locs 0 0 (MQ below (xQ D vwCl (cDom N) ad (cDe ad N cI cJ cL cN) none o) args s 0 0 (xA (cDom N) ad)) (F0 m 4 ls [])) (v1 : Int32) (v2 : Int32) (v3 : Int32) (S : xS) {H : Heap} {locs : List Loc} {ls : Array Slot} (h : c10_drop_b37 n K4 v1 v2 v3 S = some o) (hW : xW D vwCl (cDom N) ad (cDe ad N cI cJ cL cN) S H) (hS : va_S (xA (cDom N) ad) s.heap H locs) (hl : lv_has ls 4 [(0, .ref (ad n 8)), (1, .int v1), (2, .int v2), (3, .int v3)]) : W p l e { frames := 1, cells := 0, slots := 0, locals := 22 } s m args below meth c H locs 0 0 (MQ below (xQ D vwCl (cDom N) ad (cDe ad N cI cJ cL cN) none o) args s 0 0 (xA (cDom N) ad)) (F0 m 37 ls []) := by
  have hx := F.1
  have hb := F.2.1
  unfold c10_drop_b37 at h
  refine lv_iinc (v := (v3 + (1 : Int32))) (lv' := [(3, .int (v3 + (1 : Int32))), (0, .ref (ad n 8)), (1, .int v1), (2, .int v2)]) hx hb dX10_drop_37 hl (k := 3) rfl rfl (by decide) rfl (fun ls hl => ?_)
  refine lv_goto (tgt := 4) hx hb dX10_drop_40 (by decide) ?_
  exact hk4 _ _ _ _ _ _ _ h hW hS (lv_sub hl [1, 2, 3, 0] rfl)
def c10_drop_b4 (n : Nat) : Nat → Int32 → Int32 → Int32 → xS → Option (xS)
  | 0, _, _, _, _ => none
  | fu + 1, v1, v2, v3, S => if (xI S n 8 2) ≤ v3 then (xnm (sI S n 8 2 v2) (fun S2 => some S2)) else (if (64 : Int32) ≤ v3 then (xnm (sI S n 8 2 v2) (fun S4 => some S4)) else (gd v3 64 (if (xI S n 9 (v3).toNatClampNeg) = v1 then (c10_drop_b37 n (c10_drop_b4 n fu) v1 v2 v3 S) else ((c10_keep n S v3 v2).bind (fun S6 => c10_drop_b37 n (c10_drop_b4 n fu) v1 (v2 + (1 : Int32)) v3 S6)))))
set_option maxHeartbeats 4000000 in
set_option maxRecDepth 100000 in
theorem m_c10_drop_b4 {l : Launch} {D : va_G} {cI cJ cL cN : ClassId} {ad : Nat → Nat → Nat} {N : Nat} (hN : N ≤ 8) (hI : xInj (cDom N) ad) {n : Nat} (hn : n < N) {p : Program} {e : Env} {s : State} {m : MethodId} {args : Array Value} {below : List Frame} {meth : Method} {c : Code} (F : CallFix p m c cX10_drop 4 s args (Cond.code yX10_drop cX10_drop 4 none :: xG) (yX10_drop).cls) (hr : meth.sig.returnType = none) (hlk : meth.locks = false) (hK : xK D vwCl (cTy cI cJ cL cN) cNf cNm s) {o : xS} : ∀ (fu : Nat) (v1 : Int32) (v2 : Int32) (v3 : Int32) (S : xS) {H : Heap} {locs : List Loc} {ls : Array Slot}, c10_drop_b4 n fu v1 v2 v3 S = some o → xW D vwCl (cDom N) ad (cDe ad N cI cJ cL cN) S H → va_S (xA (cDom N) ad) s.heap H locs → lv_has ls 4 [(0, .ref (ad n 8)), (1, .int v1), (2, .int v2), (3, .int v3)] → W p l e { frames := 1, cells := 0, slots := 0, locals := 22 } s m args below meth c H locs 0 0 (MQ below (xQ D vwCl (cDom N) ad (cDe ad N cI cJ cL cN) none o) args s 0 0 (xA (cDom N) ad)) (F0 m 4 ls []) := by
  have hx := F.1
  have hb := F.2.1
  intro fu
  induction fu with
  | zero =>
    intro v1 v2 v3 S H locs ls h
    simp [c10_drop_b4] at h
  | succ fu ih =>
    intro v1 v2 v3 S H locs ls h hW hS hl
    have hk4 := fun v1 v2 v3 S H locs ls (h : c10_drop_b4 n fu v1 v2 v3 S = some o) hW hS hl => ih v1 v2 v3 S (H := H) (locs := locs) (ls := ls) h hW hS hl
    rw [c10_drop_b4] at h
    refine lv_iload_n hx hb dX10_drop_4 rfl (lv_at hl 3 rfl) ?_
    refine lv_aload_n hx hb dX10_drop_5 rfl (lv_at hl 0 rfl) ?_
    refine x_get F hK hW xc_X10 (cd_dX10 hn) (cd_eX10 hN hn) 2 (by decide) k_1_132 (rfl) dX10_drop_6 ?_
    refine lv_icmp_ge (tgt := 43) hx hb dX10_drop_9 (by decide) (fun c_1 => ?_) (fun c_1 => ?_)
    · replace h := (if_pos c_1).symm.trans h
      refine lv_aload_n hx hb dX10_drop_43 rfl (lv_at hl 0 rfl) ?_
      refine lv_iload_n hx hb dX10_drop_44 rfl (lv_at hl 2 rfl) ?_
      refine x_put F hK hI hW hS xc_X10 (cd_dX10 hn) (cd_eX10 hN hn) 2 (by decide) k_1_132 rfl (v := v2) rfl rfl (fun _ _ => rfl) (fun _ _ => Nat.le_of_ble_eq_true rfl) dX10_drop_45 h (fun S2 H locs hW hS h => ?_)
      exact x_vret F hr hlk hW hS dX10_drop_48 h
    replace h := (if_neg c_1).symm.trans h
    refine lv_iload_n hx hb dX10_drop_12 rfl (lv_at hl 3 rfl) ?_
    refine lv_bipush (v := (64 : Int32)) hx hb dX10_drop_13 (by decide) ?_
    refine lv_icmp_ge (tgt := 43) hx hb dX10_drop_15 (by decide) (fun c_3 => ?_) (fun c_3 => ?_)
    · replace h := (if_pos c_3).symm.trans h
      refine lv_aload_n hx hb dX10_drop_43 rfl (lv_at hl 0 rfl) ?_
      refine lv_iload_n hx hb dX10_drop_44 rfl (lv_at hl 2 rfl) ?_
      refine x_put F hK hI hW hS xc_X10 (cd_dX10 hn) (cd_eX10 hN hn) 2 (by decide) k_1_132 rfl (v := v2) rfl rfl (fun _ _ => rfl) (fun _ _ => Nat.le_of_ble_eq_true rfl) dX10_drop_45 h (fun S4 H locs hW hS h => ?_)
      exact x_vret F hr hlk hW hS dX10_drop_48 h
    replace h := (if_neg c_3).symm.trans h
    refine lv_aload_n hx hb dX10_drop_18 rfl (lv_at hl 0 rfl) ?_
    refine x_get F hK hW xc_X10 (cd_dX10 hn) (cd_eX10 hN hn) 0 (by decide) k_1_130 (rfl) dX10_drop_19 ?_
    refine lv_iload_n hx hb dX10_drop_22 rfl (lv_at hl 3 rfl) ?_
    refine x_iald (t0 := 0) F hK hW (cd_dA9 hn) (cd_eA9 hN hn) rfl dX10_drop_23 h (fun h => ?_)
    refine lv_iload_n hx hb dX10_drop_24 rfl (lv_at hl 1 rfl) ?_
    refine lv_icmp_eq (tgt := 37) hx hb dX10_drop_25 (by decide) (fun c_5 => ?_) (fun c_5 => ?_)
    · replace h := (if_pos c_5).symm.trans h
      exact m_c10_drop_b37 hN hI hn F hr hlk hK hk4 _ _ _ _ h hW hS (lv_sub hl [0, 1, 2, 3] rfl)
    replace h := (if_neg c_5).symm.trans h
    refine lv_aload_n hx hb dX10_drop_28 rfl (lv_at hl 0 rfl) ?_
    refine lv_iload_n hx hb dX10_drop_29 rfl (lv_at hl 3 rfl) ?_
    refine lv_iload_n hx hb dX10_drop_30 rfl (lv_at hl 2 rfl) ?_
    refine x_cVv (As := [.int v3, .int v2]) F xG_ok hK hW hS um_X10_keep k_3_105 (fun _ h1 => m_c10_keep hN hI hn _ _ h1) rfl (cd_dX10 hn) (cd_eX10 hN hn) rfl rfl hl.1 rfl rfl ⟨Nat.le_of_ble_eq_true rfl, Nat.le_of_ble_eq_true rfl⟩ ⟨Nat.zero_le _, Nat.zero_le _⟩ (Nat.le_of_ble_eq_true rfl) dX10_drop_31 h (fun S6 H locs hW hS h => ?_)
    refine lv_iinc (v := (v2 + (1 : Int32))) (lv' := [(2, .int (v2 + (1 : Int32))), (0, .ref (ad n 8)), (1, .int v1), (3, .int v3)]) hx hb dX10_drop_34 hl (k := 2) rfl rfl (by decide) rfl (fun ls hl => ?_)
    exact m_c10_drop_b37 hN hI hn F hr hlk hK hk4 _ _ _ _ h hW hS (lv_sub hl [1, 2, 0, 3] rfl)
def c10_drop (n : Nat) (S : xS) (a1 : Int32) : Option (xS) := c10_drop_b4 n (100000) a1 (0 : Int32) (0 : Int32) S
set_option maxHeartbeats 4000000 in
set_option maxRecDepth 100000 in
theorem m_c10_drop {l : Launch} {D : va_G} {cI cJ cL cN : ClassId} {ad : Nat → Nat → Nat} {N : Nat} (hN : N ≤ 8) (hI : xInj (cDom N) ad) {n : Nat} (hn : n < N) {S : xS} (a1 : Int32) {o : xS} (h : c10_drop n S a1 = some o) : Met l yX10_drop (Cond.code yX10_drop cX10_drop 4 none :: xG) { frames := 1, cells := 0, slots := 0, locals := 22 } (xPc D vwCl (cTy cI cJ cL cN) cNf cNm (cDom N) ad (cDe ad N cI cJ cL cN) [.ref (ad n 8), .int a1] S) (xQ D vwCl (cDom N) ad (cDe ad N cI cJ cL cN) none o) 0 0 (xA (cDom N) ad) := by
  unfold c10_drop at h
  refine x_enter (by decide) (Nat.le_of_ble_eq_true rfl) (fun p e s m below meth c F hr hlk hK hW hS ls hl => ?_)
  have hl : lv_has ls 4 [(0, .ref (ad n 8)), (1, .int a1)] := hl
  have hx := F.1
  have hb := F.2.1
  refine lv_iconst (v := (0 : Int32)) hx hb dX10_drop_0 (by decide) ?_
  refine lv_istore_n (lv' := [(2, .int (0 : Int32)), (0, .ref (ad n 8)), (1, .int a1)]) hx hb dX10_drop_1 rfl hl (by decide) rfl (fun ls hl => ?_)
  refine lv_iconst (v := (0 : Int32)) hx hb dX10_drop_2 (by decide) ?_
  refine lv_istore_n (lv' := [(3, .int (0 : Int32)), (2, .int (0 : Int32)), (0, .ref (ad n 8)), (1, .int a1)]) hx hb dX10_drop_3 rfl hl (by decide) rfl (fun ls hl => ?_)
  exact m_c10_drop_b4 hN hI hn F hr hlk hK (100000) _ _ _ _ h hW hS (lv_sub hl [2, 3, 1, 0] rfl)
/-! X1_alert -/
def c1_alert_b39 (n : Nat) (v1 : Int32) (v2 : Int32) (v3 : Int32) (S : xS) : Option (Int32 × xS) := (c5_setWord n 2 S v2 (32771 : Int32)).bind (fun S4 => (c10_drop n S4 v1).bind (fun S5 => if v3 = (32770 : Int32) then ((c1_makeReady n S5 v1).bind (fun S7 => some ((1 : Int32), S7))) else (some ((1 : Int32), S5))))
set_option maxHeartbeats 4000000 in
set_option maxRecDepth 100000 in
theorem m_c1_alert_b39 {l : Launch} {D : va_G} {cI cJ cL cN : ClassId} {ad : Nat → Nat → Nat} {N : Nat} (hN : N ≤ 8) (hI : xInj (cDom N) ad) {n : Nat} (hn : n < N) {p : Program} {e : Env} {s : State} {m : MethodId} {args : Array Value} {below : List Frame} {meth : Method} {c : Code} (F : CallFix p m c cX1_alert 4 s args (Cond.code yX1_alert cX1_alert 4 (some .boolean) :: xG) (yX1_alert).cls) (hr : meth.sig.returnType = (some .boolean)) (hlk : meth.locks = false) (hK : xK D vwCl (cTy cI cJ cL cN) cNf cNm s) {o : Int32 × xS} (v1 : Int32) (v2 : Int32) (v3 : Int32) (S : xS) {H : Heap} {locs : List Loc} {ls : Array Slot} (h : c1_alert_b39 n v1 v2 v3 S = some o) (hW : xW D vwCl (cDom N) ad (cDe ad N cI cJ cL cN) S H) (hS : va_S (xA (cDom N) ad) s.heap H locs) (hl : lv_has ls 4 [(0, .ref (ad n 1)), (1, .int v1), (2, .int v2), (3, .int v3)]) : W p l e { frames := 2, cells := 0, slots := 0, locals := 49 } s m args below meth c H locs 0 0 (MQ below (xQ D vwCl (cDom N) ad (cDe ad N cI cJ cL cN) (some (.int o.1)) o.2) args s 0 0 (xA (cDom N) ad)) (F0 m 39 ls []) := by
  have hx := F.1
  have hb := F.2.1
  unfold c1_alert_b39 at h
  refine lv_aload_n hx hb dX1_alert_39 rfl (lv_at hl 0 rfl) ?_
  refine x_get F hK hW xc_X1 (cd_dX1 hn) (cd_eX1 hN hn) 0 (by decide) k_1_148 (rfl) dX1_alert_40 ?_
  refine lv_iload_n hx hb dX1_alert_43 rfl (lv_at hl 2 rfl) ?_
  refine lv_ldc (v := (32771 : Int32)) hx hb F.2.2.2.1 (x_hts F _ k_3_98) dX1_alert_44 ?_
  refine x_cVv (As := [.int v2, .int (32771 : Int32)]) F xG_ok hK hW hS um_X5_setWord k_3_81 (fun _ h1 => m_c5_setWord hN hI (is5n hn) _ _ h1) rfl (cd_dX5 (is5n hn)) (cd_eX5 hN (is5n hn)) rfl rfl hl.1 rfl rfl ⟨Nat.le_of_ble_eq_true rfl, Nat.le_of_ble_eq_true rfl⟩ ⟨Nat.zero_le _, Nat.zero_le _⟩ (Nat.le_of_ble_eq_true rfl) dX1_alert_46 h (fun S4 H locs hW hS h => ?_)
  refine lv_aload_n hx hb dX1_alert_49 rfl (lv_at hl 0 rfl) ?_
  refine x_get F hK hW xc_X1 (cd_dX1 hn) (cd_eX1 hN hn) 5 (by decide) k_1_163 (rfl) dX1_alert_50 ?_
  refine lv_iload_n hx hb dX1_alert_53 rfl (lv_at hl 1 rfl) ?_
  refine x_cVv (As := [.int v1]) F xG_ok hK hW hS um_X10_drop k_3_101 (fun _ h1 => m_c10_drop hN hI hn _ h1) rfl (cd_dX10 hn) (cd_eX10 hN hn) rfl rfl hl.1 rfl rfl ⟨Nat.le_of_ble_eq_true rfl, Nat.le_of_ble_eq_true rfl⟩ ⟨Nat.zero_le _, Nat.zero_le _⟩ (Nat.le_of_ble_eq_true rfl) dX1_alert_54 h (fun S5 H locs hW hS h => ?_)
  refine lv_iload_n hx hb dX1_alert_57 rfl (lv_at hl 3 rfl) ?_
  refine lv_ldc (v := (32770 : Int32)) hx hb F.2.2.2.1 (x_hts F _ k_3_100) dX1_alert_58 ?_
  refine lv_icmp_ne (tgt := 68) hx hb dX1_alert_60 (by decide) (fun c_6 => ?_) (fun c_6 => ?_)
  · replace h := (if_neg c_6).symm.trans h
    refine lv_iconst (v := (1 : Int32)) hx hb dX1_alert_68 (by decide) ?_
    exact x_zret F hr hlk hW hS rfl dX1_alert_69 h
  replace h := (if_pos c_6).symm.trans h
  refine lv_aload_n hx hb dX1_alert_63 rfl (lv_at hl 0 rfl) ?_
  refine lv_iload_n hx hb dX1_alert_64 rfl (lv_at hl 1 rfl) ?_
  refine x_cVv (As := [.int v1]) F xG_ok hK hW hS um_X1_makeReady k_3_109 (fun _ h1 => m_c1_makeReady hN hI hn _ h1) rfl (cd_dX1 hn) (cd_eX1 hN hn) rfl rfl hl.1 rfl rfl ⟨Nat.le_of_ble_eq_true rfl, Nat.le_of_ble_eq_true rfl⟩ ⟨Nat.zero_le _, Nat.zero_le _⟩ (Nat.le_of_ble_eq_true rfl) dX1_alert_65 h (fun S7 H locs hW hS h => ?_)
  refine lv_iconst (v := (1 : Int32)) hx hb dX1_alert_68 (by decide) ?_
  exact x_zret F hr hlk hW hS rfl dX1_alert_69 h
def c1_alert (n : Nat) (S : xS) (a1 : Int32) : Option (Int32 × xS) := (c5_wordAt n 2 S ((a1 &&& (65534 : Int32)) - (6 : Int32))).bind (fun (r_1, S1) => if r_1 = (32771 : Int32) then (some ((1 : Int32), S1)) else (if r_1 = (32769 : Int32) then (c1_alert_b39 n a1 ((a1 &&& (65534 : Int32)) - (6 : Int32)) r_1 S1) else (if r_1 = (32770 : Int32) then (c1_alert_b39 n a1 ((a1 &&& (65534 : Int32)) - (6 : Int32)) r_1 S1) else (some ((0 : Int32), S1)))))
set_option maxHeartbeats 4000000 in
set_option maxRecDepth 100000 in
theorem m_c1_alert {l : Launch} {D : va_G} {cI cJ cL cN : ClassId} {ad : Nat → Nat → Nat} {N : Nat} (hN : N ≤ 8) (hI : xInj (cDom N) ad) {n : Nat} (hn : n < N) {S : xS} (a1 : Int32) {o : Int32 × xS} (h : c1_alert n S a1 = some o) : Met l yX1_alert (Cond.code yX1_alert cX1_alert 4 (some .boolean) :: xG) { frames := 2, cells := 0, slots := 0, locals := 49 } (xPc D vwCl (cTy cI cJ cL cN) cNf cNm (cDom N) ad (cDe ad N cI cJ cL cN) [.ref (ad n 1), .int a1] S) (xQ D vwCl (cDom N) ad (cDe ad N cI cJ cL cN) (some (.int o.1)) o.2) 0 0 (xA (cDom N) ad) := by
  unfold c1_alert at h
  refine x_enter (by decide) (Nat.le_of_ble_eq_true rfl) (fun p e s m below meth c F hr hlk hK hW hS ls hl => ?_)
  have hl : lv_has ls 4 [(0, .ref (ad n 1)), (1, .int a1)] := hl
  have hx := F.1
  have hb := F.2.1
  refine lv_iload_n hx hb dX1_alert_0 rfl (lv_at hl 1 rfl) ?_
  refine lv_ldc (v := (65534 : Int32)) hx hb F.2.2.2.1 (x_hts F _ k_3_76) dX1_alert_1 ?_
  refine lv_iand hx hb dX1_alert_3 ?_
  refine lv_bipush (v := (6 : Int32)) hx hb dX1_alert_4 (by decide) ?_
  refine lv_isub hx hb dX1_alert_6 ?_
  refine lv_istore_n (lv' := [(2, .int ((a1 &&& (65534 : Int32)) - (6 : Int32))), (0, .ref (ad n 1)), (1, .int a1)]) hx hb dX1_alert_7 rfl hl (by decide) rfl (fun ls hl => ?_)
  refine lv_aload_n hx hb dX1_alert_8 rfl (lv_at hl 1 rfl) ?_
  refine x_get F hK hW xc_X1 (cd_dX1 hn) (cd_eX1 hN hn) 0 (by decide) k_1_148 (rfl) dX1_alert_9 ?_
  refine lv_iload_n hx hb dX1_alert_12 rfl (lv_at hl 0 rfl) ?_
  refine x_cVi (As := [.int ((a1 &&& (65534 : Int32)) - (6 : Int32))]) F xG_ok hK hW hS um_X5_wordAt k_3_94 (fun _ h1 => m_c5_wordAt hN hI (is5n hn) _ h1) rfl (cd_dX5 (is5n hn)) (cd_eX5 hN (is5n hn)) rfl rfl hl.1 rfl rfl ⟨Nat.le_of_ble_eq_true rfl, Nat.le_of_ble_eq_true rfl⟩ ⟨Nat.zero_le _, Nat.zero_le _⟩ (Nat.le_of_ble_eq_true rfl) dX1_alert_13 h (fun r_1 S1 H locs hW hS h => ?_)
  refine lv_istore_n (lv' := [(3, .int r_1), (2, .int ((a1 &&& (65534 : Int32)) - (6 : Int32))), (0, .ref (ad n 1)), (1, .int a1)]) hx hb dX1_alert_16 rfl hl (by decide) rfl (fun ls hl => ?_)
  refine lv_iload_n hx hb dX1_alert_17 rfl (lv_at hl 0 rfl) ?_
  refine lv_ldc (v := (32771 : Int32)) hx hb F.2.2.2.1 (x_hts F _ k_3_98) dX1_alert_18 ?_
  refine lv_icmp_ne (tgt := 25) hx hb dX1_alert_20 (by decide) (fun c_2 => ?_) (fun c_2 => ?_)
  · replace h := (if_neg c_2).symm.trans h
    refine lv_iload_n hx hb dX1_alert_25 rfl (lv_at hl 0 rfl) ?_
    refine lv_ldc (v := (32769 : Int32)) hx hb F.2.2.2.1 (x_hts F _ k_3_99) dX1_alert_26 ?_
    refine lv_icmp_eq (tgt := 39) hx hb dX1_alert_28 (by decide) (fun c_3 => ?_) (fun c_3 => ?_)
    · replace h := (if_pos c_3).symm.trans h
      exact m_c1_alert_b39 hN hI hn F hr hlk hK _ _ _ _ h hW hS (lv_sub hl [2, 3, 1, 0] rfl)
    replace h := (if_neg c_3).symm.trans h
    refine lv_iload_n hx hb dX1_alert_31 rfl (lv_at hl 0 rfl) ?_
    refine lv_ldc (v := (32770 : Int32)) hx hb F.2.2.2.1 (x_hts F _ k_3_100) dX1_alert_32 ?_
    refine lv_icmp_eq (tgt := 39) hx hb dX1_alert_34 (by decide) (fun c_8 => ?_) (fun c_8 => ?_)
    · replace h := (if_pos c_8).symm.trans h
      exact m_c1_alert_b39 hN hI hn F hr hlk hK _ _ _ _ h hW hS (lv_sub hl [2, 3, 1, 0] rfl)
    replace h := (if_neg c_8).symm.trans h
    refine lv_iconst (v := (0 : Int32)) hx hb dX1_alert_37 (by decide) ?_
    exact x_zret F hr hlk hW hS rfl dX1_alert_38 h
  replace h := (if_pos c_2).symm.trans h
  refine lv_iconst (v := (1 : Int32)) hx hb dX1_alert_23 (by decide) ?_
  exact x_zret F hr hlk hW hS rfl dX1_alert_24 h
/-! X0_output -/
def c0_output (n : Nat) (S : xS) (a1 : Int32) (a2 : Int32) (a3 : Int32) : Option (xS) := if a1 ≤ (4096 : Int32) then ((c0_linkOf n S a2).bind (fun (r_2, S2) => xcs r_2 ((c5_wordAt n 2 S2 a2).bind (fun (r_4, S4) => if r_4 = (32768 : Int32) then ((c0_waitAt n S4 a2 a3).bind (fun S6 => some S6)) else ((c1_alert n S4 r_4).bind (fun (r_7, S7) => if r_7 = 0 then ((c5_wordAt n 2 S7 ((r_4 &&& (65534 : Int32)) - (6 : Int32))).bind (fun (r_9, S9) => (c1_copyBytes n S9 a3 r_9 a1).bind (fun S10 => (c0_freePartner n S10 a2 r_4).bind (fun S11 => some S11)))) else ((c0_waitAt n S7 a2 a3).bind (fun S12 => some S12)))))) (fun n_3 j_3 => gq (n = n_3 ∧ 12 ≤ j_3 ∧ j_3 < 16) ((c0_outputToLink n j_3 S2 a1 a3).bind (fun S13 => some S13))))) else ((c1_stopWith n S (5 : Int32)).bind (fun S14 => some S14))
set_option maxHeartbeats 4000000 in
set_option maxRecDepth 100000 in
theorem m_c0_output {l : Launch} {D : va_G} {cI cJ cL cN : ClassId} {ad : Nat → Nat → Nat} {N : Nat} (hN : N ≤ 8) (hI : xInj (cDom N) ad) {n : Nat} (hn : n < N) {S : xS} (a1 : Int32) (a2 : Int32) (a3 : Int32) {o : xS} (h : c0_output n S a1 a2 a3 = some o) : Met l yX0_output (Cond.code yX0_output cX0_output 6 none :: xG) { frames := 3, cells := 0, slots := 0, locals := 73 } (xPc D vwCl (cTy cI cJ cL cN) cNf cNm (cDom N) ad (cDe ad N cI cJ cL cN) [.ref (ad n 21), .int a1, .int a2, .int a3] S) (xQ D vwCl (cDom N) ad (cDe ad N cI cJ cL cN) none o) 0 0 (xA (cDom N) ad) := by
  unfold c0_output at h
  refine x_enter (by decide) (Nat.le_of_ble_eq_true rfl) (fun p e s m below meth c F hr hlk hK hW hS ls hl => ?_)
  have hl : lv_has ls 6 [(0, .ref (ad n 21)), (1, .int a1), (2, .int a2), (3, .int a3)] := hl
  have hx := F.1
  have hb := F.2.1
  refine lv_iload_n hx hb dX0_output_0 rfl (lv_at hl 1 rfl) ?_
  refine lv_sipush (v := (4096 : Int32)) hx hb dX0_output_1 (by decide) ?_
  refine lv_icmp_le (tgt := 16) hx hb dX0_output_4 (by decide) (fun c_1 => ?_) (fun c_1 => ?_)
  · replace h := (if_pos c_1).symm.trans h
    refine lv_aload_n hx hb dX0_output_16 rfl (lv_at hl 0 rfl) ?_
    refine lv_iload_n hx hb dX0_output_17 rfl (lv_at hl 2 rfl) ?_
    refine x_cVq (As := [.int a2]) F xG_ok hK hW hS um_X0_linkOf k_4_186 (fun _ h1 => m_c0_linkOf hN hI hn _ h1) rfl (cd_dX0 hn) (cd_eX0 hN hn) rfl rfl hl.1 rfl rfl ⟨Nat.le_of_ble_eq_true rfl, Nat.le_of_ble_eq_true rfl⟩ ⟨Nat.zero_le _, Nat.zero_le _⟩ (Nat.le_of_ble_eq_true rfl) dX0_output_18 h (fun r_2 S2 H locs hW hS h => ?_)
    refine x_astoreq (lv' := [(4, xRv ad r_2), (0, .ref (ad n 21)), (1, .int a1), (2, .int a2), (3, .int a3)]) hx hb dX0_output_21 hl (by decide) rfl (fun ls hl => ?_)
    refine x_aloadq hx hb dX0_output_23 (lv_at hl 0 rfl) ?_
    rcases r_2 with _ | ⟨n_3, j_3⟩
    · replace h := xcs_n h
      have hl : lv_has ls 6 [(4, .null), (0, .ref (ad n 21)), (1, .int a1), (2, .int a2), (3, .int a3)] := hl
      refine lv_ifnullN (tgt := 37) hx hb dX0_output_25 (by decide) ?_
      refine lv_aload_n hx hb dX0_output_37 rfl (lv_at hl 1 rfl) ?_
      refine x_get F hK hW xc_X0 (cd_dX0 hn) (cd_eX0 hN hn) 2 (by decide) k_2_74 (rfl) dX0_output_38 ?_
      refine lv_iload_n hx hb dX0_output_41 rfl (lv_at hl 3 rfl) ?_
      refine x_cVi (As := [.int a2]) F xG_ok hK hW hS um_X5_wordAt k_4_205 (fun _ h1 => m_c5_wordAt hN hI (is5n hn) _ h1) rfl (cd_dX5 (is5n hn)) (cd_eX5 hN (is5n hn)) rfl rfl hl.1 rfl rfl ⟨Nat.le_of_ble_eq_true rfl, Nat.le_of_ble_eq_true rfl⟩ ⟨Nat.zero_le _, Nat.zero_le _⟩ (Nat.le_of_ble_eq_true rfl) dX0_output_42 h (fun r_4 S4 H locs hW hS h => ?_)
      refine lv_istore (lv' := [(5, .int r_4), (4, .null), (0, .ref (ad n 21)), (1, .int a1), (2, .int a2), (3, .int a3)]) hx hb dX0_output_45 hl (by decide) rfl (fun ls hl => ?_)
      refine lv_iload hx hb dX0_output_47 (lv_at hl 0 rfl) ?_
      refine lv_ldc (v := (32768 : Int32)) hx hb F.2.2.2.1 (x_hts F _ k_4_191) dX0_output_49 ?_
      refine lv_icmp_eq (tgt := 66) hx hb dX0_output_51 (by decide) (fun c_5 => ?_) (fun c_5 => ?_)
      · replace h := (if_pos c_5).symm.trans h
        refine lv_aload_n hx hb dX0_output_66 rfl (lv_at hl 2 rfl) ?_
        refine lv_iload_n hx hb dX0_output_67 rfl (lv_at hl 4 rfl) ?_
        refine lv_iload_n hx hb dX0_output_68 rfl (lv_at hl 5 rfl) ?_
        refine x_cVv (As := [.int a2, .int a3]) F xG_ok hK hW hS um_X0_waitAt k_4_206 (fun _ h1 => m_c0_waitAt hN hI hn _ _ h1) rfl (cd_dX0 hn) (cd_eX0 hN hn) rfl rfl hl.1 rfl rfl ⟨Nat.le_of_ble_eq_true rfl, Nat.le_of_ble_eq_true rfl⟩ ⟨Nat.zero_le _, Nat.zero_le _⟩ (Nat.le_of_ble_eq_true rfl) dX0_output_69 h (fun S6 H locs hW hS h => ?_)
        exact x_vret F hr hlk hW hS dX0_output_72 h
      replace h := (if_neg c_5).symm.trans h
      refine lv_aload_n hx hb dX0_output_54 rfl (lv_at hl 2 rfl) ?_
      refine x_get F hK hW xc_X0 (cd_dX0 hn) (cd_eX0 hN hn) 0 (by decide) k_2_72 (rfl) dX0_output_55 ?_
      refine lv_iload hx hb dX0_output_58 (lv_at hl 0 rfl) ?_
      refine x_cVi (As := [.int r_4]) F xG_ok hK hW hS um_X1_alert k_4_230 (fun _ h1 => m_c1_alert hN hI hn _ h1) rfl (cd_dX1 hn) (cd_eX1 hN hn) rfl rfl hl.1 rfl rfl ⟨Nat.le_of_ble_eq_true rfl, Nat.le_of_ble_eq_true rfl⟩ ⟨Nat.zero_le _, Nat.zero_le _⟩ (Nat.le_of_ble_eq_true rfl) dX0_output_60 h (fun r_7 S7 H locs hW hS h => ?_)
      refine lv_if_eq (tgt := 73) hx hb dX0_output_63 (by decide) (fun c_8 => ?_) (fun c_8 => ?_)
      · replace h := (if_pos c_8).symm.trans h
        refine lv_aload_n hx hb dX0_output_73 rfl (lv_at hl 2 rfl) ?_
        refine x_get F hK hW xc_X0 (cd_dX0 hn) (cd_eX0 hN hn) 0 (by decide) k_2_72 (rfl) dX0_output_74 ?_
        refine lv_iload_n hx hb dX0_output_77 rfl (lv_at hl 5 rfl) ?_
        refine lv_aload_n hx hb dX0_output_78 rfl (lv_at hl 2 rfl) ?_
        refine x_get F hK hW xc_X0 (cd_dX0 hn) (cd_eX0 hN hn) 2 (by decide) k_2_74 (rfl) dX0_output_79 ?_
        refine lv_iload hx hb dX0_output_82 (lv_at hl 0 rfl) ?_
        refine lv_ldc (v := (65534 : Int32)) hx hb F.2.2.2.1 (x_hts F _ k_4_190) dX0_output_84 ?_
        refine lv_iand hx hb dX0_output_86 ?_
        refine lv_bipush (v := (6 : Int32)) hx hb dX0_output_87 (by decide) ?_
        refine lv_isub hx hb dX0_output_89 ?_
        refine x_cVi (As := [.int ((r_4 &&& (65534 : Int32)) - (6 : Int32))]) F xG_ok hK hW hS um_X5_wordAt k_4_205 (fun _ h1 => m_c5_wordAt hN hI (is5n hn) _ h1) rfl (cd_dX5 (is5n hn)) (cd_eX5 hN (is5n hn)) rfl rfl hl.1 rfl rfl ⟨Nat.le_of_ble_eq_true rfl, Nat.le_of_ble_eq_true rfl⟩ ⟨Nat.zero_le _, Nat.zero_le _⟩ (Nat.le_of_ble_eq_true rfl) dX0_output_90 h (fun r_9 S9 H locs hW hS h => ?_)
        refine lv_iload_n hx hb dX0_output_93 rfl (lv_at hl 3 rfl) ?_
        refine x_cVv (As := [.int a3, .int r_9, .int a1]) F xG_ok hK hW hS um_X1_copyBytes k_4_212 (fun _ h1 => m_c1_copyBytes hN hI hn _ _ _ h1) rfl (cd_dX1 hn) (cd_eX1 hN hn) rfl rfl hl.1 rfl rfl ⟨Nat.le_of_ble_eq_true rfl, Nat.le_of_ble_eq_true rfl⟩ ⟨Nat.zero_le _, Nat.zero_le _⟩ (Nat.le_of_ble_eq_true rfl) dX0_output_94 h (fun S10 H locs hW hS h => ?_)
        refine lv_aload_n hx hb dX0_output_97 rfl (lv_at hl 2 rfl) ?_
        refine lv_iload_n hx hb dX0_output_98 rfl (lv_at hl 4 rfl) ?_
        refine lv_iload hx hb dX0_output_99 (lv_at hl 0 rfl) ?_
        refine x_cVv (As := [.int a2, .int r_4]) F xG_ok hK hW hS um_X0_freePartner k_4_213 (fun _ h1 => m_c0_freePartner hN hI hn _ _ h1) rfl (cd_dX0 hn) (cd_eX0 hN hn) rfl rfl hl.1 rfl rfl ⟨Nat.le_of_ble_eq_true rfl, Nat.le_of_ble_eq_true rfl⟩ ⟨Nat.zero_le _, Nat.zero_le _⟩ (Nat.le_of_ble_eq_true rfl) dX0_output_101 h (fun S11 H locs hW hS h => ?_)
        exact x_vret F hr hlk hW hS dX0_output_104 h
      replace h := (if_neg c_8).symm.trans h
      refine lv_aload_n hx hb dX0_output_66 rfl (lv_at hl 2 rfl) ?_
      refine lv_iload_n hx hb dX0_output_67 rfl (lv_at hl 4 rfl) ?_
      refine lv_iload_n hx hb dX0_output_68 rfl (lv_at hl 5 rfl) ?_
      refine x_cVv (As := [.int a2, .int a3]) F xG_ok hK hW hS um_X0_waitAt k_4_206 (fun _ h1 => m_c0_waitAt hN hI hn _ _ h1) rfl (cd_dX0 hn) (cd_eX0 hN hn) rfl rfl hl.1 rfl rfl ⟨Nat.le_of_ble_eq_true rfl, Nat.le_of_ble_eq_true rfl⟩ ⟨Nat.zero_le _, Nat.zero_le _⟩ (Nat.le_of_ble_eq_true rfl) dX0_output_69 h (fun S12 H locs hW hS h => ?_)
      exact x_vret F hr hlk hW hS dX0_output_72 h
    replace h := xcs_s h
    have hg_3 := (gq_use h).1
    replace h := (gq_use h).2
    obtain ⟨he_3, -⟩ := id hg_3
    subst he_3
    have hl : lv_has ls 6 [(4, .ref (ad n j_3)), (0, .ref (ad n 21)), (1, .int a1), (2, .int a2), (3, .int a3)] := hl
    refine lv_ifnull hx hb dX0_output_25 ?_
    refine lv_aload_n hx hb dX0_output_28 rfl (lv_at hl 1 rfl) ?_
    refine lv_aload hx hb dX0_output_29 (lv_at hl 0 rfl) ?_
    refine lv_iload_n hx hb dX0_output_31 rfl (lv_at hl 2 rfl) ?_
    refine lv_iload_n hx hb dX0_output_32 rfl (lv_at hl 4 rfl) ?_
    refine x_cVv (As := [.ref (ad n j_3), .int a1, .int a3]) F xG_ok hK hW hS um_X0_outputToLink k_4_222 (fun _ h1 => m_c0_outputToLink hN hI hn ⟨hn, hg_3.2.1, hg_3.2.2⟩ _ _ h1) rfl (cd_dX0 hn) (cd_eX0 hN hn) rfl rfl hl.1 rfl rfl ⟨Nat.le_of_ble_eq_true rfl, Nat.le_of_ble_eq_true rfl⟩ ⟨Nat.zero_le _, Nat.zero_le _⟩ (Nat.le_of_ble_eq_true rfl) dX0_output_33 h (fun S13 H locs hW hS h => ?_)
    exact x_vret F hr hlk hW hS dX0_output_36 h
  replace h := (if_neg c_1).symm.trans h
  refine lv_aload_n hx hb dX0_output_7 rfl (lv_at hl 0 rfl) ?_
  refine x_get F hK hW xc_X0 (cd_dX0 hn) (cd_eX0 hN hn) 0 (by decide) k_2_72 (rfl) dX0_output_8 ?_
  refine lv_iconst (v := (5 : Int32)) hx hb dX0_output_11 (by decide) ?_
  refine x_cVv (As := [.int (5 : Int32)]) F xG_ok hK hW hS um_X1_stopWith k_4_185 (fun _ h1 => m_c1_stopWith hN hI hn _ h1) rfl (cd_dX1 hn) (cd_eX1 hN hn) rfl rfl hl.1 rfl rfl ⟨Nat.le_of_ble_eq_true rfl, Nat.le_of_ble_eq_true rfl⟩ ⟨Nat.zero_le _, Nat.zero_le _⟩ (Nat.le_of_ble_eq_true rfl) dX0_output_12 h (fun S14 H locs hW hS h => ?_)
  exact x_vret F hr hlk hW hS dX0_output_15 h
/-! X4_resetOutput -/
def c4_resetOutput (n j : Nat) (S : xS)  : Option (Int32 × xS) := xnm (sI S n j 2 (-1 : Int32)) (fun S1 => xnm (sI S1 n j 3 (0 : Int32)) (fun S2 => gz (xI S2 n (j + 4) 7) (xnm (sI S2 n j 6 (xI S2 n (j + 4) 7)) (fun S3 => if (xI S n j 2) = (-1 : Int32) then (some ((32768 : Int32), S3)) else (some ((xI S n j 2), S3))))))
set_option maxHeartbeats 4000000 in
set_option maxRecDepth 100000 in
theorem m_c4_resetOutput {l : Launch} {D : va_G} {cI cJ cL cN : ClassId} {ad : Nat → Nat → Nat} {N : Nat} (hN : N ≤ 8) (hI : xInj (cDom N) ad) {n j : Nat} (hj : isX4 N n j) {S : xS}  {o : Int32 × xS} (h : c4_resetOutput n j S  = some o) : Met l yX4_resetOutput (Cond.code yX4_resetOutput cX4_resetOutput 2 (some .int) :: xG) { frames := 0, cells := 0, slots := 0, locals := 0 } (xPc D vwCl (cTy cI cJ cL cN) cNf cNm (cDom N) ad (cDe ad N cI cJ cL cN) [.ref (ad n j)] S) (xQ D vwCl (cDom N) ad (cDe ad N cI cJ cL cN) (some (.int o.1)) o.2) 0 0 (xA (cDom N) ad) := by
  unfold c4_resetOutput at h
  refine x_enter (by decide) (Nat.le_of_ble_eq_true rfl) (fun p e s m below meth c F hr hlk hK hW hS ls hl => ?_)
  have hl : lv_has ls 2 [(0, .ref (ad n j))] := hl
  have hx := F.1
  have hb := F.2.1
  refine lv_aload_n hx hb dX4_resetOutput_0 rfl (lv_at hl 0 rfl) ?_
  refine x_get F hK hW xc_X4 (cd_dX4 hj) (cd_eX4 hN hj) 2 (by decide) k_2_22 (rfl) dX4_resetOutput_1 ?_
  refine lv_istore_n (lv' := [(1, .int (xI S n j 2)), (0, .ref (ad n j))]) hx hb dX4_resetOutput_4 rfl hl (by decide) rfl (fun ls hl => ?_)
  refine lv_aload_n hx hb dX4_resetOutput_5 rfl (lv_at hl 1 rfl) ?_
  refine lv_iconst (v := (-1 : Int32)) hx hb dX4_resetOutput_6 (by decide) ?_
  refine x_put F hK hI hW hS xc_X4 (cd_dX4 hj) (cd_eX4 hN hj) 2 (by decide) k_2_22 rfl (v := (-1 : Int32)) rfl rfl (fun _ _ => rfl) (fun _ _ => Nat.le_of_ble_eq_true rfl) dX4_resetOutput_7 h (fun S1 H locs hW hS h => ?_)
  refine lv_aload_n hx hb dX4_resetOutput_10 rfl (lv_at hl 1 rfl) ?_
  refine lv_iconst (v := (0 : Int32)) hx hb dX4_resetOutput_11 (by decide) ?_
  refine x_put F hK hI hW hS xc_X4 (cd_dX4 hj) (cd_eX4 hN hj) 3 (by decide) k_2_24 rfl (v := (0 : Int32)) rfl rfl (fun _ _ => rfl) (fun _ _ => Nat.le_of_ble_eq_true rfl) dX4_resetOutput_12 h (fun S2 H locs hW hS h => ?_)
  refine lv_aload_n hx hb dX4_resetOutput_15 rfl (lv_at hl 1 rfl) ?_
  refine lv_aload_n hx hb dX4_resetOutput_16 rfl (lv_at hl 1 rfl) ?_
  refine x_get F hK hW xc_X4 (cd_dX4 hj) (cd_eX4 hN hj) 1 (by decide) k_2_19 (rfl) dX4_resetOutput_17 ?_
  refine x_getN F hK hW xc_X2 (cd_dX2 (is2l hj)) (cd_eX2 hN (is2l hj)) 7 (by decide) kn_46 (rfl) dX4_resetOutput_20 ?_
  obtain ⟨hz_3, h⟩ := gz_use h
  refine x_put F hK hI hW hS xc_X4 (cd_dX4 hj) (cd_eX4 hN hj) 6 (by decide) k_2_28 rfl (v := (xI S2 n (j + 4) 7)) (z_nar hz_3) (z_fit hz_3) (fun _ _ => rfl) (fun _ _ => Nat.le_of_ble_eq_true rfl) dX4_resetOutput_23 h (fun S3 H locs hW hS h => ?_)
  refine lv_iload_n hx hb dX4_resetOutput_26 rfl (lv_at hl 0 rfl) ?_
  refine lv_iconst (v := (-1 : Int32)) hx hb dX4_resetOutput_27 (by decide) ?_
  refine lv_icmp_ne (tgt := 36) hx hb dX4_resetOutput_28 (by decide) (fun c_4 => ?_) (fun c_4 => ?_)
  · replace h := (if_neg c_4).symm.trans h
    refine lv_iload_n hx hb dX4_resetOutput_36 rfl (lv_at hl 0 rfl) ?_
    exact x_iret F hr hlk hW hS dX4_resetOutput_37 h
  replace h := (if_pos c_4).symm.trans h
  refine lv_ldc (v := (32768 : Int32)) hx hb F.2.2.2.1 (x_hts F _ k_5_0) dX4_resetOutput_31 ?_
  refine lv_goto (tgt := 37) hx hb dX4_resetOutput_33 (by decide) ?_
  exact x_iret F hr hlk hW hS dX4_resetOutput_37 h
