/-! X4_sendWord -/
def c4_sendWord (n j : Nat) (S : xS) (a1 : Int32) : Option (xS) := xnm (sI S n j 5 a1) (fun S1 => xnm (sI S1 n j 3 (2 : Int32)) (fun S2 => some S2))
set_option maxHeartbeats 4000000 in
set_option maxRecDepth 100000 in
theorem m_c4_sendWord {l : Launch} {D : va_G} {cI cJ cL cN : ClassId} {ad : Nat → Nat → Nat} {N : Nat} (hN : N ≤ 8) (hI : xInj (cDom N) ad) {n j : Nat} (hj : isX4 N n j) {S : xS} (a1 : Int32) {o : xS} (h : c4_sendWord n j S a1 = some o) : Met l yX4_sendWord (Cond.code yX4_sendWord cX4_sendWord 2 none :: xG) { frames := 0, cells := 0, slots := 0, locals := 0 } (xPc D vwCl (cTy cI cJ cL cN) cNf cNm (cDom N) ad (cDe ad N cI cJ cL cN) [.ref (ad n j), .int a1] S) (xQ D vwCl (cDom N) ad (cDe ad N cI cJ cL cN) none o) 0 0 (xA (cDom N) ad) := by
  unfold c4_sendWord at h
  refine x_enter (by decide) (Nat.le_of_ble_eq_true rfl) (fun p e s m below meth c F hr hlk hK hW hS ls hl => ?_)
  have hl : lv_has ls 2 [(0, .ref (ad n j)), (1, .int a1)] := hl
  have hx := F.1
  have hb := F.2.1
  refine lv_aload_n hx hb dX4_sendWord_0 rfl (lv_at hl 0 rfl) ?_
  refine lv_iload_n hx hb dX4_sendWord_1 rfl (lv_at hl 1 rfl) ?_
  refine x_put F hK hI hW hS xc_X4 (cd_dX4 hj) (cd_eX4 hN hj) 5 (by decide) k_2_27 rfl (v := a1) rfl rfl (fun _ _ => rfl) (fun _ _ => Nat.le_of_ble_eq_true rfl) dX4_sendWord_2 h (fun S1 H locs hW hS h => ?_)
  refine lv_aload_n hx hb dX4_sendWord_5 rfl (lv_at hl 0 rfl) ?_
  refine lv_iconst (v := (2 : Int32)) hx hb dX4_sendWord_6 (by decide) ?_
  refine x_put F hK hI hW hS xc_X4 (cd_dX4 hj) (cd_eX4 hN hj) 3 (by decide) k_2_24 rfl (v := (2 : Int32)) rfl rfl (fun _ _ => rfl) (fun _ _ => Nat.le_of_ble_eq_true rfl) dX4_sendWord_7 h (fun S2 H locs hW hS h => ?_)
  exact x_vret F hr hlk hW hS dX4_sendWord_10 h
/-! X4_fact -/
def c4_fact (n j : Nat) (S : xS) (a1 : Int32) : Option (Int32 × xS) := if a1 = (0 : Int32) then (some ((xI S n j 3), S)) else (if a1 = (1 : Int32) then (some ((xI S n j 8), S)) else (if a1 = (2 : Int32) then (some ((xI S n j 10), S)) else (if a1 = (3 : Int32) then (if (xI S n j 11) = (-1 : Int32) then (some ((0 : Int32), S)) else (some ((1 : Int32), S))) else (if a1 = (4 : Int32) then (some ((xI S n (j + 4) 4), S)) else (if a1 = (5 : Int32) then (some ((xI S n (j + 4) 8), S)) else (if a1 = (6 : Int32) then (some ((xI S n (j + 4) 1), S)) else (some ((-3 : Int32), S))))))))
set_option maxHeartbeats 4000000 in
set_option maxRecDepth 100000 in
theorem m_c4_fact {l : Launch} {D : va_G} {cI cJ cL cN : ClassId} {ad : Nat → Nat → Nat} {N : Nat} (hN : N ≤ 8) (hI : xInj (cDom N) ad) {n j : Nat} (hj : isX4 N n j) {S : xS} (a1 : Int32) {o : Int32 × xS} (h : c4_fact n j S a1 = some o) : Met l yX4_fact (Cond.code yX4_fact cX4_fact 2 (some .int) :: xG) { frames := 0, cells := 0, slots := 0, locals := 0 } (xPc D vwCl (cTy cI cJ cL cN) cNf cNm (cDom N) ad (cDe ad N cI cJ cL cN) [.ref (ad n j), .int a1] S) (xQ D vwCl (cDom N) ad (cDe ad N cI cJ cL cN) (some (.int o.1)) o.2) 0 0 (xA (cDom N) ad) := by
  unfold c4_fact at h
  refine x_enter (by decide) (Nat.le_of_ble_eq_true rfl) (fun p e s m below meth c F hr hlk hK hW hS ls hl => ?_)
  have hl : lv_has ls 2 [(0, .ref (ad n j)), (1, .int a1)] := hl
  have hx := F.1
  have hb := F.2.1
  refine lv_iload_n hx hb dX4_fact_0 rfl (lv_at hl 1 rfl) ?_
  by_cases c_1_0 : a1 = (0 : Int32)
  · replace h := (if_pos c_1_0).symm.trans h
    refine lv_tableIn (tgt := 44) (off := 43) hx hb dX4_fact_1 (by rw [c_1_0]; decide) (by rw [c_1_0]; decide) (by rw [c_1_0]; decide) (by decide) ?_
    refine lv_aload_n hx hb dX4_fact_44 rfl (lv_at hl 0 rfl) ?_
    refine x_get F hK hW xc_X4 (cd_dX4 hj) (cd_eX4 hN hj) 3 (by decide) k_2_24 (rfl) dX4_fact_45 ?_
    exact x_iret F hr hlk hW hS dX4_fact_48 h
  replace h := (if_neg c_1_0).symm.trans h
  have hn_1_0 := x_swN (z := 0) c_1_0 x_sw0 rfl
  by_cases c_1_1 : a1 = (1 : Int32)
  · replace h := (if_pos c_1_1).symm.trans h
    refine lv_tableIn (tgt := 49) (off := 48) hx hb dX4_fact_1 (by rw [c_1_1]; decide) (by rw [c_1_1]; decide) (by rw [c_1_1]; decide) (by decide) ?_
    refine lv_aload_n hx hb dX4_fact_49 rfl (lv_at hl 0 rfl) ?_
    refine x_get F hK hW xc_X4 (cd_dX4 hj) (cd_eX4 hN hj) 8 (by decide) k_2_31 (rfl) dX4_fact_50 ?_
    exact x_iret F hr hlk hW hS dX4_fact_53 h
  replace h := (if_neg c_1_1).symm.trans h
  have hn_1_1 := x_swN (z := 1) c_1_1 hn_1_0 rfl
  by_cases c_1_2 : a1 = (2 : Int32)
  · replace h := (if_pos c_1_2).symm.trans h
    refine lv_tableIn (tgt := 54) (off := 53) hx hb dX4_fact_1 (by rw [c_1_2]; decide) (by rw [c_1_2]; decide) (by rw [c_1_2]; decide) (by decide) ?_
    refine lv_aload_n hx hb dX4_fact_54 rfl (lv_at hl 0 rfl) ?_
    refine x_get F hK hW xc_X4 (cd_dX4 hj) (cd_eX4 hN hj) 10 (by decide) k_2_33 (rfl) dX4_fact_55 ?_
    exact x_iret F hr hlk hW hS dX4_fact_58 h
  replace h := (if_neg c_1_2).symm.trans h
  have hn_1_2 := x_swN (z := 2) c_1_2 hn_1_1 rfl
  by_cases c_1_3 : a1 = (3 : Int32)
  · replace h := (if_pos c_1_3).symm.trans h
    refine lv_tableIn (tgt := 59) (off := 58) hx hb dX4_fact_1 (by rw [c_1_3]; decide) (by rw [c_1_3]; decide) (by rw [c_1_3]; decide) (by decide) ?_
    refine lv_aload_n hx hb dX4_fact_59 rfl (lv_at hl 0 rfl) ?_
    refine x_get F hK hW xc_X4 (cd_dX4 hj) (cd_eX4 hN hj) 11 (by decide) k_2_36 (rfl) dX4_fact_60 ?_
    refine lv_iconst (v := (-1 : Int32)) hx hb dX4_fact_63 (by decide) ?_
    refine lv_icmp_ne (tgt := 71) hx hb dX4_fact_64 (by decide) (fun c_2 => ?_) (fun c_2 => ?_)
    · replace h := (if_neg c_2).symm.trans h
      refine lv_iconst (v := (1 : Int32)) hx hb dX4_fact_71 (by decide) ?_
      exact x_iret F hr hlk hW hS dX4_fact_72 h
    replace h := (if_pos c_2).symm.trans h
    refine lv_iconst (v := (0 : Int32)) hx hb dX4_fact_67 (by decide) ?_
    refine lv_goto (tgt := 72) hx hb dX4_fact_68 (by decide) ?_
    exact x_iret F hr hlk hW hS dX4_fact_72 h
  replace h := (if_neg c_1_3).symm.trans h
  have hn_1_3 := x_swN (z := 3) c_1_3 hn_1_2 rfl
  by_cases c_1_4 : a1 = (4 : Int32)
  · replace h := (if_pos c_1_4).symm.trans h
    refine lv_tableIn (tgt := 73) (off := 72) hx hb dX4_fact_1 (by rw [c_1_4]; decide) (by rw [c_1_4]; decide) (by rw [c_1_4]; decide) (by decide) ?_
    refine lv_aload_n hx hb dX4_fact_73 rfl (lv_at hl 0 rfl) ?_
    refine x_get F hK hW xc_X4 (cd_dX4 hj) (cd_eX4 hN hj) 1 (by decide) k_2_19 (rfl) dX4_fact_74 ?_
    refine x_getN F hK hW xc_X2 (cd_dX2 (is2l hj)) (cd_eX2 hN (is2l hj)) 4 (by decide) kn_42 (rfl) dX4_fact_77 ?_
    exact x_iret F hr hlk hW hS dX4_fact_80 h
  replace h := (if_neg c_1_4).symm.trans h
  have hn_1_4 := x_swN (z := 4) c_1_4 hn_1_3 rfl
  by_cases c_1_5 : a1 = (5 : Int32)
  · replace h := (if_pos c_1_5).symm.trans h
    refine lv_tableIn (tgt := 81) (off := 80) hx hb dX4_fact_1 (by rw [c_1_5]; decide) (by rw [c_1_5]; decide) (by rw [c_1_5]; decide) (by decide) ?_
    refine lv_aload_n hx hb dX4_fact_81 rfl (lv_at hl 0 rfl) ?_
    refine x_get F hK hW xc_X4 (cd_dX4 hj) (cd_eX4 hN hj) 1 (by decide) k_2_19 (rfl) dX4_fact_82 ?_
    refine x_getN F hK hW xc_X2 (cd_dX2 (is2l hj)) (cd_eX2 hN (is2l hj)) 8 (by decide) kn_47 (rfl) dX4_fact_85 ?_
    exact x_iret F hr hlk hW hS dX4_fact_88 h
  replace h := (if_neg c_1_5).symm.trans h
  have hn_1_5 := x_swN (z := 5) c_1_5 hn_1_4 rfl
  by_cases c_1_6 : a1 = (6 : Int32)
  · replace h := (if_pos c_1_6).symm.trans h
    refine lv_tableIn (tgt := 89) (off := 88) hx hb dX4_fact_1 (by rw [c_1_6]; decide) (by rw [c_1_6]; decide) (by rw [c_1_6]; decide) (by decide) ?_
    refine lv_aload_n hx hb dX4_fact_89 rfl (lv_at hl 0 rfl) ?_
    refine x_get F hK hW xc_X4 (cd_dX4 hj) (cd_eX4 hN hj) 1 (by decide) k_2_19 (rfl) dX4_fact_90 ?_
    refine x_getN F hK hW xc_X2 (cd_dX2 (is2l hj)) (cd_eX2 hN (is2l hj)) 1 (by decide) kn_41 (rfl) dX4_fact_93 ?_
    exact x_iret F hr hlk hW hS dX4_fact_96 h
  replace h := (if_neg c_1_6).symm.trans h
  have hn_1_6 := x_swN (z := 6) c_1_6 hn_1_5 rfl
  refine x_tblD (tgt := 97) hx hb dX4_fact_1 hn_1_6 (by decide) (by decide) (by decide) ?_
  refine lv_bipush (v := (-3 : Int32)) hx hb dX4_fact_97 (by decide) ?_
  exact x_iret F hr hlk hW hS dX4_fact_99 h
/-! X6_isStartable -/
def c6_isStartable (n : Nat) (S : xS)  : Option (Int32 × xS) := if (xI S n 0 3) = 0 then (some ((0 : Int32), S)) else (if (xI S n 0 4) = (-1 : Int32) then (some ((1 : Int32), S)) else (some ((0 : Int32), S)))
set_option maxHeartbeats 4000000 in
set_option maxRecDepth 100000 in
theorem m_c6_isStartable {l : Launch} {D : va_G} {cI cJ cL cN : ClassId} {ad : Nat → Nat → Nat} {N : Nat} (hN : N ≤ 8) (hI : xInj (cDom N) ad) {n : Nat} (hn : n < N) {S : xS}  {o : Int32 × xS} (h : c6_isStartable n S  = some o) : Met l yX6_isStartable (Cond.code yX6_isStartable cX6_isStartable 1 (some .boolean) :: xG) { frames := 0, cells := 0, slots := 0, locals := 0 } (xPc D vwCl (cTy cI cJ cL cN) cNf cNm (cDom N) ad (cDe ad N cI cJ cL cN) [.ref (ad n 0)] S) (xQ D vwCl (cDom N) ad (cDe ad N cI cJ cL cN) (some (.int o.1)) o.2) 0 0 (xA (cDom N) ad) := by
  unfold c6_isStartable at h
  refine x_enter (by decide) (Nat.le_of_ble_eq_true rfl) (fun p e s m below meth c F hr hlk hK hW hS ls hl => ?_)
  have hl : lv_has ls 1 [(0, .ref (ad n 0))] := hl
  have hx := F.1
  have hb := F.2.1
  refine lv_aload_n hx hb dX6_isStartable_0 rfl (lv_at hl 0 rfl) ?_
  refine x_get F hK hW xc_X6 (cd_dX6 hn) (cd_eX6 hN hn) 3 (by decide) k_2_112 (rfl) dX6_isStartable_1 ?_
  refine lv_if_eq (tgt := 19) hx hb dX6_isStartable_4 (by decide) (fun c_1 => ?_) (fun c_1 => ?_)
  · replace h := (if_pos c_1).symm.trans h
    refine lv_iconst (v := (0 : Int32)) hx hb dX6_isStartable_19 (by decide) ?_
    exact x_zret F hr hlk hW hS rfl dX6_isStartable_20 h
  replace h := (if_neg c_1).symm.trans h
  refine lv_aload_n hx hb dX6_isStartable_7 rfl (lv_at hl 0 rfl) ?_
  refine x_get F hK hW xc_X6 (cd_dX6 hn) (cd_eX6 hN hn) 4 (by decide) k_2_114 (rfl) dX6_isStartable_8 ?_
  refine lv_iconst (v := (-1 : Int32)) hx hb dX6_isStartable_11 (by decide) ?_
  refine lv_icmp_ne (tgt := 19) hx hb dX6_isStartable_12 (by decide) (fun c_2 => ?_) (fun c_2 => ?_)
  · replace h := (if_neg c_2).symm.trans h
    refine lv_iconst (v := (0 : Int32)) hx hb dX6_isStartable_19 (by decide) ?_
    exact x_zret F hr hlk hW hS rfl dX6_isStartable_20 h
  replace h := (if_pos c_2).symm.trans h
  refine lv_iconst (v := (1 : Int32)) hx hb dX6_isStartable_15 (by decide) ?_
  refine lv_goto (tgt := 20) hx hb dX6_isStartable_16 (by decide) ?_
  exact x_zret F hr hlk hW hS rfl dX6_isStartable_20 h
/-! X6_launch -/
def c6_launch (n : Nat) (S : xS) (a1 : Int32) (a2 : Int32) (a3 : Int32) : Option (xS) := xnm (sI S n 0 3 (0 : Int32)) (fun S1 => (c9_begin n 4 S1 a1 a2 a3).bind (fun S2 => (c9_setStack n 4 S2 (0 : Int32) (0 : Int32) (0 : Int32)).bind (fun S3 => some S3)))
set_option maxHeartbeats 4000000 in
set_option maxRecDepth 100000 in
theorem m_c6_launch {l : Launch} {D : va_G} {cI cJ cL cN : ClassId} {ad : Nat → Nat → Nat} {N : Nat} (hN : N ≤ 8) (hI : xInj (cDom N) ad) {n : Nat} (hn : n < N) {S : xS} (a1 : Int32) (a2 : Int32) (a3 : Int32) {o : xS} (h : c6_launch n S a1 a2 a3 = some o) : Met l yX6_launch (Cond.code yX6_launch cX6_launch 4 none :: xG) { frames := 1, cells := 0, slots := 0, locals := 23 } (xPc D vwCl (cTy cI cJ cL cN) cNf cNm (cDom N) ad (cDe ad N cI cJ cL cN) [.ref (ad n 0), .int a1, .int a2, .int a3] S) (xQ D vwCl (cDom N) ad (cDe ad N cI cJ cL cN) none o) 0 0 (xA (cDom N) ad) := by
  unfold c6_launch at h
  refine x_enter (by decide) (Nat.le_of_ble_eq_true rfl) (fun p e s m below meth c F hr hlk hK hW hS ls hl => ?_)
  have hl : lv_has ls 4 [(0, .ref (ad n 0)), (1, .int a1), (2, .int a2), (3, .int a3)] := hl
  have hx := F.1
  have hb := F.2.1
  refine lv_aload_n hx hb dX6_launch_0 rfl (lv_at hl 0 rfl) ?_
  refine lv_iconst (v := (0 : Int32)) hx hb dX6_launch_1 (by decide) ?_
  refine x_put F hK hI hW hS xc_X6 (cd_dX6 hn) (cd_eX6 hN hn) 3 (by decide) k_2_112 rfl (v := (0 : Int32)) rfl rfl (fun _ _ => rfl) (fun _ _ => Nat.le_of_ble_eq_true rfl) dX6_launch_2 h (fun S1 H locs hW hS h => ?_)
  refine lv_aload_n hx hb dX6_launch_5 rfl (lv_at hl 0 rfl) ?_
  refine x_get F hK hW xc_X6 (cd_dX6 hn) (cd_eX6 hN hn) 0 (by decide) k_2_106 (rfl) dX6_launch_6 ?_
  refine x_getN F hK hW xc_X1 (cd_dX1 hn) (cd_eX1 hN hn) 1 (by decide) kn_32 (rfl) dX6_launch_9 ?_
  refine lv_iload_n hx hb dX6_launch_12 rfl (lv_at hl 1 rfl) ?_
  refine lv_iload_n hx hb dX6_launch_13 rfl (lv_at hl 2 rfl) ?_
  refine lv_iload_n hx hb dX6_launch_14 rfl (lv_at hl 3 rfl) ?_
  refine x_cVv (As := [.int a1, .int a2, .int a3]) F xG_ok hK hW hS um_X9_begin k_3_7 (fun _ h1 => m_c9_begin hN hI ⟨hn, Or.inl rfl⟩ _ _ _ h1) rfl (cd_dX9 ⟨hn, Or.inl rfl⟩) (cd_eX9 hN ⟨hn, Or.inl rfl⟩) rfl rfl hl.1 rfl rfl ⟨Nat.le_of_ble_eq_true rfl, Nat.le_of_ble_eq_true rfl⟩ ⟨Nat.zero_le _, Nat.zero_le _⟩ (Nat.le_of_ble_eq_true rfl) dX6_launch_15 h (fun S2 H locs hW hS h => ?_)
  refine lv_aload_n hx hb dX6_launch_18 rfl (lv_at hl 0 rfl) ?_
  refine x_get F hK hW xc_X6 (cd_dX6 hn) (cd_eX6 hN hn) 0 (by decide) k_2_106 (rfl) dX6_launch_19 ?_
  refine x_getN F hK hW xc_X1 (cd_dX1 hn) (cd_eX1 hN hn) 1 (by decide) kn_32 (rfl) dX6_launch_22 ?_
  refine lv_iconst (v := (0 : Int32)) hx hb dX6_launch_25 (by decide) ?_
  refine lv_iconst (v := (0 : Int32)) hx hb dX6_launch_26 (by decide) ?_
  refine lv_iconst (v := (0 : Int32)) hx hb dX6_launch_27 (by decide) ?_
  refine x_cVv (As := [.int (0 : Int32), .int (0 : Int32), .int (0 : Int32)]) F xG_ok hK hW hS um_X9_setStack k_3_12 (fun _ h1 => m_c9_setStack hN hI ⟨hn, Or.inl rfl⟩ _ _ _ h1) rfl (cd_dX9 ⟨hn, Or.inl rfl⟩) (cd_eX9 hN ⟨hn, Or.inl rfl⟩) rfl rfl hl.1 rfl rfl ⟨Nat.le_of_ble_eq_true rfl, Nat.le_of_ble_eq_true rfl⟩ ⟨Nat.zero_le _, Nat.zero_le _⟩ (Nat.le_of_ble_eq_true rfl) dX6_launch_28 h (fun S3 H locs hW hS h => ?_)
  exact x_vret F hr hlk hW hS dX6_launch_31 h
/-! X6_changeClocks -/
def c6_changeClocks_b14 (n : Nat) (v1 : Int32) (S : xS) : Option (xS) := if (v1 &&& (63 : Int32)) = 0 then ((c1_strikeClock n S (1 : Int32)).bind (fun S4 => (c1_stopIfBeyond n S4 ).bind (fun S5 => some S5))) else ((c1_stopIfBeyond n S ).bind (fun S3 => some S3))
set_option maxHeartbeats 4000000 in
set_option maxRecDepth 100000 in
theorem m_c6_changeClocks_b14 {l : Launch} {D : va_G} {cI cJ cL cN : ClassId} {ad : Nat → Nat → Nat} {N : Nat} (hN : N ≤ 8) (hI : xInj (cDom N) ad) {n : Nat} (hn : n < N) {p : Program} {e : Env} {s : State} {m : MethodId} {args : Array Value} {below : List Frame} {meth : Method} {c : Code} (F : CallFix p m c cX6_changeClocks 2 s args (Cond.code yX6_changeClocks cX6_changeClocks 2 none :: xG) (yX6_changeClocks).cls) (hr : meth.sig.returnType = none) (hlk : meth.locks = false) (hK : xK D vwCl (cTy cI cJ cL cN) cNf cNm s) {o : xS} (v1 : Int32) (S : xS) {H : Heap} {locs : List Loc} {ls : Array Slot} (h : c6_changeClocks_b14 n v1 S = some o) (hW : xW D vwCl (cDom N) ad (cDe ad N cI cJ cL cN) S H) (hS : va_S (xA (cDom N) ad) s.heap H locs) (hl : lv_has ls 2 [(0, .ref (ad n 0)), (1, .int v1)]) : W p l e { frames := 5, cells := 0, slots := 0, locals := 118 } s m args below meth c H locs 0 0 (MQ below (xQ D vwCl (cDom N) ad (cDe ad N cI cJ cL cN) none o) args s 0 0 (xA (cDom N) ad)) (F0 m 14 ls []) := by
  have hx := F.1
  have hb := F.2.1
  unfold c6_changeClocks_b14 at h
  refine lv_iload_n hx hb dX6_changeClocks_14 rfl (lv_at hl 1 rfl) ?_
  refine lv_bipush (v := (63 : Int32)) hx hb dX6_changeClocks_15 (by decide) ?_
  refine lv_iand hx hb dX6_changeClocks_17 ?_
  refine lv_if_ne (tgt := 29) hx hb dX6_changeClocks_18 (by decide) (fun c_2 => ?_) (fun c_2 => ?_)
  · replace h := (if_neg c_2).symm.trans h
    refine lv_aload_n hx hb dX6_changeClocks_29 rfl (lv_at hl 0 rfl) ?_
    refine x_get F hK hW xc_X6 (cd_dX6 hn) (cd_eX6 hN hn) 0 (by decide) k_2_106 (rfl) dX6_changeClocks_30 ?_
    refine x_cVv (As := []) F xG_ok hK hW hS um_X1_stopIfBeyond k_3_196 (fun _ h1 => m_c1_stopIfBeyond hN hI hn  h1) rfl (cd_dX1 hn) (cd_eX1 hN hn) rfl rfl hl.1 rfl rfl ⟨Nat.le_of_ble_eq_true rfl, Nat.le_of_ble_eq_true rfl⟩ ⟨Nat.zero_le _, Nat.zero_le _⟩ (Nat.le_of_ble_eq_true rfl) dX6_changeClocks_33 h (fun S3 H locs hW hS h => ?_)
    exact x_vret F hr hlk hW hS dX6_changeClocks_36 h
  replace h := (if_pos c_2).symm.trans h
  refine lv_aload_n hx hb dX6_changeClocks_21 rfl (lv_at hl 0 rfl) ?_
  refine x_get F hK hW xc_X6 (cd_dX6 hn) (cd_eX6 hN hn) 0 (by decide) k_2_106 (rfl) dX6_changeClocks_22 ?_
  refine lv_iconst (v := (1 : Int32)) hx hb dX6_changeClocks_25 (by decide) ?_
  refine x_cVv (As := [.int (1 : Int32)]) F xG_ok hK hW hS um_X1_strikeClock k_3_169 (fun _ h1 => m_c1_strikeClock hN hI hn _ h1) rfl (cd_dX1 hn) (cd_eX1 hN hn) rfl rfl hl.1 rfl rfl ⟨Nat.le_of_ble_eq_true rfl, Nat.le_of_ble_eq_true rfl⟩ ⟨Nat.zero_le _, Nat.zero_le _⟩ (Nat.le_of_ble_eq_true rfl) dX6_changeClocks_26 h (fun S4 H locs hW hS h => ?_)
  refine lv_aload_n hx hb dX6_changeClocks_29 rfl (lv_at hl 0 rfl) ?_
  refine x_get F hK hW xc_X6 (cd_dX6 hn) (cd_eX6 hN hn) 0 (by decide) k_2_106 (rfl) dX6_changeClocks_30 ?_
  refine x_cVv (As := []) F xG_ok hK hW hS um_X1_stopIfBeyond k_3_196 (fun _ h1 => m_c1_stopIfBeyond hN hI hn  h1) rfl (cd_dX1 hn) (cd_eX1 hN hn) rfl rfl hl.1 rfl rfl ⟨Nat.le_of_ble_eq_true rfl, Nat.le_of_ble_eq_true rfl⟩ ⟨Nat.zero_le _, Nat.zero_le _⟩ (Nat.le_of_ble_eq_true rfl) dX6_changeClocks_33 h (fun S5 H locs hW hS h => ?_)
  exact x_vret F hr hlk hW hS dX6_changeClocks_36 h
def c6_changeClocks (n : Nat) (S : xS) (a1 : Int32) : Option (xS) := if (a1 &&& (3 : Int32)) = 0 then ((c1_strikeClock n S (0 : Int32)).bind (fun S6 => c6_changeClocks_b14 n a1 S6)) else (c6_changeClocks_b14 n a1 S)
set_option maxHeartbeats 4000000 in
set_option maxRecDepth 100000 in
theorem m_c6_changeClocks {l : Launch} {D : va_G} {cI cJ cL cN : ClassId} {ad : Nat → Nat → Nat} {N : Nat} (hN : N ≤ 8) (hI : xInj (cDom N) ad) {n : Nat} (hn : n < N) {S : xS} (a1 : Int32) {o : xS} (h : c6_changeClocks n S a1 = some o) : Met l yX6_changeClocks (Cond.code yX6_changeClocks cX6_changeClocks 2 none :: xG) { frames := 5, cells := 0, slots := 0, locals := 118 } (xPc D vwCl (cTy cI cJ cL cN) cNf cNm (cDom N) ad (cDe ad N cI cJ cL cN) [.ref (ad n 0), .int a1] S) (xQ D vwCl (cDom N) ad (cDe ad N cI cJ cL cN) none o) 0 0 (xA (cDom N) ad) := by
  unfold c6_changeClocks at h
  refine x_enter (by decide) (Nat.le_of_ble_eq_true rfl) (fun p e s m below meth c F hr hlk hK hW hS ls hl => ?_)
  have hl : lv_has ls 2 [(0, .ref (ad n 0)), (1, .int a1)] := hl
  have hx := F.1
  have hb := F.2.1
  refine lv_iload_n hx hb dX6_changeClocks_0 rfl (lv_at hl 1 rfl) ?_
  refine lv_iconst (v := (3 : Int32)) hx hb dX6_changeClocks_1 (by decide) ?_
  refine lv_iand hx hb dX6_changeClocks_2 ?_
  refine lv_if_ne (tgt := 14) hx hb dX6_changeClocks_3 (by decide) (fun c_1 => ?_) (fun c_1 => ?_)
  · replace h := (if_neg c_1).symm.trans h
    exact m_c6_changeClocks_b14 hN hI hn F hr hlk hK _ _ h hW hS (lv_sub hl [0, 1] rfl)
  replace h := (if_pos c_1).symm.trans h
  refine lv_aload_n hx hb dX6_changeClocks_6 rfl (lv_at hl 0 rfl) ?_
  refine x_get F hK hW xc_X6 (cd_dX6 hn) (cd_eX6 hN hn) 0 (by decide) k_2_106 (rfl) dX6_changeClocks_7 ?_
  refine lv_iconst (v := (0 : Int32)) hx hb dX6_changeClocks_10 (by decide) ?_
  refine x_cVv (As := [.int (0 : Int32)]) F xG_ok hK hW hS um_X1_strikeClock k_3_169 (fun _ h1 => m_c1_strikeClock hN hI hn _ h1) rfl (cd_dX1 hn) (cd_eX1 hN hn) rfl rfl hl.1 rfl rfl ⟨Nat.le_of_ble_eq_true rfl, Nat.le_of_ble_eq_true rfl⟩ ⟨Nat.zero_le _, Nat.zero_le _⟩ (Nat.le_of_ble_eq_true rfl) dX6_changeClocks_11 h (fun S6 H locs hW hS h => ?_)
  exact m_c6_changeClocks_b14 hN hI hn F hr hlk hK _ _ h hW hS (lv_sub hl [0, 1] rfl)
/-! X6_prepareTurn -/
def c6_prepareTurn (n : Nat) (S : xS)  : Option (Int32 × xS) := if (xI S n 1 9) ≤ 0 then (if (xI S n 1 8) = 0 then ((c1_chooseNext n S ).bind (fun S3 => (c1_stopIfBeyond n S3 ).bind (fun S4 => if (xI S4 n 1 8) = 0 then ((c1_hasProcess n S4 ).bind (fun (r_6, S6) => if r_6 = 0 then (some ((0 : Int32), S6)) else (some ((1 : Int32), S6)))) else (some ((0 : Int32), S4))))) else (some ((0 : Int32), S))) else (xnm (sI S n 1 9 ((xI S n 1 9) - (1 : Int32))) (fun S8 => some ((0 : Int32), S8)))
set_option maxHeartbeats 4000000 in
set_option maxRecDepth 100000 in
theorem m_c6_prepareTurn {l : Launch} {D : va_G} {cI cJ cL cN : ClassId} {ad : Nat → Nat → Nat} {N : Nat} (hN : N ≤ 8) (hI : xInj (cDom N) ad) {n : Nat} (hn : n < N) {S : xS}  {o : Int32 × xS} (h : c6_prepareTurn n S  = some o) : Met l yX6_prepareTurn (Cond.code yX6_prepareTurn cX6_prepareTurn 1 (some .boolean) :: xG) { frames := 3, cells := 0, slots := 0, locals := 66 } (xPc D vwCl (cTy cI cJ cL cN) cNf cNm (cDom N) ad (cDe ad N cI cJ cL cN) [.ref (ad n 0)] S) (xQ D vwCl (cDom N) ad (cDe ad N cI cJ cL cN) (some (.int o.1)) o.2) 0 0 (xA (cDom N) ad) := by
  unfold c6_prepareTurn at h
  refine x_enter (by decide) (Nat.le_of_ble_eq_true rfl) (fun p e s m below meth c F hr hlk hK hW hS ls hl => ?_)
  have hl : lv_has ls 1 [(0, .ref (ad n 0))] := hl
  have hx := F.1
  have hb := F.2.1
  refine lv_aload_n hx hb dX6_prepareTurn_0 rfl (lv_at hl 0 rfl) ?_
  refine x_get F hK hW xc_X6 (cd_dX6 hn) (cd_eX6 hN hn) 0 (by decide) k_2_106 (rfl) dX6_prepareTurn_1 ?_
  refine x_getN F hK hW xc_X1 (cd_dX1 hn) (cd_eX1 hN hn) 9 (by decide) kn_39 (rfl) dX6_prepareTurn_4 ?_
  refine lv_if_le (tgt := 25) hx hb dX6_prepareTurn_7 (by decide) (fun c_1 => ?_) (fun c_1 => ?_)
  · replace h := (if_pos c_1).symm.trans h
    refine lv_aload_n hx hb dX6_prepareTurn_25 rfl (lv_at hl 0 rfl) ?_
    refine x_get F hK hW xc_X6 (cd_dX6 hn) (cd_eX6 hN hn) 0 (by decide) k_2_106 (rfl) dX6_prepareTurn_26 ?_
    refine x_getN F hK hW xc_X1 (cd_dX1 hn) (cd_eX1 hN hn) 8 (by decide) kn_38 (rfl) dX6_prepareTurn_29 ?_
    refine lv_if_eq (tgt := 37) hx hb dX6_prepareTurn_32 (by decide) (fun c_2 => ?_) (fun c_2 => ?_)
    · replace h := (if_pos c_2).symm.trans h
      refine lv_aload_n hx hb dX6_prepareTurn_37 rfl (lv_at hl 0 rfl) ?_
      refine x_get F hK hW xc_X6 (cd_dX6 hn) (cd_eX6 hN hn) 0 (by decide) k_2_106 (rfl) dX6_prepareTurn_38 ?_
      refine x_cVv (As := []) F xG_ok hK hW hS um_X1_chooseNext k_3_208 (fun _ h1 => m_c1_chooseNext hN hI hn  h1) rfl (cd_dX1 hn) (cd_eX1 hN hn) rfl rfl hl.1 rfl rfl ⟨Nat.le_of_ble_eq_true rfl, Nat.le_of_ble_eq_true rfl⟩ ⟨Nat.zero_le _, Nat.zero_le _⟩ (Nat.le_of_ble_eq_true rfl) dX6_prepareTurn_41 h (fun S3 H locs hW hS h => ?_)
      refine lv_aload_n hx hb dX6_prepareTurn_44 rfl (lv_at hl 0 rfl) ?_
      refine x_get F hK hW xc_X6 (cd_dX6 hn) (cd_eX6 hN hn) 0 (by decide) k_2_106 (rfl) dX6_prepareTurn_45 ?_
      refine x_cVv (As := []) F xG_ok hK hW hS um_X1_stopIfBeyond k_3_196 (fun _ h1 => m_c1_stopIfBeyond hN hI hn  h1) rfl (cd_dX1 hn) (cd_eX1 hN hn) rfl rfl hl.1 rfl rfl ⟨Nat.le_of_ble_eq_true rfl, Nat.le_of_ble_eq_true rfl⟩ ⟨Nat.zero_le _, Nat.zero_le _⟩ (Nat.le_of_ble_eq_true rfl) dX6_prepareTurn_48 h (fun S4 H locs hW hS h => ?_)
      refine lv_aload_n hx hb dX6_prepareTurn_51 rfl (lv_at hl 0 rfl) ?_
      refine x_get F hK hW xc_X6 (cd_dX6 hn) (cd_eX6 hN hn) 0 (by decide) k_2_106 (rfl) dX6_prepareTurn_52 ?_
      refine x_getN F hK hW xc_X1 (cd_dX1 hn) (cd_eX1 hN hn) 8 (by decide) kn_38 (rfl) dX6_prepareTurn_55 ?_
      refine lv_if_ne (tgt := 75) hx hb dX6_prepareTurn_58 (by decide) (fun c_5 => ?_) (fun c_5 => ?_)
      · replace h := (if_neg c_5).symm.trans h
        refine lv_iconst (v := (0 : Int32)) hx hb dX6_prepareTurn_75 (by decide) ?_
        exact x_zret F hr hlk hW hS rfl dX6_prepareTurn_76 h
      replace h := (if_pos c_5).symm.trans h
      refine lv_aload_n hx hb dX6_prepareTurn_61 rfl (lv_at hl 0 rfl) ?_
      refine x_get F hK hW xc_X6 (cd_dX6 hn) (cd_eX6 hN hn) 0 (by decide) k_2_106 (rfl) dX6_prepareTurn_62 ?_
      refine x_cVi (As := []) F xG_ok hK hW hS um_X1_hasProcess k_3_227 (fun _ h1 => m_c1_hasProcess hN hI hn  h1) rfl (cd_dX1 hn) (cd_eX1 hN hn) rfl rfl hl.1 rfl rfl ⟨Nat.le_of_ble_eq_true rfl, Nat.le_of_ble_eq_true rfl⟩ ⟨Nat.zero_le _, Nat.zero_le _⟩ (Nat.le_of_ble_eq_true rfl) dX6_prepareTurn_65 h (fun r_6 S6 H locs hW hS h => ?_)
      refine lv_if_eq (tgt := 75) hx hb dX6_prepareTurn_68 (by decide) (fun c_7 => ?_) (fun c_7 => ?_)
      · replace h := (if_pos c_7).symm.trans h
        refine lv_iconst (v := (0 : Int32)) hx hb dX6_prepareTurn_75 (by decide) ?_
        exact x_zret F hr hlk hW hS rfl dX6_prepareTurn_76 h
      replace h := (if_neg c_7).symm.trans h
      refine lv_iconst (v := (1 : Int32)) hx hb dX6_prepareTurn_71 (by decide) ?_
      refine lv_goto (tgt := 76) hx hb dX6_prepareTurn_72 (by decide) ?_
      exact x_zret F hr hlk hW hS rfl dX6_prepareTurn_76 h
    replace h := (if_neg c_2).symm.trans h
    refine lv_iconst (v := (0 : Int32)) hx hb dX6_prepareTurn_35 (by decide) ?_
    exact x_zret F hr hlk hW hS rfl dX6_prepareTurn_36 h
  replace h := (if_neg c_1).symm.trans h
  refine lv_aload_n hx hb dX6_prepareTurn_10 rfl (lv_at hl 0 rfl) ?_
  refine x_get F hK hW xc_X6 (cd_dX6 hn) (cd_eX6 hN hn) 0 (by decide) k_2_106 (rfl) dX6_prepareTurn_11 ?_
  refine lv_dup hx hb dX6_prepareTurn_14 rfl ?_
  refine x_getN F hK hW xc_X1 (cd_dX1 hn) (cd_eX1 hN hn) 9 (by decide) kn_39 (rfl) dX6_prepareTurn_15 ?_
  refine lv_iconst (v := (1 : Int32)) hx hb dX6_prepareTurn_18 (by decide) ?_
  refine lv_isub hx hb dX6_prepareTurn_19 ?_
  refine x_putN F hK hI hW hS xc_X1 (cd_dX1 hn) (cd_eX1 hN hn) 9 (by decide) kn_39 rfl (v := ((xI S n 1 9) - (1 : Int32))) rfl rfl (fun _ _ => rfl) (fun _ _ => Nat.le_of_ble_eq_true rfl) dX6_prepareTurn_20 h (fun S8 H locs hW hS h => ?_)
  refine lv_iconst (v := (0 : Int32)) hx hb dX6_prepareTurn_23 (by decide) ?_
  exact x_zret F hr hlk hW hS rfl dX6_prepareTurn_24 h
/-! X6_leaveLink -/
def c6_leaveLink (n : Nat) (S : xS)  : Option (xS) := xnm (sI S n 0 4 (-1 : Int32)) (fun S1 => xnm (sI S1 n 0 5 (-1 : Int32)) (fun S2 => xnm (sI S2 n 0 6 (0 : Int32)) (fun S3 => xnm (sI S3 n 0 7 (0 : Int32)) (fun S4 => xnm (sI S4 n 0 8 (0 : Int32)) (fun S5 => some S5)))))
set_option maxHeartbeats 4000000 in
set_option maxRecDepth 100000 in
theorem m_c6_leaveLink {l : Launch} {D : va_G} {cI cJ cL cN : ClassId} {ad : Nat → Nat → Nat} {N : Nat} (hN : N ≤ 8) (hI : xInj (cDom N) ad) {n : Nat} (hn : n < N) {S : xS}  {o : xS} (h : c6_leaveLink n S  = some o) : Met l yX6_leaveLink (Cond.code yX6_leaveLink cX6_leaveLink 1 none :: xG) { frames := 0, cells := 0, slots := 0, locals := 0 } (xPc D vwCl (cTy cI cJ cL cN) cNf cNm (cDom N) ad (cDe ad N cI cJ cL cN) [.ref (ad n 0)] S) (xQ D vwCl (cDom N) ad (cDe ad N cI cJ cL cN) none o) 0 0 (xA (cDom N) ad) := by
  unfold c6_leaveLink at h
  refine x_enter (by decide) (Nat.le_of_ble_eq_true rfl) (fun p e s m below meth c F hr hlk hK hW hS ls hl => ?_)
  have hl : lv_has ls 1 [(0, .ref (ad n 0))] := hl
  have hx := F.1
  have hb := F.2.1
  refine lv_aload_n hx hb dX6_leaveLink_0 rfl (lv_at hl 0 rfl) ?_
  refine lv_iconst (v := (-1 : Int32)) hx hb dX6_leaveLink_1 (by decide) ?_
  refine x_put F hK hI hW hS xc_X6 (cd_dX6 hn) (cd_eX6 hN hn) 4 (by decide) k_2_114 rfl (v := (-1 : Int32)) rfl rfl (fun _ _ => rfl) (fun _ _ => Nat.le_of_ble_eq_true rfl) dX6_leaveLink_2 h (fun S1 H locs hW hS h => ?_)
  refine lv_aload_n hx hb dX6_leaveLink_5 rfl (lv_at hl 0 rfl) ?_
  refine lv_iconst (v := (-1 : Int32)) hx hb dX6_leaveLink_6 (by decide) ?_
  refine x_put F hK hI hW hS xc_X6 (cd_dX6 hn) (cd_eX6 hN hn) 5 (by decide) k_2_115 rfl (v := (-1 : Int32)) rfl rfl (fun _ _ => rfl) (fun _ _ => Nat.le_of_ble_eq_true rfl) dX6_leaveLink_7 h (fun S2 H locs hW hS h => ?_)
  refine lv_aload_n hx hb dX6_leaveLink_10 rfl (lv_at hl 0 rfl) ?_
  refine lv_iconst (v := (0 : Int32)) hx hb dX6_leaveLink_11 (by decide) ?_
  refine x_put F hK hI hW hS xc_X6 (cd_dX6 hn) (cd_eX6 hN hn) 6 (by decide) k_2_116 rfl (v := (0 : Int32)) rfl rfl (fun _ _ => rfl) (fun _ _ => Nat.le_of_ble_eq_true rfl) dX6_leaveLink_12 h (fun S3 H locs hW hS h => ?_)
  refine lv_aload_n hx hb dX6_leaveLink_15 rfl (lv_at hl 0 rfl) ?_
  refine lv_iconst (v := (0 : Int32)) hx hb dX6_leaveLink_16 (by decide) ?_
  refine x_put F hK hI hW hS xc_X6 (cd_dX6 hn) (cd_eX6 hN hn) 7 (by decide) k_2_117 rfl (v := (0 : Int32)) rfl rfl (fun _ _ => rfl) (fun _ _ => Nat.le_of_ble_eq_true rfl) dX6_leaveLink_17 h (fun S4 H locs hW hS h => ?_)
  refine lv_aload_n hx hb dX6_leaveLink_20 rfl (lv_at hl 0 rfl) ?_
  refine lv_iconst (v := (0 : Int32)) hx hb dX6_leaveLink_21 (by decide) ?_
  refine x_put F hK hI hW hS xc_X6 (cd_dX6 hn) (cd_eX6 hN hn) 8 (by decide) k_2_118 rfl (v := (0 : Int32)) rfl rfl (fun _ _ => rfl) (fun _ _ => Nat.le_of_ble_eq_true rfl) dX6_leaveLink_22 h (fun S5 H locs hW hS h => ?_)
  exact x_vret F hr hlk hW hS dX6_leaveLink_25 h
/-! X6_leaveWhenAnswered -/
def c6_leaveWhenAnswered (n : Nat) (S : xS)  : Option (xS) := if (xI S n 0 8) = 0 then (some S) else (if (xI S n 0 4) < 0 then (some S) else (if (4 : Int32) ≤ (xI S n 0 4) then (some S) else (gd (xI S n 0 4) 4 (if (xI S n (12 + ((xI S n 0 4)).toNatClampNeg) 3) = 0 then ((c6_leaveLink n S ).bind (fun S6 => some S6)) else (some S)))))
set_option maxHeartbeats 4000000 in
set_option maxRecDepth 100000 in
theorem m_c6_leaveWhenAnswered {l : Launch} {D : va_G} {cI cJ cL cN : ClassId} {ad : Nat → Nat → Nat} {N : Nat} (hN : N ≤ 8) (hI : xInj (cDom N) ad) {n : Nat} (hn : n < N) {S : xS}  {o : xS} (h : c6_leaveWhenAnswered n S  = some o) : Met l yX6_leaveWhenAnswered (Cond.code yX6_leaveWhenAnswered cX6_leaveWhenAnswered 1 none :: xG) { frames := 1, cells := 0, slots := 0, locals := 20 } (xPc D vwCl (cTy cI cJ cL cN) cNf cNm (cDom N) ad (cDe ad N cI cJ cL cN) [.ref (ad n 0)] S) (xQ D vwCl (cDom N) ad (cDe ad N cI cJ cL cN) none o) 0 0 (xA (cDom N) ad) := by
  unfold c6_leaveWhenAnswered at h
  refine x_enter (by decide) (Nat.le_of_ble_eq_true rfl) (fun p e s m below meth c F hr hlk hK hW hS ls hl => ?_)
  have hl : lv_has ls 1 [(0, .ref (ad n 0))] := hl
  have hx := F.1
  have hb := F.2.1
  refine lv_aload_n hx hb dX6_leaveWhenAnswered_0 rfl (lv_at hl 0 rfl) ?_
  refine x_get F hK hW xc_X6 (cd_dX6 hn) (cd_eX6 hN hn) 8 (by decide) k_2_118 (rfl) dX6_leaveWhenAnswered_1 ?_
  refine lv_if_eq (tgt := 41) hx hb dX6_leaveWhenAnswered_4 (by decide) (fun c_1 => ?_) (fun c_1 => ?_)
  · replace h := (if_pos c_1).symm.trans h
    exact x_vret F hr hlk hW hS dX6_leaveWhenAnswered_41 h
  replace h := (if_neg c_1).symm.trans h
  refine lv_aload_n hx hb dX6_leaveWhenAnswered_7 rfl (lv_at hl 0 rfl) ?_
  refine x_get F hK hW xc_X6 (cd_dX6 hn) (cd_eX6 hN hn) 4 (by decide) k_2_114 (rfl) dX6_leaveWhenAnswered_8 ?_
  refine lv_if_lt (tgt := 41) hx hb dX6_leaveWhenAnswered_11 (by decide) (fun c_2 => ?_) (fun c_2 => ?_)
  · replace h := (if_pos c_2).symm.trans h
    exact x_vret F hr hlk hW hS dX6_leaveWhenAnswered_41 h
  replace h := (if_neg c_2).symm.trans h
  refine lv_aload_n hx hb dX6_leaveWhenAnswered_14 rfl (lv_at hl 0 rfl) ?_
  refine x_get F hK hW xc_X6 (cd_dX6 hn) (cd_eX6 hN hn) 4 (by decide) k_2_114 (rfl) dX6_leaveWhenAnswered_15 ?_
  refine lv_iconst (v := (4 : Int32)) hx hb dX6_leaveWhenAnswered_18 (by decide) ?_
  refine lv_icmp_ge (tgt := 41) hx hb dX6_leaveWhenAnswered_19 (by decide) (fun c_3 => ?_) (fun c_3 => ?_)
  · replace h := (if_pos c_3).symm.trans h
    exact x_vret F hr hlk hW hS dX6_leaveWhenAnswered_41 h
  replace h := (if_neg c_3).symm.trans h
  refine lv_aload_n hx hb dX6_leaveWhenAnswered_22 rfl (lv_at hl 0 rfl) ?_
  refine x_get F hK hW xc_X6 (cd_dX6 hn) (cd_eX6 hN hn) 1 (by decide) k_2_108 (rfl) dX6_leaveWhenAnswered_23 ?_
  refine lv_aload_n hx hb dX6_leaveWhenAnswered_26 rfl (lv_at hl 0 rfl) ?_
  refine x_get F hK hW xc_X6 (cd_dX6 hn) (cd_eX6 hN hn) 4 (by decide) k_2_114 (rfl) dX6_leaveWhenAnswered_27 ?_
  have hk_4 := gd_lt h
  refine x_aald (t0 := 2) F hK hW (cd_dAL hn) (cd_eAL hN hn) rfl dX6_leaveWhenAnswered_30 h (fun h => ?_)
  refine x_getN F hK hW xc_X4 (cd_dX4 (is4k hn hk_4)) (cd_eX4 hN (is4k hn hk_4)) 3 (by decide) kn_51 (rfl) dX6_leaveWhenAnswered_31 ?_
  refine lv_if_ne (tgt := 41) hx hb dX6_leaveWhenAnswered_34 (by decide) (fun c_5 => ?_) (fun c_5 => ?_)
  · replace h := (if_neg c_5).symm.trans h
    exact x_vret F hr hlk hW hS dX6_leaveWhenAnswered_41 h
  replace h := (if_pos c_5).symm.trans h
  refine lv_aload_n hx hb dX6_leaveWhenAnswered_37 rfl (lv_at hl 0 rfl) ?_
  refine x_cVv (As := []) F xG_ok hK hW hS um_X6_leaveLink k_3_136 (fun _ h1 => m_c6_leaveLink hN hI hn  h1) rfl (cd_dX6 hn) (cd_eX6 hN hn) rfl rfl hl.1 rfl rfl ⟨Nat.le_of_ble_eq_true rfl, Nat.le_of_ble_eq_true rfl⟩ ⟨Nat.zero_le _, Nat.zero_le _⟩ (Nat.le_of_ble_eq_true rfl) dX6_leaveWhenAnswered_38 h (fun S6 H locs hW hS h => ?_)
  exact x_vret F hr hlk hW hS dX6_leaveWhenAnswered_41 h
/-! X6_firstLinkWithByte -/
def c6_firstLinkWithByte_b2 (n : Nat) : Nat → Int32 → xS → Option (Int32 × xS)
  | 0, _, _ => none
  | fu + 1, v1, S => if (4 : Int32) ≤ v1 then (some ((-1 : Int32), S)) else (gd v1 4 (if (xI S n (12 + (v1).toNatClampNeg) 10) = (-1 : Int32) then ((c6_firstLinkWithByte_b2 n fu) (v1 + (1 : Int32)) S) else (some (v1, S))))
set_option maxHeartbeats 4000000 in
set_option maxRecDepth 100000 in
theorem m_c6_firstLinkWithByte_b2 {l : Launch} {D : va_G} {cI cJ cL cN : ClassId} {ad : Nat → Nat → Nat} {N : Nat} (hN : N ≤ 8) (hI : xInj (cDom N) ad) {n : Nat} (hn : n < N) {p : Program} {e : Env} {s : State} {m : MethodId} {args : Array Value} {below : List Frame} {meth : Method} {c : Code} (F : CallFix p m c cX6_firstLinkWithByte 2 s args (Cond.code yX6_firstLinkWithByte cX6_firstLinkWithByte 2 (some .int) :: xG) (yX6_firstLinkWithByte).cls) (hr : meth.sig.returnType = (some .int)) (hlk : meth.locks = false) (hK : xK D vwCl (cTy cI cJ cL cN) cNf cNm s) {o : Int32 × xS} : ∀ (fu : Nat) (v1 : Int32) (S : xS) {H : Heap} {locs : List Loc} {ls : Array Slot}, c6_firstLinkWithByte_b2 n fu v1 S = some o → xW D vwCl (cDom N) ad (cDe ad N cI cJ cL cN) S H → va_S (xA (cDom N) ad) s.heap H locs → lv_has ls 2 [(0, .ref (ad n 0)), (1, .int v1)] → W p l e { frames := 0, cells := 0, slots := 0, locals := 0 } s m args below meth c H locs 0 0 (MQ below (xQ D vwCl (cDom N) ad (cDe ad N cI cJ cL cN) (some (.int o.1)) o.2) args s 0 0 (xA (cDom N) ad)) (F0 m 2 ls []) := by
  have hx := F.1
  have hb := F.2.1
  intro fu
  induction fu with
  | zero =>
    intro v1 S H locs ls h
    simp [c6_firstLinkWithByte_b2] at h
  | succ fu ih =>
    intro v1 S H locs ls h hW hS hl
    have hk2 := fun v1 S H locs ls (h : c6_firstLinkWithByte_b2 n fu v1 S = some o) hW hS hl => ih v1 S (H := H) (locs := locs) (ls := ls) h hW hS hl
    rw [c6_firstLinkWithByte_b2] at h
    refine lv_iload_n hx hb dX6_firstLinkWithByte_2 rfl (lv_at hl 1 rfl) ?_
    refine lv_iconst (v := (4 : Int32)) hx hb dX6_firstLinkWithByte_3 (by decide) ?_
    refine lv_icmp_ge (tgt := 28) hx hb dX6_firstLinkWithByte_4 (by decide) (fun c_1 => ?_) (fun c_1 => ?_)
    · replace h := (if_pos c_1).symm.trans h
      refine lv_iconst (v := (-1 : Int32)) hx hb dX6_firstLinkWithByte_28 (by decide) ?_
      exact x_iret F hr hlk hW hS dX6_firstLinkWithByte_29 h
    replace h := (if_neg c_1).symm.trans h
    refine lv_aload_n hx hb dX6_firstLinkWithByte_7 rfl (lv_at hl 0 rfl) ?_
    refine x_get F hK hW xc_X6 (cd_dX6 hn) (cd_eX6 hN hn) 1 (by decide) k_2_108 (rfl) dX6_firstLinkWithByte_8 ?_
    refine lv_iload_n hx hb dX6_firstLinkWithByte_11 rfl (lv_at hl 1 rfl) ?_
    have hk_2 := gd_lt h
    refine x_aald (t0 := 2) F hK hW (cd_dAL hn) (cd_eAL hN hn) rfl dX6_firstLinkWithByte_12 h (fun h => ?_)
    refine x_getN F hK hW xc_X4 (cd_dX4 (is4k hn hk_2)) (cd_eX4 hN (is4k hn hk_2)) 10 (by decide) kn_53 (rfl) dX6_firstLinkWithByte_13 ?_
    refine lv_iconst (v := (-1 : Int32)) hx hb dX6_firstLinkWithByte_16 (by decide) ?_
    refine lv_icmp_eq (tgt := 22) hx hb dX6_firstLinkWithByte_17 (by decide) (fun c_3 => ?_) (fun c_3 => ?_)
    · replace h := (if_pos c_3).symm.trans h
      refine lv_iinc (v := (v1 + (1 : Int32))) (lv' := [(1, .int (v1 + (1 : Int32))), (0, .ref (ad n 0))]) hx hb dX6_firstLinkWithByte_22 hl (k := 1) rfl rfl (by decide) rfl (fun ls hl => ?_)
      refine lv_goto (tgt := 2) hx hb dX6_firstLinkWithByte_25 (by decide) ?_
      exact hk2 _ _ _ _ _ h hW hS (lv_sub hl [1, 0] rfl)
    replace h := (if_neg c_3).symm.trans h
    refine lv_iload_n hx hb dX6_firstLinkWithByte_20 rfl (lv_at hl 1 rfl) ?_
    exact x_iret F hr hlk hW hS dX6_firstLinkWithByte_21 h
def c6_firstLinkWithByte (n : Nat) (S : xS)  : Option (Int32 × xS) := c6_firstLinkWithByte_b2 n (100000) (0 : Int32) S
set_option maxHeartbeats 4000000 in
set_option maxRecDepth 100000 in
theorem m_c6_firstLinkWithByte {l : Launch} {D : va_G} {cI cJ cL cN : ClassId} {ad : Nat → Nat → Nat} {N : Nat} (hN : N ≤ 8) (hI : xInj (cDom N) ad) {n : Nat} (hn : n < N) {S : xS}  {o : Int32 × xS} (h : c6_firstLinkWithByte n S  = some o) : Met l yX6_firstLinkWithByte (Cond.code yX6_firstLinkWithByte cX6_firstLinkWithByte 2 (some .int) :: xG) { frames := 0, cells := 0, slots := 0, locals := 0 } (xPc D vwCl (cTy cI cJ cL cN) cNf cNm (cDom N) ad (cDe ad N cI cJ cL cN) [.ref (ad n 0)] S) (xQ D vwCl (cDom N) ad (cDe ad N cI cJ cL cN) (some (.int o.1)) o.2) 0 0 (xA (cDom N) ad) := by
  unfold c6_firstLinkWithByte at h
  refine x_enter (by decide) (Nat.le_of_ble_eq_true rfl) (fun p e s m below meth c F hr hlk hK hW hS ls hl => ?_)
  have hl : lv_has ls 2 [(0, .ref (ad n 0))] := hl
  have hx := F.1
  have hb := F.2.1
  refine lv_iconst (v := (0 : Int32)) hx hb dX6_firstLinkWithByte_0 (by decide) ?_
  refine lv_istore_n (lv' := [(1, .int (0 : Int32)), (0, .ref (ad n 0))]) hx hb dX6_firstLinkWithByte_1 rfl hl (by decide) rfl (fun ls hl => ?_)
  exact m_c6_firstLinkWithByte_b2 hN hI hn F hr hlk hK (100000) _ _ h hW hS (lv_sub hl [1, 0] rfl)
/-! X6_obey -/
def c6_obey_b166 (n : Nat) (j2 : Nat)  (S : xS) : Option (xS) := if (xI S n 0 5) ≤ (1 : Int32) then (some S) else (if (xI S n 0 6) = (xI S n 0 5) then ((c6_launch n S (32804 : Int32) (((32804 : Int32) + (xI S n 0 5)) + (1 : Int32)) (1 : Int32)).bind (fun S9 => (c9_setStack n 4 S9 (32768 : Int32) (32769 : Int32) ((32776 : Int32) + ((2 : Int32) * (xI S9 n 0 4)))).bind (fun S10 => some S10))) else (some S))
set_option maxHeartbeats 4000000 in
set_option maxRecDepth 100000 in
theorem m_c6_obey_b166 {l : Launch} {D : va_G} {cI cJ cL cN : ClassId} {ad : Nat → Nat → Nat} {N : Nat} (hN : N ≤ 8) (hI : xInj (cDom N) ad) {n : Nat} (hn : n < N) {j2 : Nat} (hj2 : isX4 N n j2) {p : Program} {e : Env} {s : State} {m : MethodId} {args : Array Value} {below : List Frame} {meth : Method} {c : Code} (F : CallFix p m c cX6_obey 3 s args (Cond.code yX6_obey cX6_obey 3 none :: xG) (yX6_obey).cls) (hr : meth.sig.returnType = none) (hlk : meth.locks = false) (hK : xK D vwCl (cTy cI cJ cL cN) cNf cNm s) {o : xS}  (S : xS) {H : Heap} {locs : List Loc} {ls : Array Slot} (h : c6_obey_b166 n j2  S = some o) (hW : xW D vwCl (cDom N) ad (cDe ad N cI cJ cL cN) S H) (hS : va_S (xA (cDom N) ad) s.heap H locs) (hl : lv_has ls 3 [(0, .ref (ad n 0))]) : W p l e { frames := 2, cells := 0, slots := 0, locals := 46 } s m args below meth c H locs 0 0 (MQ below (xQ D vwCl (cDom N) ad (cDe ad N cI cJ cL cN) none o) args s 0 0 (xA (cDom N) ad)) (F0 m 166 ls []) := by
  have hx := F.1
  have hb := F.2.1
  unfold c6_obey_b166 at h
  refine lv_aload_n hx hb dX6_obey_166 rfl (lv_at hl 0 rfl) ?_
  refine x_get F hK hW xc_X6 (cd_dX6 hn) (cd_eX6 hN hn) 5 (by decide) k_2_115 (rfl) dX6_obey_167 ?_
  refine lv_iconst (v := (1 : Int32)) hx hb dX6_obey_170 (by decide) ?_
  refine lv_icmp_le (tgt := 224) hx hb dX6_obey_171 (by decide) (fun c_7 => ?_) (fun c_7 => ?_)
  · replace h := (if_pos c_7).symm.trans h
    exact x_vret F hr hlk hW hS dX6_obey_224 h
  replace h := (if_neg c_7).symm.trans h
  refine lv_aload_n hx hb dX6_obey_174 rfl (lv_at hl 0 rfl) ?_
  refine x_get F hK hW xc_X6 (cd_dX6 hn) (cd_eX6 hN hn) 6 (by decide) k_2_116 (rfl) dX6_obey_175 ?_
  refine lv_aload_n hx hb dX6_obey_178 rfl (lv_at hl 0 rfl) ?_
  refine x_get F hK hW xc_X6 (cd_dX6 hn) (cd_eX6 hN hn) 5 (by decide) k_2_115 (rfl) dX6_obey_179 ?_
  refine lv_icmp_ne (tgt := 224) hx hb dX6_obey_182 (by decide) (fun c_8 => ?_) (fun c_8 => ?_)
  · replace h := (if_neg c_8).symm.trans h
    exact x_vret F hr hlk hW hS dX6_obey_224 h
  replace h := (if_pos c_8).symm.trans h
  refine lv_aload_n hx hb dX6_obey_185 rfl (lv_at hl 0 rfl) ?_
  refine lv_ldc (v := (32804 : Int32)) hx hb F.2.2.2.1 (x_hts F _ k_3_152) dX6_obey_186 ?_
  refine lv_ldc (v := (32804 : Int32)) hx hb F.2.2.2.1 (x_hts F _ k_3_152) dX6_obey_188 ?_
  refine lv_aload_n hx hb dX6_obey_190 rfl (lv_at hl 0 rfl) ?_
  refine x_get F hK hW xc_X6 (cd_dX6 hn) (cd_eX6 hN hn) 5 (by decide) k_2_115 (rfl) dX6_obey_191 ?_
  refine lv_iadd hx hb dX6_obey_194 ?_
  refine lv_iconst (v := (1 : Int32)) hx hb dX6_obey_195 (by decide) ?_
  refine lv_iadd hx hb dX6_obey_196 ?_
  refine lv_iconst (v := (1 : Int32)) hx hb dX6_obey_197 (by decide) ?_
  refine x_cVv (As := [.int (32804 : Int32), .int (((32804 : Int32) + (xI S n 0 5)) + (1 : Int32)), .int (1 : Int32)]) F xG_ok hK hW hS um_X6_launch k_3_161 (fun _ h1 => m_c6_launch hN hI hn _ _ _ h1) rfl (cd_dX6 hn) (cd_eX6 hN hn) rfl rfl hl.1 rfl rfl ⟨Nat.le_of_ble_eq_true rfl, Nat.le_of_ble_eq_true rfl⟩ ⟨Nat.zero_le _, Nat.zero_le _⟩ (Nat.le_of_ble_eq_true rfl) dX6_obey_198 h (fun S9 H locs hW hS h => ?_)
  refine lv_aload_n hx hb dX6_obey_201 rfl (lv_at hl 0 rfl) ?_
  refine x_get F hK hW xc_X6 (cd_dX6 hn) (cd_eX6 hN hn) 0 (by decide) k_2_106 (rfl) dX6_obey_202 ?_
  refine x_getN F hK hW xc_X1 (cd_dX1 hn) (cd_eX1 hN hn) 1 (by decide) kn_32 (rfl) dX6_obey_205 ?_
  refine lv_ldc (v := (32768 : Int32)) hx hb F.2.2.2.1 (x_hts F _ k_3_162) dX6_obey_208 ?_
  refine lv_ldc (v := (32769 : Int32)) hx hb F.2.2.2.1 (x_hts F _ k_3_163) dX6_obey_210 ?_
  refine lv_ldc (v := (32776 : Int32)) hx hb F.2.2.2.1 (x_hts F _ k_3_164) dX6_obey_212 ?_
  refine lv_iconst (v := (2 : Int32)) hx hb dX6_obey_214 (by decide) ?_
  refine lv_aload_n hx hb dX6_obey_215 rfl (lv_at hl 0 rfl) ?_
  refine x_get F hK hW xc_X6 (cd_dX6 hn) (cd_eX6 hN hn) 4 (by decide) k_2_114 (rfl) dX6_obey_216 ?_
  refine lv_imul hx hb dX6_obey_219 ?_
  refine lv_iadd hx hb dX6_obey_220 ?_
  refine x_cVv (As := [.int (32768 : Int32), .int (32769 : Int32), .int ((32776 : Int32) + ((2 : Int32) * (xI S9 n 0 4)))]) F xG_ok hK hW hS um_X9_setStack k_3_12 (fun _ h1 => m_c9_setStack hN hI ⟨hn, Or.inl rfl⟩ _ _ _ h1) rfl (cd_dX9 ⟨hn, Or.inl rfl⟩) (cd_eX9 hN ⟨hn, Or.inl rfl⟩) rfl rfl hl.1 rfl rfl ⟨Nat.le_of_ble_eq_true rfl, Nat.le_of_ble_eq_true rfl⟩ ⟨Nat.zero_le _, Nat.zero_le _⟩ (Nat.le_of_ble_eq_true rfl) dX6_obey_221 h (fun S10 H locs hW hS h => ?_)
  exact x_vret F hr hlk hW hS dX6_obey_224 h
def c6_obey_b124 (n : Nat) (j2 : Nat)  (S : xS) : Option (xS) := if (xI S n 0 5) = (1 : Int32) then (if (xI S n 0 6) = (2 : Int32) then ((c5_wordAt n 2 S (xI S n 0 7)).bind (fun (r_12, S12) => (c4_sendWord n j2 S12 r_12).bind (fun S13 => xnm (sI S13 n 0 8 (1 : Int32)) (fun S14 => some S14)))) else (c6_obey_b166 n j2  S)) else (c6_obey_b166 n j2  S)
set_option maxHeartbeats 4000000 in
set_option maxRecDepth 100000 in
theorem m_c6_obey_b124 {l : Launch} {D : va_G} {cI cJ cL cN : ClassId} {ad : Nat → Nat → Nat} {N : Nat} (hN : N ≤ 8) (hI : xInj (cDom N) ad) {n : Nat} (hn : n < N) {j2 : Nat} (hj2 : isX4 N n j2) {p : Program} {e : Env} {s : State} {m : MethodId} {args : Array Value} {below : List Frame} {meth : Method} {c : Code} (F : CallFix p m c cX6_obey 3 s args (Cond.code yX6_obey cX6_obey 3 none :: xG) (yX6_obey).cls) (hr : meth.sig.returnType = none) (hlk : meth.locks = false) (hK : xK D vwCl (cTy cI cJ cL cN) cNf cNm s) {o : xS}  (S : xS) {H : Heap} {locs : List Loc} {ls : Array Slot} (h : c6_obey_b124 n j2  S = some o) (hW : xW D vwCl (cDom N) ad (cDe ad N cI cJ cL cN) S H) (hS : va_S (xA (cDom N) ad) s.heap H locs) (hl : lv_has ls 3 [(0, .ref (ad n 0)), (1, .ref (ad n j2))]) : W p l e { frames := 2, cells := 0, slots := 0, locals := 46 } s m args below meth c H locs 0 0 (MQ below (xQ D vwCl (cDom N) ad (cDe ad N cI cJ cL cN) none o) args s 0 0 (xA (cDom N) ad)) (F0 m 124 ls []) := by
  have hx := F.1
  have hb := F.2.1
  unfold c6_obey_b124 at h
  refine lv_aload_n hx hb dX6_obey_124 rfl (lv_at hl 0 rfl) ?_
  refine x_get F hK hW xc_X6 (cd_dX6 hn) (cd_eX6 hN hn) 5 (by decide) k_2_115 (rfl) dX6_obey_125 ?_
  refine lv_iconst (v := (1 : Int32)) hx hb dX6_obey_128 (by decide) ?_
  refine lv_icmp_ne (tgt := 166) hx hb dX6_obey_129 (by decide) (fun c_6 => ?_) (fun c_6 => ?_)
  · replace h := (if_neg c_6).symm.trans h
    exact m_c6_obey_b166 hN hI hn hj2 F hr hlk hK  _ h hW hS (lv_sub hl [0] rfl)
  replace h := (if_pos c_6).symm.trans h
  refine lv_aload_n hx hb dX6_obey_132 rfl (lv_at hl 0 rfl) ?_
  refine x_get F hK hW xc_X6 (cd_dX6 hn) (cd_eX6 hN hn) 6 (by decide) k_2_116 (rfl) dX6_obey_133 ?_
  refine lv_iconst (v := (2 : Int32)) hx hb dX6_obey_136 (by decide) ?_
  refine lv_icmp_ne (tgt := 166) hx hb dX6_obey_137 (by decide) (fun c_11 => ?_) (fun c_11 => ?_)
  · replace h := (if_neg c_11).symm.trans h
    exact m_c6_obey_b166 hN hI hn hj2 F hr hlk hK  _ h hW hS (lv_sub hl [0] rfl)
  replace h := (if_pos c_11).symm.trans h
  refine lv_aload_n hx hb dX6_obey_140 rfl (lv_at hl 1 rfl) ?_
  refine lv_aload_n hx hb dX6_obey_141 rfl (lv_at hl 0 rfl) ?_
  refine x_get F hK hW xc_X6 (cd_dX6 hn) (cd_eX6 hN hn) 0 (by decide) k_2_106 (rfl) dX6_obey_142 ?_
  refine x_getN F hK hW xc_X1 (cd_dX1 hn) (cd_eX1 hN hn) 0 (by decide) kn_29 (rfl) dX6_obey_145 ?_
  refine lv_aload_n hx hb dX6_obey_148 rfl (lv_at hl 0 rfl) ?_
  refine x_get F hK hW xc_X6 (cd_dX6 hn) (cd_eX6 hN hn) 7 (by decide) k_2_117 (rfl) dX6_obey_149 ?_
  refine x_cVi (As := [.int (xI S n 0 7)]) F xG_ok hK hW hS um_X5_wordAt k_3_156 (fun _ h1 => m_c5_wordAt hN hI (is5n hn) _ h1) rfl (cd_dX5 (is5n hn)) (cd_eX5 hN (is5n hn)) rfl rfl hl.1 rfl rfl ⟨Nat.le_of_ble_eq_true rfl, Nat.le_of_ble_eq_true rfl⟩ ⟨Nat.zero_le _, Nat.zero_le _⟩ (Nat.le_of_ble_eq_true rfl) dX6_obey_152 h (fun r_12 S12 H locs hW hS h => ?_)
  refine x_cVv (As := [.int r_12]) F xG_ok hK hW hS um_X4_sendWord k_3_157 (fun _ h1 => m_c4_sendWord hN hI hj2 _ h1) rfl (cd_dX4 hj2) (cd_eX4 hN hj2) rfl rfl hl.1 rfl rfl ⟨Nat.le_of_ble_eq_true rfl, Nat.le_of_ble_eq_true rfl⟩ ⟨Nat.zero_le _, Nat.zero_le _⟩ (Nat.le_of_ble_eq_true rfl) dX6_obey_155 h (fun S13 H locs hW hS h => ?_)
  refine lv_aload_n hx hb dX6_obey_158 rfl (lv_at hl 0 rfl) ?_
  refine lv_iconst (v := (1 : Int32)) hx hb dX6_obey_159 (by decide) ?_
  refine x_put F hK hI hW hS xc_X6 (cd_dX6 hn) (cd_eX6 hN hn) 8 (by decide) k_2_118 rfl (v := (1 : Int32)) rfl rfl (fun _ _ => rfl) (fun _ _ => Nat.le_of_ble_eq_true rfl) dX6_obey_160 h (fun S14 H locs hW hS h => ?_)
  refine lv_goto (tgt := 224) hx hb dX6_obey_163 (by decide) ?_
  exact x_vret F hr hlk hW hS dX6_obey_224 h
def c6_obey_b68 (n : Nat) (j2 : Nat)  (S : xS) : Option (xS) := xnm (sI S n 0 6 ((xI S n 0 6) + (1 : Int32))) (fun S4 => if (xI S4 n 0 5) = 0 then (if (xI S4 n 0 6) = (4 : Int32) then ((c5_setWord n 2 S4 ((xI S4 n 0 7) &&& (65535 : Int32)) (iush (xI S4 n 0 7) (16 : Int32))).bind (fun S16 => (c6_leaveLink n S16 ).bind (fun S17 => some S17))) else (c6_obey_b124 n j2  S4)) else (c6_obey_b124 n j2  S4))
set_option maxHeartbeats 4000000 in
set_option maxRecDepth 100000 in
theorem m_c6_obey_b68 {l : Launch} {D : va_G} {cI cJ cL cN : ClassId} {ad : Nat → Nat → Nat} {N : Nat} (hN : N ≤ 8) (hI : xInj (cDom N) ad) {n : Nat} (hn : n < N) {j2 : Nat} (hj2 : isX4 N n j2) {p : Program} {e : Env} {s : State} {m : MethodId} {args : Array Value} {below : List Frame} {meth : Method} {c : Code} (F : CallFix p m c cX6_obey 3 s args (Cond.code yX6_obey cX6_obey 3 none :: xG) (yX6_obey).cls) (hr : meth.sig.returnType = none) (hlk : meth.locks = false) (hK : xK D vwCl (cTy cI cJ cL cN) cNf cNm s) {o : xS}  (S : xS) {H : Heap} {locs : List Loc} {ls : Array Slot} (h : c6_obey_b68 n j2  S = some o) (hW : xW D vwCl (cDom N) ad (cDe ad N cI cJ cL cN) S H) (hS : va_S (xA (cDom N) ad) s.heap H locs) (hl : lv_has ls 3 [(0, .ref (ad n 0)), (1, .ref (ad n j2))]) : W p l e { frames := 2, cells := 0, slots := 0, locals := 46 } s m args below meth c H locs 0 0 (MQ below (xQ D vwCl (cDom N) ad (cDe ad N cI cJ cL cN) none o) args s 0 0 (xA (cDom N) ad)) (F0 m 68 ls []) := by
  have hx := F.1
  have hb := F.2.1
  unfold c6_obey_b68 at h
  refine lv_aload_n hx hb dX6_obey_68 rfl (lv_at hl 0 rfl) ?_
  refine lv_dup hx hb dX6_obey_69 rfl ?_
  refine x_get F hK hW xc_X6 (cd_dX6 hn) (cd_eX6 hN hn) 6 (by decide) k_2_116 (rfl) dX6_obey_70 ?_
  refine lv_iconst (v := (1 : Int32)) hx hb dX6_obey_73 (by decide) ?_
  refine lv_iadd hx hb dX6_obey_74 ?_
  refine x_put F hK hI hW hS xc_X6 (cd_dX6 hn) (cd_eX6 hN hn) 6 (by decide) k_2_116 rfl (v := ((xI S n 0 6) + (1 : Int32))) rfl rfl (fun _ _ => rfl) (fun _ _ => Nat.le_of_ble_eq_true rfl) dX6_obey_75 h (fun S4 H locs hW hS h => ?_)
  refine lv_aload_n hx hb dX6_obey_78 rfl (lv_at hl 0 rfl) ?_
  refine x_get F hK hW xc_X6 (cd_dX6 hn) (cd_eX6 hN hn) 5 (by decide) k_2_115 (rfl) dX6_obey_79 ?_
  refine lv_if_ne (tgt := 124) hx hb dX6_obey_82 (by decide) (fun c_5 => ?_) (fun c_5 => ?_)
  · replace h := (if_neg c_5).symm.trans h
    exact m_c6_obey_b124 hN hI hn hj2 F hr hlk hK  _ h hW hS (lv_sub hl [0, 1] rfl)
  replace h := (if_pos c_5).symm.trans h
  refine lv_aload_n hx hb dX6_obey_85 rfl (lv_at hl 0 rfl) ?_
  refine x_get F hK hW xc_X6 (cd_dX6 hn) (cd_eX6 hN hn) 6 (by decide) k_2_116 (rfl) dX6_obey_86 ?_
  refine lv_iconst (v := (4 : Int32)) hx hb dX6_obey_89 (by decide) ?_
  refine lv_icmp_ne (tgt := 124) hx hb dX6_obey_90 (by decide) (fun c_15 => ?_) (fun c_15 => ?_)
  · replace h := (if_neg c_15).symm.trans h
    exact m_c6_obey_b124 hN hI hn hj2 F hr hlk hK  _ h hW hS (lv_sub hl [0, 1] rfl)
  replace h := (if_pos c_15).symm.trans h
  refine lv_aload_n hx hb dX6_obey_93 rfl (lv_at hl 0 rfl) ?_
  refine x_get F hK hW xc_X6 (cd_dX6 hn) (cd_eX6 hN hn) 0 (by decide) k_2_106 (rfl) dX6_obey_94 ?_
  refine x_getN F hK hW xc_X1 (cd_dX1 hn) (cd_eX1 hN hn) 0 (by decide) kn_29 (rfl) dX6_obey_97 ?_
  refine lv_aload_n hx hb dX6_obey_100 rfl (lv_at hl 0 rfl) ?_
  refine x_get F hK hW xc_X6 (cd_dX6 hn) (cd_eX6 hN hn) 7 (by decide) k_2_117 (rfl) dX6_obey_101 ?_
  refine lv_ldc (v := (65535 : Int32)) hx hb F.2.2.2.1 (x_hts F _ k_3_154) dX6_obey_104 ?_
  refine lv_iand hx hb dX6_obey_106 ?_
  refine lv_aload_n hx hb dX6_obey_107 rfl (lv_at hl 0 rfl) ?_
  refine x_get F hK hW xc_X6 (cd_dX6 hn) (cd_eX6 hN hn) 7 (by decide) k_2_117 (rfl) dX6_obey_108 ?_
  refine lv_bipush (v := (16 : Int32)) hx hb dX6_obey_111 (by decide) ?_
  refine lv_iushr (v := (iush (xI S4 n 0 7) (16 : Int32))) hx hb dX6_obey_113 rfl ?_
  refine x_cVv (As := [.int ((xI S4 n 0 7) &&& (65535 : Int32)), .int (iush (xI S4 n 0 7) (16 : Int32))]) F xG_ok hK hW hS um_X5_setWord k_3_155 (fun _ h1 => m_c5_setWord hN hI (is5n hn) _ _ h1) rfl (cd_dX5 (is5n hn)) (cd_eX5 hN (is5n hn)) rfl rfl hl.1 rfl rfl ⟨Nat.le_of_ble_eq_true rfl, Nat.le_of_ble_eq_true rfl⟩ ⟨Nat.zero_le _, Nat.zero_le _⟩ (Nat.le_of_ble_eq_true rfl) dX6_obey_114 h (fun S16 H locs hW hS h => ?_)
  refine lv_aload_n hx hb dX6_obey_117 rfl (lv_at hl 0 rfl) ?_
  refine x_cVv (As := []) F xG_ok hK hW hS um_X6_leaveLink k_3_136 (fun _ h1 => m_c6_leaveLink hN hI hn  h1) rfl (cd_dX6 hn) (cd_eX6 hN hn) rfl rfl hl.1 rfl rfl ⟨Nat.le_of_ble_eq_true rfl, Nat.le_of_ble_eq_true rfl⟩ ⟨Nat.zero_le _, Nat.zero_le _⟩ (Nat.le_of_ble_eq_true rfl) dX6_obey_118 h (fun S17 H locs hW hS h => ?_)
  refine lv_goto (tgt := 224) hx hb dX6_obey_121 (by decide) ?_
  exact x_vret F hr hlk hW hS dX6_obey_224 h
def c6_obey_b29 (n : Nat) (j2 : Nat) (v2 : Int32) (S : xS) : Option (xS) := xnm (sI S n 0 7 ((xI S n 0 7) ||| (v2 <<< (((8 : Int32) * (xI S n 0 6)) &&& 31)))) (fun S3 => c6_obey_b68 n j2  S3)
set_option maxHeartbeats 4000000 in
set_option maxRecDepth 100000 in
theorem m_c6_obey_b29 {l : Launch} {D : va_G} {cI cJ cL cN : ClassId} {ad : Nat → Nat → Nat} {N : Nat} (hN : N ≤ 8) (hI : xInj (cDom N) ad) {n : Nat} (hn : n < N) {j2 : Nat} (hj2 : isX4 N n j2) {p : Program} {e : Env} {s : State} {m : MethodId} {args : Array Value} {below : List Frame} {meth : Method} {c : Code} (F : CallFix p m c cX6_obey 3 s args (Cond.code yX6_obey cX6_obey 3 none :: xG) (yX6_obey).cls) (hr : meth.sig.returnType = none) (hlk : meth.locks = false) (hK : xK D vwCl (cTy cI cJ cL cN) cNf cNm s) {o : xS} (v2 : Int32) (S : xS) {H : Heap} {locs : List Loc} {ls : Array Slot} (h : c6_obey_b29 n j2 v2 S = some o) (hW : xW D vwCl (cDom N) ad (cDe ad N cI cJ cL cN) S H) (hS : va_S (xA (cDom N) ad) s.heap H locs) (hl : lv_has ls 3 [(0, .ref (ad n 0)), (1, .ref (ad n j2)), (2, .int v2)]) : W p l e { frames := 2, cells := 0, slots := 0, locals := 46 } s m args below meth c H locs 0 0 (MQ below (xQ D vwCl (cDom N) ad (cDe ad N cI cJ cL cN) none o) args s 0 0 (xA (cDom N) ad)) (F0 m 29 ls []) := by
  have hx := F.1
  have hb := F.2.1
  unfold c6_obey_b29 at h
  refine lv_aload_n hx hb dX6_obey_29 rfl (lv_at hl 0 rfl) ?_
  refine lv_dup hx hb dX6_obey_30 rfl ?_
  refine x_get F hK hW xc_X6 (cd_dX6 hn) (cd_eX6 hN hn) 7 (by decide) k_2_117 (rfl) dX6_obey_31 ?_
  refine lv_iload_n hx hb dX6_obey_34 rfl (lv_at hl 2 rfl) ?_
  refine lv_bipush (v := (8 : Int32)) hx hb dX6_obey_35 (by decide) ?_
  refine lv_aload_n hx hb dX6_obey_37 rfl (lv_at hl 0 rfl) ?_
  refine x_get F hK hW xc_X6 (cd_dX6 hn) (cd_eX6 hN hn) 6 (by decide) k_2_116 (rfl) dX6_obey_38 ?_
  refine lv_imul hx hb dX6_obey_41 ?_
  refine lv_ishl hx hb dX6_obey_42 ?_
  refine lv_ior hx hb dX6_obey_43 ?_
  refine x_put F hK hI hW hS xc_X6 (cd_dX6 hn) (cd_eX6 hN hn) 7 (by decide) k_2_117 rfl (v := ((xI S n 0 7) ||| (v2 <<< (((8 : Int32) * (xI S n 0 6)) &&& 31)))) rfl rfl (fun _ _ => rfl) (fun _ _ => Nat.le_of_ble_eq_true rfl) dX6_obey_44 h (fun S3 H locs hW hS h => ?_)
  refine lv_goto (tgt := 68) hx hb dX6_obey_47 (by decide) ?_
  exact m_c6_obey_b68 hN hI hn hj2 F hr hlk hK  _ h hW hS (lv_sub hl [0, 1] rfl)
def c6_obey (n : Nat) (j2 : Nat) (S : xS) (a2 : Int32) : Option (xS) := if (xI S n 0 5) = (-1 : Int32) then (xnm (sI S n 0 5 a2) (fun S20 => some S20)) else (if (xI S n 0 5) = 0 then (c6_obey_b29 n j2 a2 S) else (if (xI S n 0 5) = (1 : Int32) then (c6_obey_b29 n j2 a2 S) else ((c5_setByte n 2 S ((32804 : Int32) + (xI S n 0 6)) a2).bind (fun S19 => c6_obey_b68 n j2  S19))))
set_option maxHeartbeats 4000000 in
set_option maxRecDepth 100000 in
theorem m_c6_obey {l : Launch} {D : va_G} {cI cJ cL cN : ClassId} {ad : Nat → Nat → Nat} {N : Nat} (hN : N ≤ 8) (hI : xInj (cDom N) ad) {n : Nat} (hn : n < N) {j2 : Nat} (hj2 : isX4 N n j2) {S : xS} (a2 : Int32) {o : xS} (h : c6_obey n j2 S a2 = some o) : Met l yX6_obey (Cond.code yX6_obey cX6_obey 3 none :: xG) { frames := 2, cells := 0, slots := 0, locals := 46 } (xPc D vwCl (cTy cI cJ cL cN) cNf cNm (cDom N) ad (cDe ad N cI cJ cL cN) [.ref (ad n 0), .ref (ad n j2), .int a2] S) (xQ D vwCl (cDom N) ad (cDe ad N cI cJ cL cN) none o) 0 0 (xA (cDom N) ad) := by
  unfold c6_obey at h
  refine x_enter (by decide) (Nat.le_of_ble_eq_true rfl) (fun p e s m below meth c F hr hlk hK hW hS ls hl => ?_)
  have hl : lv_has ls 3 [(0, .ref (ad n 0)), (1, .ref (ad n j2)), (2, .int a2)] := hl
  have hx := F.1
  have hb := F.2.1
  refine lv_aload_n hx hb dX6_obey_0 rfl (lv_at hl 0 rfl) ?_
  refine x_get F hK hW xc_X6 (cd_dX6 hn) (cd_eX6 hN hn) 5 (by decide) k_2_115 (rfl) dX6_obey_1 ?_
  refine lv_iconst (v := (-1 : Int32)) hx hb dX6_obey_4 (by decide) ?_
  refine lv_icmp_ne (tgt := 14) hx hb dX6_obey_5 (by decide) (fun c_1 => ?_) (fun c_1 => ?_)
  · replace h := (if_neg c_1).symm.trans h
    refine lv_aload_n hx hb dX6_obey_14 rfl (lv_at hl 0 rfl) ?_
    refine x_get F hK hW xc_X6 (cd_dX6 hn) (cd_eX6 hN hn) 5 (by decide) k_2_115 (rfl) dX6_obey_15 ?_
    refine lv_if_eq (tgt := 29) hx hb dX6_obey_18 (by decide) (fun c_2 => ?_) (fun c_2 => ?_)
    · replace h := (if_pos c_2).symm.trans h
      exact m_c6_obey_b29 hN hI hn hj2 F hr hlk hK _ _ h hW hS (lv_sub hl [0, 1, 2] rfl)
    replace h := (if_neg c_2).symm.trans h
    refine lv_aload_n hx hb dX6_obey_21 rfl (lv_at hl 0 rfl) ?_
    refine x_get F hK hW xc_X6 (cd_dX6 hn) (cd_eX6 hN hn) 5 (by decide) k_2_115 (rfl) dX6_obey_22 ?_
    refine lv_iconst (v := (1 : Int32)) hx hb dX6_obey_25 (by decide) ?_
    refine lv_icmp_ne (tgt := 50) hx hb dX6_obey_26 (by decide) (fun c_18 => ?_) (fun c_18 => ?_)
    · replace h := (if_neg c_18).symm.trans h
      refine lv_aload_n hx hb dX6_obey_50 rfl (lv_at hl 0 rfl) ?_
      refine x_get F hK hW xc_X6 (cd_dX6 hn) (cd_eX6 hN hn) 0 (by decide) k_2_106 (rfl) dX6_obey_51 ?_
      refine x_getN F hK hW xc_X1 (cd_dX1 hn) (cd_eX1 hN hn) 0 (by decide) kn_29 (rfl) dX6_obey_54 ?_
      refine lv_ldc (v := (32804 : Int32)) hx hb F.2.2.2.1 (x_hts F _ k_3_152) dX6_obey_57 ?_
      refine lv_aload_n hx hb dX6_obey_59 rfl (lv_at hl 0 rfl) ?_
      refine x_get F hK hW xc_X6 (cd_dX6 hn) (cd_eX6 hN hn) 6 (by decide) k_2_116 (rfl) dX6_obey_60 ?_
      refine lv_iadd hx hb dX6_obey_63 ?_
      refine lv_iload_n hx hb dX6_obey_64 rfl (lv_at hl 2 rfl) ?_
      refine x_cVv (As := [.int ((32804 : Int32) + (xI S n 0 6)), .int a2]) F xG_ok hK hW hS um_X5_setByte k_3_153 (fun _ h1 => m_c5_setByte hN hI (is5n hn) _ _ h1) rfl (cd_dX5 (is5n hn)) (cd_eX5 hN (is5n hn)) rfl rfl hl.1 rfl rfl ⟨Nat.le_of_ble_eq_true rfl, Nat.le_of_ble_eq_true rfl⟩ ⟨Nat.zero_le _, Nat.zero_le _⟩ (Nat.le_of_ble_eq_true rfl) dX6_obey_65 h (fun S19 H locs hW hS h => ?_)
      exact m_c6_obey_b68 hN hI hn hj2 F hr hlk hK  _ h hW hS (lv_sub hl [0, 1] rfl)
    replace h := (if_pos c_18).symm.trans h
    exact m_c6_obey_b29 hN hI hn hj2 F hr hlk hK _ _ h hW hS (lv_sub hl [0, 1, 2] rfl)
  replace h := (if_pos c_1).symm.trans h
  refine lv_aload_n hx hb dX6_obey_8 rfl (lv_at hl 0 rfl) ?_
  refine lv_iload_n hx hb dX6_obey_9 rfl (lv_at hl 2 rfl) ?_
  refine x_put F hK hI hW hS xc_X6 (cd_dX6 hn) (cd_eX6 hN hn) 5 (by decide) k_2_115 rfl (v := a2) rfl rfl (fun _ _ => rfl) (fun _ _ => Nat.le_of_ble_eq_true rfl) dX6_obey_10 h (fun S20 H locs hW hS h => ?_)
  exact x_vret F hr hlk hW hS dX6_obey_13 h
/-! X6_takeBootByte -/
def c6_takeBootByte_b28 (n : Nat)  (S : xS) : Option (xS) := if (xI S n 0 8) = 0 then (if (xI S n 0 4) < 0 then (some S) else (if (xI S n 0 4) < (4 : Int32) then (gd (xI S n 0 4) 4 (if (xI S n (12 + ((xI S n 0 4)).toNatClampNeg) 10) = (-1 : Int32) then (some S) else (xnm (sI S n ((12 + ((xI S n 0 4)).toNatClampNeg) + 4) 6 ((xI S n ((12 + ((xI S n 0 4)).toNatClampNeg) + 4) 6) + (1 : Int32))) (fun S9 => (c4_releaseKept n (12 + ((xI S n 0 4)).toNatClampNeg) S9 ).bind (fun (r_10, S10) => (c6_obey n (12 + ((xI S n 0 4)).toNatClampNeg) S10 r_10).bind (fun S11 => some S11)))))) else (some S))) else (some S)
set_option maxHeartbeats 4000000 in
set_option maxRecDepth 100000 in
theorem m_c6_takeBootByte_b28 {l : Launch} {D : va_G} {cI cJ cL cN : ClassId} {ad : Nat → Nat → Nat} {N : Nat} (hN : N ≤ 8) (hI : xInj (cDom N) ad) {n : Nat} (hn : n < N) {p : Program} {e : Env} {s : State} {m : MethodId} {args : Array Value} {below : List Frame} {meth : Method} {c : Code} (F : CallFix p m c cX6_takeBootByte 2 s args (Cond.code yX6_takeBootByte cX6_takeBootByte 2 none :: xG) (yX6_takeBootByte).cls) (hr : meth.sig.returnType = none) (hlk : meth.locks = false) (hK : xK D vwCl (cTy cI cJ cL cN) cNf cNm s) {o : xS}  (S : xS) {H : Heap} {locs : List Loc} {ls : Array Slot} (h : c6_takeBootByte_b28 n  S = some o) (hW : xW D vwCl (cDom N) ad (cDe ad N cI cJ cL cN) S H) (hS : va_S (xA (cDom N) ad) s.heap H locs) (hl : lv_has ls 2 [(0, .ref (ad n 0))]) : W p l e { frames := 3, cells := 0, slots := 0, locals := 68 } s m args below meth c H locs 0 0 (MQ below (xQ D vwCl (cDom N) ad (cDe ad N cI cJ cL cN) none o) args s 0 0 (xA (cDom N) ad)) (F0 m 28 ls []) := by
  have hx := F.1
  have hb := F.2.1
  unfold c6_takeBootByte_b28 at h
  refine lv_aload_n hx hb dX6_takeBootByte_28 rfl (lv_at hl 0 rfl) ?_
  refine x_get F hK hW xc_X6 (cd_dX6 hn) (cd_eX6 hN hn) 8 (by decide) k_2_118 (rfl) dX6_takeBootByte_29 ?_
  refine lv_if_ne (tgt := 50) hx hb dX6_takeBootByte_32 (by decide) (fun c_4 => ?_) (fun c_4 => ?_)
  · replace h := (if_neg c_4).symm.trans h
    exact x_vret F hr hlk hW hS dX6_takeBootByte_50 h
  replace h := (if_pos c_4).symm.trans h
  refine lv_aload_n hx hb dX6_takeBootByte_35 rfl (lv_at hl 0 rfl) ?_
  refine x_get F hK hW xc_X6 (cd_dX6 hn) (cd_eX6 hN hn) 4 (by decide) k_2_114 (rfl) dX6_takeBootByte_36 ?_
  refine lv_if_lt (tgt := 50) hx hb dX6_takeBootByte_39 (by decide) (fun c_5 => ?_) (fun c_5 => ?_)
  · replace h := (if_pos c_5).symm.trans h
    exact x_vret F hr hlk hW hS dX6_takeBootByte_50 h
  replace h := (if_neg c_5).symm.trans h
  refine lv_aload_n hx hb dX6_takeBootByte_42 rfl (lv_at hl 0 rfl) ?_
  refine x_get F hK hW xc_X6 (cd_dX6 hn) (cd_eX6 hN hn) 4 (by decide) k_2_114 (rfl) dX6_takeBootByte_43 ?_
  refine lv_iconst (v := (4 : Int32)) hx hb dX6_takeBootByte_46 (by decide) ?_
  refine lv_icmp_lt (tgt := 51) hx hb dX6_takeBootByte_47 (by decide) (fun c_6 => ?_) (fun c_6 => ?_)
  · replace h := (if_pos c_6).symm.trans h
    refine lv_aload_n hx hb dX6_takeBootByte_51 rfl (lv_at hl 0 rfl) ?_
    refine x_get F hK hW xc_X6 (cd_dX6 hn) (cd_eX6 hN hn) 1 (by decide) k_2_108 (rfl) dX6_takeBootByte_52 ?_
    refine lv_aload_n hx hb dX6_takeBootByte_55 rfl (lv_at hl 0 rfl) ?_
    refine x_get F hK hW xc_X6 (cd_dX6 hn) (cd_eX6 hN hn) 4 (by decide) k_2_114 (rfl) dX6_takeBootByte_56 ?_
    have hk_7 := gd_lt h
    refine x_aald (t0 := 2) F hK hW (cd_dAL hn) (cd_eAL hN hn) rfl dX6_takeBootByte_59 h (fun h => ?_)
    refine lv_astore_n (lv' := [(1, .ref (ad n (12 + ((xI S n 0 4)).toNatClampNeg))), (0, .ref (ad n 0))]) hx hb dX6_takeBootByte_60 rfl hl (by decide) rfl (fun ls hl => ?_)
    refine lv_aload_n hx hb dX6_takeBootByte_61 rfl (lv_at hl 0 rfl) ?_
    refine x_getN F hK hW xc_X4 (cd_dX4 (is4k hn hk_7)) (cd_eX4 hN (is4k hn hk_7)) 10 (by decide) kn_53 (rfl) dX6_takeBootByte_62 ?_
    refine lv_iconst (v := (-1 : Int32)) hx hb dX6_takeBootByte_65 (by decide) ?_
    refine lv_icmp_eq (tgt := 91) hx hb dX6_takeBootByte_66 (by decide) (fun c_8 => ?_) (fun c_8 => ?_)
    · replace h := (if_pos c_8).symm.trans h
      exact x_vret F hr hlk hW hS dX6_takeBootByte_91 h
    replace h := (if_neg c_8).symm.trans h
    refine lv_aload_n hx hb dX6_takeBootByte_69 rfl (lv_at hl 0 rfl) ?_
    refine x_getN F hK hW xc_X4 (cd_dX4 (is4k hn hk_7)) (cd_eX4 hN (is4k hn hk_7)) 1 (by decide) kn_48 (rfl) dX6_takeBootByte_70 ?_
    refine lv_dup hx hb dX6_takeBootByte_73 rfl ?_
    refine x_getN F hK hW xc_X2 (cd_dX2 (is2l (is4k hn hk_7))) (cd_eX2 hN (is2l (is4k hn hk_7))) 6 (by decide) kn_43 (rfl) dX6_takeBootByte_74 ?_
    refine lv_iconst (v := (1 : Int32)) hx hb dX6_takeBootByte_77 (by decide) ?_
    refine lv_iadd hx hb dX6_takeBootByte_78 ?_
    refine x_putN F hK hI hW hS xc_X2 (cd_dX2 (is2l (is4k hn hk_7))) (cd_eX2 hN (is2l (is4k hn hk_7))) 6 (by decide) kn_43 rfl (v := ((xI S n ((12 + ((xI S n 0 4)).toNatClampNeg) + 4) 6) + (1 : Int32))) rfl rfl (fun _ _ => rfl) (fun _ _ => Nat.le_of_ble_eq_true rfl) dX6_takeBootByte_79 h (fun S9 H locs hW hS h => ?_)
    refine lv_aload_n hx hb dX6_takeBootByte_82 rfl (lv_at hl 1 rfl) ?_
    refine lv_aload_n hx hb dX6_takeBootByte_83 rfl (lv_at hl 0 rfl) ?_
    refine lv_aload_n hx hb dX6_takeBootByte_84 rfl (lv_at hl 0 rfl) ?_
    refine x_cVi (As := []) F xG_ok hK hW hS um_X4_releaseKept k_3_144 (fun _ h1 => m_c4_releaseKept hN hI (is4k hn hk_7)  h1) rfl (cd_dX4 (is4k hn hk_7)) (cd_eX4 hN (is4k hn hk_7)) rfl rfl hl.1 rfl rfl ⟨Nat.le_of_ble_eq_true rfl, Nat.le_of_ble_eq_true rfl⟩ ⟨Nat.zero_le _, Nat.zero_le _⟩ (Nat.le_of_ble_eq_true rfl) dX6_takeBootByte_85 h (fun r_10 S10 H locs hW hS h => ?_)
    refine x_cVv (As := [.ref (ad n (12 + ((xI S n 0 4)).toNatClampNeg)), .int r_10]) F xG_ok hK hW hS um_X6_obey k_3_148 (fun _ h1 => m_c6_obey hN hI hn (is4k hn hk_7) _ h1) rfl (cd_dX6 hn) (cd_eX6 hN hn) rfl rfl hl.1 rfl rfl ⟨Nat.le_of_ble_eq_true rfl, Nat.le_of_ble_eq_true rfl⟩ ⟨Nat.zero_le _, Nat.zero_le _⟩ (Nat.le_of_ble_eq_true rfl) dX6_takeBootByte_88 h (fun S11 H locs hW hS h => ?_)
    exact x_vret F hr hlk hW hS dX6_takeBootByte_91 h
  replace h := (if_neg c_6).symm.trans h
  exact x_vret F hr hlk hW hS dX6_takeBootByte_50 h
def c6_takeBootByte (n : Nat) (S : xS)  : Option (xS) := if (xI S n 0 3) = 0 then (some S) else ((c6_leaveWhenAnswered n S ).bind (fun S2 => if (xI S2 n 0 4) = (-1 : Int32) then ((c6_firstLinkWithByte n S2 ).bind (fun (r_12, S12) => xnm (sI S12 n 0 4 r_12) (fun S13 => c6_takeBootByte_b28 n  S13))) else (c6_takeBootByte_b28 n  S2)))
set_option maxHeartbeats 4000000 in
set_option maxRecDepth 100000 in
theorem m_c6_takeBootByte {l : Launch} {D : va_G} {cI cJ cL cN : ClassId} {ad : Nat → Nat → Nat} {N : Nat} (hN : N ≤ 8) (hI : xInj (cDom N) ad) {n : Nat} (hn : n < N) {S : xS}  {o : xS} (h : c6_takeBootByte n S  = some o) : Met l yX6_takeBootByte (Cond.code yX6_takeBootByte cX6_takeBootByte 2 none :: xG) { frames := 3, cells := 0, slots := 0, locals := 68 } (xPc D vwCl (cTy cI cJ cL cN) cNf cNm (cDom N) ad (cDe ad N cI cJ cL cN) [.ref (ad n 0)] S) (xQ D vwCl (cDom N) ad (cDe ad N cI cJ cL cN) none o) 0 0 (xA (cDom N) ad) := by
  unfold c6_takeBootByte at h
  refine x_enter (by decide) (Nat.le_of_ble_eq_true rfl) (fun p e s m below meth c F hr hlk hK hW hS ls hl => ?_)
  have hl : lv_has ls 2 [(0, .ref (ad n 0))] := hl
  have hx := F.1
  have hb := F.2.1
  refine lv_aload_n hx hb dX6_takeBootByte_0 rfl (lv_at hl 0 rfl) ?_
  refine x_get F hK hW xc_X6 (cd_dX6 hn) (cd_eX6 hN hn) 3 (by decide) k_2_112 (rfl) dX6_takeBootByte_1 ?_
  refine lv_if_ne (tgt := 8) hx hb dX6_takeBootByte_4 (by decide) (fun c_1 => ?_) (fun c_1 => ?_)
  · replace h := (if_neg c_1).symm.trans h
    refine lv_aload_n hx hb dX6_takeBootByte_8 rfl (lv_at hl 0 rfl) ?_
    refine x_cVv (As := []) F xG_ok hK hW hS um_X6_leaveWhenAnswered k_3_132 (fun _ h1 => m_c6_leaveWhenAnswered hN hI hn  h1) rfl (cd_dX6 hn) (cd_eX6 hN hn) rfl rfl hl.1 rfl rfl ⟨Nat.le_of_ble_eq_true rfl, Nat.le_of_ble_eq_true rfl⟩ ⟨Nat.zero_le _, Nat.zero_le _⟩ (Nat.le_of_ble_eq_true rfl) dX6_takeBootByte_9 h (fun S2 H locs hW hS h => ?_)
    refine lv_aload_n hx hb dX6_takeBootByte_12 rfl (lv_at hl 0 rfl) ?_
    refine x_get F hK hW xc_X6 (cd_dX6 hn) (cd_eX6 hN hn) 4 (by decide) k_2_114 (rfl) dX6_takeBootByte_13 ?_
    refine lv_iconst (v := (-1 : Int32)) hx hb dX6_takeBootByte_16 (by decide) ?_
    refine lv_icmp_ne (tgt := 28) hx hb dX6_takeBootByte_17 (by decide) (fun c_3 => ?_) (fun c_3 => ?_)
    · replace h := (if_neg c_3).symm.trans h
      exact m_c6_takeBootByte_b28 hN hI hn F hr hlk hK  _ h hW hS (lv_sub hl [0] rfl)
    replace h := (if_pos c_3).symm.trans h
    refine lv_aload_n hx hb dX6_takeBootByte_20 rfl (lv_at hl 0 rfl) ?_
    refine lv_aload_n hx hb dX6_takeBootByte_21 rfl (lv_at hl 0 rfl) ?_
    refine x_cVi (As := []) F xG_ok hK hW hS um_X6_firstLinkWithByte k_3_140 (fun _ h1 => m_c6_firstLinkWithByte hN hI hn  h1) rfl (cd_dX6 hn) (cd_eX6 hN hn) rfl rfl hl.1 rfl rfl ⟨Nat.le_of_ble_eq_true rfl, Nat.le_of_ble_eq_true rfl⟩ ⟨Nat.zero_le _, Nat.zero_le _⟩ (Nat.le_of_ble_eq_true rfl) dX6_takeBootByte_22 h (fun r_12 S12 H locs hW hS h => ?_)
    refine x_put F hK hI hW hS xc_X6 (cd_dX6 hn) (cd_eX6 hN hn) 4 (by decide) k_2_114 rfl (v := r_12) rfl rfl (fun _ _ => rfl) (fun _ _ => Nat.le_of_ble_eq_true rfl) dX6_takeBootByte_25 h (fun S13 H locs hW hS h => ?_)
    exact m_c6_takeBootByte_b28 hN hI hn F hr hlk hK  _ h hW hS (lv_sub hl [0] rfl)
  replace h := (if_pos c_1).symm.trans h
  exact x_vret F hr hlk hW hS dX6_takeBootByte_7 h
/-! X9_jump -/
def c9_jump (n j : Nat) (S : xS) (a1 : Int32) : Option (xS) := xnm (sI S n j 4 (((xI S n j 4) + a1) &&& (65535 : Int32))) (fun S1 => some S1)
set_option maxHeartbeats 4000000 in
set_option maxRecDepth 100000 in
theorem m_c9_jump {l : Launch} {D : va_G} {cI cJ cL cN : ClassId} {ad : Nat → Nat → Nat} {N : Nat} (hN : N ≤ 8) (hI : xInj (cDom N) ad) {n j : Nat} (hj : isX9 N n j) {S : xS} (a1 : Int32) {o : xS} (h : c9_jump n j S a1 = some o) : Met l yX9_jump (Cond.code yX9_jump cX9_jump 2 none :: xG) { frames := 0, cells := 0, slots := 0, locals := 0 } (xPc D vwCl (cTy cI cJ cL cN) cNf cNm (cDom N) ad (cDe ad N cI cJ cL cN) [.ref (ad n j), .int a1] S) (xQ D vwCl (cDom N) ad (cDe ad N cI cJ cL cN) none o) 0 0 (xA (cDom N) ad) := by
  unfold c9_jump at h
  refine x_enter (by decide) (Nat.le_of_ble_eq_true rfl) (fun p e s m below meth c F hr hlk hK hW hS ls hl => ?_)
  have hl : lv_has ls 2 [(0, .ref (ad n j)), (1, .int a1)] := hl
  have hx := F.1
  have hb := F.2.1
  refine lv_aload_n hx hb dX9_jump_0 rfl (lv_at hl 0 rfl) ?_
  refine lv_aload_n hx hb dX9_jump_1 rfl (lv_at hl 0 rfl) ?_
  refine x_get F hK hW xc_X9 (cd_dX9 hj) (cd_eX9 hN hj) 4 (by decide) k_1_78 (rfl) dX9_jump_2 ?_
  refine lv_iload_n hx hb dX9_jump_5 rfl (lv_at hl 1 rfl) ?_
  refine lv_iadd hx hb dX9_jump_6 ?_
  refine lv_ldc (v := (65535 : Int32)) hx hb F.2.2.2.1 (x_hts F _ k_3_237) dX9_jump_7 ?_
  refine lv_iand hx hb dX9_jump_9 ?_
  refine x_put F hK hI hW hS xc_X9 (cd_dX9 hj) (cd_eX9 hN hj) 4 (by decide) k_1_78 rfl (v := (((xI S n j 4) + a1) &&& (65535 : Int32))) rfl rfl (fun _ _ => rfl) (fun _ _ => Nat.le_of_ble_eq_true rfl) dX9_jump_10 h (fun S1 H locs hW hS h => ?_)
  exact x_vret F hr hlk hW hS dX9_jump_13 h
/-! X9_push -/
def c9_push (n j : Nat) (S : xS) (a1 : Int32) : Option (xS) := xnm (sI S n j 2 (xI S n j 1)) (fun S1 => xnm (sI S1 n j 1 (xI S1 n j 0)) (fun S2 => xnm (sI S2 n j 0 (a1 &&& (65535 : Int32))) (fun S3 => some S3)))
set_option maxHeartbeats 4000000 in
set_option maxRecDepth 100000 in
theorem m_c9_push {l : Launch} {D : va_G} {cI cJ cL cN : ClassId} {ad : Nat → Nat → Nat} {N : Nat} (hN : N ≤ 8) (hI : xInj (cDom N) ad) {n j : Nat} (hj : isX9 N n j) {S : xS} (a1 : Int32) {o : xS} (h : c9_push n j S a1 = some o) : Met l yX9_push (Cond.code yX9_push cX9_push 2 none :: xG) { frames := 0, cells := 0, slots := 0, locals := 0 } (xPc D vwCl (cTy cI cJ cL cN) cNf cNm (cDom N) ad (cDe ad N cI cJ cL cN) [.ref (ad n j), .int a1] S) (xQ D vwCl (cDom N) ad (cDe ad N cI cJ cL cN) none o) 0 0 (xA (cDom N) ad) := by
  unfold c9_push at h
  refine x_enter (by decide) (Nat.le_of_ble_eq_true rfl) (fun p e s m below meth c F hr hlk hK hW hS ls hl => ?_)
  have hl : lv_has ls 2 [(0, .ref (ad n j)), (1, .int a1)] := hl
  have hx := F.1
  have hb := F.2.1
  refine lv_aload_n hx hb dX9_push_0 rfl (lv_at hl 0 rfl) ?_
  refine lv_aload_n hx hb dX9_push_1 rfl (lv_at hl 0 rfl) ?_
  refine x_get F hK hW xc_X9 (cd_dX9 hj) (cd_eX9 hN hj) 1 (by decide) k_1_66 (rfl) dX9_push_2 ?_
  refine x_put F hK hI hW hS xc_X9 (cd_dX9 hj) (cd_eX9 hN hj) 2 (by decide) k_1_70 rfl (v := (xI S n j 1)) rfl rfl (fun _ _ => rfl) (fun _ _ => Nat.le_of_ble_eq_true rfl) dX9_push_5 h (fun S1 H locs hW hS h => ?_)
  refine lv_aload_n hx hb dX9_push_8 rfl (lv_at hl 0 rfl) ?_
  refine lv_aload_n hx hb dX9_push_9 rfl (lv_at hl 0 rfl) ?_
  refine x_get F hK hW xc_X9 (cd_dX9 hj) (cd_eX9 hN hj) 0 (by decide) k_1_62 (rfl) dX9_push_10 ?_
  refine x_put F hK hI hW hS xc_X9 (cd_dX9 hj) (cd_eX9 hN hj) 1 (by decide) k_1_66 rfl (v := (xI S1 n j 0)) rfl rfl (fun _ _ => rfl) (fun _ _ => Nat.le_of_ble_eq_true rfl) dX9_push_13 h (fun S2 H locs hW hS h => ?_)
  refine lv_aload_n hx hb dX9_push_16 rfl (lv_at hl 0 rfl) ?_
  refine lv_iload_n hx hb dX9_push_17 rfl (lv_at hl 1 rfl) ?_
  refine lv_ldc (v := (65535 : Int32)) hx hb F.2.2.2.1 (x_hts F _ k_3_237) dX9_push_18 ?_
  refine lv_iand hx hb dX9_push_20 ?_
  refine x_put F hK hI hW hS xc_X9 (cd_dX9 hj) (cd_eX9 hN hj) 0 (by decide) k_1_62 rfl (v := (a1 &&& (65535 : Int32))) rfl rfl (fun _ _ => rfl) (fun _ _ => Nat.le_of_ble_eq_true rfl) dX9_push_21 h (fun S3 H locs hW hS h => ?_)
  exact x_vret F hr hlk hW hS dX9_push_24 h
/-! X7_doLowFunction -/
def c7_doLowFunction (n : Nat) (S : xS) (a1 : Int32) : Option (xS) := xnm (sI S n 4 3 (0 : Int32)) (fun S1 => if a1 = (0 : Int32) then ((c9_jump n 4 S1 (xI S n 4 3)).bind (fun S3 => (c1_yieldIfSliced n S3 ).bind (fun S4 => some S4))) else (if a1 = (1 : Int32) then ((c9_push n 4 S1 ((xI S1 n 4 5) + ((2 : Int32) * (xI S n 4 3)))).bind (fun S5 => some S5)) else (if a1 = (2 : Int32) then (xnm (sI S1 n 4 3 (((xI S n 4 3) <<< ((4 : Int32) &&& 31)) &&& (65535 : Int32))) (fun S6 => some S6)) else (if a1 = (3 : Int32) then ((c5_wordAt n 2 S1 ((xI S1 n 4 0) + ((2 : Int32) * (xI S n 4 3)))).bind (fun (r_7, S7) => xnm (sI S7 n 4 0 r_7) (fun S8 => some S8))) else (if a1 = (4 : Int32) then ((c9_push n 4 S1 (xI S n 4 3)).bind (fun S9 => some S9)) else (if a1 = (5 : Int32) then (xnm (sI S1 n 4 0 (((xI S1 n 4 0) + ((2 : Int32) * (xI S n 4 3))) &&& (65535 : Int32))) (fun S10 => some S10)) else (if a1 = (6 : Int32) then (xnm (sI S1 n 4 3 ((((65535 : Int32) - (xI S n 4 3)) <<< ((4 : Int32) &&& 31)) &&& (65535 : Int32))) (fun S11 => some S11)) else ((c1_local n S1 (xI S n 4 3)).bind (fun (r_12, S12) => (c9_push n 4 S12 r_12).bind (fun S13 => some S13))))))))))
set_option maxHeartbeats 4000000 in
set_option maxRecDepth 100000 in
theorem m_c7_doLowFunction {l : Launch} {D : va_G} {cI cJ cL cN : ClassId} {ad : Nat → Nat → Nat} {N : Nat} (hN : N ≤ 8) (hI : xInj (cDom N) ad) {n : Nat} (hn : n < N) {S : xS} (a1 : Int32) {o : xS} (h : c7_doLowFunction n S a1 = some o) : Met l yX7_doLowFunction (Cond.code yX7_doLowFunction cX7_doLowFunction 3 none :: xG) { frames := 3, cells := 0, slots := 0, locals := 70 } (xPc D vwCl (cTy cI cJ cL cN) cNf cNm (cDom N) ad (cDe ad N cI cJ cL cN) [.ref (ad n 20), .int a1] S) (xQ D vwCl (cDom N) ad (cDe ad N cI cJ cL cN) none o) 0 0 (xA (cDom N) ad) := by
  unfold c7_doLowFunction at h
  refine x_enter (by decide) (Nat.le_of_ble_eq_true rfl) (fun p e s m below meth c F hr hlk hK hW hS ls hl => ?_)
  have hl : lv_has ls 3 [(0, .ref (ad n 20)), (1, .int a1)] := hl
  have hx := F.1
  have hb := F.2.1
  refine lv_aload_n hx hb dX7_doLowFunction_0 rfl (lv_at hl 0 rfl) ?_
  refine x_get F hK hW xc_X7 (cd_dX7 hn) (cd_eX7 hN hn) 1 (by decide) k_2_90 (rfl) dX7_doLowFunction_1 ?_
  refine x_getN F hK hW xc_X9 (cd_dX9 ⟨hn, Or.inl rfl⟩) (cd_eX9 hN ⟨hn, Or.inl rfl⟩) 3 (by decide) kn_10 (rfl) dX7_doLowFunction_4 ?_
  refine lv_istore_n (lv' := [(2, .int (xI S n 4 3)), (0, .ref (ad n 20)), (1, .int a1)]) hx hb dX7_doLowFunction_7 rfl hl (by decide) rfl (fun ls hl => ?_)
  refine lv_aload_n hx hb dX7_doLowFunction_8 rfl (lv_at hl 1 rfl) ?_
  refine x_get F hK hW xc_X7 (cd_dX7 hn) (cd_eX7 hN hn) 1 (by decide) k_2_90 (rfl) dX7_doLowFunction_9 ?_
  refine lv_iconst (v := (0 : Int32)) hx hb dX7_doLowFunction_12 (by decide) ?_
  refine x_putN F hK hI hW hS xc_X9 (cd_dX9 ⟨hn, Or.inl rfl⟩) (cd_eX9 hN ⟨hn, Or.inl rfl⟩) 3 (by decide) kn_10 rfl (v := (0 : Int32)) rfl rfl (fun _ _ => rfl) (fun _ _ => Nat.le_of_ble_eq_true rfl) dX7_doLowFunction_13 h (fun S1 H locs hW hS h => ?_)
  refine lv_iload_n hx hb dX7_doLowFunction_16 rfl (lv_at hl 2 rfl) ?_
  by_cases c_2_0 : a1 = (0 : Int32)
  · replace h := (if_pos c_2_0).symm.trans h
    refine lv_tableIn (tgt := 60) (off := 43) hx hb dX7_doLowFunction_17 (by rw [c_2_0]; decide) (by rw [c_2_0]; decide) (by rw [c_2_0]; decide) (by decide) ?_
    refine lv_aload_n hx hb dX7_doLowFunction_60 rfl (lv_at hl 1 rfl) ?_
    refine x_get F hK hW xc_X7 (cd_dX7 hn) (cd_eX7 hN hn) 1 (by decide) k_2_90 (rfl) dX7_doLowFunction_61 ?_
    refine lv_iload_n hx hb dX7_doLowFunction_64 rfl (lv_at hl 0 rfl) ?_
    refine x_cVv (As := [.int (xI S n 4 3)]) F xG_ok hK hW hS um_X9_jump k_3_233 (fun _ h1 => m_c9_jump hN hI ⟨hn, Or.inl rfl⟩ _ h1) rfl (cd_dX9 ⟨hn, Or.inl rfl⟩) (cd_eX9 hN ⟨hn, Or.inl rfl⟩) rfl rfl hl.1 rfl rfl ⟨Nat.le_of_ble_eq_true rfl, Nat.le_of_ble_eq_true rfl⟩ ⟨Nat.zero_le _, Nat.zero_le _⟩ (Nat.le_of_ble_eq_true rfl) dX7_doLowFunction_65 h (fun S3 H locs hW hS h => ?_)
    refine lv_aload_n hx hb dX7_doLowFunction_68 rfl (lv_at hl 1 rfl) ?_
    refine x_get F hK hW xc_X7 (cd_dX7 hn) (cd_eX7 hN hn) 0 (by decide) k_2_89 (rfl) dX7_doLowFunction_69 ?_
    refine x_cVv (As := []) F xG_ok hK hW hS um_X1_yieldIfSliced k_4_2 (fun _ h1 => m_c1_yieldIfSliced hN hI hn  h1) rfl (cd_dX1 hn) (cd_eX1 hN hn) rfl rfl hl.1 rfl rfl ⟨Nat.le_of_ble_eq_true rfl, Nat.le_of_ble_eq_true rfl⟩ ⟨Nat.zero_le _, Nat.zero_le _⟩ (Nat.le_of_ble_eq_true rfl) dX7_doLowFunction_72 h (fun S4 H locs hW hS h => ?_)
    refine lv_goto (tgt := 212) hx hb dX7_doLowFunction_75 (by decide) ?_
    exact x_vret F hr hlk hW hS dX7_doLowFunction_212 h
  replace h := (if_neg c_2_0).symm.trans h
  have hn_2_0 := x_swN (z := 0) c_2_0 x_sw0 rfl
  by_cases c_2_1 : a1 = (1 : Int32)
  · replace h := (if_pos c_2_1).symm.trans h
    refine lv_tableIn (tgt := 78) (off := 61) hx hb dX7_doLowFunction_17 (by rw [c_2_1]; decide) (by rw [c_2_1]; decide) (by rw [c_2_1]; decide) (by decide) ?_
    refine lv_aload_n hx hb dX7_doLowFunction_78 rfl (lv_at hl 1 rfl) ?_
    refine x_get F hK hW xc_X7 (cd_dX7 hn) (cd_eX7 hN hn) 1 (by decide) k_2_90 (rfl) dX7_doLowFunction_79 ?_
    refine lv_aload_n hx hb dX7_doLowFunction_82 rfl (lv_at hl 1 rfl) ?_
    refine x_get F hK hW xc_X7 (cd_dX7 hn) (cd_eX7 hN hn) 1 (by decide) k_2_90 (rfl) dX7_doLowFunction_83 ?_
    refine x_getN F hK hW xc_X9 (cd_dX9 ⟨hn, Or.inl rfl⟩) (cd_eX9 hN ⟨hn, Or.inl rfl⟩) 5 (by decide) kn_15 (rfl) dX7_doLowFunction_86 ?_
    refine lv_iconst (v := (2 : Int32)) hx hb dX7_doLowFunction_89 (by decide) ?_
    refine lv_iload_n hx hb dX7_doLowFunction_90 rfl (lv_at hl 0 rfl) ?_
    refine lv_imul hx hb dX7_doLowFunction_91 ?_
    refine lv_iadd hx hb dX7_doLowFunction_92 ?_
    refine x_cVv (As := [.int ((xI S1 n 4 5) + ((2 : Int32) * (xI S n 4 3)))]) F xG_ok hK hW hS um_X9_push k_4_14 (fun _ h1 => m_c9_push hN hI ⟨hn, Or.inl rfl⟩ _ h1) rfl (cd_dX9 ⟨hn, Or.inl rfl⟩) (cd_eX9 hN ⟨hn, Or.inl rfl⟩) rfl rfl hl.1 rfl rfl ⟨Nat.le_of_ble_eq_true rfl, Nat.le_of_ble_eq_true rfl⟩ ⟨Nat.zero_le _, Nat.zero_le _⟩ (Nat.le_of_ble_eq_true rfl) dX7_doLowFunction_93 h (fun S5 H locs hW hS h => ?_)
    refine lv_goto (tgt := 212) hx hb dX7_doLowFunction_96 (by decide) ?_
    exact x_vret F hr hlk hW hS dX7_doLowFunction_212 h
  replace h := (if_neg c_2_1).symm.trans h
  have hn_2_1 := x_swN (z := 1) c_2_1 hn_2_0 rfl
  by_cases c_2_2 : a1 = (2 : Int32)
  · replace h := (if_pos c_2_2).symm.trans h
    refine lv_tableIn (tgt := 99) (off := 82) hx hb dX7_doLowFunction_17 (by rw [c_2_2]; decide) (by rw [c_2_2]; decide) (by rw [c_2_2]; decide) (by decide) ?_
    refine lv_aload_n hx hb dX7_doLowFunction_99 rfl (lv_at hl 1 rfl) ?_
    refine x_get F hK hW xc_X7 (cd_dX7 hn) (cd_eX7 hN hn) 1 (by decide) k_2_90 (rfl) dX7_doLowFunction_100 ?_
    refine lv_iload_n hx hb dX7_doLowFunction_103 rfl (lv_at hl 0 rfl) ?_
    refine lv_iconst (v := (4 : Int32)) hx hb dX7_doLowFunction_104 (by decide) ?_
    refine lv_ishl hx hb dX7_doLowFunction_105 ?_
    refine lv_ldc (v := (65535 : Int32)) hx hb F.2.2.2.1 (x_hts F _ k_4_18) dX7_doLowFunction_106 ?_
    refine lv_iand hx hb dX7_doLowFunction_108 ?_
    refine x_putN F hK hI hW hS xc_X9 (cd_dX9 ⟨hn, Or.inl rfl⟩) (cd_eX9 hN ⟨hn, Or.inl rfl⟩) 3 (by decide) kn_10 rfl (v := (((xI S n 4 3) <<< ((4 : Int32) &&& 31)) &&& (65535 : Int32))) rfl rfl (fun _ _ => rfl) (fun _ _ => Nat.le_of_ble_eq_true rfl) dX7_doLowFunction_109 h (fun S6 H locs hW hS h => ?_)
    refine lv_goto (tgt := 212) hx hb dX7_doLowFunction_112 (by decide) ?_
    exact x_vret F hr hlk hW hS dX7_doLowFunction_212 h
  replace h := (if_neg c_2_2).symm.trans h
  have hn_2_2 := x_swN (z := 2) c_2_2 hn_2_1 rfl
  by_cases c_2_3 : a1 = (3 : Int32)
  · replace h := (if_pos c_2_3).symm.trans h
    refine lv_tableIn (tgt := 115) (off := 98) hx hb dX7_doLowFunction_17 (by rw [c_2_3]; decide) (by rw [c_2_3]; decide) (by rw [c_2_3]; decide) (by decide) ?_
    refine lv_aload_n hx hb dX7_doLowFunction_115 rfl (lv_at hl 1 rfl) ?_
    refine x_get F hK hW xc_X7 (cd_dX7 hn) (cd_eX7 hN hn) 1 (by decide) k_2_90 (rfl) dX7_doLowFunction_116 ?_
    refine lv_aload_n hx hb dX7_doLowFunction_119 rfl (lv_at hl 1 rfl) ?_
    refine x_get F hK hW xc_X7 (cd_dX7 hn) (cd_eX7 hN hn) 2 (by decide) k_2_91 (rfl) dX7_doLowFunction_120 ?_
    refine lv_aload_n hx hb dX7_doLowFunction_123 rfl (lv_at hl 1 rfl) ?_
    refine x_get F hK hW xc_X7 (cd_dX7 hn) (cd_eX7 hN hn) 1 (by decide) k_2_90 (rfl) dX7_doLowFunction_124 ?_
    refine x_getN F hK hW xc_X9 (cd_dX9 ⟨hn, Or.inl rfl⟩) (cd_eX9 hN ⟨hn, Or.inl rfl⟩) 0 (by decide) kn_2 (rfl) dX7_doLowFunction_127 ?_
    refine lv_iconst (v := (2 : Int32)) hx hb dX7_doLowFunction_130 (by decide) ?_
    refine lv_iload_n hx hb dX7_doLowFunction_131 rfl (lv_at hl 0 rfl) ?_
    refine lv_imul hx hb dX7_doLowFunction_132 ?_
    refine lv_iadd hx hb dX7_doLowFunction_133 ?_
    refine x_cVi (As := [.int ((xI S1 n 4 0) + ((2 : Int32) * (xI S n 4 3)))]) F xG_ok hK hW hS um_X5_wordAt k_4_19 (fun _ h1 => m_c5_wordAt hN hI (is5n hn) _ h1) rfl (cd_dX5 (is5n hn)) (cd_eX5 hN (is5n hn)) rfl rfl hl.1 rfl rfl ⟨Nat.le_of_ble_eq_true rfl, Nat.le_of_ble_eq_true rfl⟩ ⟨Nat.zero_le _, Nat.zero_le _⟩ (Nat.le_of_ble_eq_true rfl) dX7_doLowFunction_134 h (fun r_7 S7 H locs hW hS h => ?_)
    refine x_putN F hK hI hW hS xc_X9 (cd_dX9 ⟨hn, Or.inl rfl⟩) (cd_eX9 hN ⟨hn, Or.inl rfl⟩) 0 (by decide) kn_2 rfl (v := r_7) rfl rfl (fun _ _ => rfl) (fun _ _ => Nat.le_of_ble_eq_true rfl) dX7_doLowFunction_137 h (fun S8 H locs hW hS h => ?_)
    refine lv_goto (tgt := 212) hx hb dX7_doLowFunction_140 (by decide) ?_
    exact x_vret F hr hlk hW hS dX7_doLowFunction_212 h
  replace h := (if_neg c_2_3).symm.trans h
  have hn_2_3 := x_swN (z := 3) c_2_3 hn_2_2 rfl
  by_cases c_2_4 : a1 = (4 : Int32)
  · replace h := (if_pos c_2_4).symm.trans h
    refine lv_tableIn (tgt := 143) (off := 126) hx hb dX7_doLowFunction_17 (by rw [c_2_4]; decide) (by rw [c_2_4]; decide) (by rw [c_2_4]; decide) (by decide) ?_
    refine lv_aload_n hx hb dX7_doLowFunction_143 rfl (lv_at hl 1 rfl) ?_
    refine x_get F hK hW xc_X7 (cd_dX7 hn) (cd_eX7 hN hn) 1 (by decide) k_2_90 (rfl) dX7_doLowFunction_144 ?_
    refine lv_iload_n hx hb dX7_doLowFunction_147 rfl (lv_at hl 0 rfl) ?_
    refine x_cVv (As := [.int (xI S n 4 3)]) F xG_ok hK hW hS um_X9_push k_4_14 (fun _ h1 => m_c9_push hN hI ⟨hn, Or.inl rfl⟩ _ h1) rfl (cd_dX9 ⟨hn, Or.inl rfl⟩) (cd_eX9 hN ⟨hn, Or.inl rfl⟩) rfl rfl hl.1 rfl rfl ⟨Nat.le_of_ble_eq_true rfl, Nat.le_of_ble_eq_true rfl⟩ ⟨Nat.zero_le _, Nat.zero_le _⟩ (Nat.le_of_ble_eq_true rfl) dX7_doLowFunction_148 h (fun S9 H locs hW hS h => ?_)
    refine lv_goto (tgt := 212) hx hb dX7_doLowFunction_151 (by decide) ?_
    exact x_vret F hr hlk hW hS dX7_doLowFunction_212 h
  replace h := (if_neg c_2_4).symm.trans h
  have hn_2_4 := x_swN (z := 4) c_2_4 hn_2_3 rfl
  by_cases c_2_5 : a1 = (5 : Int32)
  · replace h := (if_pos c_2_5).symm.trans h
    refine lv_tableIn (tgt := 154) (off := 137) hx hb dX7_doLowFunction_17 (by rw [c_2_5]; decide) (by rw [c_2_5]; decide) (by rw [c_2_5]; decide) (by decide) ?_
    refine lv_aload_n hx hb dX7_doLowFunction_154 rfl (lv_at hl 1 rfl) ?_
    refine x_get F hK hW xc_X7 (cd_dX7 hn) (cd_eX7 hN hn) 1 (by decide) k_2_90 (rfl) dX7_doLowFunction_155 ?_
    refine lv_aload_n hx hb dX7_doLowFunction_158 rfl (lv_at hl 1 rfl) ?_
    refine x_get F hK hW xc_X7 (cd_dX7 hn) (cd_eX7 hN hn) 1 (by decide) k_2_90 (rfl) dX7_doLowFunction_159 ?_
    refine x_getN F hK hW xc_X9 (cd_dX9 ⟨hn, Or.inl rfl⟩) (cd_eX9 hN ⟨hn, Or.inl rfl⟩) 0 (by decide) kn_2 (rfl) dX7_doLowFunction_162 ?_
    refine lv_iconst (v := (2 : Int32)) hx hb dX7_doLowFunction_165 (by decide) ?_
    refine lv_iload_n hx hb dX7_doLowFunction_166 rfl (lv_at hl 0 rfl) ?_
    refine lv_imul hx hb dX7_doLowFunction_167 ?_
    refine lv_iadd hx hb dX7_doLowFunction_168 ?_
    refine lv_ldc (v := (65535 : Int32)) hx hb F.2.2.2.1 (x_hts F _ k_4_18) dX7_doLowFunction_169 ?_
    refine lv_iand hx hb dX7_doLowFunction_171 ?_
    refine x_putN F hK hI hW hS xc_X9 (cd_dX9 ⟨hn, Or.inl rfl⟩) (cd_eX9 hN ⟨hn, Or.inl rfl⟩) 0 (by decide) kn_2 rfl (v := (((xI S1 n 4 0) + ((2 : Int32) * (xI S n 4 3))) &&& (65535 : Int32))) rfl rfl (fun _ _ => rfl) (fun _ _ => Nat.le_of_ble_eq_true rfl) dX7_doLowFunction_172 h (fun S10 H locs hW hS h => ?_)
    refine lv_goto (tgt := 212) hx hb dX7_doLowFunction_175 (by decide) ?_
    exact x_vret F hr hlk hW hS dX7_doLowFunction_212 h
  replace h := (if_neg c_2_5).symm.trans h
  have hn_2_5 := x_swN (z := 5) c_2_5 hn_2_4 rfl
  by_cases c_2_6 : a1 = (6 : Int32)
  · replace h := (if_pos c_2_6).symm.trans h
    refine lv_tableIn (tgt := 178) (off := 161) hx hb dX7_doLowFunction_17 (by rw [c_2_6]; decide) (by rw [c_2_6]; decide) (by rw [c_2_6]; decide) (by decide) ?_
    refine lv_aload_n hx hb dX7_doLowFunction_178 rfl (lv_at hl 1 rfl) ?_
    refine x_get F hK hW xc_X7 (cd_dX7 hn) (cd_eX7 hN hn) 1 (by decide) k_2_90 (rfl) dX7_doLowFunction_179 ?_
    refine lv_ldc (v := (65535 : Int32)) hx hb F.2.2.2.1 (x_hts F _ k_4_18) dX7_doLowFunction_182 ?_
    refine lv_iload_n hx hb dX7_doLowFunction_184 rfl (lv_at hl 0 rfl) ?_
    refine lv_isub hx hb dX7_doLowFunction_185 ?_
    refine lv_iconst (v := (4 : Int32)) hx hb dX7_doLowFunction_186 (by decide) ?_
    refine lv_ishl hx hb dX7_doLowFunction_187 ?_
    refine lv_ldc (v := (65535 : Int32)) hx hb F.2.2.2.1 (x_hts F _ k_4_18) dX7_doLowFunction_188 ?_
    refine lv_iand hx hb dX7_doLowFunction_190 ?_
    refine x_putN F hK hI hW hS xc_X9 (cd_dX9 ⟨hn, Or.inl rfl⟩) (cd_eX9 hN ⟨hn, Or.inl rfl⟩) 3 (by decide) kn_10 rfl (v := ((((65535 : Int32) - (xI S n 4 3)) <<< ((4 : Int32) &&& 31)) &&& (65535 : Int32))) rfl rfl (fun _ _ => rfl) (fun _ _ => Nat.le_of_ble_eq_true rfl) dX7_doLowFunction_191 h (fun S11 H locs hW hS h => ?_)
    refine lv_goto (tgt := 212) hx hb dX7_doLowFunction_194 (by decide) ?_
    exact x_vret F hr hlk hW hS dX7_doLowFunction_212 h
  replace h := (if_neg c_2_6).symm.trans h
  have hn_2_6 := x_swN (z := 6) c_2_6 hn_2_5 rfl
  refine x_tblD (tgt := 197) hx hb dX7_doLowFunction_17 hn_2_6 (by decide) (by decide) (by decide) ?_
  refine lv_aload_n hx hb dX7_doLowFunction_197 rfl (lv_at hl 1 rfl) ?_
  refine x_get F hK hW xc_X7 (cd_dX7 hn) (cd_eX7 hN hn) 1 (by decide) k_2_90 (rfl) dX7_doLowFunction_198 ?_
  refine lv_aload_n hx hb dX7_doLowFunction_201 rfl (lv_at hl 1 rfl) ?_
  refine x_get F hK hW xc_X7 (cd_dX7 hn) (cd_eX7 hN hn) 0 (by decide) k_2_89 (rfl) dX7_doLowFunction_202 ?_
  refine lv_iload_n hx hb dX7_doLowFunction_205 rfl (lv_at hl 0 rfl) ?_
  refine x_cVi (As := [.int (xI S n 4 3)]) F xG_ok hK hW hS um_X1_local k_4_20 (fun _ h1 => m_c1_local hN hI hn _ h1) rfl (cd_dX1 hn) (cd_eX1 hN hn) rfl rfl hl.1 rfl rfl ⟨Nat.le_of_ble_eq_true rfl, Nat.le_of_ble_eq_true rfl⟩ ⟨Nat.zero_le _, Nat.zero_le _⟩ (Nat.le_of_ble_eq_true rfl) dX7_doLowFunction_206 h (fun r_12 S12 H locs hW hS h => ?_)
  refine x_cVv (As := [.int r_12]) F xG_ok hK hW hS um_X9_push k_4_14 (fun _ h1 => m_c9_push hN hI ⟨hn, Or.inl rfl⟩ _ h1) rfl (cd_dX9 ⟨hn, Or.inl rfl⟩) (cd_eX9 hN ⟨hn, Or.inl rfl⟩) rfl rfl hl.1 rfl rfl ⟨Nat.le_of_ble_eq_true rfl, Nat.le_of_ble_eq_true rfl⟩ ⟨Nat.zero_le _, Nat.zero_le _⟩ (Nat.le_of_ble_eq_true rfl) dX7_doLowFunction_209 h (fun S13 H locs hW hS h => ?_)
  exact x_vret F hr hlk hW hS dX7_doLowFunction_212 h
/-! X7_checked -/
def c7_checked (n : Nat) (S : xS) (a1 : Int32) : Option (Int32 × xS) := (c11_signed a1).bind (fun r_1 => if a1 = r_1 then (some ((a1 &&& (65535 : Int32)), S)) else (xnm (sI S n 1 6 (1 : Int32)) (fun S3 => some ((a1 &&& (65535 : Int32)), S3))))
set_option maxHeartbeats 4000000 in
set_option maxRecDepth 100000 in
theorem m_c7_checked {l : Launch} {D : va_G} {cI cJ cL cN : ClassId} {ad : Nat → Nat → Nat} {N : Nat} (hN : N ≤ 8) (hI : xInj (cDom N) ad) {n : Nat} (hn : n < N) {S : xS} (a1 : Int32) {o : Int32 × xS} (h : c7_checked n S a1 = some o) : Met l yX7_checked (Cond.code yX7_checked cX7_checked 2 (some .int) :: xG) { frames := 1, cells := 0, slots := 0, locals := 20 } (xPc D vwCl (cTy cI cJ cL cN) cNf cNm (cDom N) ad (cDe ad N cI cJ cL cN) [.ref (ad n 20), .int a1] S) (xQ D vwCl (cDom N) ad (cDe ad N cI cJ cL cN) (some (.int o.1)) o.2) 0 0 (xA (cDom N) ad) := by
  unfold c7_checked at h
  refine x_enter (by decide) (Nat.le_of_ble_eq_true rfl) (fun p e s m below meth c F hr hlk hK hW hS ls hl => ?_)
  have hl : lv_has ls 2 [(0, .ref (ad n 20)), (1, .int a1)] := hl
  have hx := F.1
  have hb := F.2.1
  refine lv_iload_n hx hb dX7_checked_0 rfl (lv_at hl 1 rfl) ?_
  refine lv_iload_n hx hb dX7_checked_1 rfl (lv_at hl 1 rfl) ?_
  refine x_cSNi (As := [.int a1]) F xG_ok hS hK um_X11_signed km_10 (fun _ h1 => m_c11_signed _ h1) rfl rfl hl.1 rfl rfl ⟨Nat.le_of_ble_eq_true rfl, Nat.le_of_ble_eq_true rfl⟩ ⟨Nat.zero_le _, Nat.zero_le _⟩ (Nat.le_of_ble_eq_true rfl) dX7_checked_2 h (fun r_1 locs hS h => ?_)
  refine lv_icmp_eq (tgt := 16) hx hb dX7_checked_5 (by decide) (fun c_2 => ?_) (fun c_2 => ?_)
  · replace h := (if_pos c_2).symm.trans h
    refine lv_iload_n hx hb dX7_checked_16 rfl (lv_at hl 1 rfl) ?_
    refine lv_ldc (v := (65535 : Int32)) hx hb F.2.2.2.1 (x_hts F _ k_4_18) dX7_checked_17 ?_
    refine lv_iand hx hb dX7_checked_19 ?_
    exact x_iret F hr hlk hW hS dX7_checked_20 h
  replace h := (if_neg c_2).symm.trans h
  refine lv_aload_n hx hb dX7_checked_8 rfl (lv_at hl 0 rfl) ?_
  refine x_get F hK hW xc_X7 (cd_dX7 hn) (cd_eX7 hN hn) 0 (by decide) k_2_89 (rfl) dX7_checked_9 ?_
  refine lv_iconst (v := (1 : Int32)) hx hb dX7_checked_12 (by decide) ?_
  refine x_putN F hK hI hW hS xc_X1 (cd_dX1 hn) (cd_eX1 hN hn) 6 (by decide) kn_36 rfl (v := (1 : Int32)) rfl rfl (fun _ _ => rfl) (fun _ _ => Nat.le_of_ble_eq_true rfl) dX7_checked_13 h (fun S3 H locs hW hS h => ?_)
  refine lv_iload_n hx hb dX7_checked_16 rfl (lv_at hl 1 rfl) ?_
  refine lv_ldc (v := (65535 : Int32)) hx hb F.2.2.2.1 (x_hts F _ k_4_18) dX7_checked_17 ?_
  refine lv_iand hx hb dX7_checked_19 ?_
  exact x_iret F hr hlk hW hS dX7_checked_20 h
/-! X9_setWorkspace -/
def c9_setWorkspace (n j : Nat) (S : xS) (a1 : Int32) : Option (xS) := xnm (sI S n j 5 (a1 &&& (65534 : Int32))) (fun S1 => some S1)
set_option maxHeartbeats 4000000 in
set_option maxRecDepth 100000 in
theorem m_c9_setWorkspace {l : Launch} {D : va_G} {cI cJ cL cN : ClassId} {ad : Nat → Nat → Nat} {N : Nat} (hN : N ≤ 8) (hI : xInj (cDom N) ad) {n j : Nat} (hj : isX9 N n j) {S : xS} (a1 : Int32) {o : xS} (h : c9_setWorkspace n j S a1 = some o) : Met l yX9_setWorkspace (Cond.code yX9_setWorkspace cX9_setWorkspace 2 none :: xG) { frames := 0, cells := 0, slots := 0, locals := 0 } (xPc D vwCl (cTy cI cJ cL cN) cNf cNm (cDom N) ad (cDe ad N cI cJ cL cN) [.ref (ad n j), .int a1] S) (xQ D vwCl (cDom N) ad (cDe ad N cI cJ cL cN) none o) 0 0 (xA (cDom N) ad) := by
  unfold c9_setWorkspace at h
  refine x_enter (by decide) (Nat.le_of_ble_eq_true rfl) (fun p e s m below meth c F hr hlk hK hW hS ls hl => ?_)
  have hl : lv_has ls 2 [(0, .ref (ad n j)), (1, .int a1)] := hl
  have hx := F.1
  have hb := F.2.1
  refine lv_aload_n hx hb dX9_setWorkspace_0 rfl (lv_at hl 0 rfl) ?_
  refine lv_iload_n hx hb dX9_setWorkspace_1 rfl (lv_at hl 1 rfl) ?_
  refine lv_ldc (v := (65534 : Int32)) hx hb F.2.2.2.1 (x_hts F _ k_3_11) dX9_setWorkspace_2 ?_
  refine lv_iand hx hb dX9_setWorkspace_4 ?_
  refine x_put F hK hI hW hS xc_X9 (cd_dX9 hj) (cd_eX9 hN hj) 5 (by decide) k_1_82 rfl (v := (a1 &&& (65534 : Int32))) rfl rfl (fun _ _ => rfl) (fun _ _ => Nat.le_of_ble_eq_true rfl) dX9_setWorkspace_5 h (fun S1 H locs hW hS h => ?_)
  exact x_vret F hr hlk hW hS dX9_setWorkspace_8 h
/-! X7_call -/
def c7_call (n : Nat) (S : xS) (a1 : Int32) : Option (xS) := (c9_setWorkspace n 4 S ((xI S n 4 5) - (8 : Int32))).bind (fun S1 => (c1_setLocal n S1 (0 : Int32) (xI S1 n 4 4)).bind (fun S2 => (c1_setLocal n S2 (1 : Int32) (xI S2 n 4 0)).bind (fun S3 => (c1_setLocal n S3 (2 : Int32) (xI S3 n 4 1)).bind (fun S4 => (c1_setLocal n S4 (3 : Int32) (xI S4 n 4 2)).bind (fun S5 => xnm (sI S5 n 4 0 (xI S5 n 4 4)) (fun S6 => (c9_jump n 4 S6 a1).bind (fun S7 => some S7)))))))
set_option maxHeartbeats 4000000 in
set_option maxRecDepth 100000 in
theorem m_c7_call {l : Launch} {D : va_G} {cI cJ cL cN : ClassId} {ad : Nat → Nat → Nat} {N : Nat} (hN : N ≤ 8) (hI : xInj (cDom N) ad) {n : Nat} (hn : n < N) {S : xS} (a1 : Int32) {o : xS} (h : c7_call n S a1 = some o) : Met l yX7_call (Cond.code yX7_call cX7_call 2 none :: xG) { frames := 2, cells := 0, slots := 0, locals := 48 } (xPc D vwCl (cTy cI cJ cL cN) cNf cNm (cDom N) ad (cDe ad N cI cJ cL cN) [.ref (ad n 20), .int a1] S) (xQ D vwCl (cDom N) ad (cDe ad N cI cJ cL cN) none o) 0 0 (xA (cDom N) ad) := by
  unfold c7_call at h
  refine x_enter (by decide) (Nat.le_of_ble_eq_true rfl) (fun p e s m below meth c F hr hlk hK hW hS ls hl => ?_)
  have hl : lv_has ls 2 [(0, .ref (ad n 20)), (1, .int a1)] := hl
  have hx := F.1
  have hb := F.2.1
  refine lv_aload_n hx hb dX7_call_0 rfl (lv_at hl 0 rfl) ?_
  refine x_get F hK hW xc_X7 (cd_dX7 hn) (cd_eX7 hN hn) 1 (by decide) k_2_90 (rfl) dX7_call_1 ?_
  refine lv_aload_n hx hb dX7_call_4 rfl (lv_at hl 0 rfl) ?_
  refine x_get F hK hW xc_X7 (cd_dX7 hn) (cd_eX7 hN hn) 1 (by decide) k_2_90 (rfl) dX7_call_5 ?_
  refine x_getN F hK hW xc_X9 (cd_dX9 ⟨hn, Or.inl rfl⟩) (cd_eX9 hN ⟨hn, Or.inl rfl⟩) 5 (by decide) kn_15 (rfl) dX7_call_8 ?_
  refine lv_bipush (v := (8 : Int32)) hx hb dX7_call_11 (by decide) ?_
  refine lv_isub hx hb dX7_call_13 ?_
  refine x_cVv (As := [.int ((xI S n 4 5) - (8 : Int32))]) F xG_ok hK hW hS um_X9_setWorkspace k_4_37 (fun _ h1 => m_c9_setWorkspace hN hI ⟨hn, Or.inl rfl⟩ _ h1) rfl (cd_dX9 ⟨hn, Or.inl rfl⟩) (cd_eX9 hN ⟨hn, Or.inl rfl⟩) rfl rfl hl.1 rfl rfl ⟨Nat.le_of_ble_eq_true rfl, Nat.le_of_ble_eq_true rfl⟩ ⟨Nat.zero_le _, Nat.zero_le _⟩ (Nat.le_of_ble_eq_true rfl) dX7_call_14 h (fun S1 H locs hW hS h => ?_)
  refine lv_aload_n hx hb dX7_call_17 rfl (lv_at hl 0 rfl) ?_
  refine x_get F hK hW xc_X7 (cd_dX7 hn) (cd_eX7 hN hn) 0 (by decide) k_2_89 (rfl) dX7_call_18 ?_
  refine lv_iconst (v := (0 : Int32)) hx hb dX7_call_21 (by decide) ?_
  refine lv_aload_n hx hb dX7_call_22 rfl (lv_at hl 0 rfl) ?_
  refine x_get F hK hW xc_X7 (cd_dX7 hn) (cd_eX7 hN hn) 1 (by decide) k_2_90 (rfl) dX7_call_23 ?_
  refine x_getN F hK hW xc_X9 (cd_dX9 ⟨hn, Or.inl rfl⟩) (cd_eX9 hN ⟨hn, Or.inl rfl⟩) 4 (by decide) kn_12 (rfl) dX7_call_26 ?_
  refine x_cVv (As := [.int (0 : Int32), .int (xI S1 n 4 4)]) F xG_ok hK hW hS um_X1_setLocal k_4_41 (fun _ h1 => m_c1_setLocal hN hI hn _ _ h1) rfl (cd_dX1 hn) (cd_eX1 hN hn) rfl rfl hl.1 rfl rfl ⟨Nat.le_of_ble_eq_true rfl, Nat.le_of_ble_eq_true rfl⟩ ⟨Nat.zero_le _, Nat.zero_le _⟩ (Nat.le_of_ble_eq_true rfl) dX7_call_29 h (fun S2 H locs hW hS h => ?_)
  refine lv_aload_n hx hb dX7_call_32 rfl (lv_at hl 0 rfl) ?_
  refine x_get F hK hW xc_X7 (cd_dX7 hn) (cd_eX7 hN hn) 0 (by decide) k_2_89 (rfl) dX7_call_33 ?_
  refine lv_iconst (v := (1 : Int32)) hx hb dX7_call_36 (by decide) ?_
  refine lv_aload_n hx hb dX7_call_37 rfl (lv_at hl 0 rfl) ?_
  refine x_get F hK hW xc_X7 (cd_dX7 hn) (cd_eX7 hN hn) 1 (by decide) k_2_90 (rfl) dX7_call_38 ?_
  refine x_getN F hK hW xc_X9 (cd_dX9 ⟨hn, Or.inl rfl⟩) (cd_eX9 hN ⟨hn, Or.inl rfl⟩) 0 (by decide) kn_2 (rfl) dX7_call_41 ?_
  refine x_cVv (As := [.int (1 : Int32), .int (xI S2 n 4 0)]) F xG_ok hK hW hS um_X1_setLocal k_4_41 (fun _ h1 => m_c1_setLocal hN hI hn _ _ h1) rfl (cd_dX1 hn) (cd_eX1 hN hn) rfl rfl hl.1 rfl rfl ⟨Nat.le_of_ble_eq_true rfl, Nat.le_of_ble_eq_true rfl⟩ ⟨Nat.zero_le _, Nat.zero_le _⟩ (Nat.le_of_ble_eq_true rfl) dX7_call_44 h (fun S3 H locs hW hS h => ?_)
  refine lv_aload_n hx hb dX7_call_47 rfl (lv_at hl 0 rfl) ?_
  refine x_get F hK hW xc_X7 (cd_dX7 hn) (cd_eX7 hN hn) 0 (by decide) k_2_89 (rfl) dX7_call_48 ?_
  refine lv_iconst (v := (2 : Int32)) hx hb dX7_call_51 (by decide) ?_
  refine lv_aload_n hx hb dX7_call_52 rfl (lv_at hl 0 rfl) ?_
  refine x_get F hK hW xc_X7 (cd_dX7 hn) (cd_eX7 hN hn) 1 (by decide) k_2_90 (rfl) dX7_call_53 ?_
  refine x_getN F hK hW xc_X9 (cd_dX9 ⟨hn, Or.inl rfl⟩) (cd_eX9 hN ⟨hn, Or.inl rfl⟩) 1 (by decide) kn_5 (rfl) dX7_call_56 ?_
  refine x_cVv (As := [.int (2 : Int32), .int (xI S3 n 4 1)]) F xG_ok hK hW hS um_X1_setLocal k_4_41 (fun _ h1 => m_c1_setLocal hN hI hn _ _ h1) rfl (cd_dX1 hn) (cd_eX1 hN hn) rfl rfl hl.1 rfl rfl ⟨Nat.le_of_ble_eq_true rfl, Nat.le_of_ble_eq_true rfl⟩ ⟨Nat.zero_le _, Nat.zero_le _⟩ (Nat.le_of_ble_eq_true rfl) dX7_call_59 h (fun S4 H locs hW hS h => ?_)
  refine lv_aload_n hx hb dX7_call_62 rfl (lv_at hl 0 rfl) ?_
  refine x_get F hK hW xc_X7 (cd_dX7 hn) (cd_eX7 hN hn) 0 (by decide) k_2_89 (rfl) dX7_call_63 ?_
  refine lv_iconst (v := (3 : Int32)) hx hb dX7_call_66 (by decide) ?_
  refine lv_aload_n hx hb dX7_call_67 rfl (lv_at hl 0 rfl) ?_
  refine x_get F hK hW xc_X7 (cd_dX7 hn) (cd_eX7 hN hn) 1 (by decide) k_2_90 (rfl) dX7_call_68 ?_
  refine x_getN F hK hW xc_X9 (cd_dX9 ⟨hn, Or.inl rfl⟩) (cd_eX9 hN ⟨hn, Or.inl rfl⟩) 2 (by decide) kn_8 (rfl) dX7_call_71 ?_
  refine x_cVv (As := [.int (3 : Int32), .int (xI S4 n 4 2)]) F xG_ok hK hW hS um_X1_setLocal k_4_41 (fun _ h1 => m_c1_setLocal hN hI hn _ _ h1) rfl (cd_dX1 hn) (cd_eX1 hN hn) rfl rfl hl.1 rfl rfl ⟨Nat.le_of_ble_eq_true rfl, Nat.le_of_ble_eq_true rfl⟩ ⟨Nat.zero_le _, Nat.zero_le _⟩ (Nat.le_of_ble_eq_true rfl) dX7_call_74 h (fun S5 H locs hW hS h => ?_)
  refine lv_aload_n hx hb dX7_call_77 rfl (lv_at hl 0 rfl) ?_
  refine x_get F hK hW xc_X7 (cd_dX7 hn) (cd_eX7 hN hn) 1 (by decide) k_2_90 (rfl) dX7_call_78 ?_
  refine lv_aload_n hx hb dX7_call_81 rfl (lv_at hl 0 rfl) ?_
  refine x_get F hK hW xc_X7 (cd_dX7 hn) (cd_eX7 hN hn) 1 (by decide) k_2_90 (rfl) dX7_call_82 ?_
  refine x_getN F hK hW xc_X9 (cd_dX9 ⟨hn, Or.inl rfl⟩) (cd_eX9 hN ⟨hn, Or.inl rfl⟩) 4 (by decide) kn_12 (rfl) dX7_call_85 ?_
  refine x_putN F hK hI hW hS xc_X9 (cd_dX9 ⟨hn, Or.inl rfl⟩) (cd_eX9 hN ⟨hn, Or.inl rfl⟩) 0 (by decide) kn_2 rfl (v := (xI S5 n 4 4)) rfl rfl (fun _ _ => rfl) (fun _ _ => Nat.le_of_ble_eq_true rfl) dX7_call_88 h (fun S6 H locs hW hS h => ?_)
  refine lv_aload_n hx hb dX7_call_91 rfl (lv_at hl 0 rfl) ?_
  refine x_get F hK hW xc_X7 (cd_dX7 hn) (cd_eX7 hN hn) 1 (by decide) k_2_90 (rfl) dX7_call_92 ?_
  refine lv_iload_n hx hb dX7_call_95 rfl (lv_at hl 1 rfl) ?_
  refine x_cVv (As := [.int a1]) F xG_ok hK hW hS um_X9_jump k_3_233 (fun _ h1 => m_c9_jump hN hI ⟨hn, Or.inl rfl⟩ _ h1) rfl (cd_dX9 ⟨hn, Or.inl rfl⟩) (cd_eX9 hN ⟨hn, Or.inl rfl⟩) rfl rfl hl.1 rfl rfl ⟨Nat.le_of_ble_eq_true rfl, Nat.le_of_ble_eq_true rfl⟩ ⟨Nat.zero_le _, Nat.zero_le _⟩ (Nat.le_of_ble_eq_true rfl) dX7_call_96 h (fun S7 H locs hW hS h => ?_)
  exact x_vret F hr hlk hW hS dX7_call_99 h
/-! X7_doHighFunction -/
def c7_doHighFunction (n : Nat) (S : xS) (a1 : Int32) : Option (xS) := xnm (sI S n 4 3 (0 : Int32)) (fun S1 => if a1 = (8 : Int32) then ((c11_signed (xI S1 n 4 0)).bind (fun r_3 => (c11_signed (xI S n 4 3)).bind (fun r_4 => (c7_checked n S1 (r_3 + r_4)).bind (fun (r_5, S5) => xnm (sI S5 n 4 0 r_5) (fun S6 => some S6))))) else (if a1 = (9 : Int32) then ((c7_call n S1 (xI S n 4 3)).bind (fun S7 => some S7)) else (if a1 = (10 : Int32) then (if (xI S1 n 4 0) = 0 then ((c9_jump n 4 S1 (xI S n 4 3)).bind (fun S10 => some S10)) else ((c9_pop n 4 S1 ).bind (fun S9 => some S9))) else (if a1 = (11 : Int32) then ((c9_setWorkspace n 4 S1 ((xI S1 n 4 5) + ((2 : Int32) * (xI S n 4 3)))).bind (fun S11 => some S11)) else (if a1 = (12 : Int32) then (if (xI S1 n 4 0) = (xI S n 4 3) then (xnm (sI S1 n 4 0 (1 : Int32)) (fun S14 => some S14)) else (xnm (sI S1 n 4 0 (0 : Int32)) (fun S13 => some S13))) else (if a1 = (13 : Int32) then ((c1_setLocal n S1 (xI S n 4 3) (xI S1 n 4 0)).bind (fun S15 => (c9_pop n 4 S15 ).bind (fun S16 => some S16))) else ((c5_setWord n 2 S1 ((xI S1 n 4 0) + ((2 : Int32) * (xI S n 4 3))) (xI S1 n 4 1)).bind (fun S17 => (c9_popAll n 4 S17 ).bind (fun S18 => some S18)))))))))
set_option maxHeartbeats 4000000 in
set_option maxRecDepth 100000 in
theorem m_c7_doHighFunction {l : Launch} {D : va_G} {cI cJ cL cN : ClassId} {ad : Nat → Nat → Nat} {N : Nat} (hN : N ≤ 8) (hI : xInj (cDom N) ad) {n : Nat} (hn : n < N) {S : xS} (a1 : Int32) {o : xS} (h : c7_doHighFunction n S a1 = some o) : Met l yX7_doHighFunction (Cond.code yX7_doHighFunction cX7_doHighFunction 3 none :: xG) { frames := 3, cells := 0, slots := 0, locals := 69 } (xPc D vwCl (cTy cI cJ cL cN) cNf cNm (cDom N) ad (cDe ad N cI cJ cL cN) [.ref (ad n 20), .int a1] S) (xQ D vwCl (cDom N) ad (cDe ad N cI cJ cL cN) none o) 0 0 (xA (cDom N) ad) := by
  unfold c7_doHighFunction at h
  refine x_enter (by decide) (Nat.le_of_ble_eq_true rfl) (fun p e s m below meth c F hr hlk hK hW hS ls hl => ?_)
  have hl : lv_has ls 3 [(0, .ref (ad n 20)), (1, .int a1)] := hl
  have hx := F.1
  have hb := F.2.1
  refine lv_aload_n hx hb dX7_doHighFunction_0 rfl (lv_at hl 0 rfl) ?_
  refine x_get F hK hW xc_X7 (cd_dX7 hn) (cd_eX7 hN hn) 1 (by decide) k_2_90 (rfl) dX7_doHighFunction_1 ?_
  refine x_getN F hK hW xc_X9 (cd_dX9 ⟨hn, Or.inl rfl⟩) (cd_eX9 hN ⟨hn, Or.inl rfl⟩) 3 (by decide) kn_10 (rfl) dX7_doHighFunction_4 ?_
  refine lv_istore_n (lv' := [(2, .int (xI S n 4 3)), (0, .ref (ad n 20)), (1, .int a1)]) hx hb dX7_doHighFunction_7 rfl hl (by decide) rfl (fun ls hl => ?_)
  refine lv_aload_n hx hb dX7_doHighFunction_8 rfl (lv_at hl 1 rfl) ?_
  refine x_get F hK hW xc_X7 (cd_dX7 hn) (cd_eX7 hN hn) 1 (by decide) k_2_90 (rfl) dX7_doHighFunction_9 ?_
  refine lv_iconst (v := (0 : Int32)) hx hb dX7_doHighFunction_12 (by decide) ?_
  refine x_putN F hK hI hW hS xc_X9 (cd_dX9 ⟨hn, Or.inl rfl⟩) (cd_eX9 hN ⟨hn, Or.inl rfl⟩) 3 (by decide) kn_10 rfl (v := (0 : Int32)) rfl rfl (fun _ _ => rfl) (fun _ _ => Nat.le_of_ble_eq_true rfl) dX7_doHighFunction_13 h (fun S1 H locs hW hS h => ?_)
  refine lv_iload_n hx hb dX7_doHighFunction_16 rfl (lv_at hl 2 rfl) ?_
  by_cases c_2_8 : a1 = (8 : Int32)
  · replace h := (if_pos c_2_8).symm.trans h
    refine lv_tableIn (tgt := 56) (off := 39) hx hb dX7_doHighFunction_17 (by rw [c_2_8]; decide) (by rw [c_2_8]; decide) (by rw [c_2_8]; decide) (by decide) ?_
    refine lv_aload_n hx hb dX7_doHighFunction_56 rfl (lv_at hl 1 rfl) ?_
    refine x_get F hK hW xc_X7 (cd_dX7 hn) (cd_eX7 hN hn) 1 (by decide) k_2_90 (rfl) dX7_doHighFunction_57 ?_
    refine lv_aload_n hx hb dX7_doHighFunction_60 rfl (lv_at hl 1 rfl) ?_
    refine lv_aload_n hx hb dX7_doHighFunction_61 rfl (lv_at hl 1 rfl) ?_
    refine x_get F hK hW xc_X7 (cd_dX7 hn) (cd_eX7 hN hn) 1 (by decide) k_2_90 (rfl) dX7_doHighFunction_62 ?_
    refine x_getN F hK hW xc_X9 (cd_dX9 ⟨hn, Or.inl rfl⟩) (cd_eX9 hN ⟨hn, Or.inl rfl⟩) 0 (by decide) kn_2 (rfl) dX7_doHighFunction_65 ?_
    refine x_cSNi (As := [.int (xI S1 n 4 0)]) F xG_ok hS hK um_X11_signed km_10 (fun _ h1 => m_c11_signed _ h1) rfl rfl hl.1 rfl rfl ⟨Nat.le_of_ble_eq_true rfl, Nat.le_of_ble_eq_true rfl⟩ ⟨Nat.zero_le _, Nat.zero_le _⟩ (Nat.le_of_ble_eq_true rfl) dX7_doHighFunction_68 h (fun r_3 locs hS h => ?_)
    refine lv_iload_n hx hb dX7_doHighFunction_71 rfl (lv_at hl 0 rfl) ?_
    refine x_cSNi (As := [.int (xI S n 4 3)]) F xG_ok hS hK um_X11_signed km_10 (fun _ h1 => m_c11_signed _ h1) rfl rfl hl.1 rfl rfl ⟨Nat.le_of_ble_eq_true rfl, Nat.le_of_ble_eq_true rfl⟩ ⟨Nat.zero_le _, Nat.zero_le _⟩ (Nat.le_of_ble_eq_true rfl) dX7_doHighFunction_72 h (fun r_4 locs hS h => ?_)
    refine lv_iadd hx hb dX7_doHighFunction_75 ?_
    refine x_cVi (As := [.int (r_3 + r_4)]) F xG_ok hK hW hS um_X7_checked k_4_29 (fun _ h1 => m_c7_checked hN hI hn _ h1) rfl (cd_dX7 hn) (cd_eX7 hN hn) rfl rfl hl.1 rfl rfl ⟨Nat.le_of_ble_eq_true rfl, Nat.le_of_ble_eq_true rfl⟩ ⟨Nat.zero_le _, Nat.zero_le _⟩ (Nat.le_of_ble_eq_true rfl) dX7_doHighFunction_76 h (fun r_5 S5 H locs hW hS h => ?_)
    refine x_putN F hK hI hW hS xc_X9 (cd_dX9 ⟨hn, Or.inl rfl⟩) (cd_eX9 hN ⟨hn, Or.inl rfl⟩) 0 (by decide) kn_2 rfl (v := r_5) rfl rfl (fun _ _ => rfl) (fun _ _ => Nat.le_of_ble_eq_true rfl) dX7_doHighFunction_79 h (fun S6 H locs hW hS h => ?_)
    refine lv_goto (tgt := 228) hx hb dX7_doHighFunction_82 (by decide) ?_
    exact x_vret F hr hlk hW hS dX7_doHighFunction_228 h
  replace h := (if_neg c_2_8).symm.trans h
  have hn_2_8 := x_swN (z := 8) c_2_8 x_sw0 rfl
  by_cases c_2_9 : a1 = (9 : Int32)
  · replace h := (if_pos c_2_9).symm.trans h
    refine lv_tableIn (tgt := 85) (off := 68) hx hb dX7_doHighFunction_17 (by rw [c_2_9]; decide) (by rw [c_2_9]; decide) (by rw [c_2_9]; decide) (by decide) ?_
    refine lv_aload_n hx hb dX7_doHighFunction_85 rfl (lv_at hl 1 rfl) ?_
    refine lv_iload_n hx hb dX7_doHighFunction_86 rfl (lv_at hl 0 rfl) ?_
    refine x_cVv (As := [.int (xI S n 4 3)]) F xG_ok hK hW hS um_X7_call k_4_33 (fun _ h1 => m_c7_call hN hI hn _ h1) rfl (cd_dX7 hn) (cd_eX7 hN hn) rfl rfl hl.1 rfl rfl ⟨Nat.le_of_ble_eq_true rfl, Nat.le_of_ble_eq_true rfl⟩ ⟨Nat.zero_le _, Nat.zero_le _⟩ (Nat.le_of_ble_eq_true rfl) dX7_doHighFunction_87 h (fun S7 H locs hW hS h => ?_)
    refine lv_goto (tgt := 228) hx hb dX7_doHighFunction_90 (by decide) ?_
    exact x_vret F hr hlk hW hS dX7_doHighFunction_228 h
  replace h := (if_neg c_2_9).symm.trans h
  have hn_2_9 := x_swN (z := 9) c_2_9 hn_2_8 rfl
  by_cases c_2_10 : a1 = (10 : Int32)
  · replace h := (if_pos c_2_10).symm.trans h
    refine lv_tableIn (tgt := 93) (off := 76) hx hb dX7_doHighFunction_17 (by rw [c_2_10]; decide) (by rw [c_2_10]; decide) (by rw [c_2_10]; decide) (by decide) ?_
    refine lv_aload_n hx hb dX7_doHighFunction_93 rfl (lv_at hl 1 rfl) ?_
    refine x_get F hK hW xc_X7 (cd_dX7 hn) (cd_eX7 hN hn) 1 (by decide) k_2_90 (rfl) dX7_doHighFunction_94 ?_
    refine x_getN F hK hW xc_X9 (cd_dX9 ⟨hn, Or.inl rfl⟩) (cd_eX9 hN ⟨hn, Or.inl rfl⟩) 0 (by decide) kn_2 (rfl) dX7_doHighFunction_97 ?_
    refine lv_if_ne (tgt := 114) hx hb dX7_doHighFunction_100 (by decide) (fun c_8 => ?_) (fun c_8 => ?_)
    · replace h := (if_neg c_8).symm.trans h
      refine lv_aload_n hx hb dX7_doHighFunction_114 rfl (lv_at hl 1 rfl) ?_
      refine x_get F hK hW xc_X7 (cd_dX7 hn) (cd_eX7 hN hn) 1 (by decide) k_2_90 (rfl) dX7_doHighFunction_115 ?_
      refine x_cVv (As := []) F xG_ok hK hW hS um_X9_pop k_4_45 (fun _ h1 => m_c9_pop hN hI ⟨hn, Or.inl rfl⟩  h1) rfl (cd_dX9 ⟨hn, Or.inl rfl⟩) (cd_eX9 hN ⟨hn, Or.inl rfl⟩) rfl rfl hl.1 rfl rfl ⟨Nat.le_of_ble_eq_true rfl, Nat.le_of_ble_eq_true rfl⟩ ⟨Nat.zero_le _, Nat.zero_le _⟩ (Nat.le_of_ble_eq_true rfl) dX7_doHighFunction_118 h (fun S9 H locs hW hS h => ?_)
      refine lv_goto (tgt := 228) hx hb dX7_doHighFunction_121 (by decide) ?_
      exact x_vret F hr hlk hW hS dX7_doHighFunction_228 h
    replace h := (if_pos c_8).symm.trans h
    refine lv_aload_n hx hb dX7_doHighFunction_103 rfl (lv_at hl 1 rfl) ?_
    refine x_get F hK hW xc_X7 (cd_dX7 hn) (cd_eX7 hN hn) 1 (by decide) k_2_90 (rfl) dX7_doHighFunction_104 ?_
    refine lv_iload_n hx hb dX7_doHighFunction_107 rfl (lv_at hl 0 rfl) ?_
    refine x_cVv (As := [.int (xI S n 4 3)]) F xG_ok hK hW hS um_X9_jump k_3_233 (fun _ h1 => m_c9_jump hN hI ⟨hn, Or.inl rfl⟩ _ h1) rfl (cd_dX9 ⟨hn, Or.inl rfl⟩) (cd_eX9 hN ⟨hn, Or.inl rfl⟩) rfl rfl hl.1 rfl rfl ⟨Nat.le_of_ble_eq_true rfl, Nat.le_of_ble_eq_true rfl⟩ ⟨Nat.zero_le _, Nat.zero_le _⟩ (Nat.le_of_ble_eq_true rfl) dX7_doHighFunction_108 h (fun S10 H locs hW hS h => ?_)
    refine lv_goto (tgt := 228) hx hb dX7_doHighFunction_111 (by decide) ?_
    exact x_vret F hr hlk hW hS dX7_doHighFunction_228 h
  replace h := (if_neg c_2_10).symm.trans h
  have hn_2_10 := x_swN (z := 10) c_2_10 hn_2_9 rfl
  by_cases c_2_11 : a1 = (11 : Int32)
  · replace h := (if_pos c_2_11).symm.trans h
    refine lv_tableIn (tgt := 124) (off := 107) hx hb dX7_doHighFunction_17 (by rw [c_2_11]; decide) (by rw [c_2_11]; decide) (by rw [c_2_11]; decide) (by decide) ?_
    refine lv_aload_n hx hb dX7_doHighFunction_124 rfl (lv_at hl 1 rfl) ?_
    refine x_get F hK hW xc_X7 (cd_dX7 hn) (cd_eX7 hN hn) 1 (by decide) k_2_90 (rfl) dX7_doHighFunction_125 ?_
    refine lv_aload_n hx hb dX7_doHighFunction_128 rfl (lv_at hl 1 rfl) ?_
    refine x_get F hK hW xc_X7 (cd_dX7 hn) (cd_eX7 hN hn) 1 (by decide) k_2_90 (rfl) dX7_doHighFunction_129 ?_
    refine x_getN F hK hW xc_X9 (cd_dX9 ⟨hn, Or.inl rfl⟩) (cd_eX9 hN ⟨hn, Or.inl rfl⟩) 5 (by decide) kn_15 (rfl) dX7_doHighFunction_132 ?_
    refine lv_iconst (v := (2 : Int32)) hx hb dX7_doHighFunction_135 (by decide) ?_
    refine lv_iload_n hx hb dX7_doHighFunction_136 rfl (lv_at hl 0 rfl) ?_
    refine lv_imul hx hb dX7_doHighFunction_137 ?_
    refine lv_iadd hx hb dX7_doHighFunction_138 ?_
    refine x_cVv (As := [.int ((xI S1 n 4 5) + ((2 : Int32) * (xI S n 4 3)))]) F xG_ok hK hW hS um_X9_setWorkspace k_4_37 (fun _ h1 => m_c9_setWorkspace hN hI ⟨hn, Or.inl rfl⟩ _ h1) rfl (cd_dX9 ⟨hn, Or.inl rfl⟩) (cd_eX9 hN ⟨hn, Or.inl rfl⟩) rfl rfl hl.1 rfl rfl ⟨Nat.le_of_ble_eq_true rfl, Nat.le_of_ble_eq_true rfl⟩ ⟨Nat.zero_le _, Nat.zero_le _⟩ (Nat.le_of_ble_eq_true rfl) dX7_doHighFunction_139 h (fun S11 H locs hW hS h => ?_)
    refine lv_goto (tgt := 228) hx hb dX7_doHighFunction_142 (by decide) ?_
    exact x_vret F hr hlk hW hS dX7_doHighFunction_228 h
  replace h := (if_neg c_2_11).symm.trans h
  have hn_2_11 := x_swN (z := 11) c_2_11 hn_2_10 rfl
  by_cases c_2_12 : a1 = (12 : Int32)
  · replace h := (if_pos c_2_12).symm.trans h
    refine lv_tableIn (tgt := 145) (off := 128) hx hb dX7_doHighFunction_17 (by rw [c_2_12]; decide) (by rw [c_2_12]; decide) (by rw [c_2_12]; decide) (by decide) ?_
    refine lv_aload_n hx hb dX7_doHighFunction_145 rfl (lv_at hl 1 rfl) ?_
    refine x_get F hK hW xc_X7 (cd_dX7 hn) (cd_eX7 hN hn) 1 (by decide) k_2_90 (rfl) dX7_doHighFunction_146 ?_
    refine lv_aload_n hx hb dX7_doHighFunction_149 rfl (lv_at hl 1 rfl) ?_
    refine x_get F hK hW xc_X7 (cd_dX7 hn) (cd_eX7 hN hn) 1 (by decide) k_2_90 (rfl) dX7_doHighFunction_150 ?_
    refine x_getN F hK hW xc_X9 (cd_dX9 ⟨hn, Or.inl rfl⟩) (cd_eX9 hN ⟨hn, Or.inl rfl⟩) 0 (by decide) kn_2 (rfl) dX7_doHighFunction_153 ?_
    refine lv_iload_n hx hb dX7_doHighFunction_156 rfl (lv_at hl 0 rfl) ?_
    refine lv_icmp_ne (tgt := 164) hx hb dX7_doHighFunction_157 (by decide) (fun c_12 => ?_) (fun c_12 => ?_)
    · replace h := (if_neg c_12).symm.trans h
      refine lv_iconst (v := (0 : Int32)) hx hb dX7_doHighFunction_164 (by decide) ?_
      refine x_putN F hK hI hW hS xc_X9 (cd_dX9 ⟨hn, Or.inl rfl⟩) (cd_eX9 hN ⟨hn, Or.inl rfl⟩) 0 (by decide) kn_2 rfl (v := (0 : Int32)) rfl rfl (fun _ _ => rfl) (fun _ _ => Nat.le_of_ble_eq_true rfl) dX7_doHighFunction_165 h (fun S13 H locs hW hS h => ?_)
      refine lv_goto (tgt := 228) hx hb dX7_doHighFunction_168 (by decide) ?_
      exact x_vret F hr hlk hW hS dX7_doHighFunction_228 h
    replace h := (if_pos c_12).symm.trans h
    refine lv_iconst (v := (1 : Int32)) hx hb dX7_doHighFunction_160 (by decide) ?_
    refine lv_goto (tgt := 165) hx hb dX7_doHighFunction_161 (by decide) ?_
    refine x_putN F hK hI hW hS xc_X9 (cd_dX9 ⟨hn, Or.inl rfl⟩) (cd_eX9 hN ⟨hn, Or.inl rfl⟩) 0 (by decide) kn_2 rfl (v := (1 : Int32)) rfl rfl (fun _ _ => rfl) (fun _ _ => Nat.le_of_ble_eq_true rfl) dX7_doHighFunction_165 h (fun S14 H locs hW hS h => ?_)
    refine lv_goto (tgt := 228) hx hb dX7_doHighFunction_168 (by decide) ?_
    exact x_vret F hr hlk hW hS dX7_doHighFunction_228 h
  replace h := (if_neg c_2_12).symm.trans h
  have hn_2_12 := x_swN (z := 12) c_2_12 hn_2_11 rfl
  by_cases c_2_13 : a1 = (13 : Int32)
  · replace h := (if_pos c_2_13).symm.trans h
    refine lv_tableIn (tgt := 171) (off := 154) hx hb dX7_doHighFunction_17 (by rw [c_2_13]; decide) (by rw [c_2_13]; decide) (by rw [c_2_13]; decide) (by decide) ?_
    refine lv_aload_n hx hb dX7_doHighFunction_171 rfl (lv_at hl 1 rfl) ?_
    refine x_get F hK hW xc_X7 (cd_dX7 hn) (cd_eX7 hN hn) 0 (by decide) k_2_89 (rfl) dX7_doHighFunction_172 ?_
    refine lv_iload_n hx hb dX7_doHighFunction_175 rfl (lv_at hl 0 rfl) ?_
    refine lv_aload_n hx hb dX7_doHighFunction_176 rfl (lv_at hl 1 rfl) ?_
    refine x_get F hK hW xc_X7 (cd_dX7 hn) (cd_eX7 hN hn) 1 (by decide) k_2_90 (rfl) dX7_doHighFunction_177 ?_
    refine x_getN F hK hW xc_X9 (cd_dX9 ⟨hn, Or.inl rfl⟩) (cd_eX9 hN ⟨hn, Or.inl rfl⟩) 0 (by decide) kn_2 (rfl) dX7_doHighFunction_180 ?_
    refine x_cVv (As := [.int (xI S n 4 3), .int (xI S1 n 4 0)]) F xG_ok hK hW hS um_X1_setLocal k_4_41 (fun _ h1 => m_c1_setLocal hN hI hn _ _ h1) rfl (cd_dX1 hn) (cd_eX1 hN hn) rfl rfl hl.1 rfl rfl ⟨Nat.le_of_ble_eq_true rfl, Nat.le_of_ble_eq_true rfl⟩ ⟨Nat.zero_le _, Nat.zero_le _⟩ (Nat.le_of_ble_eq_true rfl) dX7_doHighFunction_183 h (fun S15 H locs hW hS h => ?_)
    refine lv_aload_n hx hb dX7_doHighFunction_186 rfl (lv_at hl 1 rfl) ?_
    refine x_get F hK hW xc_X7 (cd_dX7 hn) (cd_eX7 hN hn) 1 (by decide) k_2_90 (rfl) dX7_doHighFunction_187 ?_
    refine x_cVv (As := []) F xG_ok hK hW hS um_X9_pop k_4_45 (fun _ h1 => m_c9_pop hN hI ⟨hn, Or.inl rfl⟩  h1) rfl (cd_dX9 ⟨hn, Or.inl rfl⟩) (cd_eX9 hN ⟨hn, Or.inl rfl⟩) rfl rfl hl.1 rfl rfl ⟨Nat.le_of_ble_eq_true rfl, Nat.le_of_ble_eq_true rfl⟩ ⟨Nat.zero_le _, Nat.zero_le _⟩ (Nat.le_of_ble_eq_true rfl) dX7_doHighFunction_190 h (fun S16 H locs hW hS h => ?_)
    refine lv_goto (tgt := 228) hx hb dX7_doHighFunction_193 (by decide) ?_
    exact x_vret F hr hlk hW hS dX7_doHighFunction_228 h
  replace h := (if_neg c_2_13).symm.trans h
  have hn_2_13 := x_swN (z := 13) c_2_13 hn_2_12 rfl
  refine x_tblD (tgt := 196) hx hb dX7_doHighFunction_17 hn_2_13 (by decide) (by decide) (by decide) ?_
  refine lv_aload_n hx hb dX7_doHighFunction_196 rfl (lv_at hl 1 rfl) ?_
  refine x_get F hK hW xc_X7 (cd_dX7 hn) (cd_eX7 hN hn) 2 (by decide) k_2_91 (rfl) dX7_doHighFunction_197 ?_
  refine lv_aload_n hx hb dX7_doHighFunction_200 rfl (lv_at hl 1 rfl) ?_
  refine x_get F hK hW xc_X7 (cd_dX7 hn) (cd_eX7 hN hn) 1 (by decide) k_2_90 (rfl) dX7_doHighFunction_201 ?_
  refine x_getN F hK hW xc_X9 (cd_dX9 ⟨hn, Or.inl rfl⟩) (cd_eX9 hN ⟨hn, Or.inl rfl⟩) 0 (by decide) kn_2 (rfl) dX7_doHighFunction_204 ?_
  refine lv_iconst (v := (2 : Int32)) hx hb dX7_doHighFunction_207 (by decide) ?_
  refine lv_iload_n hx hb dX7_doHighFunction_208 rfl (lv_at hl 0 rfl) ?_
  refine lv_imul hx hb dX7_doHighFunction_209 ?_
  refine lv_iadd hx hb dX7_doHighFunction_210 ?_
  refine lv_aload_n hx hb dX7_doHighFunction_211 rfl (lv_at hl 1 rfl) ?_
  refine x_get F hK hW xc_X7 (cd_dX7 hn) (cd_eX7 hN hn) 1 (by decide) k_2_90 (rfl) dX7_doHighFunction_212 ?_
  refine x_getN F hK hW xc_X9 (cd_dX9 ⟨hn, Or.inl rfl⟩) (cd_eX9 hN ⟨hn, Or.inl rfl⟩) 1 (by decide) kn_5 (rfl) dX7_doHighFunction_215 ?_
  refine x_cVv (As := [.int ((xI S1 n 4 0) + ((2 : Int32) * (xI S n 4 3))), .int (xI S1 n 4 1)]) F xG_ok hK hW hS um_X5_setWord k_4_49 (fun _ h1 => m_c5_setWord hN hI (is5n hn) _ _ h1) rfl (cd_dX5 (is5n hn)) (cd_eX5 hN (is5n hn)) rfl rfl hl.1 rfl rfl ⟨Nat.le_of_ble_eq_true rfl, Nat.le_of_ble_eq_true rfl⟩ ⟨Nat.zero_le _, Nat.zero_le _⟩ (Nat.le_of_ble_eq_true rfl) dX7_doHighFunction_218 h (fun S17 H locs hW hS h => ?_)
  refine lv_aload_n hx hb dX7_doHighFunction_221 rfl (lv_at hl 1 rfl) ?_
  refine x_get F hK hW xc_X7 (cd_dX7 hn) (cd_eX7 hN hn) 1 (by decide) k_2_90 (rfl) dX7_doHighFunction_222 ?_
  refine x_cVv (As := []) F xG_ok hK hW hS um_X9_popAll k_4_50 (fun _ h1 => m_c9_popAll hN hI ⟨hn, Or.inl rfl⟩  h1) rfl (cd_dX9 ⟨hn, Or.inl rfl⟩) (cd_eX9 hN ⟨hn, Or.inl rfl⟩) rfl rfl hl.1 rfl rfl ⟨Nat.le_of_ble_eq_true rfl, Nat.le_of_ble_eq_true rfl⟩ ⟨Nat.zero_le _, Nat.zero_le _⟩ (Nat.le_of_ble_eq_true rfl) dX7_doHighFunction_225 h (fun S18 H locs hW hS h => ?_)
  exact x_vret F hr hlk hW hS dX7_doHighFunction_228 h
/-! X9_replaceTwo -/
def c9_replaceTwo (n j : Nat) (S : xS) (a1 : Int32) : Option (xS) := xnm (sI S n j 0 (a1 &&& (65535 : Int32))) (fun S1 => xnm (sI S1 n j 1 (xI S1 n j 2)) (fun S2 => some S2))
set_option maxHeartbeats 4000000 in
set_option maxRecDepth 100000 in
theorem m_c9_replaceTwo {l : Launch} {D : va_G} {cI cJ cL cN : ClassId} {ad : Nat → Nat → Nat} {N : Nat} (hN : N ≤ 8) (hI : xInj (cDom N) ad) {n j : Nat} (hj : isX9 N n j) {S : xS} (a1 : Int32) {o : xS} (h : c9_replaceTwo n j S a1 = some o) : Met l yX9_replaceTwo (Cond.code yX9_replaceTwo cX9_replaceTwo 2 none :: xG) { frames := 0, cells := 0, slots := 0, locals := 0 } (xPc D vwCl (cTy cI cJ cL cN) cNf cNm (cDom N) ad (cDe ad N cI cJ cL cN) [.ref (ad n j), .int a1] S) (xQ D vwCl (cDom N) ad (cDe ad N cI cJ cL cN) none o) 0 0 (xA (cDom N) ad) := by
  unfold c9_replaceTwo at h
  refine x_enter (by decide) (Nat.le_of_ble_eq_true rfl) (fun p e s m below meth c F hr hlk hK hW hS ls hl => ?_)
  have hl : lv_has ls 2 [(0, .ref (ad n j)), (1, .int a1)] := hl
  have hx := F.1
  have hb := F.2.1
  refine lv_aload_n hx hb dX9_replaceTwo_0 rfl (lv_at hl 0 rfl) ?_
  refine lv_iload_n hx hb dX9_replaceTwo_1 rfl (lv_at hl 1 rfl) ?_
  refine lv_ldc (v := (65535 : Int32)) hx hb F.2.2.2.1 (x_hts F _ k_3_237) dX9_replaceTwo_2 ?_
  refine lv_iand hx hb dX9_replaceTwo_4 ?_
  refine x_put F hK hI hW hS xc_X9 (cd_dX9 hj) (cd_eX9 hN hj) 0 (by decide) k_1_62 rfl (v := (a1 &&& (65535 : Int32))) rfl rfl (fun _ _ => rfl) (fun _ _ => Nat.le_of_ble_eq_true rfl) dX9_replaceTwo_5 h (fun S1 H locs hW hS h => ?_)
  refine lv_aload_n hx hb dX9_replaceTwo_8 rfl (lv_at hl 0 rfl) ?_
  refine lv_aload_n hx hb dX9_replaceTwo_9 rfl (lv_at hl 0 rfl) ?_
  refine x_get F hK hW xc_X9 (cd_dX9 hj) (cd_eX9 hN hj) 2 (by decide) k_1_70 (rfl) dX9_replaceTwo_10 ?_
  refine x_put F hK hI hW hS xc_X9 (cd_dX9 hj) (cd_eX9 hN hj) 1 (by decide) k_1_66 rfl (v := (xI S1 n j 2)) rfl rfl (fun _ _ => rfl) (fun _ _ => Nat.le_of_ble_eq_true rfl) dX9_replaceTwo_13 h (fun S2 H locs hW hS h => ?_)
  exact x_vret F hr hlk hW hS dX9_replaceTwo_16 h
/-! X7_remainder -/
def c7_remainder (n : Nat) (S : xS) (a1 : Int32) (a2 : Int32) : Option (Int32 × xS) := if a2 = 0 then (xnm (sI S n 1 6 (1 : Int32)) (fun S3 => some ((0 : Int32), S3))) else (gq (¬ a2 = 0) (some ((jrem a1 a2), S)))
set_option maxHeartbeats 4000000 in
set_option maxRecDepth 100000 in
theorem m_c7_remainder {l : Launch} {D : va_G} {cI cJ cL cN : ClassId} {ad : Nat → Nat → Nat} {N : Nat} (hN : N ≤ 8) (hI : xInj (cDom N) ad) {n : Nat} (hn : n < N) {S : xS} (a1 : Int32) (a2 : Int32) {o : Int32 × xS} (h : c7_remainder n S a1 a2 = some o) : Met l yX7_remainder (Cond.code yX7_remainder cX7_remainder 3 (some .int) :: xG) { frames := 0, cells := 0, slots := 0, locals := 0 } (xPc D vwCl (cTy cI cJ cL cN) cNf cNm (cDom N) ad (cDe ad N cI cJ cL cN) [.ref (ad n 20), .int a1, .int a2] S) (xQ D vwCl (cDom N) ad (cDe ad N cI cJ cL cN) (some (.int o.1)) o.2) 0 0 (xA (cDom N) ad) := by
  unfold c7_remainder at h
  refine x_enter (by decide) (Nat.le_of_ble_eq_true rfl) (fun p e s m below meth c F hr hlk hK hW hS ls hl => ?_)
  have hl : lv_has ls 3 [(0, .ref (ad n 20)), (1, .int a1), (2, .int a2)] := hl
  have hx := F.1
  have hb := F.2.1
  refine lv_iload_n hx hb dX7_remainder_0 rfl (lv_at hl 2 rfl) ?_
  refine lv_if_ne (tgt := 14) hx hb dX7_remainder_1 (by decide) (fun c_1 => ?_) (fun c_1 => ?_)
  · replace h := (if_neg c_1).symm.trans h
    refine lv_iload_n hx hb dX7_remainder_14 rfl (lv_at hl 1 rfl) ?_
    refine lv_iload_n hx hb dX7_remainder_15 rfl (lv_at hl 2 rfl) ?_
    obtain ⟨hq_2, h⟩ := gq_use h
    refine x_irem hx hb dX7_remainder_16 hq_2 ?_
    exact x_iret F hr hlk hW hS dX7_remainder_17 h
  replace h := (if_pos c_1).symm.trans h
  refine lv_aload_n hx hb dX7_remainder_4 rfl (lv_at hl 0 rfl) ?_
  refine x_get F hK hW xc_X7 (cd_dX7 hn) (cd_eX7 hN hn) 0 (by decide) k_2_89 (rfl) dX7_remainder_5 ?_
  refine lv_iconst (v := (1 : Int32)) hx hb dX7_remainder_8 (by decide) ?_
  refine x_putN F hK hI hW hS xc_X1 (cd_dX1 hn) (cd_eX1 hN hn) 6 (by decide) kn_36 rfl (v := (1 : Int32)) rfl rfl (fun _ _ => rfl) (fun _ _ => Nat.le_of_ble_eq_true rfl) dX7_remainder_9 h (fun S3 H locs hW hS h => ?_)
  refine lv_iconst (v := (0 : Int32)) hx hb dX7_remainder_12 (by decide) ?_
  exact x_iret F hr hlk hW hS dX7_remainder_13 h
/-! X7_quotient -/
def c7_quotient (n : Nat) (S : xS) (a1 : Int32) (a2 : Int32) : Option (Int32 × xS) := if a2 = 0 then (xnm (sI S n 1 6 (1 : Int32)) (fun S2 => some ((0 : Int32), S2))) else (if a1 = (-32768 : Int32) then (if a2 = (-1 : Int32) then (xnm (sI S n 1 6 (1 : Int32)) (fun S7 => some ((0 : Int32), S7))) else (gq (¬ a2 = 0) (some ((a1 / a2), S)))) else (gq (¬ a2 = 0) (some ((a1 / a2), S))))
set_option maxHeartbeats 4000000 in
set_option maxRecDepth 100000 in
theorem m_c7_quotient {l : Launch} {D : va_G} {cI cJ cL cN : ClassId} {ad : Nat → Nat → Nat} {N : Nat} (hN : N ≤ 8) (hI : xInj (cDom N) ad) {n : Nat} (hn : n < N) {S : xS} (a1 : Int32) (a2 : Int32) {o : Int32 × xS} (h : c7_quotient n S a1 a2 = some o) : Met l yX7_quotient (Cond.code yX7_quotient cX7_quotient 3 (some .int) :: xG) { frames := 0, cells := 0, slots := 0, locals := 0 } (xPc D vwCl (cTy cI cJ cL cN) cNf cNm (cDom N) ad (cDe ad N cI cJ cL cN) [.ref (ad n 20), .int a1, .int a2] S) (xQ D vwCl (cDom N) ad (cDe ad N cI cJ cL cN) (some (.int o.1)) o.2) 0 0 (xA (cDom N) ad) := by
  unfold c7_quotient at h
  refine x_enter (by decide) (Nat.le_of_ble_eq_true rfl) (fun p e s m below meth c F hr hlk hK hW hS ls hl => ?_)
  have hl : lv_has ls 3 [(0, .ref (ad n 20)), (1, .int a1), (2, .int a2)] := hl
  have hx := F.1
  have hb := F.2.1
  refine lv_iload_n hx hb dX7_quotient_0 rfl (lv_at hl 2 rfl) ?_
  refine lv_if_eq (tgt := 16) hx hb dX7_quotient_1 (by decide) (fun c_1 => ?_) (fun c_1 => ?_)
  · replace h := (if_pos c_1).symm.trans h
    refine lv_aload_n hx hb dX7_quotient_16 rfl (lv_at hl 0 rfl) ?_
    refine x_get F hK hW xc_X7 (cd_dX7 hn) (cd_eX7 hN hn) 0 (by decide) k_2_89 (rfl) dX7_quotient_17 ?_
    refine lv_iconst (v := (1 : Int32)) hx hb dX7_quotient_20 (by decide) ?_
    refine x_putN F hK hI hW hS xc_X1 (cd_dX1 hn) (cd_eX1 hN hn) 6 (by decide) kn_36 rfl (v := (1 : Int32)) rfl rfl (fun _ _ => rfl) (fun _ _ => Nat.le_of_ble_eq_true rfl) dX7_quotient_21 h (fun S2 H locs hW hS h => ?_)
    refine lv_iconst (v := (0 : Int32)) hx hb dX7_quotient_24 (by decide) ?_
    exact x_iret F hr hlk hW hS dX7_quotient_25 h
  replace h := (if_neg c_1).symm.trans h
  refine lv_iload_n hx hb dX7_quotient_4 rfl (lv_at hl 1 rfl) ?_
  refine lv_sipush (v := (-32768 : Int32)) hx hb dX7_quotient_5 (by decide) ?_
  refine lv_icmp_ne (tgt := 26) hx hb dX7_quotient_8 (by decide) (fun c_3 => ?_) (fun c_3 => ?_)
  · replace h := (if_neg c_3).symm.trans h
    refine lv_iload_n hx hb dX7_quotient_26 rfl (lv_at hl 1 rfl) ?_
    refine lv_iload_n hx hb dX7_quotient_27 rfl (lv_at hl 2 rfl) ?_
    obtain ⟨hq_4, h⟩ := gq_use h
    refine lv_idiv hx hb dX7_quotient_28 hq_4 ?_
    exact x_iret F hr hlk hW hS dX7_quotient_29 h
  replace h := (if_pos c_3).symm.trans h
  refine lv_iload_n hx hb dX7_quotient_11 rfl (lv_at hl 2 rfl) ?_
  refine lv_iconst (v := (-1 : Int32)) hx hb dX7_quotient_12 (by decide) ?_
  refine lv_icmp_ne (tgt := 26) hx hb dX7_quotient_13 (by decide) (fun c_5 => ?_) (fun c_5 => ?_)
  · replace h := (if_neg c_5).symm.trans h
    refine lv_iload_n hx hb dX7_quotient_26 rfl (lv_at hl 1 rfl) ?_
    refine lv_iload_n hx hb dX7_quotient_27 rfl (lv_at hl 2 rfl) ?_
    obtain ⟨hq_6, h⟩ := gq_use h
    refine lv_idiv hx hb dX7_quotient_28 hq_6 ?_
    exact x_iret F hr hlk hW hS dX7_quotient_29 h
  replace h := (if_pos c_5).symm.trans h
  refine lv_aload_n hx hb dX7_quotient_16 rfl (lv_at hl 0 rfl) ?_
  refine x_get F hK hW xc_X7 (cd_dX7 hn) (cd_eX7 hN hn) 0 (by decide) k_2_89 (rfl) dX7_quotient_17 ?_
  refine lv_iconst (v := (1 : Int32)) hx hb dX7_quotient_20 (by decide) ?_
  refine x_putN F hK hI hW hS xc_X1 (cd_dX1 hn) (cd_eX1 hN hn) 6 (by decide) kn_36 rfl (v := (1 : Int32)) rfl rfl (fun _ _ => rfl) (fun _ _ => Nat.le_of_ble_eq_true rfl) dX7_quotient_21 h (fun S7 H locs hW hS h => ?_)
  refine lv_iconst (v := (0 : Int32)) hx hb dX7_quotient_24 (by decide) ?_
  exact x_iret F hr hlk hW hS dX7_quotient_25 h
/-! X7_doArithmetic -/
def c7_doArithmetic (n : Nat) (S : xS) (a1 : Int32) : Option (Int32 × xS) := (c11_signed (xI S n 4 0)).bind (fun r_1 => (c11_signed (xI S n 4 1)).bind (fun r_2 => if a1 = (2 : Int32) then ((c9_replaceTwo n 4 S (r_1 + r_2)).bind (fun S4 => some ((1 : Int32), S4))) else (if a1 = (4 : Int32) then ((c9_replaceTwo n 4 S (r_2 - r_1)).bind (fun S5 => some ((1 : Int32), S5))) else (if a1 = (5 : Int32) then ((c7_checked n S (r_2 + r_1)).bind (fun (r_6, S6) => (c9_replaceTwo n 4 S6 r_6).bind (fun S7 => some ((1 : Int32), S7)))) else (if a1 = (8 : Int32) then ((c9_replaceTwo n 4 S (r_2 * r_1)).bind (fun S8 => some ((1 : Int32), S8))) else (if a1 = (9 : Int32) then (if r_2 ≤ r_1 then ((c9_replaceTwo n 4 S (0 : Int32)).bind (fun S10 => some ((1 : Int32), S10))) else ((c9_replaceTwo n 4 S (1 : Int32)).bind (fun S11 => some ((1 : Int32), S11)))) else (if a1 = (10 : Int32) then ((c9_replaceTwo n 4 S (r_1 + ((2 : Int32) * r_2))).bind (fun S12 => some ((1 : Int32), S12))) else (if a1 = (12 : Int32) then ((c7_checked n S (r_2 - r_1)).bind (fun (r_13, S13) => (c9_replaceTwo n 4 S13 r_13).bind (fun S14 => some ((1 : Int32), S14)))) else (if a1 = (22 : Int32) then ((c7_checked n S ((r_2 + r_1) + ((xI S n 4 2) &&& (1 : Int32)))).bind (fun (r_15, S15) => (c9_replaceTwo n 4 S15 r_15).bind (fun S16 => some ((1 : Int32), S16)))) else (if a1 = (31 : Int32) then ((c7_remainder n S r_2 r_1).bind (fun (r_17, S17) => (c9_replaceTwo n 4 S17 r_17).bind (fun S18 => some ((1 : Int32), S18)))) else (if a1 = (44 : Int32) then ((c7_quotient n S r_2 r_1).bind (fun (r_19, S19) => (c9_replaceTwo n 4 S19 r_19).bind (fun S20 => some ((1 : Int32), S20)))) else (if a1 = (52 : Int32) then (xnm (sI S n 4 0 (((2 : Int32) * r_1) &&& (65535 : Int32))) (fun S21 => some ((1 : Int32), S21))) else (if a1 = (56 : Int32) then ((c7_checked n S ((r_2 - r_1) - ((xI S n 4 2) &&& (1 : Int32)))).bind (fun (r_22, S22) => (c9_replaceTwo n 4 S22 r_22).bind (fun S23 => some ((1 : Int32), S23)))) else (if a1 = (82 : Int32) then ((c9_replaceTwo n 4 S (r_1 + r_2)).bind (fun S24 => some ((1 : Int32), S24))) else (if a1 = (83 : Int32) then ((c7_checked n S (r_2 * r_1)).bind (fun (r_25, S25) => (c9_replaceTwo n 4 S25 r_25).bind (fun S26 => some ((1 : Int32), S26)))) else (some ((0 : Int32), S)))))))))))))))))
set_option maxHeartbeats 4000000 in
set_option maxRecDepth 100000 in
theorem m_c7_doArithmetic {l : Launch} {D : va_G} {cI cJ cL cN : ClassId} {ad : Nat → Nat → Nat} {N : Nat} (hN : N ≤ 8) (hI : xInj (cDom N) ad) {n : Nat} (hn : n < N) {S : xS} (a1 : Int32) {o : Int32 × xS} (h : c7_doArithmetic n S a1 = some o) : Met l yX7_doArithmetic (Cond.code yX7_doArithmetic cX7_doArithmetic 5 (some .boolean) :: xG) { frames := 2, cells := 0, slots := 0, locals := 41 } (xPc D vwCl (cTy cI cJ cL cN) cNf cNm (cDom N) ad (cDe ad N cI cJ cL cN) [.ref (ad n 20), .int a1] S) (xQ D vwCl (cDom N) ad (cDe ad N cI cJ cL cN) (some (.int o.1)) o.2) 0 0 (xA (cDom N) ad) := by
  unfold c7_doArithmetic at h
  refine x_enter (by decide) (Nat.le_of_ble_eq_true rfl) (fun p e s m below meth c F hr hlk hK hW hS ls hl => ?_)
  have hl : lv_has ls 5 [(0, .ref (ad n 20)), (1, .int a1)] := hl
  have hx := F.1
  have hb := F.2.1
  refine lv_aload_n hx hb dX7_doArithmetic_0 rfl (lv_at hl 0 rfl) ?_
  refine x_get F hK hW xc_X7 (cd_dX7 hn) (cd_eX7 hN hn) 1 (by decide) k_2_90 (rfl) dX7_doArithmetic_1 ?_
  refine x_getN F hK hW xc_X9 (cd_dX9 ⟨hn, Or.inl rfl⟩) (cd_eX9 hN ⟨hn, Or.inl rfl⟩) 0 (by decide) kn_2 (rfl) dX7_doArithmetic_4 ?_
  refine x_cSNi (As := [.int (xI S n 4 0)]) F xG_ok hS hK um_X11_signed km_10 (fun _ h1 => m_c11_signed _ h1) rfl rfl hl.1 rfl rfl ⟨Nat.le_of_ble_eq_true rfl, Nat.le_of_ble_eq_true rfl⟩ ⟨Nat.zero_le _, Nat.zero_le _⟩ (Nat.le_of_ble_eq_true rfl) dX7_doArithmetic_7 h (fun r_1 locs hS h => ?_)
  refine lv_istore_n (lv' := [(2, .int r_1), (0, .ref (ad n 20)), (1, .int a1)]) hx hb dX7_doArithmetic_10 rfl hl (by decide) rfl (fun ls hl => ?_)
  refine lv_aload_n hx hb dX7_doArithmetic_11 rfl (lv_at hl 1 rfl) ?_
  refine x_get F hK hW xc_X7 (cd_dX7 hn) (cd_eX7 hN hn) 1 (by decide) k_2_90 (rfl) dX7_doArithmetic_12 ?_
  refine x_getN F hK hW xc_X9 (cd_dX9 ⟨hn, Or.inl rfl⟩) (cd_eX9 hN ⟨hn, Or.inl rfl⟩) 1 (by decide) kn_5 (rfl) dX7_doArithmetic_15 ?_
  refine x_cSNi (As := [.int (xI S n 4 1)]) F xG_ok hS hK um_X11_signed km_10 (fun _ h1 => m_c11_signed _ h1) rfl rfl hl.1 rfl rfl ⟨Nat.le_of_ble_eq_true rfl, Nat.le_of_ble_eq_true rfl⟩ ⟨Nat.zero_le _, Nat.zero_le _⟩ (Nat.le_of_ble_eq_true rfl) dX7_doArithmetic_18 h (fun r_2 locs hS h => ?_)
  refine lv_istore_n (lv' := [(3, .int r_2), (2, .int r_1), (0, .ref (ad n 20)), (1, .int a1)]) hx hb dX7_doArithmetic_21 rfl hl (by decide) rfl (fun ls hl => ?_)
  refine lv_aload_n hx hb dX7_doArithmetic_22 rfl (lv_at hl 2 rfl) ?_
  refine x_get F hK hW xc_X7 (cd_dX7 hn) (cd_eX7 hN hn) 1 (by decide) k_2_90 (rfl) dX7_doArithmetic_23 ?_
  refine x_getN F hK hW xc_X9 (cd_dX9 ⟨hn, Or.inl rfl⟩) (cd_eX9 hN ⟨hn, Or.inl rfl⟩) 2 (by decide) kn_8 (rfl) dX7_doArithmetic_26 ?_
  refine lv_iconst (v := (1 : Int32)) hx hb dX7_doArithmetic_29 (by decide) ?_
  refine lv_iand hx hb dX7_doArithmetic_30 ?_
  refine lv_istore (lv' := [(4, .int ((xI S n 4 2) &&& (1 : Int32))), (3, .int r_2), (2, .int r_1), (0, .ref (ad n 20)), (1, .int a1)]) hx hb dX7_doArithmetic_31 hl (by decide) rfl (fun ls hl => ?_)
  refine lv_iload_n hx hb dX7_doArithmetic_33 rfl (lv_at hl 4 rfl) ?_
  by_cases c_3_2 : a1 = (2 : Int32)
  · replace h := (if_pos c_3_2).symm.trans h
    refine lv_lookup (tgt := 156) (off := 122) hx hb dX7_doArithmetic_34 (by decide) (by rw [c_3_2]; decide) (by decide) ?_
    refine lv_aload_n hx hb dX7_doArithmetic_156 rfl (lv_at hl 3 rfl) ?_
    refine x_get F hK hW xc_X7 (cd_dX7 hn) (cd_eX7 hN hn) 1 (by decide) k_2_90 (rfl) dX7_doArithmetic_157 ?_
    refine lv_iload_n hx hb dX7_doArithmetic_160 rfl (lv_at hl 2 rfl) ?_
    refine lv_iload_n hx hb dX7_doArithmetic_161 rfl (lv_at hl 1 rfl) ?_
    refine lv_iadd hx hb dX7_doArithmetic_162 ?_
    refine x_cVv (As := [.int (r_1 + r_2)]) F xG_ok hK hW hS um_X9_replaceTwo k_4_62 (fun _ h1 => m_c9_replaceTwo hN hI ⟨hn, Or.inl rfl⟩ _ h1) rfl (cd_dX9 ⟨hn, Or.inl rfl⟩) (cd_eX9 hN ⟨hn, Or.inl rfl⟩) rfl rfl hl.1 rfl rfl ⟨Nat.le_of_ble_eq_true rfl, Nat.le_of_ble_eq_true rfl⟩ ⟨Nat.zero_le _, Nat.zero_le _⟩ (Nat.le_of_ble_eq_true rfl) dX7_doArithmetic_163 h (fun S4 H locs hW hS h => ?_)
    refine lv_goto (tgt := 384) hx hb dX7_doArithmetic_166 (by decide) ?_
    refine lv_iconst (v := (1 : Int32)) hx hb dX7_doArithmetic_384 (by decide) ?_
    exact x_zret F hr hlk hW hS rfl dX7_doArithmetic_385 h
  replace h := (if_neg c_3_2).symm.trans h
  have hn_3_2 := x_swN (z := 2) c_3_2 x_sw0 rfl
  by_cases c_3_4 : a1 = (4 : Int32)
  · replace h := (if_pos c_3_4).symm.trans h
    refine lv_lookup (tgt := 169) (off := 135) hx hb dX7_doArithmetic_34 (by decide) (by rw [c_3_4]; decide) (by decide) ?_
    refine lv_aload_n hx hb dX7_doArithmetic_169 rfl (lv_at hl 3 rfl) ?_
    refine x_get F hK hW xc_X7 (cd_dX7 hn) (cd_eX7 hN hn) 1 (by decide) k_2_90 (rfl) dX7_doArithmetic_170 ?_
    refine lv_iload_n hx hb dX7_doArithmetic_173 rfl (lv_at hl 1 rfl) ?_
    refine lv_iload_n hx hb dX7_doArithmetic_174 rfl (lv_at hl 2 rfl) ?_
    refine lv_isub hx hb dX7_doArithmetic_175 ?_
    refine x_cVv (As := [.int (r_2 - r_1)]) F xG_ok hK hW hS um_X9_replaceTwo k_4_62 (fun _ h1 => m_c9_replaceTwo hN hI ⟨hn, Or.inl rfl⟩ _ h1) rfl (cd_dX9 ⟨hn, Or.inl rfl⟩) (cd_eX9 hN ⟨hn, Or.inl rfl⟩) rfl rfl hl.1 rfl rfl ⟨Nat.le_of_ble_eq_true rfl, Nat.le_of_ble_eq_true rfl⟩ ⟨Nat.zero_le _, Nat.zero_le _⟩ (Nat.le_of_ble_eq_true rfl) dX7_doArithmetic_176 h (fun S5 H locs hW hS h => ?_)
    refine lv_goto (tgt := 384) hx hb dX7_doArithmetic_179 (by decide) ?_
    refine lv_iconst (v := (1 : Int32)) hx hb dX7_doArithmetic_384 (by decide) ?_
    exact x_zret F hr hlk hW hS rfl dX7_doArithmetic_385 h
  replace h := (if_neg c_3_4).symm.trans h
  have hn_3_4 := x_swN (z := 4) c_3_4 hn_3_2 rfl
  by_cases c_3_5 : a1 = (5 : Int32)
  · replace h := (if_pos c_3_5).symm.trans h
    refine lv_lookup (tgt := 182) (off := 148) hx hb dX7_doArithmetic_34 (by decide) (by rw [c_3_5]; decide) (by decide) ?_
    refine lv_aload_n hx hb dX7_doArithmetic_182 rfl (lv_at hl 3 rfl) ?_
    refine x_get F hK hW xc_X7 (cd_dX7 hn) (cd_eX7 hN hn) 1 (by decide) k_2_90 (rfl) dX7_doArithmetic_183 ?_
    refine lv_aload_n hx hb dX7_doArithmetic_186 rfl (lv_at hl 3 rfl) ?_
    refine lv_iload_n hx hb dX7_doArithmetic_187 rfl (lv_at hl 1 rfl) ?_
    refine lv_iload_n hx hb dX7_doArithmetic_188 rfl (lv_at hl 2 rfl) ?_
    refine lv_iadd hx hb dX7_doArithmetic_189 ?_
    refine x_cVi (As := [.int (r_2 + r_1)]) F xG_ok hK hW hS um_X7_checked k_4_29 (fun _ h1 => m_c7_checked hN hI hn _ h1) rfl (cd_dX7 hn) (cd_eX7 hN hn) rfl rfl hl.1 rfl rfl ⟨Nat.le_of_ble_eq_true rfl, Nat.le_of_ble_eq_true rfl⟩ ⟨Nat.zero_le _, Nat.zero_le _⟩ (Nat.le_of_ble_eq_true rfl) dX7_doArithmetic_190 h (fun r_6 S6 H locs hW hS h => ?_)
    refine x_cVv (As := [.int r_6]) F xG_ok hK hW hS um_X9_replaceTwo k_4_62 (fun _ h1 => m_c9_replaceTwo hN hI ⟨hn, Or.inl rfl⟩ _ h1) rfl (cd_dX9 ⟨hn, Or.inl rfl⟩) (cd_eX9 hN ⟨hn, Or.inl rfl⟩) rfl rfl hl.1 rfl rfl ⟨Nat.le_of_ble_eq_true rfl, Nat.le_of_ble_eq_true rfl⟩ ⟨Nat.zero_le _, Nat.zero_le _⟩ (Nat.le_of_ble_eq_true rfl) dX7_doArithmetic_193 h (fun S7 H locs hW hS h => ?_)
    refine lv_goto (tgt := 384) hx hb dX7_doArithmetic_196 (by decide) ?_
    refine lv_iconst (v := (1 : Int32)) hx hb dX7_doArithmetic_384 (by decide) ?_
    exact x_zret F hr hlk hW hS rfl dX7_doArithmetic_385 h
  replace h := (if_neg c_3_5).symm.trans h
  have hn_3_5 := x_swN (z := 5) c_3_5 hn_3_4 rfl
  by_cases c_3_8 : a1 = (8 : Int32)
  · replace h := (if_pos c_3_8).symm.trans h
    refine lv_lookup (tgt := 199) (off := 165) hx hb dX7_doArithmetic_34 (by decide) (by rw [c_3_8]; decide) (by decide) ?_
    refine lv_aload_n hx hb dX7_doArithmetic_199 rfl (lv_at hl 3 rfl) ?_
    refine x_get F hK hW xc_X7 (cd_dX7 hn) (cd_eX7 hN hn) 1 (by decide) k_2_90 (rfl) dX7_doArithmetic_200 ?_
    refine lv_iload_n hx hb dX7_doArithmetic_203 rfl (lv_at hl 1 rfl) ?_
    refine lv_iload_n hx hb dX7_doArithmetic_204 rfl (lv_at hl 2 rfl) ?_
    refine lv_imul hx hb dX7_doArithmetic_205 ?_
    refine x_cVv (As := [.int (r_2 * r_1)]) F xG_ok hK hW hS um_X9_replaceTwo k_4_62 (fun _ h1 => m_c9_replaceTwo hN hI ⟨hn, Or.inl rfl⟩ _ h1) rfl (cd_dX9 ⟨hn, Or.inl rfl⟩) (cd_eX9 hN ⟨hn, Or.inl rfl⟩) rfl rfl hl.1 rfl rfl ⟨Nat.le_of_ble_eq_true rfl, Nat.le_of_ble_eq_true rfl⟩ ⟨Nat.zero_le _, Nat.zero_le _⟩ (Nat.le_of_ble_eq_true rfl) dX7_doArithmetic_206 h (fun S8 H locs hW hS h => ?_)
    refine lv_goto (tgt := 384) hx hb dX7_doArithmetic_209 (by decide) ?_
    refine lv_iconst (v := (1 : Int32)) hx hb dX7_doArithmetic_384 (by decide) ?_
    exact x_zret F hr hlk hW hS rfl dX7_doArithmetic_385 h
  replace h := (if_neg c_3_8).symm.trans h
  have hn_3_8 := x_swN (z := 8) c_3_8 hn_3_5 rfl
  by_cases c_3_9 : a1 = (9 : Int32)
  · replace h := (if_pos c_3_9).symm.trans h
    refine lv_lookup (tgt := 212) (off := 178) hx hb dX7_doArithmetic_34 (by decide) (by rw [c_3_9]; decide) (by decide) ?_
    refine lv_aload_n hx hb dX7_doArithmetic_212 rfl (lv_at hl 3 rfl) ?_
    refine x_get F hK hW xc_X7 (cd_dX7 hn) (cd_eX7 hN hn) 1 (by decide) k_2_90 (rfl) dX7_doArithmetic_213 ?_
    refine lv_iload_n hx hb dX7_doArithmetic_216 rfl (lv_at hl 1 rfl) ?_
    refine lv_iload_n hx hb dX7_doArithmetic_217 rfl (lv_at hl 2 rfl) ?_
    refine lv_icmp_le (tgt := 225) hx hb dX7_doArithmetic_218 (by decide) (fun c_9 => ?_) (fun c_9 => ?_)
    · replace h := (if_pos c_9).symm.trans h
      refine lv_iconst (v := (0 : Int32)) hx hb dX7_doArithmetic_225 (by decide) ?_
      refine x_cVv (As := [.int (0 : Int32)]) F xG_ok hK hW hS um_X9_replaceTwo k_4_62 (fun _ h1 => m_c9_replaceTwo hN hI ⟨hn, Or.inl rfl⟩ _ h1) rfl (cd_dX9 ⟨hn, Or.inl rfl⟩) (cd_eX9 hN ⟨hn, Or.inl rfl⟩) rfl rfl hl.1 rfl rfl ⟨Nat.le_of_ble_eq_true rfl, Nat.le_of_ble_eq_true rfl⟩ ⟨Nat.zero_le _, Nat.zero_le _⟩ (Nat.le_of_ble_eq_true rfl) dX7_doArithmetic_226 h (fun S10 H locs hW hS h => ?_)
      refine lv_goto (tgt := 384) hx hb dX7_doArithmetic_229 (by decide) ?_
      refine lv_iconst (v := (1 : Int32)) hx hb dX7_doArithmetic_384 (by decide) ?_
      exact x_zret F hr hlk hW hS rfl dX7_doArithmetic_385 h
    replace h := (if_neg c_9).symm.trans h
    refine lv_iconst (v := (1 : Int32)) hx hb dX7_doArithmetic_221 (by decide) ?_
    refine lv_goto (tgt := 226) hx hb dX7_doArithmetic_222 (by decide) ?_
    refine x_cVv (As := [.int (1 : Int32)]) F xG_ok hK hW hS um_X9_replaceTwo k_4_62 (fun _ h1 => m_c9_replaceTwo hN hI ⟨hn, Or.inl rfl⟩ _ h1) rfl (cd_dX9 ⟨hn, Or.inl rfl⟩) (cd_eX9 hN ⟨hn, Or.inl rfl⟩) rfl rfl hl.1 rfl rfl ⟨Nat.le_of_ble_eq_true rfl, Nat.le_of_ble_eq_true rfl⟩ ⟨Nat.zero_le _, Nat.zero_le _⟩ (Nat.le_of_ble_eq_true rfl) dX7_doArithmetic_226 h (fun S11 H locs hW hS h => ?_)
    refine lv_goto (tgt := 384) hx hb dX7_doArithmetic_229 (by decide) ?_
    refine lv_iconst (v := (1 : Int32)) hx hb dX7_doArithmetic_384 (by decide) ?_
    exact x_zret F hr hlk hW hS rfl dX7_doArithmetic_385 h
  replace h := (if_neg c_3_9).symm.trans h
  have hn_3_9 := x_swN (z := 9) c_3_9 hn_3_8 rfl
  by_cases c_3_10 : a1 = (10 : Int32)
  · replace h := (if_pos c_3_10).symm.trans h
    refine lv_lookup (tgt := 232) (off := 198) hx hb dX7_doArithmetic_34 (by decide) (by rw [c_3_10]; decide) (by decide) ?_
    refine lv_aload_n hx hb dX7_doArithmetic_232 rfl (lv_at hl 3 rfl) ?_
    refine x_get F hK hW xc_X7 (cd_dX7 hn) (cd_eX7 hN hn) 1 (by decide) k_2_90 (rfl) dX7_doArithmetic_233 ?_
    refine lv_iload_n hx hb dX7_doArithmetic_236 rfl (lv_at hl 2 rfl) ?_
    refine lv_iconst (v := (2 : Int32)) hx hb dX7_doArithmetic_237 (by decide) ?_
    refine lv_iload_n hx hb dX7_doArithmetic_238 rfl (lv_at hl 1 rfl) ?_
    refine lv_imul hx hb dX7_doArithmetic_239 ?_
    refine lv_iadd hx hb dX7_doArithmetic_240 ?_
    refine x_cVv (As := [.int (r_1 + ((2 : Int32) * r_2))]) F xG_ok hK hW hS um_X9_replaceTwo k_4_62 (fun _ h1 => m_c9_replaceTwo hN hI ⟨hn, Or.inl rfl⟩ _ h1) rfl (cd_dX9 ⟨hn, Or.inl rfl⟩) (cd_eX9 hN ⟨hn, Or.inl rfl⟩) rfl rfl hl.1 rfl rfl ⟨Nat.le_of_ble_eq_true rfl, Nat.le_of_ble_eq_true rfl⟩ ⟨Nat.zero_le _, Nat.zero_le _⟩ (Nat.le_of_ble_eq_true rfl) dX7_doArithmetic_241 h (fun S12 H locs hW hS h => ?_)
    refine lv_goto (tgt := 384) hx hb dX7_doArithmetic_244 (by decide) ?_
    refine lv_iconst (v := (1 : Int32)) hx hb dX7_doArithmetic_384 (by decide) ?_
    exact x_zret F hr hlk hW hS rfl dX7_doArithmetic_385 h
  replace h := (if_neg c_3_10).symm.trans h
  have hn_3_10 := x_swN (z := 10) c_3_10 hn_3_9 rfl
  by_cases c_3_12 : a1 = (12 : Int32)
  · replace h := (if_pos c_3_12).symm.trans h
    refine lv_lookup (tgt := 247) (off := 213) hx hb dX7_doArithmetic_34 (by decide) (by rw [c_3_12]; decide) (by decide) ?_
    refine lv_aload_n hx hb dX7_doArithmetic_247 rfl (lv_at hl 3 rfl) ?_
    refine x_get F hK hW xc_X7 (cd_dX7 hn) (cd_eX7 hN hn) 1 (by decide) k_2_90 (rfl) dX7_doArithmetic_248 ?_
    refine lv_aload_n hx hb dX7_doArithmetic_251 rfl (lv_at hl 3 rfl) ?_
    refine lv_iload_n hx hb dX7_doArithmetic_252 rfl (lv_at hl 1 rfl) ?_
    refine lv_iload_n hx hb dX7_doArithmetic_253 rfl (lv_at hl 2 rfl) ?_
    refine lv_isub hx hb dX7_doArithmetic_254 ?_
    refine x_cVi (As := [.int (r_2 - r_1)]) F xG_ok hK hW hS um_X7_checked k_4_29 (fun _ h1 => m_c7_checked hN hI hn _ h1) rfl (cd_dX7 hn) (cd_eX7 hN hn) rfl rfl hl.1 rfl rfl ⟨Nat.le_of_ble_eq_true rfl, Nat.le_of_ble_eq_true rfl⟩ ⟨Nat.zero_le _, Nat.zero_le _⟩ (Nat.le_of_ble_eq_true rfl) dX7_doArithmetic_255 h (fun r_13 S13 H locs hW hS h => ?_)
    refine x_cVv (As := [.int r_13]) F xG_ok hK hW hS um_X9_replaceTwo k_4_62 (fun _ h1 => m_c9_replaceTwo hN hI ⟨hn, Or.inl rfl⟩ _ h1) rfl (cd_dX9 ⟨hn, Or.inl rfl⟩) (cd_eX9 hN ⟨hn, Or.inl rfl⟩) rfl rfl hl.1 rfl rfl ⟨Nat.le_of_ble_eq_true rfl, Nat.le_of_ble_eq_true rfl⟩ ⟨Nat.zero_le _, Nat.zero_le _⟩ (Nat.le_of_ble_eq_true rfl) dX7_doArithmetic_258 h (fun S14 H locs hW hS h => ?_)
    refine lv_goto (tgt := 384) hx hb dX7_doArithmetic_261 (by decide) ?_
    refine lv_iconst (v := (1 : Int32)) hx hb dX7_doArithmetic_384 (by decide) ?_
    exact x_zret F hr hlk hW hS rfl dX7_doArithmetic_385 h
  replace h := (if_neg c_3_12).symm.trans h
  have hn_3_12 := x_swN (z := 12) c_3_12 hn_3_10 rfl
  by_cases c_3_22 : a1 = (22 : Int32)
  · replace h := (if_pos c_3_22).symm.trans h
    refine lv_lookup (tgt := 264) (off := 230) hx hb dX7_doArithmetic_34 (by decide) (by rw [c_3_22]; decide) (by decide) ?_
    refine lv_aload_n hx hb dX7_doArithmetic_264 rfl (lv_at hl 3 rfl) ?_
    refine x_get F hK hW xc_X7 (cd_dX7 hn) (cd_eX7 hN hn) 1 (by decide) k_2_90 (rfl) dX7_doArithmetic_265 ?_
    refine lv_aload_n hx hb dX7_doArithmetic_268 rfl (lv_at hl 3 rfl) ?_
    refine lv_iload_n hx hb dX7_doArithmetic_269 rfl (lv_at hl 1 rfl) ?_
    refine lv_iload_n hx hb dX7_doArithmetic_270 rfl (lv_at hl 2 rfl) ?_
    refine lv_iadd hx hb dX7_doArithmetic_271 ?_
    refine lv_iload hx hb dX7_doArithmetic_272 (lv_at hl 0 rfl) ?_
    refine lv_iadd hx hb dX7_doArithmetic_274 ?_
    refine x_cVi (As := [.int ((r_2 + r_1) + ((xI S n 4 2) &&& (1 : Int32)))]) F xG_ok hK hW hS um_X7_checked k_4_29 (fun _ h1 => m_c7_checked hN hI hn _ h1) rfl (cd_dX7 hn) (cd_eX7 hN hn) rfl rfl hl.1 rfl rfl ⟨Nat.le_of_ble_eq_true rfl, Nat.le_of_ble_eq_true rfl⟩ ⟨Nat.zero_le _, Nat.zero_le _⟩ (Nat.le_of_ble_eq_true rfl) dX7_doArithmetic_275 h (fun r_15 S15 H locs hW hS h => ?_)
    refine x_cVv (As := [.int r_15]) F xG_ok hK hW hS um_X9_replaceTwo k_4_62 (fun _ h1 => m_c9_replaceTwo hN hI ⟨hn, Or.inl rfl⟩ _ h1) rfl (cd_dX9 ⟨hn, Or.inl rfl⟩) (cd_eX9 hN ⟨hn, Or.inl rfl⟩) rfl rfl hl.1 rfl rfl ⟨Nat.le_of_ble_eq_true rfl, Nat.le_of_ble_eq_true rfl⟩ ⟨Nat.zero_le _, Nat.zero_le _⟩ (Nat.le_of_ble_eq_true rfl) dX7_doArithmetic_278 h (fun S16 H locs hW hS h => ?_)
    refine lv_goto (tgt := 384) hx hb dX7_doArithmetic_281 (by decide) ?_
    refine lv_iconst (v := (1 : Int32)) hx hb dX7_doArithmetic_384 (by decide) ?_
    exact x_zret F hr hlk hW hS rfl dX7_doArithmetic_385 h
  replace h := (if_neg c_3_22).symm.trans h
  have hn_3_22 := x_swN (z := 22) c_3_22 hn_3_12 rfl
  by_cases c_3_31 : a1 = (31 : Int32)
  · replace h := (if_pos c_3_31).symm.trans h
    refine lv_lookup (tgt := 284) (off := 250) hx hb dX7_doArithmetic_34 (by decide) (by rw [c_3_31]; decide) (by decide) ?_
    refine lv_aload_n hx hb dX7_doArithmetic_284 rfl (lv_at hl 3 rfl) ?_
    refine x_get F hK hW xc_X7 (cd_dX7 hn) (cd_eX7 hN hn) 1 (by decide) k_2_90 (rfl) dX7_doArithmetic_285 ?_
    refine lv_aload_n hx hb dX7_doArithmetic_288 rfl (lv_at hl 3 rfl) ?_
    refine lv_iload_n hx hb dX7_doArithmetic_289 rfl (lv_at hl 1 rfl) ?_
    refine lv_iload_n hx hb dX7_doArithmetic_290 rfl (lv_at hl 2 rfl) ?_
    refine x_cVi (As := [.int r_2, .int r_1]) F xG_ok hK hW hS um_X7_remainder k_4_66 (fun _ h1 => m_c7_remainder hN hI hn _ _ h1) rfl (cd_dX7 hn) (cd_eX7 hN hn) rfl rfl hl.1 rfl rfl ⟨Nat.le_of_ble_eq_true rfl, Nat.le_of_ble_eq_true rfl⟩ ⟨Nat.zero_le _, Nat.zero_le _⟩ (Nat.le_of_ble_eq_true rfl) dX7_doArithmetic_291 h (fun r_17 S17 H locs hW hS h => ?_)
    refine x_cVv (As := [.int r_17]) F xG_ok hK hW hS um_X9_replaceTwo k_4_62 (fun _ h1 => m_c9_replaceTwo hN hI ⟨hn, Or.inl rfl⟩ _ h1) rfl (cd_dX9 ⟨hn, Or.inl rfl⟩) (cd_eX9 hN ⟨hn, Or.inl rfl⟩) rfl rfl hl.1 rfl rfl ⟨Nat.le_of_ble_eq_true rfl, Nat.le_of_ble_eq_true rfl⟩ ⟨Nat.zero_le _, Nat.zero_le _⟩ (Nat.le_of_ble_eq_true rfl) dX7_doArithmetic_294 h (fun S18 H locs hW hS h => ?_)
    refine lv_goto (tgt := 384) hx hb dX7_doArithmetic_297 (by decide) ?_
    refine lv_iconst (v := (1 : Int32)) hx hb dX7_doArithmetic_384 (by decide) ?_
    exact x_zret F hr hlk hW hS rfl dX7_doArithmetic_385 h
  replace h := (if_neg c_3_31).symm.trans h
  have hn_3_31 := x_swN (z := 31) c_3_31 hn_3_22 rfl
  by_cases c_3_44 : a1 = (44 : Int32)
  · replace h := (if_pos c_3_44).symm.trans h
    refine lv_lookup (tgt := 300) (off := 266) hx hb dX7_doArithmetic_34 (by decide) (by rw [c_3_44]; decide) (by decide) ?_
    refine lv_aload_n hx hb dX7_doArithmetic_300 rfl (lv_at hl 3 rfl) ?_
    refine x_get F hK hW xc_X7 (cd_dX7 hn) (cd_eX7 hN hn) 1 (by decide) k_2_90 (rfl) dX7_doArithmetic_301 ?_
    refine lv_aload_n hx hb dX7_doArithmetic_304 rfl (lv_at hl 3 rfl) ?_
    refine lv_iload_n hx hb dX7_doArithmetic_305 rfl (lv_at hl 1 rfl) ?_
    refine lv_iload_n hx hb dX7_doArithmetic_306 rfl (lv_at hl 2 rfl) ?_
    refine x_cVi (As := [.int r_2, .int r_1]) F xG_ok hK hW hS um_X7_quotient k_4_70 (fun _ h1 => m_c7_quotient hN hI hn _ _ h1) rfl (cd_dX7 hn) (cd_eX7 hN hn) rfl rfl hl.1 rfl rfl ⟨Nat.le_of_ble_eq_true rfl, Nat.le_of_ble_eq_true rfl⟩ ⟨Nat.zero_le _, Nat.zero_le _⟩ (Nat.le_of_ble_eq_true rfl) dX7_doArithmetic_307 h (fun r_19 S19 H locs hW hS h => ?_)
    refine x_cVv (As := [.int r_19]) F xG_ok hK hW hS um_X9_replaceTwo k_4_62 (fun _ h1 => m_c9_replaceTwo hN hI ⟨hn, Or.inl rfl⟩ _ h1) rfl (cd_dX9 ⟨hn, Or.inl rfl⟩) (cd_eX9 hN ⟨hn, Or.inl rfl⟩) rfl rfl hl.1 rfl rfl ⟨Nat.le_of_ble_eq_true rfl, Nat.le_of_ble_eq_true rfl⟩ ⟨Nat.zero_le _, Nat.zero_le _⟩ (Nat.le_of_ble_eq_true rfl) dX7_doArithmetic_310 h (fun S20 H locs hW hS h => ?_)
    refine lv_goto (tgt := 384) hx hb dX7_doArithmetic_313 (by decide) ?_
    refine lv_iconst (v := (1 : Int32)) hx hb dX7_doArithmetic_384 (by decide) ?_
    exact x_zret F hr hlk hW hS rfl dX7_doArithmetic_385 h
  replace h := (if_neg c_3_44).symm.trans h
  have hn_3_44 := x_swN (z := 44) c_3_44 hn_3_31 rfl
  by_cases c_3_52 : a1 = (52 : Int32)
  · replace h := (if_pos c_3_52).symm.trans h
    refine lv_lookup (tgt := 316) (off := 282) hx hb dX7_doArithmetic_34 (by decide) (by rw [c_3_52]; decide) (by decide) ?_
    refine lv_aload_n hx hb dX7_doArithmetic_316 rfl (lv_at hl 3 rfl) ?_
    refine x_get F hK hW xc_X7 (cd_dX7 hn) (cd_eX7 hN hn) 1 (by decide) k_2_90 (rfl) dX7_doArithmetic_317 ?_
    refine lv_iconst (v := (2 : Int32)) hx hb dX7_doArithmetic_320 (by decide) ?_
    refine lv_iload_n hx hb dX7_doArithmetic_321 rfl (lv_at hl 2 rfl) ?_
    refine lv_imul hx hb dX7_doArithmetic_322 ?_
    refine lv_ldc (v := (65535 : Int32)) hx hb F.2.2.2.1 (x_hts F _ k_4_18) dX7_doArithmetic_323 ?_
    refine lv_iand hx hb dX7_doArithmetic_325 ?_
    refine x_putN F hK hI hW hS xc_X9 (cd_dX9 ⟨hn, Or.inl rfl⟩) (cd_eX9 hN ⟨hn, Or.inl rfl⟩) 0 (by decide) kn_2 rfl (v := (((2 : Int32) * r_1) &&& (65535 : Int32))) rfl rfl (fun _ _ => rfl) (fun _ _ => Nat.le_of_ble_eq_true rfl) dX7_doArithmetic_326 h (fun S21 H locs hW hS h => ?_)
    refine lv_goto (tgt := 384) hx hb dX7_doArithmetic_329 (by decide) ?_
    refine lv_iconst (v := (1 : Int32)) hx hb dX7_doArithmetic_384 (by decide) ?_
    exact x_zret F hr hlk hW hS rfl dX7_doArithmetic_385 h
  replace h := (if_neg c_3_52).symm.trans h
  have hn_3_52 := x_swN (z := 52) c_3_52 hn_3_44 rfl
  by_cases c_3_56 : a1 = (56 : Int32)
  · replace h := (if_pos c_3_56).symm.trans h
    refine lv_lookup (tgt := 332) (off := 298) hx hb dX7_doArithmetic_34 (by decide) (by rw [c_3_56]; decide) (by decide) ?_
    refine lv_aload_n hx hb dX7_doArithmetic_332 rfl (lv_at hl 3 rfl) ?_
    refine x_get F hK hW xc_X7 (cd_dX7 hn) (cd_eX7 hN hn) 1 (by decide) k_2_90 (rfl) dX7_doArithmetic_333 ?_
    refine lv_aload_n hx hb dX7_doArithmetic_336 rfl (lv_at hl 3 rfl) ?_
    refine lv_iload_n hx hb dX7_doArithmetic_337 rfl (lv_at hl 1 rfl) ?_
    refine lv_iload_n hx hb dX7_doArithmetic_338 rfl (lv_at hl 2 rfl) ?_
    refine lv_isub hx hb dX7_doArithmetic_339 ?_
    refine lv_iload hx hb dX7_doArithmetic_340 (lv_at hl 0 rfl) ?_
    refine lv_isub hx hb dX7_doArithmetic_342 ?_
    refine x_cVi (As := [.int ((r_2 - r_1) - ((xI S n 4 2) &&& (1 : Int32)))]) F xG_ok hK hW hS um_X7_checked k_4_29 (fun _ h1 => m_c7_checked hN hI hn _ h1) rfl (cd_dX7 hn) (cd_eX7 hN hn) rfl rfl hl.1 rfl rfl ⟨Nat.le_of_ble_eq_true rfl, Nat.le_of_ble_eq_true rfl⟩ ⟨Nat.zero_le _, Nat.zero_le _⟩ (Nat.le_of_ble_eq_true rfl) dX7_doArithmetic_343 h (fun r_22 S22 H locs hW hS h => ?_)
    refine x_cVv (As := [.int r_22]) F xG_ok hK hW hS um_X9_replaceTwo k_4_62 (fun _ h1 => m_c9_replaceTwo hN hI ⟨hn, Or.inl rfl⟩ _ h1) rfl (cd_dX9 ⟨hn, Or.inl rfl⟩) (cd_eX9 hN ⟨hn, Or.inl rfl⟩) rfl rfl hl.1 rfl rfl ⟨Nat.le_of_ble_eq_true rfl, Nat.le_of_ble_eq_true rfl⟩ ⟨Nat.zero_le _, Nat.zero_le _⟩ (Nat.le_of_ble_eq_true rfl) dX7_doArithmetic_346 h (fun S23 H locs hW hS h => ?_)
    refine lv_goto (tgt := 384) hx hb dX7_doArithmetic_349 (by decide) ?_
    refine lv_iconst (v := (1 : Int32)) hx hb dX7_doArithmetic_384 (by decide) ?_
    exact x_zret F hr hlk hW hS rfl dX7_doArithmetic_385 h
  replace h := (if_neg c_3_56).symm.trans h
  have hn_3_56 := x_swN (z := 56) c_3_56 hn_3_52 rfl
  by_cases c_3_82 : a1 = (82 : Int32)
  · replace h := (if_pos c_3_82).symm.trans h
    refine lv_lookup (tgt := 352) (off := 318) hx hb dX7_doArithmetic_34 (by decide) (by rw [c_3_82]; decide) (by decide) ?_
    refine lv_aload_n hx hb dX7_doArithmetic_352 rfl (lv_at hl 3 rfl) ?_
    refine x_get F hK hW xc_X7 (cd_dX7 hn) (cd_eX7 hN hn) 1 (by decide) k_2_90 (rfl) dX7_doArithmetic_353 ?_
    refine lv_iload_n hx hb dX7_doArithmetic_356 rfl (lv_at hl 2 rfl) ?_
    refine lv_iload_n hx hb dX7_doArithmetic_357 rfl (lv_at hl 1 rfl) ?_
    refine lv_iadd hx hb dX7_doArithmetic_358 ?_
    refine x_cVv (As := [.int (r_1 + r_2)]) F xG_ok hK hW hS um_X9_replaceTwo k_4_62 (fun _ h1 => m_c9_replaceTwo hN hI ⟨hn, Or.inl rfl⟩ _ h1) rfl (cd_dX9 ⟨hn, Or.inl rfl⟩) (cd_eX9 hN ⟨hn, Or.inl rfl⟩) rfl rfl hl.1 rfl rfl ⟨Nat.le_of_ble_eq_true rfl, Nat.le_of_ble_eq_true rfl⟩ ⟨Nat.zero_le _, Nat.zero_le _⟩ (Nat.le_of_ble_eq_true rfl) dX7_doArithmetic_359 h (fun S24 H locs hW hS h => ?_)
    refine lv_goto (tgt := 384) hx hb dX7_doArithmetic_362 (by decide) ?_
    refine lv_iconst (v := (1 : Int32)) hx hb dX7_doArithmetic_384 (by decide) ?_
    exact x_zret F hr hlk hW hS rfl dX7_doArithmetic_385 h
  replace h := (if_neg c_3_82).symm.trans h
  have hn_3_82 := x_swN (z := 82) c_3_82 hn_3_56 rfl
  by_cases c_3_83 : a1 = (83 : Int32)
  · replace h := (if_pos c_3_83).symm.trans h
    refine lv_lookup (tgt := 365) (off := 331) hx hb dX7_doArithmetic_34 (by decide) (by rw [c_3_83]; decide) (by decide) ?_
    refine lv_aload_n hx hb dX7_doArithmetic_365 rfl (lv_at hl 3 rfl) ?_
    refine x_get F hK hW xc_X7 (cd_dX7 hn) (cd_eX7 hN hn) 1 (by decide) k_2_90 (rfl) dX7_doArithmetic_366 ?_
    refine lv_aload_n hx hb dX7_doArithmetic_369 rfl (lv_at hl 3 rfl) ?_
    refine lv_iload_n hx hb dX7_doArithmetic_370 rfl (lv_at hl 1 rfl) ?_
    refine lv_iload_n hx hb dX7_doArithmetic_371 rfl (lv_at hl 2 rfl) ?_
    refine lv_imul hx hb dX7_doArithmetic_372 ?_
    refine x_cVi (As := [.int (r_2 * r_1)]) F xG_ok hK hW hS um_X7_checked k_4_29 (fun _ h1 => m_c7_checked hN hI hn _ h1) rfl (cd_dX7 hn) (cd_eX7 hN hn) rfl rfl hl.1 rfl rfl ⟨Nat.le_of_ble_eq_true rfl, Nat.le_of_ble_eq_true rfl⟩ ⟨Nat.zero_le _, Nat.zero_le _⟩ (Nat.le_of_ble_eq_true rfl) dX7_doArithmetic_373 h (fun r_25 S25 H locs hW hS h => ?_)
    refine x_cVv (As := [.int r_25]) F xG_ok hK hW hS um_X9_replaceTwo k_4_62 (fun _ h1 => m_c9_replaceTwo hN hI ⟨hn, Or.inl rfl⟩ _ h1) rfl (cd_dX9 ⟨hn, Or.inl rfl⟩) (cd_eX9 hN ⟨hn, Or.inl rfl⟩) rfl rfl hl.1 rfl rfl ⟨Nat.le_of_ble_eq_true rfl, Nat.le_of_ble_eq_true rfl⟩ ⟨Nat.zero_le _, Nat.zero_le _⟩ (Nat.le_of_ble_eq_true rfl) dX7_doArithmetic_376 h (fun S26 H locs hW hS h => ?_)
    refine lv_goto (tgt := 384) hx hb dX7_doArithmetic_379 (by decide) ?_
    refine lv_iconst (v := (1 : Int32)) hx hb dX7_doArithmetic_384 (by decide) ?_
    exact x_zret F hr hlk hW hS rfl dX7_doArithmetic_385 h
  replace h := (if_neg c_3_83).symm.trans h
  have hn_3_83 := x_swN (z := 83) c_3_83 hn_3_82 rfl
  refine x_lkpD (tgt := 382) hx hb dX7_doArithmetic_34 hn_3_83 (by decide) (by decide) (by decide) ?_
  refine lv_iconst (v := (0 : Int32)) hx hb dX7_doArithmetic_382 (by decide) ?_
  exact x_zret F hr hlk hW hS rfl dX7_doArithmetic_383 h
