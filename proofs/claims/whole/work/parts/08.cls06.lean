/-! X7_exchangeWithW -/
def c7_exchangeWithW (n : Nat) (S : xS)  : Option (xS) := xnm (sI S n 4 0 (xI S n 4 5)) (fun S1 => (c9_setWorkspace n 4 S1 (xI S n 4 0)).bind (fun S2 => some S2))
set_option maxHeartbeats 4000000 in
set_option maxRecDepth 100000 in
theorem m_c7_exchangeWithW {l : Launch} {D : va_G} {cI cJ cL cN : ClassId} {ad : Nat → Nat → Nat} {N : Nat} (hN : N ≤ 8) (hI : xInj (cDom N) ad) {n : Nat} (hn : n < N) {S : xS}  {o : xS} (h : c7_exchangeWithW n S  = some o) : Met l yX7_exchangeWithW (Cond.code yX7_exchangeWithW cX7_exchangeWithW 2 none :: xG) { frames := 1, cells := 0, slots := 0, locals := 21 } (xPc D vwCl (cTy cI cJ cL cN) cNf cNm (cDom N) ad (cDe ad N cI cJ cL cN) [.ref (ad n 20)] S) (xQ D vwCl (cDom N) ad (cDe ad N cI cJ cL cN) none o) 0 0 (xA (cDom N) ad) := by
  unfold c7_exchangeWithW at h
  refine x_enter (by decide) (Nat.le_of_ble_eq_true rfl) (fun p e s m below meth c F hr hlk hK hW hS ls hl => ?_)
  have hl : lv_has ls 2 [(0, .ref (ad n 20))] := hl
  have hx := F.1
  have hb := F.2.1
  refine lv_aload_n hx hb dX7_exchangeWithW_0 rfl (lv_at hl 0 rfl) ?_
  refine x_get F hK hW xc_X7 (cd_dX7 hn) (cd_eX7 hN hn) 1 (by decide) k_2_90 (rfl) dX7_exchangeWithW_1 ?_
  refine x_getN F hK hW xc_X9 (cd_dX9 ⟨hn, Or.inl rfl⟩) (cd_eX9 hN ⟨hn, Or.inl rfl⟩) 0 (by decide) kn_2 (rfl) dX7_exchangeWithW_4 ?_
  refine lv_istore_n (lv' := [(1, .int (xI S n 4 0)), (0, .ref (ad n 20))]) hx hb dX7_exchangeWithW_7 rfl hl (by decide) rfl (fun ls hl => ?_)
  refine lv_aload_n hx hb dX7_exchangeWithW_8 rfl (lv_at hl 1 rfl) ?_
  refine x_get F hK hW xc_X7 (cd_dX7 hn) (cd_eX7 hN hn) 1 (by decide) k_2_90 (rfl) dX7_exchangeWithW_9 ?_
  refine lv_aload_n hx hb dX7_exchangeWithW_12 rfl (lv_at hl 1 rfl) ?_
  refine x_get F hK hW xc_X7 (cd_dX7 hn) (cd_eX7 hN hn) 1 (by decide) k_2_90 (rfl) dX7_exchangeWithW_13 ?_
  refine x_getN F hK hW xc_X9 (cd_dX9 ⟨hn, Or.inl rfl⟩) (cd_eX9 hN ⟨hn, Or.inl rfl⟩) 5 (by decide) kn_15 (rfl) dX7_exchangeWithW_16 ?_
  refine x_putN F hK hI hW hS xc_X9 (cd_dX9 ⟨hn, Or.inl rfl⟩) (cd_eX9 hN ⟨hn, Or.inl rfl⟩) 0 (by decide) kn_2 rfl (v := (xI S n 4 5)) rfl rfl (fun _ _ => rfl) (fun _ _ => Nat.le_of_ble_eq_true rfl) dX7_exchangeWithW_19 h (fun S1 H locs hW hS h => ?_)
  refine lv_aload_n hx hb dX7_exchangeWithW_22 rfl (lv_at hl 1 rfl) ?_
  refine x_get F hK hW xc_X7 (cd_dX7 hn) (cd_eX7 hN hn) 1 (by decide) k_2_90 (rfl) dX7_exchangeWithW_23 ?_
  refine lv_iload_n hx hb dX7_exchangeWithW_26 rfl (lv_at hl 0 rfl) ?_
  refine x_cVv (As := [.int (xI S n 4 0)]) F xG_ok hK hW hS um_X9_setWorkspace k_4_37 (fun _ h1 => m_c9_setWorkspace hN hI ⟨hn, Or.inl rfl⟩ _ h1) rfl (cd_dX9 ⟨hn, Or.inl rfl⟩) (cd_eX9 hN ⟨hn, Or.inl rfl⟩) rfl rfl hl.1 rfl rfl ⟨Nat.le_of_ble_eq_true rfl, Nat.le_of_ble_eq_true rfl⟩ ⟨Nat.zero_le _, Nat.zero_le _⟩ (Nat.le_of_ble_eq_true rfl) dX7_exchangeWithW_27 h (fun S2 H locs hW hS h => ?_)
  exact x_vret F hr hlk hW hS dX7_exchangeWithW_30 h
/-! X7_moveBytes -/
def c7_moveBytes (n : Nat) (S : xS)  : Option (xS) := if (xI S n 4 0) ≤ (4096 : Int32) then ((c1_copyBytes n S (xI S n 4 2) (xI S n 4 1) (xI S n 4 0)).bind (fun S2 => (c9_popAll n 4 S2 ).bind (fun S3 => some S3))) else ((c1_stopWith n S (5 : Int32)).bind (fun S4 => some S4))
set_option maxHeartbeats 4000000 in
set_option maxRecDepth 100000 in
theorem m_c7_moveBytes {l : Launch} {D : va_G} {cI cJ cL cN : ClassId} {ad : Nat → Nat → Nat} {N : Nat} (hN : N ≤ 8) (hI : xInj (cDom N) ad) {n : Nat} (hn : n < N) {S : xS}  {o : xS} (h : c7_moveBytes n S  = some o) : Met l yX7_moveBytes (Cond.code yX7_moveBytes cX7_moveBytes 1 none :: xG) { frames := 3, cells := 0, slots := 0, locals := 73 } (xPc D vwCl (cTy cI cJ cL cN) cNf cNm (cDom N) ad (cDe ad N cI cJ cL cN) [.ref (ad n 20)] S) (xQ D vwCl (cDom N) ad (cDe ad N cI cJ cL cN) none o) 0 0 (xA (cDom N) ad) := by
  unfold c7_moveBytes at h
  refine x_enter (by decide) (Nat.le_of_ble_eq_true rfl) (fun p e s m below meth c F hr hlk hK hW hS ls hl => ?_)
  have hl : lv_has ls 1 [(0, .ref (ad n 20))] := hl
  have hx := F.1
  have hb := F.2.1
  refine lv_aload_n hx hb dX7_moveBytes_0 rfl (lv_at hl 0 rfl) ?_
  refine x_get F hK hW xc_X7 (cd_dX7 hn) (cd_eX7 hN hn) 1 (by decide) k_2_90 (rfl) dX7_moveBytes_1 ?_
  refine x_getN F hK hW xc_X9 (cd_dX9 ⟨hn, Or.inl rfl⟩) (cd_eX9 hN ⟨hn, Or.inl rfl⟩) 0 (by decide) kn_2 (rfl) dX7_moveBytes_4 ?_
  refine lv_sipush (v := (4096 : Int32)) hx hb dX7_moveBytes_7 (by decide) ?_
  refine lv_icmp_le (tgt := 22) hx hb dX7_moveBytes_10 (by decide) (fun c_1 => ?_) (fun c_1 => ?_)
  · replace h := (if_pos c_1).symm.trans h
    refine lv_aload_n hx hb dX7_moveBytes_22 rfl (lv_at hl 0 rfl) ?_
    refine x_get F hK hW xc_X7 (cd_dX7 hn) (cd_eX7 hN hn) 0 (by decide) k_2_89 (rfl) dX7_moveBytes_23 ?_
    refine lv_aload_n hx hb dX7_moveBytes_26 rfl (lv_at hl 0 rfl) ?_
    refine x_get F hK hW xc_X7 (cd_dX7 hn) (cd_eX7 hN hn) 1 (by decide) k_2_90 (rfl) dX7_moveBytes_27 ?_
    refine x_getN F hK hW xc_X9 (cd_dX9 ⟨hn, Or.inl rfl⟩) (cd_eX9 hN ⟨hn, Or.inl rfl⟩) 2 (by decide) kn_8 (rfl) dX7_moveBytes_30 ?_
    refine lv_aload_n hx hb dX7_moveBytes_33 rfl (lv_at hl 0 rfl) ?_
    refine x_get F hK hW xc_X7 (cd_dX7 hn) (cd_eX7 hN hn) 1 (by decide) k_2_90 (rfl) dX7_moveBytes_34 ?_
    refine x_getN F hK hW xc_X9 (cd_dX9 ⟨hn, Or.inl rfl⟩) (cd_eX9 hN ⟨hn, Or.inl rfl⟩) 1 (by decide) kn_5 (rfl) dX7_moveBytes_37 ?_
    refine lv_aload_n hx hb dX7_moveBytes_40 rfl (lv_at hl 0 rfl) ?_
    refine x_get F hK hW xc_X7 (cd_dX7 hn) (cd_eX7 hN hn) 1 (by decide) k_2_90 (rfl) dX7_moveBytes_41 ?_
    refine x_getN F hK hW xc_X9 (cd_dX9 ⟨hn, Or.inl rfl⟩) (cd_eX9 hN ⟨hn, Or.inl rfl⟩) 0 (by decide) kn_2 (rfl) dX7_moveBytes_44 ?_
    refine x_cVv (As := [.int (xI S n 4 2), .int (xI S n 4 1), .int (xI S n 4 0)]) F xG_ok hK hW hS um_X1_copyBytes k_4_145 (fun _ h1 => m_c1_copyBytes hN hI hn _ _ _ h1) rfl (cd_dX1 hn) (cd_eX1 hN hn) rfl rfl hl.1 rfl rfl ⟨Nat.le_of_ble_eq_true rfl, Nat.le_of_ble_eq_true rfl⟩ ⟨Nat.zero_le _, Nat.zero_le _⟩ (Nat.le_of_ble_eq_true rfl) dX7_moveBytes_47 h (fun S2 H locs hW hS h => ?_)
    refine lv_aload_n hx hb dX7_moveBytes_50 rfl (lv_at hl 0 rfl) ?_
    refine x_get F hK hW xc_X7 (cd_dX7 hn) (cd_eX7 hN hn) 1 (by decide) k_2_90 (rfl) dX7_moveBytes_51 ?_
    refine x_cVv (As := []) F xG_ok hK hW hS um_X9_popAll k_4_50 (fun _ h1 => m_c9_popAll hN hI ⟨hn, Or.inl rfl⟩  h1) rfl (cd_dX9 ⟨hn, Or.inl rfl⟩) (cd_eX9 hN ⟨hn, Or.inl rfl⟩) rfl rfl hl.1 rfl rfl ⟨Nat.le_of_ble_eq_true rfl, Nat.le_of_ble_eq_true rfl⟩ ⟨Nat.zero_le _, Nat.zero_le _⟩ (Nat.le_of_ble_eq_true rfl) dX7_moveBytes_54 h (fun S3 H locs hW hS h => ?_)
    exact x_vret F hr hlk hW hS dX7_moveBytes_57 h
  replace h := (if_neg c_1).symm.trans h
  refine lv_aload_n hx hb dX7_moveBytes_13 rfl (lv_at hl 0 rfl) ?_
  refine x_get F hK hW xc_X7 (cd_dX7 hn) (cd_eX7 hN hn) 0 (by decide) k_2_89 (rfl) dX7_moveBytes_14 ?_
  refine lv_iconst (v := (5 : Int32)) hx hb dX7_moveBytes_17 (by decide) ?_
  refine x_cVv (As := [.int (5 : Int32)]) F xG_ok hK hW hS um_X1_stopWith k_4_144 (fun _ h1 => m_c1_stopWith hN hI hn _ h1) rfl (cd_dX1 hn) (cd_eX1 hN hn) rfl rfl hl.1 rfl rfl ⟨Nat.le_of_ble_eq_true rfl, Nat.le_of_ble_eq_true rfl⟩ ⟨Nat.zero_le _, Nat.zero_le _⟩ (Nat.le_of_ble_eq_true rfl) dX7_moveBytes_18 h (fun S4 H locs hW hS h => ?_)
  exact x_vret F hr hlk hW hS dX7_moveBytes_21 h
/-! X10_setClocks -/
def c10_setClocks (n : Nat) (S : xS) (a1 : Int32) : Option (xS) := xnm (sI S n 8 3 a1) (fun S1 => xnm (sI S1 n 8 4 a1) (fun S2 => some S2))
set_option maxHeartbeats 4000000 in
set_option maxRecDepth 100000 in
theorem m_c10_setClocks {l : Launch} {D : va_G} {cI cJ cL cN : ClassId} {ad : Nat → Nat → Nat} {N : Nat} (hN : N ≤ 8) (hI : xInj (cDom N) ad) {n : Nat} (hn : n < N) {S : xS} (a1 : Int32) {o : xS} (h : c10_setClocks n S a1 = some o) : Met l yX10_setClocks (Cond.code yX10_setClocks cX10_setClocks 2 none :: xG) { frames := 0, cells := 0, slots := 0, locals := 0 } (xPc D vwCl (cTy cI cJ cL cN) cNf cNm (cDom N) ad (cDe ad N cI cJ cL cN) [.ref (ad n 8), .int a1] S) (xQ D vwCl (cDom N) ad (cDe ad N cI cJ cL cN) none o) 0 0 (xA (cDom N) ad) := by
  unfold c10_setClocks at h
  refine x_enter (by decide) (Nat.le_of_ble_eq_true rfl) (fun p e s m below meth c F hr hlk hK hW hS ls hl => ?_)
  have hl : lv_has ls 2 [(0, .ref (ad n 8)), (1, .int a1)] := hl
  have hx := F.1
  have hb := F.2.1
  refine lv_aload_n hx hb dX10_setClocks_0 rfl (lv_at hl 0 rfl) ?_
  refine lv_iload_n hx hb dX10_setClocks_1 rfl (lv_at hl 1 rfl) ?_
  refine x_put F hK hI hW hS xc_X10 (cd_dX10 hn) (cd_eX10 hN hn) 3 (by decide) k_1_134 rfl (v := a1) rfl rfl (fun _ _ => rfl) (fun _ _ => Nat.le_of_ble_eq_true rfl) dX10_setClocks_2 h (fun S1 H locs hW hS h => ?_)
  refine lv_aload_n hx hb dX10_setClocks_5 rfl (lv_at hl 0 rfl) ?_
  refine lv_iload_n hx hb dX10_setClocks_6 rfl (lv_at hl 1 rfl) ?_
  refine x_put F hK hI hW hS xc_X10 (cd_dX10 hn) (cd_eX10 hN hn) 4 (by decide) k_1_135 rfl (v := a1) rfl rfl (fun _ _ => rfl) (fun _ _ => Nat.le_of_ble_eq_true rfl) dX10_setClocks_7 h (fun S2 H locs hW hS h => ?_)
  exact x_vret F hr hlk hW hS dX10_setClocks_10 h
/-! X7_doMoves -/
def c7_doMoves (n : Nat) (S : xS) (a1 : Int32) : Option (Int32 × xS) := if a1 = (0 : Int32) then ((c9_setStack n 4 S (xI S n 4 1) (xI S n 4 0) (xI S n 4 2)).bind (fun S2 => some ((1 : Int32), S2))) else (if a1 = (1 : Int32) then ((c5_byteAt n 2 S (xI S n 4 0)).bind (fun (r_3, S3) => xnm (sI S3 n 4 0 r_3) (fun S4 => some ((1 : Int32), S4)))) else (if a1 = (6 : Int32) then ((c7_exchangeWithI n S ).bind (fun S5 => some ((1 : Int32), S5))) else (if a1 = (27 : Int32) then (xnm (sI S n 4 0 (((xI S n 4 0) + (xI S n 4 4)) &&& (65535 : Int32))) (fun S6 => some ((1 : Int32), S6))) else (if a1 = (30 : Int32) then ((c9_push n 4 S (xI S n 4 6)).bind (fun S7 => some ((1 : Int32), S7))) else (if a1 = (32 : Int32) then ((c1_local n S (0 : Int32)).bind (fun (r_8, S8) => xnm (sI S8 n 4 4 r_8) (fun S9 => (c9_setWorkspace n 4 S9 ((xI S9 n 4 5) + (8 : Int32))).bind (fun S10 => some ((1 : Int32), S10))))) else (if a1 = (33 : Int32) then ((c7_endLoop n S ).bind (fun S11 => some ((1 : Int32), S11))) else (if a1 = (34 : Int32) then ((c1_clock n S ).bind (fun (r_12, S12) => (c9_push n 4 S12 r_12).bind (fun S13 => some ((1 : Int32), S13)))) else (if a1 = (59 : Int32) then ((c5_setByte n 2 S (xI S n 4 0) (xI S n 4 1)).bind (fun S14 => (c9_popAll n 4 S14 ).bind (fun S15 => some ((1 : Int32), S15)))) else (if a1 = (60 : Int32) then ((c7_exchangeWithW n S ).bind (fun S16 => some ((1 : Int32), S16))) else (if a1 = (66 : Int32) then ((c9_push n 4 S (32768 : Int32)).bind (fun S17 => some ((1 : Int32), S17))) else (if a1 = (74 : Int32) then ((c7_moveBytes n S ).bind (fun S18 => some ((1 : Int32), S18))) else (if a1 = (84 : Int32) then ((c10_setClocks n S (xI S n 4 0)).bind (fun S19 => (c9_pop n 4 S19 ).bind (fun S20 => some ((1 : Int32), S20)))) else (if a1 = (90 : Int32) then ((c9_push n 4 S (xI S n 4 0)).bind (fun S21 => some ((1 : Int32), S21))) else (some ((0 : Int32), S)))))))))))))))
set_option maxHeartbeats 4000000 in
set_option maxRecDepth 100000 in
theorem m_c7_doMoves {l : Launch} {D : va_G} {cI cJ cL cN : ClassId} {ad : Nat → Nat → Nat} {N : Nat} (hN : N ≤ 8) (hI : xInj (cDom N) ad) {n : Nat} (hn : n < N) {S : xS} (a1 : Int32) {o : Int32 × xS} (h : c7_doMoves n S a1 = some o) : Met l yX7_doMoves (Cond.code yX7_doMoves cX7_doMoves 2 (some .boolean) :: xG) { frames := 4, cells := 0, slots := 0, locals := 93 } (xPc D vwCl (cTy cI cJ cL cN) cNf cNm (cDom N) ad (cDe ad N cI cJ cL cN) [.ref (ad n 20), .int a1] S) (xQ D vwCl (cDom N) ad (cDe ad N cI cJ cL cN) (some (.int o.1)) o.2) 0 0 (xA (cDom N) ad) := by
  unfold c7_doMoves at h
  refine x_enter (by decide) (Nat.le_of_ble_eq_true rfl) (fun p e s m below meth c F hr hlk hK hW hS ls hl => ?_)
  have hl : lv_has ls 2 [(0, .ref (ad n 20)), (1, .int a1)] := hl
  have hx := F.1
  have hb := F.2.1
  refine lv_iload_n hx hb dX7_doMoves_0 rfl (lv_at hl 1 rfl) ?_
  by_cases c_1_0 : a1 = (0 : Int32)
  · replace h := (if_pos c_1_0).symm.trans h
    refine lv_lookup (tgt := 124) (off := 123) hx hb dX7_doMoves_1 (by decide) (by rw [c_1_0]; decide) (by decide) ?_
    refine lv_aload_n hx hb dX7_doMoves_124 rfl (lv_at hl 0 rfl) ?_
    refine x_get F hK hW xc_X7 (cd_dX7 hn) (cd_eX7 hN hn) 1 (by decide) k_2_90 (rfl) dX7_doMoves_125 ?_
    refine lv_aload_n hx hb dX7_doMoves_128 rfl (lv_at hl 0 rfl) ?_
    refine x_get F hK hW xc_X7 (cd_dX7 hn) (cd_eX7 hN hn) 1 (by decide) k_2_90 (rfl) dX7_doMoves_129 ?_
    refine x_getN F hK hW xc_X9 (cd_dX9 ⟨hn, Or.inl rfl⟩) (cd_eX9 hN ⟨hn, Or.inl rfl⟩) 1 (by decide) kn_5 (rfl) dX7_doMoves_132 ?_
    refine lv_aload_n hx hb dX7_doMoves_135 rfl (lv_at hl 0 rfl) ?_
    refine x_get F hK hW xc_X7 (cd_dX7 hn) (cd_eX7 hN hn) 1 (by decide) k_2_90 (rfl) dX7_doMoves_136 ?_
    refine x_getN F hK hW xc_X9 (cd_dX9 ⟨hn, Or.inl rfl⟩) (cd_eX9 hN ⟨hn, Or.inl rfl⟩) 0 (by decide) kn_2 (rfl) dX7_doMoves_139 ?_
    refine lv_aload_n hx hb dX7_doMoves_142 rfl (lv_at hl 0 rfl) ?_
    refine x_get F hK hW xc_X7 (cd_dX7 hn) (cd_eX7 hN hn) 1 (by decide) k_2_90 (rfl) dX7_doMoves_143 ?_
    refine x_getN F hK hW xc_X9 (cd_dX9 ⟨hn, Or.inl rfl⟩) (cd_eX9 hN ⟨hn, Or.inl rfl⟩) 2 (by decide) kn_8 (rfl) dX7_doMoves_146 ?_
    refine x_cVv (As := [.int (xI S n 4 1), .int (xI S n 4 0), .int (xI S n 4 2)]) F xG_ok hK hW hS um_X9_setStack k_4_121 (fun _ h1 => m_c9_setStack hN hI ⟨hn, Or.inl rfl⟩ _ _ _ h1) rfl (cd_dX9 ⟨hn, Or.inl rfl⟩) (cd_eX9 hN ⟨hn, Or.inl rfl⟩) rfl rfl hl.1 rfl rfl ⟨Nat.le_of_ble_eq_true rfl, Nat.le_of_ble_eq_true rfl⟩ ⟨Nat.zero_le _, Nat.zero_le _⟩ (Nat.le_of_ble_eq_true rfl) dX7_doMoves_149 h (fun S2 H locs hW hS h => ?_)
    refine lv_goto (tgt := 393) hx hb dX7_doMoves_152 (by decide) ?_
    refine lv_iconst (v := (1 : Int32)) hx hb dX7_doMoves_393 (by decide) ?_
    exact x_zret F hr hlk hW hS rfl dX7_doMoves_394 h
  replace h := (if_neg c_1_0).symm.trans h
  have hn_1_0 := x_swN (z := 0) c_1_0 x_sw0 rfl
  by_cases c_1_1 : a1 = (1 : Int32)
  · replace h := (if_pos c_1_1).symm.trans h
    refine lv_lookup (tgt := 155) (off := 154) hx hb dX7_doMoves_1 (by decide) (by rw [c_1_1]; decide) (by decide) ?_
    refine lv_aload_n hx hb dX7_doMoves_155 rfl (lv_at hl 0 rfl) ?_
    refine x_get F hK hW xc_X7 (cd_dX7 hn) (cd_eX7 hN hn) 1 (by decide) k_2_90 (rfl) dX7_doMoves_156 ?_
    refine lv_aload_n hx hb dX7_doMoves_159 rfl (lv_at hl 0 rfl) ?_
    refine x_get F hK hW xc_X7 (cd_dX7 hn) (cd_eX7 hN hn) 2 (by decide) k_2_91 (rfl) dX7_doMoves_160 ?_
    refine lv_aload_n hx hb dX7_doMoves_163 rfl (lv_at hl 0 rfl) ?_
    refine x_get F hK hW xc_X7 (cd_dX7 hn) (cd_eX7 hN hn) 1 (by decide) k_2_90 (rfl) dX7_doMoves_164 ?_
    refine x_getN F hK hW xc_X9 (cd_dX9 ⟨hn, Or.inl rfl⟩) (cd_eX9 hN ⟨hn, Or.inl rfl⟩) 0 (by decide) kn_2 (rfl) dX7_doMoves_167 ?_
    refine x_cVi (As := [.int (xI S n 4 0)]) F xG_ok hK hW hS um_X5_byteAt k_3_232 (fun _ h1 => m_c5_byteAt hN hI (is5n hn) _ h1) rfl (cd_dX5 (is5n hn)) (cd_eX5 hN (is5n hn)) rfl rfl hl.1 rfl rfl ⟨Nat.le_of_ble_eq_true rfl, Nat.le_of_ble_eq_true rfl⟩ ⟨Nat.zero_le _, Nat.zero_le _⟩ (Nat.le_of_ble_eq_true rfl) dX7_doMoves_170 h (fun r_3 S3 H locs hW hS h => ?_)
    refine x_putN F hK hI hW hS xc_X9 (cd_dX9 ⟨hn, Or.inl rfl⟩) (cd_eX9 hN ⟨hn, Or.inl rfl⟩) 0 (by decide) kn_2 rfl (v := r_3) rfl rfl (fun _ _ => rfl) (fun _ _ => Nat.le_of_ble_eq_true rfl) dX7_doMoves_173 h (fun S4 H locs hW hS h => ?_)
    refine lv_goto (tgt := 393) hx hb dX7_doMoves_176 (by decide) ?_
    refine lv_iconst (v := (1 : Int32)) hx hb dX7_doMoves_393 (by decide) ?_
    exact x_zret F hr hlk hW hS rfl dX7_doMoves_394 h
  replace h := (if_neg c_1_1).symm.trans h
  have hn_1_1 := x_swN (z := 1) c_1_1 hn_1_0 rfl
  by_cases c_1_6 : a1 = (6 : Int32)
  · replace h := (if_pos c_1_6).symm.trans h
    refine lv_lookup (tgt := 179) (off := 178) hx hb dX7_doMoves_1 (by decide) (by rw [c_1_6]; decide) (by decide) ?_
    refine lv_aload_n hx hb dX7_doMoves_179 rfl (lv_at hl 0 rfl) ?_
    refine x_cVv (As := []) F xG_ok hK hW hS um_X7_exchangeWithI k_4_122 (fun _ h1 => m_c7_exchangeWithI hN hI hn  h1) rfl (cd_dX7 hn) (cd_eX7 hN hn) rfl rfl hl.1 rfl rfl ⟨Nat.le_of_ble_eq_true rfl, Nat.le_of_ble_eq_true rfl⟩ ⟨Nat.zero_le _, Nat.zero_le _⟩ (Nat.le_of_ble_eq_true rfl) dX7_doMoves_180 h (fun S5 H locs hW hS h => ?_)
    refine lv_goto (tgt := 393) hx hb dX7_doMoves_183 (by decide) ?_
    refine lv_iconst (v := (1 : Int32)) hx hb dX7_doMoves_393 (by decide) ?_
    exact x_zret F hr hlk hW hS rfl dX7_doMoves_394 h
  replace h := (if_neg c_1_6).symm.trans h
  have hn_1_6 := x_swN (z := 6) c_1_6 hn_1_1 rfl
  by_cases c_1_27 : a1 = (27 : Int32)
  · replace h := (if_pos c_1_27).symm.trans h
    refine lv_lookup (tgt := 186) (off := 185) hx hb dX7_doMoves_1 (by decide) (by rw [c_1_27]; decide) (by decide) ?_
    refine lv_aload_n hx hb dX7_doMoves_186 rfl (lv_at hl 0 rfl) ?_
    refine x_get F hK hW xc_X7 (cd_dX7 hn) (cd_eX7 hN hn) 1 (by decide) k_2_90 (rfl) dX7_doMoves_187 ?_
    refine lv_aload_n hx hb dX7_doMoves_190 rfl (lv_at hl 0 rfl) ?_
    refine x_get F hK hW xc_X7 (cd_dX7 hn) (cd_eX7 hN hn) 1 (by decide) k_2_90 (rfl) dX7_doMoves_191 ?_
    refine x_getN F hK hW xc_X9 (cd_dX9 ⟨hn, Or.inl rfl⟩) (cd_eX9 hN ⟨hn, Or.inl rfl⟩) 0 (by decide) kn_2 (rfl) dX7_doMoves_194 ?_
    refine lv_aload_n hx hb dX7_doMoves_197 rfl (lv_at hl 0 rfl) ?_
    refine x_get F hK hW xc_X7 (cd_dX7 hn) (cd_eX7 hN hn) 1 (by decide) k_2_90 (rfl) dX7_doMoves_198 ?_
    refine x_getN F hK hW xc_X9 (cd_dX9 ⟨hn, Or.inl rfl⟩) (cd_eX9 hN ⟨hn, Or.inl rfl⟩) 4 (by decide) kn_12 (rfl) dX7_doMoves_201 ?_
    refine lv_iadd hx hb dX7_doMoves_204 ?_
    refine lv_ldc (v := (65535 : Int32)) hx hb F.2.2.2.1 (x_hts F _ k_4_18) dX7_doMoves_205 ?_
    refine lv_iand hx hb dX7_doMoves_207 ?_
    refine x_putN F hK hI hW hS xc_X9 (cd_dX9 ⟨hn, Or.inl rfl⟩) (cd_eX9 hN ⟨hn, Or.inl rfl⟩) 0 (by decide) kn_2 rfl (v := (((xI S n 4 0) + (xI S n 4 4)) &&& (65535 : Int32))) rfl rfl (fun _ _ => rfl) (fun _ _ => Nat.le_of_ble_eq_true rfl) dX7_doMoves_208 h (fun S6 H locs hW hS h => ?_)
    refine lv_goto (tgt := 393) hx hb dX7_doMoves_211 (by decide) ?_
    refine lv_iconst (v := (1 : Int32)) hx hb dX7_doMoves_393 (by decide) ?_
    exact x_zret F hr hlk hW hS rfl dX7_doMoves_394 h
  replace h := (if_neg c_1_27).symm.trans h
  have hn_1_27 := x_swN (z := 27) c_1_27 hn_1_6 rfl
  by_cases c_1_30 : a1 = (30 : Int32)
  · replace h := (if_pos c_1_30).symm.trans h
    refine lv_lookup (tgt := 214) (off := 213) hx hb dX7_doMoves_1 (by decide) (by rw [c_1_30]; decide) (by decide) ?_
    refine lv_aload_n hx hb dX7_doMoves_214 rfl (lv_at hl 0 rfl) ?_
    refine x_get F hK hW xc_X7 (cd_dX7 hn) (cd_eX7 hN hn) 1 (by decide) k_2_90 (rfl) dX7_doMoves_215 ?_
    refine lv_aload_n hx hb dX7_doMoves_218 rfl (lv_at hl 0 rfl) ?_
    refine x_get F hK hW xc_X7 (cd_dX7 hn) (cd_eX7 hN hn) 1 (by decide) k_2_90 (rfl) dX7_doMoves_219 ?_
    refine x_getN F hK hW xc_X9 (cd_dX9 ⟨hn, Or.inl rfl⟩) (cd_eX9 hN ⟨hn, Or.inl rfl⟩) 6 (by decide) kn_17 (rfl) dX7_doMoves_222 ?_
    refine x_cVv (As := [.int (xI S n 4 6)]) F xG_ok hK hW hS um_X9_push k_4_14 (fun _ h1 => m_c9_push hN hI ⟨hn, Or.inl rfl⟩ _ h1) rfl (cd_dX9 ⟨hn, Or.inl rfl⟩) (cd_eX9 hN ⟨hn, Or.inl rfl⟩) rfl rfl hl.1 rfl rfl ⟨Nat.le_of_ble_eq_true rfl, Nat.le_of_ble_eq_true rfl⟩ ⟨Nat.zero_le _, Nat.zero_le _⟩ (Nat.le_of_ble_eq_true rfl) dX7_doMoves_225 h (fun S7 H locs hW hS h => ?_)
    refine lv_goto (tgt := 393) hx hb dX7_doMoves_228 (by decide) ?_
    refine lv_iconst (v := (1 : Int32)) hx hb dX7_doMoves_393 (by decide) ?_
    exact x_zret F hr hlk hW hS rfl dX7_doMoves_394 h
  replace h := (if_neg c_1_30).symm.trans h
  have hn_1_30 := x_swN (z := 30) c_1_30 hn_1_27 rfl
  by_cases c_1_32 : a1 = (32 : Int32)
  · replace h := (if_pos c_1_32).symm.trans h
    refine lv_lookup (tgt := 231) (off := 230) hx hb dX7_doMoves_1 (by decide) (by rw [c_1_32]; decide) (by decide) ?_
    refine lv_aload_n hx hb dX7_doMoves_231 rfl (lv_at hl 0 rfl) ?_
    refine x_get F hK hW xc_X7 (cd_dX7 hn) (cd_eX7 hN hn) 1 (by decide) k_2_90 (rfl) dX7_doMoves_232 ?_
    refine lv_aload_n hx hb dX7_doMoves_235 rfl (lv_at hl 0 rfl) ?_
    refine x_get F hK hW xc_X7 (cd_dX7 hn) (cd_eX7 hN hn) 0 (by decide) k_2_89 (rfl) dX7_doMoves_236 ?_
    refine lv_iconst (v := (0 : Int32)) hx hb dX7_doMoves_239 (by decide) ?_
    refine x_cVi (As := [.int (0 : Int32)]) F xG_ok hK hW hS um_X1_local k_4_20 (fun _ h1 => m_c1_local hN hI hn _ h1) rfl (cd_dX1 hn) (cd_eX1 hN hn) rfl rfl hl.1 rfl rfl ⟨Nat.le_of_ble_eq_true rfl, Nat.le_of_ble_eq_true rfl⟩ ⟨Nat.zero_le _, Nat.zero_le _⟩ (Nat.le_of_ble_eq_true rfl) dX7_doMoves_240 h (fun r_8 S8 H locs hW hS h => ?_)
    refine x_putN F hK hI hW hS xc_X9 (cd_dX9 ⟨hn, Or.inl rfl⟩) (cd_eX9 hN ⟨hn, Or.inl rfl⟩) 4 (by decide) kn_12 rfl (v := r_8) rfl rfl (fun _ _ => rfl) (fun _ _ => Nat.le_of_ble_eq_true rfl) dX7_doMoves_243 h (fun S9 H locs hW hS h => ?_)
    refine lv_aload_n hx hb dX7_doMoves_246 rfl (lv_at hl 0 rfl) ?_
    refine x_get F hK hW xc_X7 (cd_dX7 hn) (cd_eX7 hN hn) 1 (by decide) k_2_90 (rfl) dX7_doMoves_247 ?_
    refine lv_aload_n hx hb dX7_doMoves_250 rfl (lv_at hl 0 rfl) ?_
    refine x_get F hK hW xc_X7 (cd_dX7 hn) (cd_eX7 hN hn) 1 (by decide) k_2_90 (rfl) dX7_doMoves_251 ?_
    refine x_getN F hK hW xc_X9 (cd_dX9 ⟨hn, Or.inl rfl⟩) (cd_eX9 hN ⟨hn, Or.inl rfl⟩) 5 (by decide) kn_15 (rfl) dX7_doMoves_254 ?_
    refine lv_bipush (v := (8 : Int32)) hx hb dX7_doMoves_257 (by decide) ?_
    refine lv_iadd hx hb dX7_doMoves_259 ?_
    refine x_cVv (As := [.int ((xI S9 n 4 5) + (8 : Int32))]) F xG_ok hK hW hS um_X9_setWorkspace k_4_37 (fun _ h1 => m_c9_setWorkspace hN hI ⟨hn, Or.inl rfl⟩ _ h1) rfl (cd_dX9 ⟨hn, Or.inl rfl⟩) (cd_eX9 hN ⟨hn, Or.inl rfl⟩) rfl rfl hl.1 rfl rfl ⟨Nat.le_of_ble_eq_true rfl, Nat.le_of_ble_eq_true rfl⟩ ⟨Nat.zero_le _, Nat.zero_le _⟩ (Nat.le_of_ble_eq_true rfl) dX7_doMoves_260 h (fun S10 H locs hW hS h => ?_)
    refine lv_goto (tgt := 393) hx hb dX7_doMoves_263 (by decide) ?_
    refine lv_iconst (v := (1 : Int32)) hx hb dX7_doMoves_393 (by decide) ?_
    exact x_zret F hr hlk hW hS rfl dX7_doMoves_394 h
  replace h := (if_neg c_1_32).symm.trans h
  have hn_1_32 := x_swN (z := 32) c_1_32 hn_1_30 rfl
  by_cases c_1_33 : a1 = (33 : Int32)
  · replace h := (if_pos c_1_33).symm.trans h
    refine lv_lookup (tgt := 266) (off := 265) hx hb dX7_doMoves_1 (by decide) (by rw [c_1_33]; decide) (by decide) ?_
    refine lv_aload_n hx hb dX7_doMoves_266 rfl (lv_at hl 0 rfl) ?_
    refine x_cVv (As := []) F xG_ok hK hW hS um_X7_endLoop k_4_126 (fun _ h1 => m_c7_endLoop hN hI hn  h1) rfl (cd_dX7 hn) (cd_eX7 hN hn) rfl rfl hl.1 rfl rfl ⟨Nat.le_of_ble_eq_true rfl, Nat.le_of_ble_eq_true rfl⟩ ⟨Nat.zero_le _, Nat.zero_le _⟩ (Nat.le_of_ble_eq_true rfl) dX7_doMoves_267 h (fun S11 H locs hW hS h => ?_)
    refine lv_goto (tgt := 393) hx hb dX7_doMoves_270 (by decide) ?_
    refine lv_iconst (v := (1 : Int32)) hx hb dX7_doMoves_393 (by decide) ?_
    exact x_zret F hr hlk hW hS rfl dX7_doMoves_394 h
  replace h := (if_neg c_1_33).symm.trans h
  have hn_1_33 := x_swN (z := 33) c_1_33 hn_1_32 rfl
  by_cases c_1_34 : a1 = (34 : Int32)
  · replace h := (if_pos c_1_34).symm.trans h
    refine lv_lookup (tgt := 273) (off := 272) hx hb dX7_doMoves_1 (by decide) (by rw [c_1_34]; decide) (by decide) ?_
    refine lv_aload_n hx hb dX7_doMoves_273 rfl (lv_at hl 0 rfl) ?_
    refine x_get F hK hW xc_X7 (cd_dX7 hn) (cd_eX7 hN hn) 1 (by decide) k_2_90 (rfl) dX7_doMoves_274 ?_
    refine lv_aload_n hx hb dX7_doMoves_277 rfl (lv_at hl 0 rfl) ?_
    refine x_get F hK hW xc_X7 (cd_dX7 hn) (cd_eX7 hN hn) 0 (by decide) k_2_89 (rfl) dX7_doMoves_278 ?_
    refine x_cVi (As := []) F xG_ok hK hW hS um_X1_clock k_4_130 (fun _ h1 => m_c1_clock hN hI hn  h1) rfl (cd_dX1 hn) (cd_eX1 hN hn) rfl rfl hl.1 rfl rfl ⟨Nat.le_of_ble_eq_true rfl, Nat.le_of_ble_eq_true rfl⟩ ⟨Nat.zero_le _, Nat.zero_le _⟩ (Nat.le_of_ble_eq_true rfl) dX7_doMoves_281 h (fun r_12 S12 H locs hW hS h => ?_)
    refine x_cVv (As := [.int r_12]) F xG_ok hK hW hS um_X9_push k_4_14 (fun _ h1 => m_c9_push hN hI ⟨hn, Or.inl rfl⟩ _ h1) rfl (cd_dX9 ⟨hn, Or.inl rfl⟩) (cd_eX9 hN ⟨hn, Or.inl rfl⟩) rfl rfl hl.1 rfl rfl ⟨Nat.le_of_ble_eq_true rfl, Nat.le_of_ble_eq_true rfl⟩ ⟨Nat.zero_le _, Nat.zero_le _⟩ (Nat.le_of_ble_eq_true rfl) dX7_doMoves_284 h (fun S13 H locs hW hS h => ?_)
    refine lv_goto (tgt := 393) hx hb dX7_doMoves_287 (by decide) ?_
    refine lv_iconst (v := (1 : Int32)) hx hb dX7_doMoves_393 (by decide) ?_
    exact x_zret F hr hlk hW hS rfl dX7_doMoves_394 h
  replace h := (if_neg c_1_34).symm.trans h
  have hn_1_34 := x_swN (z := 34) c_1_34 hn_1_33 rfl
  by_cases c_1_59 : a1 = (59 : Int32)
  · replace h := (if_pos c_1_59).symm.trans h
    refine lv_lookup (tgt := 290) (off := 289) hx hb dX7_doMoves_1 (by decide) (by rw [c_1_59]; decide) (by decide) ?_
    refine lv_aload_n hx hb dX7_doMoves_290 rfl (lv_at hl 0 rfl) ?_
    refine x_get F hK hW xc_X7 (cd_dX7 hn) (cd_eX7 hN hn) 2 (by decide) k_2_91 (rfl) dX7_doMoves_291 ?_
    refine lv_aload_n hx hb dX7_doMoves_294 rfl (lv_at hl 0 rfl) ?_
    refine x_get F hK hW xc_X7 (cd_dX7 hn) (cd_eX7 hN hn) 1 (by decide) k_2_90 (rfl) dX7_doMoves_295 ?_
    refine x_getN F hK hW xc_X9 (cd_dX9 ⟨hn, Or.inl rfl⟩) (cd_eX9 hN ⟨hn, Or.inl rfl⟩) 0 (by decide) kn_2 (rfl) dX7_doMoves_298 ?_
    refine lv_aload_n hx hb dX7_doMoves_301 rfl (lv_at hl 0 rfl) ?_
    refine x_get F hK hW xc_X7 (cd_dX7 hn) (cd_eX7 hN hn) 1 (by decide) k_2_90 (rfl) dX7_doMoves_302 ?_
    refine x_getN F hK hW xc_X9 (cd_dX9 ⟨hn, Or.inl rfl⟩) (cd_eX9 hN ⟨hn, Or.inl rfl⟩) 1 (by decide) kn_5 (rfl) dX7_doMoves_305 ?_
    refine x_cVv (As := [.int (xI S n 4 0), .int (xI S n 4 1)]) F xG_ok hK hW hS um_X5_setByte k_4_135 (fun _ h1 => m_c5_setByte hN hI (is5n hn) _ _ h1) rfl (cd_dX5 (is5n hn)) (cd_eX5 hN (is5n hn)) rfl rfl hl.1 rfl rfl ⟨Nat.le_of_ble_eq_true rfl, Nat.le_of_ble_eq_true rfl⟩ ⟨Nat.zero_le _, Nat.zero_le _⟩ (Nat.le_of_ble_eq_true rfl) dX7_doMoves_308 h (fun S14 H locs hW hS h => ?_)
    refine lv_aload_n hx hb dX7_doMoves_311 rfl (lv_at hl 0 rfl) ?_
    refine x_get F hK hW xc_X7 (cd_dX7 hn) (cd_eX7 hN hn) 1 (by decide) k_2_90 (rfl) dX7_doMoves_312 ?_
    refine x_cVv (As := []) F xG_ok hK hW hS um_X9_popAll k_4_50 (fun _ h1 => m_c9_popAll hN hI ⟨hn, Or.inl rfl⟩  h1) rfl (cd_dX9 ⟨hn, Or.inl rfl⟩) (cd_eX9 hN ⟨hn, Or.inl rfl⟩) rfl rfl hl.1 rfl rfl ⟨Nat.le_of_ble_eq_true rfl, Nat.le_of_ble_eq_true rfl⟩ ⟨Nat.zero_le _, Nat.zero_le _⟩ (Nat.le_of_ble_eq_true rfl) dX7_doMoves_315 h (fun S15 H locs hW hS h => ?_)
    refine lv_goto (tgt := 393) hx hb dX7_doMoves_318 (by decide) ?_
    refine lv_iconst (v := (1 : Int32)) hx hb dX7_doMoves_393 (by decide) ?_
    exact x_zret F hr hlk hW hS rfl dX7_doMoves_394 h
  replace h := (if_neg c_1_59).symm.trans h
  have hn_1_59 := x_swN (z := 59) c_1_59 hn_1_34 rfl
  by_cases c_1_60 : a1 = (60 : Int32)
  · replace h := (if_pos c_1_60).symm.trans h
    refine lv_lookup (tgt := 321) (off := 320) hx hb dX7_doMoves_1 (by decide) (by rw [c_1_60]; decide) (by decide) ?_
    refine lv_aload_n hx hb dX7_doMoves_321 rfl (lv_at hl 0 rfl) ?_
    refine x_cVv (As := []) F xG_ok hK hW hS um_X7_exchangeWithW k_4_136 (fun _ h1 => m_c7_exchangeWithW hN hI hn  h1) rfl (cd_dX7 hn) (cd_eX7 hN hn) rfl rfl hl.1 rfl rfl ⟨Nat.le_of_ble_eq_true rfl, Nat.le_of_ble_eq_true rfl⟩ ⟨Nat.zero_le _, Nat.zero_le _⟩ (Nat.le_of_ble_eq_true rfl) dX7_doMoves_322 h (fun S16 H locs hW hS h => ?_)
    refine lv_goto (tgt := 393) hx hb dX7_doMoves_325 (by decide) ?_
    refine lv_iconst (v := (1 : Int32)) hx hb dX7_doMoves_393 (by decide) ?_
    exact x_zret F hr hlk hW hS rfl dX7_doMoves_394 h
  replace h := (if_neg c_1_60).symm.trans h
  have hn_1_60 := x_swN (z := 60) c_1_60 hn_1_59 rfl
  by_cases c_1_66 : a1 = (66 : Int32)
  · replace h := (if_pos c_1_66).symm.trans h
    refine lv_lookup (tgt := 328) (off := 327) hx hb dX7_doMoves_1 (by decide) (by rw [c_1_66]; decide) (by decide) ?_
    refine lv_aload_n hx hb dX7_doMoves_328 rfl (lv_at hl 0 rfl) ?_
    refine x_get F hK hW xc_X7 (cd_dX7 hn) (cd_eX7 hN hn) 1 (by decide) k_2_90 (rfl) dX7_doMoves_329 ?_
    refine lv_ldc (v := (32768 : Int32)) hx hb F.2.2.2.1 (x_hts F _ k_4_82) dX7_doMoves_332 ?_
    refine x_cVv (As := [.int (32768 : Int32)]) F xG_ok hK hW hS um_X9_push k_4_14 (fun _ h1 => m_c9_push hN hI ⟨hn, Or.inl rfl⟩ _ h1) rfl (cd_dX9 ⟨hn, Or.inl rfl⟩) (cd_eX9 hN ⟨hn, Or.inl rfl⟩) rfl rfl hl.1 rfl rfl ⟨Nat.le_of_ble_eq_true rfl, Nat.le_of_ble_eq_true rfl⟩ ⟨Nat.zero_le _, Nat.zero_le _⟩ (Nat.le_of_ble_eq_true rfl) dX7_doMoves_334 h (fun S17 H locs hW hS h => ?_)
    refine lv_goto (tgt := 393) hx hb dX7_doMoves_337 (by decide) ?_
    refine lv_iconst (v := (1 : Int32)) hx hb dX7_doMoves_393 (by decide) ?_
    exact x_zret F hr hlk hW hS rfl dX7_doMoves_394 h
  replace h := (if_neg c_1_66).symm.trans h
  have hn_1_66 := x_swN (z := 66) c_1_66 hn_1_60 rfl
  by_cases c_1_74 : a1 = (74 : Int32)
  · replace h := (if_pos c_1_74).symm.trans h
    refine lv_lookup (tgt := 340) (off := 339) hx hb dX7_doMoves_1 (by decide) (by rw [c_1_74]; decide) (by decide) ?_
    refine lv_aload_n hx hb dX7_doMoves_340 rfl (lv_at hl 0 rfl) ?_
    refine x_cVv (As := []) F xG_ok hK hW hS um_X7_moveBytes k_4_140 (fun _ h1 => m_c7_moveBytes hN hI hn  h1) rfl (cd_dX7 hn) (cd_eX7 hN hn) rfl rfl hl.1 rfl rfl ⟨Nat.le_of_ble_eq_true rfl, Nat.le_of_ble_eq_true rfl⟩ ⟨Nat.zero_le _, Nat.zero_le _⟩ (Nat.le_of_ble_eq_true rfl) dX7_doMoves_341 h (fun S18 H locs hW hS h => ?_)
    refine lv_goto (tgt := 393) hx hb dX7_doMoves_344 (by decide) ?_
    refine lv_iconst (v := (1 : Int32)) hx hb dX7_doMoves_393 (by decide) ?_
    exact x_zret F hr hlk hW hS rfl dX7_doMoves_394 h
  replace h := (if_neg c_1_74).symm.trans h
  have hn_1_74 := x_swN (z := 74) c_1_74 hn_1_66 rfl
  by_cases c_1_84 : a1 = (84 : Int32)
  · replace h := (if_pos c_1_84).symm.trans h
    refine lv_lookup (tgt := 347) (off := 346) hx hb dX7_doMoves_1 (by decide) (by rw [c_1_84]; decide) (by decide) ?_
    refine lv_aload_n hx hb dX7_doMoves_347 rfl (lv_at hl 0 rfl) ?_
    refine x_get F hK hW xc_X7 (cd_dX7 hn) (cd_eX7 hN hn) 0 (by decide) k_2_89 (rfl) dX7_doMoves_348 ?_
    refine x_getN F hK hW xc_X1 (cd_dX1 hn) (cd_eX1 hN hn) 5 (by decide) kn_35 (rfl) dX7_doMoves_351 ?_
    refine lv_aload_n hx hb dX7_doMoves_354 rfl (lv_at hl 0 rfl) ?_
    refine x_get F hK hW xc_X7 (cd_dX7 hn) (cd_eX7 hN hn) 1 (by decide) k_2_90 (rfl) dX7_doMoves_355 ?_
    refine x_getN F hK hW xc_X9 (cd_dX9 ⟨hn, Or.inl rfl⟩) (cd_eX9 hN ⟨hn, Or.inl rfl⟩) 0 (by decide) kn_2 (rfl) dX7_doMoves_358 ?_
    refine x_cVv (As := [.int (xI S n 4 0)]) F xG_ok hK hW hS um_X10_setClocks k_4_155 (fun _ h1 => m_c10_setClocks hN hI hn _ h1) rfl (cd_dX10 hn) (cd_eX10 hN hn) rfl rfl hl.1 rfl rfl ⟨Nat.le_of_ble_eq_true rfl, Nat.le_of_ble_eq_true rfl⟩ ⟨Nat.zero_le _, Nat.zero_le _⟩ (Nat.le_of_ble_eq_true rfl) dX7_doMoves_361 h (fun S19 H locs hW hS h => ?_)
    refine lv_aload_n hx hb dX7_doMoves_364 rfl (lv_at hl 0 rfl) ?_
    refine x_get F hK hW xc_X7 (cd_dX7 hn) (cd_eX7 hN hn) 1 (by decide) k_2_90 (rfl) dX7_doMoves_365 ?_
    refine x_cVv (As := []) F xG_ok hK hW hS um_X9_pop k_4_45 (fun _ h1 => m_c9_pop hN hI ⟨hn, Or.inl rfl⟩  h1) rfl (cd_dX9 ⟨hn, Or.inl rfl⟩) (cd_eX9 hN ⟨hn, Or.inl rfl⟩) rfl rfl hl.1 rfl rfl ⟨Nat.le_of_ble_eq_true rfl, Nat.le_of_ble_eq_true rfl⟩ ⟨Nat.zero_le _, Nat.zero_le _⟩ (Nat.le_of_ble_eq_true rfl) dX7_doMoves_368 h (fun S20 H locs hW hS h => ?_)
    refine lv_goto (tgt := 393) hx hb dX7_doMoves_371 (by decide) ?_
    refine lv_iconst (v := (1 : Int32)) hx hb dX7_doMoves_393 (by decide) ?_
    exact x_zret F hr hlk hW hS rfl dX7_doMoves_394 h
  replace h := (if_neg c_1_84).symm.trans h
  have hn_1_84 := x_swN (z := 84) c_1_84 hn_1_74 rfl
  by_cases c_1_90 : a1 = (90 : Int32)
  · replace h := (if_pos c_1_90).symm.trans h
    refine lv_lookup (tgt := 374) (off := 373) hx hb dX7_doMoves_1 (by decide) (by rw [c_1_90]; decide) (by decide) ?_
    refine lv_aload_n hx hb dX7_doMoves_374 rfl (lv_at hl 0 rfl) ?_
    refine x_get F hK hW xc_X7 (cd_dX7 hn) (cd_eX7 hN hn) 1 (by decide) k_2_90 (rfl) dX7_doMoves_375 ?_
    refine lv_aload_n hx hb dX7_doMoves_378 rfl (lv_at hl 0 rfl) ?_
    refine x_get F hK hW xc_X7 (cd_dX7 hn) (cd_eX7 hN hn) 1 (by decide) k_2_90 (rfl) dX7_doMoves_379 ?_
    refine x_getN F hK hW xc_X9 (cd_dX9 ⟨hn, Or.inl rfl⟩) (cd_eX9 hN ⟨hn, Or.inl rfl⟩) 0 (by decide) kn_2 (rfl) dX7_doMoves_382 ?_
    refine x_cVv (As := [.int (xI S n 4 0)]) F xG_ok hK hW hS um_X9_push k_4_14 (fun _ h1 => m_c9_push hN hI ⟨hn, Or.inl rfl⟩ _ h1) rfl (cd_dX9 ⟨hn, Or.inl rfl⟩) (cd_eX9 hN ⟨hn, Or.inl rfl⟩) rfl rfl hl.1 rfl rfl ⟨Nat.le_of_ble_eq_true rfl, Nat.le_of_ble_eq_true rfl⟩ ⟨Nat.zero_le _, Nat.zero_le _⟩ (Nat.le_of_ble_eq_true rfl) dX7_doMoves_385 h (fun S21 H locs hW hS h => ?_)
    refine lv_goto (tgt := 393) hx hb dX7_doMoves_388 (by decide) ?_
    refine lv_iconst (v := (1 : Int32)) hx hb dX7_doMoves_393 (by decide) ?_
    exact x_zret F hr hlk hW hS rfl dX7_doMoves_394 h
  replace h := (if_neg c_1_90).symm.trans h
  have hn_1_90 := x_swN (z := 90) c_1_90 hn_1_84 rfl
  refine x_lkpD (tgt := 391) hx hb dX7_doMoves_1 hn_1_90 (by decide) (by decide) (by decide) ?_
  refine lv_iconst (v := (0 : Int32)) hx hb dX7_doMoves_391 (by decide) ?_
  exact x_zret F hr hlk hW hS rfl dX7_doMoves_392 h
/-! X7_endProcess -/
def c7_endProcess (n : Nat) (S : xS)  : Option (xS) := (c5_wordAt n 2 S ((xI S n 4 0) + (2 : Int32))).bind (fun (r_1, S1) => (c5_setWord n 2 S1 ((xI S n 4 0) + (2 : Int32)) ((r_1 - (1 : Int32)) &&& (65535 : Int32))).bind (fun S2 => if ((r_1 - (1 : Int32)) &&& (65535 : Int32)) = 0 then ((c9_setWorkspace n 4 S2 (xI S n 4 0)).bind (fun S5 => (c5_wordAt n 2 S5 (xI S n 4 0)).bind (fun (r_6, S6) => xnm (sI S6 n 4 4 r_6) (fun S7 => some S7)))) else (xnm (sI S2 n 4 6 (2 : Int32)) (fun S4 => some S4))))
set_option maxHeartbeats 4000000 in
set_option maxRecDepth 100000 in
theorem m_c7_endProcess {l : Launch} {D : va_G} {cI cJ cL cN : ClassId} {ad : Nat → Nat → Nat} {N : Nat} (hN : N ≤ 8) (hI : xInj (cDom N) ad) {n : Nat} (hn : n < N) {S : xS}  {o : xS} (h : c7_endProcess n S  = some o) : Met l yX7_endProcess (Cond.code yX7_endProcess cX7_endProcess 3 none :: xG) { frames := 1, cells := 0, slots := 0, locals := 26 } (xPc D vwCl (cTy cI cJ cL cN) cNf cNm (cDom N) ad (cDe ad N cI cJ cL cN) [.ref (ad n 20)] S) (xQ D vwCl (cDom N) ad (cDe ad N cI cJ cL cN) none o) 0 0 (xA (cDom N) ad) := by
  unfold c7_endProcess at h
  refine x_enter (by decide) (Nat.le_of_ble_eq_true rfl) (fun p e s m below meth c F hr hlk hK hW hS ls hl => ?_)
  have hl : lv_has ls 3 [(0, .ref (ad n 20))] := hl
  have hx := F.1
  have hb := F.2.1
  refine lv_aload_n hx hb dX7_endProcess_0 rfl (lv_at hl 0 rfl) ?_
  refine x_get F hK hW xc_X7 (cd_dX7 hn) (cd_eX7 hN hn) 1 (by decide) k_2_90 (rfl) dX7_endProcess_1 ?_
  refine x_getN F hK hW xc_X9 (cd_dX9 ⟨hn, Or.inl rfl⟩) (cd_eX9 hN ⟨hn, Or.inl rfl⟩) 0 (by decide) kn_2 (rfl) dX7_endProcess_4 ?_
  refine lv_istore_n (lv' := [(1, .int (xI S n 4 0)), (0, .ref (ad n 20))]) hx hb dX7_endProcess_7 rfl hl (by decide) rfl (fun ls hl => ?_)
  refine lv_aload_n hx hb dX7_endProcess_8 rfl (lv_at hl 1 rfl) ?_
  refine x_get F hK hW xc_X7 (cd_dX7 hn) (cd_eX7 hN hn) 2 (by decide) k_2_91 (rfl) dX7_endProcess_9 ?_
  refine lv_iload_n hx hb dX7_endProcess_12 rfl (lv_at hl 0 rfl) ?_
  refine lv_iconst (v := (2 : Int32)) hx hb dX7_endProcess_13 (by decide) ?_
  refine lv_iadd hx hb dX7_endProcess_14 ?_
  refine x_cVi (As := [.int ((xI S n 4 0) + (2 : Int32))]) F xG_ok hK hW hS um_X5_wordAt k_4_19 (fun _ h1 => m_c5_wordAt hN hI (is5n hn) _ h1) rfl (cd_dX5 (is5n hn)) (cd_eX5 hN (is5n hn)) rfl rfl hl.1 rfl rfl ⟨Nat.le_of_ble_eq_true rfl, Nat.le_of_ble_eq_true rfl⟩ ⟨Nat.zero_le _, Nat.zero_le _⟩ (Nat.le_of_ble_eq_true rfl) dX7_endProcess_15 h (fun r_1 S1 H locs hW hS h => ?_)
  refine lv_iconst (v := (1 : Int32)) hx hb dX7_endProcess_18 (by decide) ?_
  refine lv_isub hx hb dX7_endProcess_19 ?_
  refine lv_ldc (v := (65535 : Int32)) hx hb F.2.2.2.1 (x_hts F _ k_4_18) dX7_endProcess_20 ?_
  refine lv_iand hx hb dX7_endProcess_22 ?_
  refine lv_istore_n (lv' := [(2, .int ((r_1 - (1 : Int32)) &&& (65535 : Int32))), (1, .int (xI S n 4 0)), (0, .ref (ad n 20))]) hx hb dX7_endProcess_23 rfl hl (by decide) rfl (fun ls hl => ?_)
  refine lv_aload_n hx hb dX7_endProcess_24 rfl (lv_at hl 2 rfl) ?_
  refine x_get F hK hW xc_X7 (cd_dX7 hn) (cd_eX7 hN hn) 2 (by decide) k_2_91 (rfl) dX7_endProcess_25 ?_
  refine lv_iload_n hx hb dX7_endProcess_28 rfl (lv_at hl 1 rfl) ?_
  refine lv_iconst (v := (2 : Int32)) hx hb dX7_endProcess_29 (by decide) ?_
  refine lv_iadd hx hb dX7_endProcess_30 ?_
  refine lv_iload_n hx hb dX7_endProcess_31 rfl (lv_at hl 0 rfl) ?_
  refine x_cVv (As := [.int ((xI S n 4 0) + (2 : Int32)), .int ((r_1 - (1 : Int32)) &&& (65535 : Int32))]) F xG_ok hK hW hS um_X5_setWord k_4_49 (fun _ h1 => m_c5_setWord hN hI (is5n hn) _ _ h1) rfl (cd_dX5 (is5n hn)) (cd_eX5 hN (is5n hn)) rfl rfl hl.1 rfl rfl ⟨Nat.le_of_ble_eq_true rfl, Nat.le_of_ble_eq_true rfl⟩ ⟨Nat.zero_le _, Nat.zero_le _⟩ (Nat.le_of_ble_eq_true rfl) dX7_endProcess_32 h (fun S2 H locs hW hS h => ?_)
  refine lv_iload_n hx hb dX7_endProcess_35 rfl (lv_at hl 0 rfl) ?_
  refine lv_if_ne (tgt := 65) hx hb dX7_endProcess_36 (by decide) (fun c_3 => ?_) (fun c_3 => ?_)
  · replace h := (if_neg c_3).symm.trans h
    refine lv_aload_n hx hb dX7_endProcess_65 rfl (lv_at hl 2 rfl) ?_
    refine x_get F hK hW xc_X7 (cd_dX7 hn) (cd_eX7 hN hn) 1 (by decide) k_2_90 (rfl) dX7_endProcess_66 ?_
    refine lv_iconst (v := (2 : Int32)) hx hb dX7_endProcess_69 (by decide) ?_
    refine x_putN F hK hI hW hS xc_X9 (cd_dX9 ⟨hn, Or.inl rfl⟩) (cd_eX9 hN ⟨hn, Or.inl rfl⟩) 6 (by decide) kn_17 rfl (v := (2 : Int32)) rfl rfl (fun _ _ => rfl) (fun _ _ => Nat.le_of_ble_eq_true rfl) dX7_endProcess_70 h (fun S4 H locs hW hS h => ?_)
    exact x_vret F hr hlk hW hS dX7_endProcess_73 h
  replace h := (if_pos c_3).symm.trans h
  refine lv_aload_n hx hb dX7_endProcess_39 rfl (lv_at hl 2 rfl) ?_
  refine x_get F hK hW xc_X7 (cd_dX7 hn) (cd_eX7 hN hn) 1 (by decide) k_2_90 (rfl) dX7_endProcess_40 ?_
  refine lv_iload_n hx hb dX7_endProcess_43 rfl (lv_at hl 1 rfl) ?_
  refine x_cVv (As := [.int (xI S n 4 0)]) F xG_ok hK hW hS um_X9_setWorkspace k_4_37 (fun _ h1 => m_c9_setWorkspace hN hI ⟨hn, Or.inl rfl⟩ _ h1) rfl (cd_dX9 ⟨hn, Or.inl rfl⟩) (cd_eX9 hN ⟨hn, Or.inl rfl⟩) rfl rfl hl.1 rfl rfl ⟨Nat.le_of_ble_eq_true rfl, Nat.le_of_ble_eq_true rfl⟩ ⟨Nat.zero_le _, Nat.zero_le _⟩ (Nat.le_of_ble_eq_true rfl) dX7_endProcess_44 h (fun S5 H locs hW hS h => ?_)
  refine lv_aload_n hx hb dX7_endProcess_47 rfl (lv_at hl 2 rfl) ?_
  refine x_get F hK hW xc_X7 (cd_dX7 hn) (cd_eX7 hN hn) 1 (by decide) k_2_90 (rfl) dX7_endProcess_48 ?_
  refine lv_aload_n hx hb dX7_endProcess_51 rfl (lv_at hl 2 rfl) ?_
  refine x_get F hK hW xc_X7 (cd_dX7 hn) (cd_eX7 hN hn) 2 (by decide) k_2_91 (rfl) dX7_endProcess_52 ?_
  refine lv_iload_n hx hb dX7_endProcess_55 rfl (lv_at hl 1 rfl) ?_
  refine x_cVi (As := [.int (xI S n 4 0)]) F xG_ok hK hW hS um_X5_wordAt k_4_19 (fun _ h1 => m_c5_wordAt hN hI (is5n hn) _ h1) rfl (cd_dX5 (is5n hn)) (cd_eX5 hN (is5n hn)) rfl rfl hl.1 rfl rfl ⟨Nat.le_of_ble_eq_true rfl, Nat.le_of_ble_eq_true rfl⟩ ⟨Nat.zero_le _, Nat.zero_le _⟩ (Nat.le_of_ble_eq_true rfl) dX7_endProcess_56 h (fun r_6 S6 H locs hW hS h => ?_)
  refine x_putN F hK hI hW hS xc_X9 (cd_dX9 ⟨hn, Or.inl rfl⟩) (cd_eX9 hN ⟨hn, Or.inl rfl⟩) 4 (by decide) kn_12 rfl (v := r_6) rfl rfl (fun _ _ => rfl) (fun _ _ => Nat.le_of_ble_eq_true rfl) dX7_endProcess_59 h (fun S7 H locs hW hS h => ?_)
  refine lv_goto (tgt := 73) hx hb dX7_endProcess_62 (by decide) ?_
  exact x_vret F hr hlk hW hS dX7_endProcess_73 h
/-! X7_startProcess -/
def c7_startProcess (n : Nat) (S : xS)  : Option (xS) := (c5_setWord n 2 S ((xI S n 4 0) - (2 : Int32)) ((xI S n 4 4) + (xI S n 4 1))).bind (fun S1 => (c1_makeReady n S1 (((xI S1 n 4 0) &&& (65534 : Int32)) ||| (xI S1 n 4 6))).bind (fun S2 => (c9_popAll n 4 S2 ).bind (fun S3 => some S3)))
set_option maxHeartbeats 4000000 in
set_option maxRecDepth 100000 in
theorem m_c7_startProcess {l : Launch} {D : va_G} {cI cJ cL cN : ClassId} {ad : Nat → Nat → Nat} {N : Nat} (hN : N ≤ 8) (hI : xInj (cDom N) ad) {n : Nat} (hn : n < N) {S : xS}  {o : xS} (h : c7_startProcess n S  = some o) : Met l yX7_startProcess (Cond.code yX7_startProcess cX7_startProcess 1 none :: xG) { frames := 2, cells := 0, slots := 0, locals := 49 } (xPc D vwCl (cTy cI cJ cL cN) cNf cNm (cDom N) ad (cDe ad N cI cJ cL cN) [.ref (ad n 20)] S) (xQ D vwCl (cDom N) ad (cDe ad N cI cJ cL cN) none o) 0 0 (xA (cDom N) ad) := by
  unfold c7_startProcess at h
  refine x_enter (by decide) (Nat.le_of_ble_eq_true rfl) (fun p e s m below meth c F hr hlk hK hW hS ls hl => ?_)
  have hl : lv_has ls 1 [(0, .ref (ad n 20))] := hl
  have hx := F.1
  have hb := F.2.1
  refine lv_aload_n hx hb dX7_startProcess_0 rfl (lv_at hl 0 rfl) ?_
  refine x_get F hK hW xc_X7 (cd_dX7 hn) (cd_eX7 hN hn) 2 (by decide) k_2_91 (rfl) dX7_startProcess_1 ?_
  refine lv_aload_n hx hb dX7_startProcess_4 rfl (lv_at hl 0 rfl) ?_
  refine x_get F hK hW xc_X7 (cd_dX7 hn) (cd_eX7 hN hn) 1 (by decide) k_2_90 (rfl) dX7_startProcess_5 ?_
  refine x_getN F hK hW xc_X9 (cd_dX9 ⟨hn, Or.inl rfl⟩) (cd_eX9 hN ⟨hn, Or.inl rfl⟩) 0 (by decide) kn_2 (rfl) dX7_startProcess_8 ?_
  refine lv_iconst (v := (2 : Int32)) hx hb dX7_startProcess_11 (by decide) ?_
  refine lv_isub hx hb dX7_startProcess_12 ?_
  refine lv_aload_n hx hb dX7_startProcess_13 rfl (lv_at hl 0 rfl) ?_
  refine x_get F hK hW xc_X7 (cd_dX7 hn) (cd_eX7 hN hn) 1 (by decide) k_2_90 (rfl) dX7_startProcess_14 ?_
  refine x_getN F hK hW xc_X9 (cd_dX9 ⟨hn, Or.inl rfl⟩) (cd_eX9 hN ⟨hn, Or.inl rfl⟩) 4 (by decide) kn_12 (rfl) dX7_startProcess_17 ?_
  refine lv_aload_n hx hb dX7_startProcess_20 rfl (lv_at hl 0 rfl) ?_
  refine x_get F hK hW xc_X7 (cd_dX7 hn) (cd_eX7 hN hn) 1 (by decide) k_2_90 (rfl) dX7_startProcess_21 ?_
  refine x_getN F hK hW xc_X9 (cd_dX9 ⟨hn, Or.inl rfl⟩) (cd_eX9 hN ⟨hn, Or.inl rfl⟩) 1 (by decide) kn_5 (rfl) dX7_startProcess_24 ?_
  refine lv_iadd hx hb dX7_startProcess_27 ?_
  refine x_cVv (As := [.int ((xI S n 4 0) - (2 : Int32)), .int ((xI S n 4 4) + (xI S n 4 1))]) F xG_ok hK hW hS um_X5_setWord k_4_49 (fun _ h1 => m_c5_setWord hN hI (is5n hn) _ _ h1) rfl (cd_dX5 (is5n hn)) (cd_eX5 hN (is5n hn)) rfl rfl hl.1 rfl rfl ⟨Nat.le_of_ble_eq_true rfl, Nat.le_of_ble_eq_true rfl⟩ ⟨Nat.zero_le _, Nat.zero_le _⟩ (Nat.le_of_ble_eq_true rfl) dX7_startProcess_28 h (fun S1 H locs hW hS h => ?_)
  refine lv_aload_n hx hb dX7_startProcess_31 rfl (lv_at hl 0 rfl) ?_
  refine x_get F hK hW xc_X7 (cd_dX7 hn) (cd_eX7 hN hn) 0 (by decide) k_2_89 (rfl) dX7_startProcess_32 ?_
  refine lv_aload_n hx hb dX7_startProcess_35 rfl (lv_at hl 0 rfl) ?_
  refine x_get F hK hW xc_X7 (cd_dX7 hn) (cd_eX7 hN hn) 1 (by decide) k_2_90 (rfl) dX7_startProcess_36 ?_
  refine x_getN F hK hW xc_X9 (cd_dX9 ⟨hn, Or.inl rfl⟩) (cd_eX9 hN ⟨hn, Or.inl rfl⟩) 0 (by decide) kn_2 (rfl) dX7_startProcess_39 ?_
  refine lv_ldc (v := (65534 : Int32)) hx hb F.2.2.2.1 (x_hts F _ k_4_171) dX7_startProcess_42 ?_
  refine lv_iand hx hb dX7_startProcess_44 ?_
  refine lv_aload_n hx hb dX7_startProcess_45 rfl (lv_at hl 0 rfl) ?_
  refine x_get F hK hW xc_X7 (cd_dX7 hn) (cd_eX7 hN hn) 1 (by decide) k_2_90 (rfl) dX7_startProcess_46 ?_
  refine x_getN F hK hW xc_X9 (cd_dX9 ⟨hn, Or.inl rfl⟩) (cd_eX9 hN ⟨hn, Or.inl rfl⟩) 6 (by decide) kn_17 (rfl) dX7_startProcess_49 ?_
  refine lv_ior hx hb dX7_startProcess_52 ?_
  refine x_cVv (As := [.int (((xI S1 n 4 0) &&& (65534 : Int32)) ||| (xI S1 n 4 6))]) F xG_ok hK hW hS um_X1_makeReady k_4_172 (fun _ h1 => m_c1_makeReady hN hI hn _ h1) rfl (cd_dX1 hn) (cd_eX1 hN hn) rfl rfl hl.1 rfl rfl ⟨Nat.le_of_ble_eq_true rfl, Nat.le_of_ble_eq_true rfl⟩ ⟨Nat.zero_le _, Nat.zero_le _⟩ (Nat.le_of_ble_eq_true rfl) dX7_startProcess_53 h (fun S2 H locs hW hS h => ?_)
  refine lv_aload_n hx hb dX7_startProcess_56 rfl (lv_at hl 0 rfl) ?_
  refine x_get F hK hW xc_X7 (cd_dX7 hn) (cd_eX7 hN hn) 1 (by decide) k_2_90 (rfl) dX7_startProcess_57 ?_
  refine x_cVv (As := []) F xG_ok hK hW hS um_X9_popAll k_4_50 (fun _ h1 => m_c9_popAll hN hI ⟨hn, Or.inl rfl⟩  h1) rfl (cd_dX9 ⟨hn, Or.inl rfl⟩) (cd_eX9 hN ⟨hn, Or.inl rfl⟩) rfl rfl hl.1 rfl rfl ⟨Nat.le_of_ble_eq_true rfl, Nat.le_of_ble_eq_true rfl⟩ ⟨Nat.zero_le _, Nat.zero_le _⟩ (Nat.le_of_ble_eq_true rfl) dX7_startProcess_60 h (fun S3 H locs hW hS h => ?_)
  exact x_vret F hr hlk hW hS dX7_startProcess_63 h
/-! X7_saveQueue -/
def c7_saveQueue (n : Nat) (j2 : Nat) (S : xS)  : Option (xS) := (c5_setWord n 2 S (xI S n 4 0) (xI S n j2 0)).bind (fun S1 => (c5_setWord n 2 S1 ((xI S1 n 4 0) + (2 : Int32)) (xI S1 n j2 1)).bind (fun S2 => (c9_pop n 4 S2 ).bind (fun S3 => some S3)))
set_option maxHeartbeats 4000000 in
set_option maxRecDepth 100000 in
theorem m_c7_saveQueue {l : Launch} {D : va_G} {cI cJ cL cN : ClassId} {ad : Nat → Nat → Nat} {N : Nat} (hN : N ≤ 8) (hI : xInj (cDom N) ad) {n : Nat} (hn : n < N) {j2 : Nat} (hj2 : isX8 N n j2) {S : xS}  {o : xS} (h : c7_saveQueue n j2 S  = some o) : Met l yX7_saveQueue (Cond.code yX7_saveQueue cX7_saveQueue 2 none :: xG) { frames := 1, cells := 0, slots := 0, locals := 26 } (xPc D vwCl (cTy cI cJ cL cN) cNf cNm (cDom N) ad (cDe ad N cI cJ cL cN) [.ref (ad n 20), .ref (ad n j2)] S) (xQ D vwCl (cDom N) ad (cDe ad N cI cJ cL cN) none o) 0 0 (xA (cDom N) ad) := by
  unfold c7_saveQueue at h
  refine x_enter (by decide) (Nat.le_of_ble_eq_true rfl) (fun p e s m below meth c F hr hlk hK hW hS ls hl => ?_)
  have hl : lv_has ls 2 [(0, .ref (ad n 20)), (1, .ref (ad n j2))] := hl
  have hx := F.1
  have hb := F.2.1
  refine lv_aload_n hx hb dX7_saveQueue_0 rfl (lv_at hl 0 rfl) ?_
  refine x_get F hK hW xc_X7 (cd_dX7 hn) (cd_eX7 hN hn) 2 (by decide) k_2_91 (rfl) dX7_saveQueue_1 ?_
  refine lv_aload_n hx hb dX7_saveQueue_4 rfl (lv_at hl 0 rfl) ?_
  refine x_get F hK hW xc_X7 (cd_dX7 hn) (cd_eX7 hN hn) 1 (by decide) k_2_90 (rfl) dX7_saveQueue_5 ?_
  refine x_getN F hK hW xc_X9 (cd_dX9 ⟨hn, Or.inl rfl⟩) (cd_eX9 hN ⟨hn, Or.inl rfl⟩) 0 (by decide) kn_2 (rfl) dX7_saveQueue_8 ?_
  refine lv_aload_n hx hb dX7_saveQueue_11 rfl (lv_at hl 1 rfl) ?_
  refine x_getN F hK hW xc_X8 (cd_dX8 hj2) (cd_eX8 hN hj2) 0 (by decide) kn_21 (rfl) dX7_saveQueue_12 ?_
  refine x_cVv (As := [.int (xI S n 4 0), .int (xI S n j2 0)]) F xG_ok hK hW hS um_X5_setWord k_4_49 (fun _ h1 => m_c5_setWord hN hI (is5n hn) _ _ h1) rfl (cd_dX5 (is5n hn)) (cd_eX5 hN (is5n hn)) rfl rfl hl.1 rfl rfl ⟨Nat.le_of_ble_eq_true rfl, Nat.le_of_ble_eq_true rfl⟩ ⟨Nat.zero_le _, Nat.zero_le _⟩ (Nat.le_of_ble_eq_true rfl) dX7_saveQueue_15 h (fun S1 H locs hW hS h => ?_)
  refine lv_aload_n hx hb dX7_saveQueue_18 rfl (lv_at hl 0 rfl) ?_
  refine x_get F hK hW xc_X7 (cd_dX7 hn) (cd_eX7 hN hn) 2 (by decide) k_2_91 (rfl) dX7_saveQueue_19 ?_
  refine lv_aload_n hx hb dX7_saveQueue_22 rfl (lv_at hl 0 rfl) ?_
  refine x_get F hK hW xc_X7 (cd_dX7 hn) (cd_eX7 hN hn) 1 (by decide) k_2_90 (rfl) dX7_saveQueue_23 ?_
  refine x_getN F hK hW xc_X9 (cd_dX9 ⟨hn, Or.inl rfl⟩) (cd_eX9 hN ⟨hn, Or.inl rfl⟩) 0 (by decide) kn_2 (rfl) dX7_saveQueue_26 ?_
  refine lv_iconst (v := (2 : Int32)) hx hb dX7_saveQueue_29 (by decide) ?_
  refine lv_iadd hx hb dX7_saveQueue_30 ?_
  refine lv_aload_n hx hb dX7_saveQueue_31 rfl (lv_at hl 1 rfl) ?_
  refine x_getN F hK hW xc_X8 (cd_dX8 hj2) (cd_eX8 hN hj2) 1 (by decide) kn_23 (rfl) dX7_saveQueue_32 ?_
  refine x_cVv (As := [.int ((xI S1 n 4 0) + (2 : Int32)), .int (xI S1 n j2 1)]) F xG_ok hK hW hS um_X5_setWord k_4_49 (fun _ h1 => m_c5_setWord hN hI (is5n hn) _ _ h1) rfl (cd_dX5 (is5n hn)) (cd_eX5 hN (is5n hn)) rfl rfl hl.1 rfl rfl ⟨Nat.le_of_ble_eq_true rfl, Nat.le_of_ble_eq_true rfl⟩ ⟨Nat.zero_le _, Nat.zero_le _⟩ (Nat.le_of_ble_eq_true rfl) dX7_saveQueue_35 h (fun S2 H locs hW hS h => ?_)
  refine lv_aload_n hx hb dX7_saveQueue_38 rfl (lv_at hl 0 rfl) ?_
  refine x_get F hK hW xc_X7 (cd_dX7 hn) (cd_eX7 hN hn) 1 (by decide) k_2_90 (rfl) dX7_saveQueue_39 ?_
  refine x_cVv (As := []) F xG_ok hK hW hS um_X9_pop k_4_45 (fun _ h1 => m_c9_pop hN hI ⟨hn, Or.inl rfl⟩  h1) rfl (cd_dX9 ⟨hn, Or.inl rfl⟩) (cd_eX9 hN ⟨hn, Or.inl rfl⟩) rfl rfl hl.1 rfl rfl ⟨Nat.le_of_ble_eq_true rfl, Nat.le_of_ble_eq_true rfl⟩ ⟨Nat.zero_le _, Nat.zero_le _⟩ (Nat.le_of_ble_eq_true rfl) dX7_saveQueue_42 h (fun S3 H locs hW hS h => ?_)
  exact x_vret F hr hlk hW hS dX7_saveQueue_45 h
/-! X7_doScheduling -/
def c7_doScheduling (n : Nat) (S : xS) (a1 : Int32) : Option (Int32 × xS) := if a1 = (3 : Int32) then ((c7_endProcess n S ).bind (fun S2 => some ((1 : Int32), S2))) else (if a1 = (13 : Int32) then ((c7_startProcess n S ).bind (fun S3 => some ((1 : Int32), S3))) else (if a1 = (21 : Int32) then ((c1_leaveWaiting n S ).bind (fun S4 => some ((1 : Int32), S4))) else (if a1 = (23 : Int32) then (xnm (sI S n 7 1 ((xI S n 4 0) &&& (65534 : Int32))) (fun S5 => (c9_pop n 4 S5 ).bind (fun S6 => some ((1 : Int32), S6)))) else (if a1 = (24 : Int32) then (xnm (sI S n 6 0 ((xI S n 4 0) &&& (65534 : Int32))) (fun S7 => (c9_pop n 4 S7 ).bind (fun S8 => some ((1 : Int32), S8)))) else (if a1 = (28 : Int32) then (xnm (sI S n 7 0 ((xI S n 4 0) &&& (65534 : Int32))) (fun S9 => (c9_pop n 4 S9 ).bind (fun S10 => some ((1 : Int32), S10)))) else (if a1 = (57 : Int32) then ((c1_makeReady n S (xI S n 4 0)).bind (fun S11 => (c9_pop n 4 S11 ).bind (fun S12 => some ((1 : Int32), S12)))) else (if a1 = (61 : Int32) then ((c7_saveQueue n 7 S ).bind (fun S13 => some ((1 : Int32), S13))) else (if a1 = (62 : Int32) then ((c7_saveQueue n 6 S ).bind (fun S14 => some ((1 : Int32), S14))) else (if a1 = (80 : Int32) then (xnm (sI S n 6 1 ((xI S n 4 0) &&& (65534 : Int32))) (fun S15 => (c9_pop n 4 S15 ).bind (fun S16 => some ((1 : Int32), S16)))) else (some ((0 : Int32), S)))))))))))
set_option maxHeartbeats 4000000 in
set_option maxRecDepth 100000 in
theorem m_c7_doScheduling {l : Launch} {D : va_G} {cI cJ cL cN : ClassId} {ad : Nat → Nat → Nat} {N : Nat} (hN : N ≤ 8) (hI : xInj (cDom N) ad) {n : Nat} (hn : n < N) {S : xS} (a1 : Int32) {o : Int32 × xS} (h : c7_doScheduling n S a1 = some o) : Met l yX7_doScheduling (Cond.code yX7_doScheduling cX7_doScheduling 2 (some .boolean) :: xG) { frames := 3, cells := 0, slots := 0, locals := 69 } (xPc D vwCl (cTy cI cJ cL cN) cNf cNm (cDom N) ad (cDe ad N cI cJ cL cN) [.ref (ad n 20), .int a1] S) (xQ D vwCl (cDom N) ad (cDe ad N cI cJ cL cN) (some (.int o.1)) o.2) 0 0 (xA (cDom N) ad) := by
  unfold c7_doScheduling at h
  refine x_enter (by decide) (Nat.le_of_ble_eq_true rfl) (fun p e s m below meth c F hr hlk hK hW hS ls hl => ?_)
  have hl : lv_has ls 2 [(0, .ref (ad n 20)), (1, .int a1)] := hl
  have hx := F.1
  have hb := F.2.1
  refine lv_iload_n hx hb dX7_doScheduling_0 rfl (lv_at hl 1 rfl) ?_
  by_cases c_1_3 : a1 = (3 : Int32)
  · replace h := (if_pos c_1_3).symm.trans h
    refine lv_lookup (tgt := 92) (off := 91) hx hb dX7_doScheduling_1 (by decide) (by rw [c_1_3]; decide) (by decide) ?_
    refine lv_aload_n hx hb dX7_doScheduling_92 rfl (lv_at hl 0 rfl) ?_
    refine x_cVv (As := []) F xG_ok hK hW hS um_X7_endProcess k_4_163 (fun _ h1 => m_c7_endProcess hN hI hn  h1) rfl (cd_dX7 hn) (cd_eX7 hN hn) rfl rfl hl.1 rfl rfl ⟨Nat.le_of_ble_eq_true rfl, Nat.le_of_ble_eq_true rfl⟩ ⟨Nat.zero_le _, Nat.zero_le _⟩ (Nat.le_of_ble_eq_true rfl) dX7_doScheduling_93 h (fun S2 H locs hW hS h => ?_)
    refine lv_goto (tgt := 290) hx hb dX7_doScheduling_96 (by decide) ?_
    refine lv_iconst (v := (1 : Int32)) hx hb dX7_doScheduling_290 (by decide) ?_
    exact x_zret F hr hlk hW hS rfl dX7_doScheduling_291 h
  replace h := (if_neg c_1_3).symm.trans h
  have hn_1_3 := x_swN (z := 3) c_1_3 x_sw0 rfl
  by_cases c_1_13 : a1 = (13 : Int32)
  · replace h := (if_pos c_1_13).symm.trans h
    refine lv_lookup (tgt := 99) (off := 98) hx hb dX7_doScheduling_1 (by decide) (by rw [c_1_13]; decide) (by decide) ?_
    refine lv_aload_n hx hb dX7_doScheduling_99 rfl (lv_at hl 0 rfl) ?_
    refine x_cVv (As := []) F xG_ok hK hW hS um_X7_startProcess k_4_167 (fun _ h1 => m_c7_startProcess hN hI hn  h1) rfl (cd_dX7 hn) (cd_eX7 hN hn) rfl rfl hl.1 rfl rfl ⟨Nat.le_of_ble_eq_true rfl, Nat.le_of_ble_eq_true rfl⟩ ⟨Nat.zero_le _, Nat.zero_le _⟩ (Nat.le_of_ble_eq_true rfl) dX7_doScheduling_100 h (fun S3 H locs hW hS h => ?_)
    refine lv_goto (tgt := 290) hx hb dX7_doScheduling_103 (by decide) ?_
    refine lv_iconst (v := (1 : Int32)) hx hb dX7_doScheduling_290 (by decide) ?_
    exact x_zret F hr hlk hW hS rfl dX7_doScheduling_291 h
  replace h := (if_neg c_1_13).symm.trans h
  have hn_1_13 := x_swN (z := 13) c_1_13 hn_1_3 rfl
  by_cases c_1_21 : a1 = (21 : Int32)
  · replace h := (if_pos c_1_21).symm.trans h
    refine lv_lookup (tgt := 106) (off := 105) hx hb dX7_doScheduling_1 (by decide) (by rw [c_1_21]; decide) (by decide) ?_
    refine lv_aload_n hx hb dX7_doScheduling_106 rfl (lv_at hl 0 rfl) ?_
    refine x_get F hK hW xc_X7 (cd_dX7 hn) (cd_eX7 hN hn) 0 (by decide) k_2_89 (rfl) dX7_doScheduling_107 ?_
    refine x_cVv (As := []) F xG_ok hK hW hS um_X1_leaveWaiting k_4_116 (fun _ h1 => m_c1_leaveWaiting hN hI hn  h1) rfl (cd_dX1 hn) (cd_eX1 hN hn) rfl rfl hl.1 rfl rfl ⟨Nat.le_of_ble_eq_true rfl, Nat.le_of_ble_eq_true rfl⟩ ⟨Nat.zero_le _, Nat.zero_le _⟩ (Nat.le_of_ble_eq_true rfl) dX7_doScheduling_110 h (fun S4 H locs hW hS h => ?_)
    refine lv_goto (tgt := 290) hx hb dX7_doScheduling_113 (by decide) ?_
    refine lv_iconst (v := (1 : Int32)) hx hb dX7_doScheduling_290 (by decide) ?_
    exact x_zret F hr hlk hW hS rfl dX7_doScheduling_291 h
  replace h := (if_neg c_1_21).symm.trans h
  have hn_1_21 := x_swN (z := 21) c_1_21 hn_1_13 rfl
  by_cases c_1_23 : a1 = (23 : Int32)
  · replace h := (if_pos c_1_23).symm.trans h
    refine lv_lookup (tgt := 116) (off := 115) hx hb dX7_doScheduling_1 (by decide) (by rw [c_1_23]; decide) (by decide) ?_
    refine lv_aload_n hx hb dX7_doScheduling_116 rfl (lv_at hl 0 rfl) ?_
    refine x_get F hK hW xc_X7 (cd_dX7 hn) (cd_eX7 hN hn) 0 (by decide) k_2_89 (rfl) dX7_doScheduling_117 ?_
    refine x_getN F hK hW xc_X1 (cd_dX1 hn) (cd_eX1 hN hn) 4 (by decide) kn_34 (rfl) dX7_doScheduling_120 ?_
    refine lv_aload_n hx hb dX7_doScheduling_123 rfl (lv_at hl 0 rfl) ?_
    refine x_get F hK hW xc_X7 (cd_dX7 hn) (cd_eX7 hN hn) 1 (by decide) k_2_90 (rfl) dX7_doScheduling_124 ?_
    refine x_getN F hK hW xc_X9 (cd_dX9 ⟨hn, Or.inl rfl⟩) (cd_eX9 hN ⟨hn, Or.inl rfl⟩) 0 (by decide) kn_2 (rfl) dX7_doScheduling_127 ?_
    refine lv_ldc (v := (65534 : Int32)) hx hb F.2.2.2.1 (x_hts F _ k_4_171) dX7_doScheduling_130 ?_
    refine lv_iand hx hb dX7_doScheduling_132 ?_
    refine x_putN F hK hI hW hS xc_X8 (cd_dX8 ⟨hn, Or.inr rfl⟩) (cd_eX8 hN ⟨hn, Or.inr rfl⟩) 1 (by decide) kn_23 rfl (v := ((xI S n 4 0) &&& (65534 : Int32))) rfl rfl (fun _ _ => rfl) (fun _ _ => Nat.le_of_ble_eq_true rfl) dX7_doScheduling_133 h (fun S5 H locs hW hS h => ?_)
    refine lv_aload_n hx hb dX7_doScheduling_136 rfl (lv_at hl 0 rfl) ?_
    refine x_get F hK hW xc_X7 (cd_dX7 hn) (cd_eX7 hN hn) 1 (by decide) k_2_90 (rfl) dX7_doScheduling_137 ?_
    refine x_cVv (As := []) F xG_ok hK hW hS um_X9_pop k_4_45 (fun _ h1 => m_c9_pop hN hI ⟨hn, Or.inl rfl⟩  h1) rfl (cd_dX9 ⟨hn, Or.inl rfl⟩) (cd_eX9 hN ⟨hn, Or.inl rfl⟩) rfl rfl hl.1 rfl rfl ⟨Nat.le_of_ble_eq_true rfl, Nat.le_of_ble_eq_true rfl⟩ ⟨Nat.zero_le _, Nat.zero_le _⟩ (Nat.le_of_ble_eq_true rfl) dX7_doScheduling_140 h (fun S6 H locs hW hS h => ?_)
    refine lv_goto (tgt := 290) hx hb dX7_doScheduling_143 (by decide) ?_
    refine lv_iconst (v := (1 : Int32)) hx hb dX7_doScheduling_290 (by decide) ?_
    exact x_zret F hr hlk hW hS rfl dX7_doScheduling_291 h
  replace h := (if_neg c_1_23).symm.trans h
  have hn_1_23 := x_swN (z := 23) c_1_23 hn_1_21 rfl
  by_cases c_1_24 : a1 = (24 : Int32)
  · replace h := (if_pos c_1_24).symm.trans h
    refine lv_lookup (tgt := 146) (off := 145) hx hb dX7_doScheduling_1 (by decide) (by rw [c_1_24]; decide) (by decide) ?_
    refine lv_aload_n hx hb dX7_doScheduling_146 rfl (lv_at hl 0 rfl) ?_
    refine x_get F hK hW xc_X7 (cd_dX7 hn) (cd_eX7 hN hn) 0 (by decide) k_2_89 (rfl) dX7_doScheduling_147 ?_
    refine x_getN F hK hW xc_X1 (cd_dX1 hn) (cd_eX1 hN hn) 3 (by decide) kn_33 (rfl) dX7_doScheduling_150 ?_
    refine lv_aload_n hx hb dX7_doScheduling_153 rfl (lv_at hl 0 rfl) ?_
    refine x_get F hK hW xc_X7 (cd_dX7 hn) (cd_eX7 hN hn) 1 (by decide) k_2_90 (rfl) dX7_doScheduling_154 ?_
    refine x_getN F hK hW xc_X9 (cd_dX9 ⟨hn, Or.inl rfl⟩) (cd_eX9 hN ⟨hn, Or.inl rfl⟩) 0 (by decide) kn_2 (rfl) dX7_doScheduling_157 ?_
    refine lv_ldc (v := (65534 : Int32)) hx hb F.2.2.2.1 (x_hts F _ k_4_171) dX7_doScheduling_160 ?_
    refine lv_iand hx hb dX7_doScheduling_162 ?_
    refine x_putN F hK hI hW hS xc_X8 (cd_dX8 ⟨hn, Or.inl rfl⟩) (cd_eX8 hN ⟨hn, Or.inl rfl⟩) 0 (by decide) kn_21 rfl (v := ((xI S n 4 0) &&& (65534 : Int32))) rfl rfl (fun _ _ => rfl) (fun _ _ => Nat.le_of_ble_eq_true rfl) dX7_doScheduling_163 h (fun S7 H locs hW hS h => ?_)
    refine lv_aload_n hx hb dX7_doScheduling_166 rfl (lv_at hl 0 rfl) ?_
    refine x_get F hK hW xc_X7 (cd_dX7 hn) (cd_eX7 hN hn) 1 (by decide) k_2_90 (rfl) dX7_doScheduling_167 ?_
    refine x_cVv (As := []) F xG_ok hK hW hS um_X9_pop k_4_45 (fun _ h1 => m_c9_pop hN hI ⟨hn, Or.inl rfl⟩  h1) rfl (cd_dX9 ⟨hn, Or.inl rfl⟩) (cd_eX9 hN ⟨hn, Or.inl rfl⟩) rfl rfl hl.1 rfl rfl ⟨Nat.le_of_ble_eq_true rfl, Nat.le_of_ble_eq_true rfl⟩ ⟨Nat.zero_le _, Nat.zero_le _⟩ (Nat.le_of_ble_eq_true rfl) dX7_doScheduling_170 h (fun S8 H locs hW hS h => ?_)
    refine lv_goto (tgt := 290) hx hb dX7_doScheduling_173 (by decide) ?_
    refine lv_iconst (v := (1 : Int32)) hx hb dX7_doScheduling_290 (by decide) ?_
    exact x_zret F hr hlk hW hS rfl dX7_doScheduling_291 h
  replace h := (if_neg c_1_24).symm.trans h
  have hn_1_24 := x_swN (z := 24) c_1_24 hn_1_23 rfl
  by_cases c_1_28 : a1 = (28 : Int32)
  · replace h := (if_pos c_1_28).symm.trans h
    refine lv_lookup (tgt := 176) (off := 175) hx hb dX7_doScheduling_1 (by decide) (by rw [c_1_28]; decide) (by decide) ?_
    refine lv_aload_n hx hb dX7_doScheduling_176 rfl (lv_at hl 0 rfl) ?_
    refine x_get F hK hW xc_X7 (cd_dX7 hn) (cd_eX7 hN hn) 0 (by decide) k_2_89 (rfl) dX7_doScheduling_177 ?_
    refine x_getN F hK hW xc_X1 (cd_dX1 hn) (cd_eX1 hN hn) 4 (by decide) kn_34 (rfl) dX7_doScheduling_180 ?_
    refine lv_aload_n hx hb dX7_doScheduling_183 rfl (lv_at hl 0 rfl) ?_
    refine x_get F hK hW xc_X7 (cd_dX7 hn) (cd_eX7 hN hn) 1 (by decide) k_2_90 (rfl) dX7_doScheduling_184 ?_
    refine x_getN F hK hW xc_X9 (cd_dX9 ⟨hn, Or.inl rfl⟩) (cd_eX9 hN ⟨hn, Or.inl rfl⟩) 0 (by decide) kn_2 (rfl) dX7_doScheduling_187 ?_
    refine lv_ldc (v := (65534 : Int32)) hx hb F.2.2.2.1 (x_hts F _ k_4_171) dX7_doScheduling_190 ?_
    refine lv_iand hx hb dX7_doScheduling_192 ?_
    refine x_putN F hK hI hW hS xc_X8 (cd_dX8 ⟨hn, Or.inr rfl⟩) (cd_eX8 hN ⟨hn, Or.inr rfl⟩) 0 (by decide) kn_21 rfl (v := ((xI S n 4 0) &&& (65534 : Int32))) rfl rfl (fun _ _ => rfl) (fun _ _ => Nat.le_of_ble_eq_true rfl) dX7_doScheduling_193 h (fun S9 H locs hW hS h => ?_)
    refine lv_aload_n hx hb dX7_doScheduling_196 rfl (lv_at hl 0 rfl) ?_
    refine x_get F hK hW xc_X7 (cd_dX7 hn) (cd_eX7 hN hn) 1 (by decide) k_2_90 (rfl) dX7_doScheduling_197 ?_
    refine x_cVv (As := []) F xG_ok hK hW hS um_X9_pop k_4_45 (fun _ h1 => m_c9_pop hN hI ⟨hn, Or.inl rfl⟩  h1) rfl (cd_dX9 ⟨hn, Or.inl rfl⟩) (cd_eX9 hN ⟨hn, Or.inl rfl⟩) rfl rfl hl.1 rfl rfl ⟨Nat.le_of_ble_eq_true rfl, Nat.le_of_ble_eq_true rfl⟩ ⟨Nat.zero_le _, Nat.zero_le _⟩ (Nat.le_of_ble_eq_true rfl) dX7_doScheduling_200 h (fun S10 H locs hW hS h => ?_)
    refine lv_goto (tgt := 290) hx hb dX7_doScheduling_203 (by decide) ?_
    refine lv_iconst (v := (1 : Int32)) hx hb dX7_doScheduling_290 (by decide) ?_
    exact x_zret F hr hlk hW hS rfl dX7_doScheduling_291 h
  replace h := (if_neg c_1_28).symm.trans h
  have hn_1_28 := x_swN (z := 28) c_1_28 hn_1_24 rfl
  by_cases c_1_57 : a1 = (57 : Int32)
  · replace h := (if_pos c_1_57).symm.trans h
    refine lv_lookup (tgt := 206) (off := 205) hx hb dX7_doScheduling_1 (by decide) (by rw [c_1_57]; decide) (by decide) ?_
    refine lv_aload_n hx hb dX7_doScheduling_206 rfl (lv_at hl 0 rfl) ?_
    refine x_get F hK hW xc_X7 (cd_dX7 hn) (cd_eX7 hN hn) 0 (by decide) k_2_89 (rfl) dX7_doScheduling_207 ?_
    refine lv_aload_n hx hb dX7_doScheduling_210 rfl (lv_at hl 0 rfl) ?_
    refine x_get F hK hW xc_X7 (cd_dX7 hn) (cd_eX7 hN hn) 1 (by decide) k_2_90 (rfl) dX7_doScheduling_211 ?_
    refine x_getN F hK hW xc_X9 (cd_dX9 ⟨hn, Or.inl rfl⟩) (cd_eX9 hN ⟨hn, Or.inl rfl⟩) 0 (by decide) kn_2 (rfl) dX7_doScheduling_214 ?_
    refine x_cVv (As := [.int (xI S n 4 0)]) F xG_ok hK hW hS um_X1_makeReady k_4_172 (fun _ h1 => m_c1_makeReady hN hI hn _ h1) rfl (cd_dX1 hn) (cd_eX1 hN hn) rfl rfl hl.1 rfl rfl ⟨Nat.le_of_ble_eq_true rfl, Nat.le_of_ble_eq_true rfl⟩ ⟨Nat.zero_le _, Nat.zero_le _⟩ (Nat.le_of_ble_eq_true rfl) dX7_doScheduling_217 h (fun S11 H locs hW hS h => ?_)
    refine lv_aload_n hx hb dX7_doScheduling_220 rfl (lv_at hl 0 rfl) ?_
    refine x_get F hK hW xc_X7 (cd_dX7 hn) (cd_eX7 hN hn) 1 (by decide) k_2_90 (rfl) dX7_doScheduling_221 ?_
    refine x_cVv (As := []) F xG_ok hK hW hS um_X9_pop k_4_45 (fun _ h1 => m_c9_pop hN hI ⟨hn, Or.inl rfl⟩  h1) rfl (cd_dX9 ⟨hn, Or.inl rfl⟩) (cd_eX9 hN ⟨hn, Or.inl rfl⟩) rfl rfl hl.1 rfl rfl ⟨Nat.le_of_ble_eq_true rfl, Nat.le_of_ble_eq_true rfl⟩ ⟨Nat.zero_le _, Nat.zero_le _⟩ (Nat.le_of_ble_eq_true rfl) dX7_doScheduling_224 h (fun S12 H locs hW hS h => ?_)
    refine lv_goto (tgt := 290) hx hb dX7_doScheduling_227 (by decide) ?_
    refine lv_iconst (v := (1 : Int32)) hx hb dX7_doScheduling_290 (by decide) ?_
    exact x_zret F hr hlk hW hS rfl dX7_doScheduling_291 h
  replace h := (if_neg c_1_57).symm.trans h
  have hn_1_57 := x_swN (z := 57) c_1_57 hn_1_28 rfl
  by_cases c_1_61 : a1 = (61 : Int32)
  · replace h := (if_pos c_1_61).symm.trans h
    refine lv_lookup (tgt := 230) (off := 229) hx hb dX7_doScheduling_1 (by decide) (by rw [c_1_61]; decide) (by decide) ?_
    refine lv_aload_n hx hb dX7_doScheduling_230 rfl (lv_at hl 0 rfl) ?_
    refine lv_aload_n hx hb dX7_doScheduling_231 rfl (lv_at hl 0 rfl) ?_
    refine x_get F hK hW xc_X7 (cd_dX7 hn) (cd_eX7 hN hn) 0 (by decide) k_2_89 (rfl) dX7_doScheduling_232 ?_
    refine x_getN F hK hW xc_X1 (cd_dX1 hn) (cd_eX1 hN hn) 4 (by decide) kn_34 (rfl) dX7_doScheduling_235 ?_
    refine x_cVv (As := [.ref (ad n 7)]) F xG_ok hK hW hS um_X7_saveQueue k_4_173 (fun _ h1 => m_c7_saveQueue hN hI hn ⟨hn, Or.inr rfl⟩  h1) rfl (cd_dX7 hn) (cd_eX7 hN hn) rfl rfl hl.1 rfl rfl ⟨Nat.le_of_ble_eq_true rfl, Nat.le_of_ble_eq_true rfl⟩ ⟨Nat.zero_le _, Nat.zero_le _⟩ (Nat.le_of_ble_eq_true rfl) dX7_doScheduling_238 h (fun S13 H locs hW hS h => ?_)
    refine lv_goto (tgt := 290) hx hb dX7_doScheduling_241 (by decide) ?_
    refine lv_iconst (v := (1 : Int32)) hx hb dX7_doScheduling_290 (by decide) ?_
    exact x_zret F hr hlk hW hS rfl dX7_doScheduling_291 h
  replace h := (if_neg c_1_61).symm.trans h
  have hn_1_61 := x_swN (z := 61) c_1_61 hn_1_57 rfl
  by_cases c_1_62 : a1 = (62 : Int32)
  · replace h := (if_pos c_1_62).symm.trans h
    refine lv_lookup (tgt := 244) (off := 243) hx hb dX7_doScheduling_1 (by decide) (by rw [c_1_62]; decide) (by decide) ?_
    refine lv_aload_n hx hb dX7_doScheduling_244 rfl (lv_at hl 0 rfl) ?_
    refine lv_aload_n hx hb dX7_doScheduling_245 rfl (lv_at hl 0 rfl) ?_
    refine x_get F hK hW xc_X7 (cd_dX7 hn) (cd_eX7 hN hn) 0 (by decide) k_2_89 (rfl) dX7_doScheduling_246 ?_
    refine x_getN F hK hW xc_X1 (cd_dX1 hn) (cd_eX1 hN hn) 3 (by decide) kn_33 (rfl) dX7_doScheduling_249 ?_
    refine x_cVv (As := [.ref (ad n 6)]) F xG_ok hK hW hS um_X7_saveQueue k_4_173 (fun _ h1 => m_c7_saveQueue hN hI hn ⟨hn, Or.inl rfl⟩  h1) rfl (cd_dX7 hn) (cd_eX7 hN hn) rfl rfl hl.1 rfl rfl ⟨Nat.le_of_ble_eq_true rfl, Nat.le_of_ble_eq_true rfl⟩ ⟨Nat.zero_le _, Nat.zero_le _⟩ (Nat.le_of_ble_eq_true rfl) dX7_doScheduling_252 h (fun S14 H locs hW hS h => ?_)
    refine lv_goto (tgt := 290) hx hb dX7_doScheduling_255 (by decide) ?_
    refine lv_iconst (v := (1 : Int32)) hx hb dX7_doScheduling_290 (by decide) ?_
    exact x_zret F hr hlk hW hS rfl dX7_doScheduling_291 h
  replace h := (if_neg c_1_62).symm.trans h
  have hn_1_62 := x_swN (z := 62) c_1_62 hn_1_61 rfl
  by_cases c_1_80 : a1 = (80 : Int32)
  · replace h := (if_pos c_1_80).symm.trans h
    refine lv_lookup (tgt := 258) (off := 257) hx hb dX7_doScheduling_1 (by decide) (by rw [c_1_80]; decide) (by decide) ?_
    refine lv_aload_n hx hb dX7_doScheduling_258 rfl (lv_at hl 0 rfl) ?_
    refine x_get F hK hW xc_X7 (cd_dX7 hn) (cd_eX7 hN hn) 0 (by decide) k_2_89 (rfl) dX7_doScheduling_259 ?_
    refine x_getN F hK hW xc_X1 (cd_dX1 hn) (cd_eX1 hN hn) 3 (by decide) kn_33 (rfl) dX7_doScheduling_262 ?_
    refine lv_aload_n hx hb dX7_doScheduling_265 rfl (lv_at hl 0 rfl) ?_
    refine x_get F hK hW xc_X7 (cd_dX7 hn) (cd_eX7 hN hn) 1 (by decide) k_2_90 (rfl) dX7_doScheduling_266 ?_
    refine x_getN F hK hW xc_X9 (cd_dX9 ⟨hn, Or.inl rfl⟩) (cd_eX9 hN ⟨hn, Or.inl rfl⟩) 0 (by decide) kn_2 (rfl) dX7_doScheduling_269 ?_
    refine lv_ldc (v := (65534 : Int32)) hx hb F.2.2.2.1 (x_hts F _ k_4_171) dX7_doScheduling_272 ?_
    refine lv_iand hx hb dX7_doScheduling_274 ?_
    refine x_putN F hK hI hW hS xc_X8 (cd_dX8 ⟨hn, Or.inl rfl⟩) (cd_eX8 hN ⟨hn, Or.inl rfl⟩) 1 (by decide) kn_23 rfl (v := ((xI S n 4 0) &&& (65534 : Int32))) rfl rfl (fun _ _ => rfl) (fun _ _ => Nat.le_of_ble_eq_true rfl) dX7_doScheduling_275 h (fun S15 H locs hW hS h => ?_)
    refine lv_aload_n hx hb dX7_doScheduling_278 rfl (lv_at hl 0 rfl) ?_
    refine x_get F hK hW xc_X7 (cd_dX7 hn) (cd_eX7 hN hn) 1 (by decide) k_2_90 (rfl) dX7_doScheduling_279 ?_
    refine x_cVv (As := []) F xG_ok hK hW hS um_X9_pop k_4_45 (fun _ h1 => m_c9_pop hN hI ⟨hn, Or.inl rfl⟩  h1) rfl (cd_dX9 ⟨hn, Or.inl rfl⟩) (cd_eX9 hN ⟨hn, Or.inl rfl⟩) rfl rfl hl.1 rfl rfl ⟨Nat.le_of_ble_eq_true rfl, Nat.le_of_ble_eq_true rfl⟩ ⟨Nat.zero_le _, Nat.zero_le _⟩ (Nat.le_of_ble_eq_true rfl) dX7_doScheduling_282 h (fun S16 H locs hW hS h => ?_)
    refine lv_goto (tgt := 290) hx hb dX7_doScheduling_285 (by decide) ?_
    refine lv_iconst (v := (1 : Int32)) hx hb dX7_doScheduling_290 (by decide) ?_
    exact x_zret F hr hlk hW hS rfl dX7_doScheduling_291 h
  replace h := (if_neg c_1_80).symm.trans h
  have hn_1_80 := x_swN (z := 80) c_1_80 hn_1_62 rfl
  refine x_lkpD (tgt := 288) hx hb dX7_doScheduling_1 hn_1_80 (by decide) (by decide) (by decide) ?_
  refine lv_iconst (v := (0 : Int32)) hx hb dX7_doScheduling_288 (by decide) ?_
  exact x_zret F hr hlk hW hS rfl dX7_doScheduling_289 h
/-! X7_doChannels -/
def c7_doChannels (n : Nat) (S : xS) (a1 : Int32) : Option (Int32 × xS) := if a1 = (7 : Int32) then ((c0_input n S ).bind (fun S2 => some ((1 : Int32), S2))) else (if a1 = (11 : Int32) then ((c0_output n S (xI S n 4 0) (xI S n 4 1) (xI S n 4 2)).bind (fun S3 => some ((1 : Int32), S3))) else (if a1 = (14 : Int32) then ((c1_setLocal n S (0 : Int32) (xI S n 4 0)).bind (fun S4 => (c0_output n S4 (1 : Int32) (xI S4 n 4 1) (xI S4 n 4 5)).bind (fun S5 => some ((1 : Int32), S5)))) else (if a1 = (15 : Int32) then ((c1_setLocal n S (0 : Int32) (xI S n 4 0)).bind (fun S6 => (c0_output n S6 (2 : Int32) (xI S6 n 4 1) (xI S6 n 4 5)).bind (fun S7 => some ((1 : Int32), S7)))) else (if a1 = (18 : Int32) then ((c0_reset n S ).bind (fun S8 => some ((1 : Int32), S8))) else (if a1 = (43 : Int32) then ((c0_inputTime n S ).bind (fun S9 => some ((1 : Int32), S9))) else (some ((0 : Int32), S)))))))
set_option maxHeartbeats 4000000 in
set_option maxRecDepth 100000 in
theorem m_c7_doChannels {l : Launch} {D : va_G} {cI cJ cL cN : ClassId} {ad : Nat → Nat → Nat} {N : Nat} (hN : N ≤ 8) (hI : xInj (cDom N) ad) {n : Nat} (hn : n < N) {S : xS} (a1 : Int32) {o : Int32 × xS} (h : c7_doChannels n S a1 = some o) : Met l yX7_doChannels (Cond.code yX7_doChannels cX7_doChannels 2 (some .boolean) :: xG) { frames := 4, cells := 0, slots := 0, locals := 98 } (xPc D vwCl (cTy cI cJ cL cN) cNf cNm (cDom N) ad (cDe ad N cI cJ cL cN) [.ref (ad n 20), .int a1] S) (xQ D vwCl (cDom N) ad (cDe ad N cI cJ cL cN) (some (.int o.1)) o.2) 0 0 (xA (cDom N) ad) := by
  unfold c7_doChannels at h
  refine x_enter (by decide) (Nat.le_of_ble_eq_true rfl) (fun p e s m below meth c F hr hlk hK hW hS ls hl => ?_)
  have hl : lv_has ls 2 [(0, .ref (ad n 20)), (1, .int a1)] := hl
  have hx := F.1
  have hb := F.2.1
  refine lv_iload_n hx hb dX7_doChannels_0 rfl (lv_at hl 1 rfl) ?_
  by_cases c_1_7 : a1 = (7 : Int32)
  · replace h := (if_pos c_1_7).symm.trans h
    refine lv_lookup (tgt := 60) (off := 59) hx hb dX7_doChannels_1 (by decide) (by rw [c_1_7]; decide) (by decide) ?_
    refine lv_aload_n hx hb dX7_doChannels_60 rfl (lv_at hl 0 rfl) ?_
    refine x_get F hK hW xc_X7 (cd_dX7 hn) (cd_eX7 hN hn) 3 (by decide) k_2_92 (rfl) dX7_doChannels_61 ?_
    refine x_cVv (As := []) F xG_ok hK hW hS um_X0_input k_4_181 (fun _ h1 => m_c0_input hN hI hn  h1) rfl (cd_dX0 hn) (cd_eX0 hN hn) rfl rfl hl.1 rfl rfl ⟨Nat.le_of_ble_eq_true rfl, Nat.le_of_ble_eq_true rfl⟩ ⟨Nat.zero_le _, Nat.zero_le _⟩ (Nat.le_of_ble_eq_true rfl) dX7_doChannels_64 h (fun S2 H locs hW hS h => ?_)
    refine lv_goto (tgt := 203) hx hb dX7_doChannels_67 (by decide) ?_
    refine lv_iconst (v := (1 : Int32)) hx hb dX7_doChannels_203 (by decide) ?_
    exact x_zret F hr hlk hW hS rfl dX7_doChannels_204 h
  replace h := (if_neg c_1_7).symm.trans h
  have hn_1_7 := x_swN (z := 7) c_1_7 x_sw0 rfl
  by_cases c_1_11 : a1 = (11 : Int32)
  · replace h := (if_pos c_1_11).symm.trans h
    refine lv_lookup (tgt := 70) (off := 69) hx hb dX7_doChannels_1 (by decide) (by rw [c_1_11]; decide) (by decide) ?_
    refine lv_aload_n hx hb dX7_doChannels_70 rfl (lv_at hl 0 rfl) ?_
    refine x_get F hK hW xc_X7 (cd_dX7 hn) (cd_eX7 hN hn) 3 (by decide) k_2_92 (rfl) dX7_doChannels_71 ?_
    refine lv_aload_n hx hb dX7_doChannels_74 rfl (lv_at hl 0 rfl) ?_
    refine x_get F hK hW xc_X7 (cd_dX7 hn) (cd_eX7 hN hn) 1 (by decide) k_2_90 (rfl) dX7_doChannels_75 ?_
    refine x_getN F hK hW xc_X9 (cd_dX9 ⟨hn, Or.inl rfl⟩) (cd_eX9 hN ⟨hn, Or.inl rfl⟩) 0 (by decide) kn_2 (rfl) dX7_doChannels_78 ?_
    refine lv_aload_n hx hb dX7_doChannels_81 rfl (lv_at hl 0 rfl) ?_
    refine x_get F hK hW xc_X7 (cd_dX7 hn) (cd_eX7 hN hn) 1 (by decide) k_2_90 (rfl) dX7_doChannels_82 ?_
    refine x_getN F hK hW xc_X9 (cd_dX9 ⟨hn, Or.inl rfl⟩) (cd_eX9 hN ⟨hn, Or.inl rfl⟩) 1 (by decide) kn_5 (rfl) dX7_doChannels_85 ?_
    refine lv_aload_n hx hb dX7_doChannels_88 rfl (lv_at hl 0 rfl) ?_
    refine x_get F hK hW xc_X7 (cd_dX7 hn) (cd_eX7 hN hn) 1 (by decide) k_2_90 (rfl) dX7_doChannels_89 ?_
    refine x_getN F hK hW xc_X9 (cd_dX9 ⟨hn, Or.inl rfl⟩) (cd_eX9 hN ⟨hn, Or.inl rfl⟩) 2 (by decide) kn_8 (rfl) dX7_doChannels_92 ?_
    refine x_cVv (As := [.int (xI S n 4 0), .int (xI S n 4 1), .int (xI S n 4 2)]) F xG_ok hK hW hS um_X0_output k_4_218 (fun _ h1 => m_c0_output hN hI hn _ _ _ h1) rfl (cd_dX0 hn) (cd_eX0 hN hn) rfl rfl hl.1 rfl rfl ⟨Nat.le_of_ble_eq_true rfl, Nat.le_of_ble_eq_true rfl⟩ ⟨Nat.zero_le _, Nat.zero_le _⟩ (Nat.le_of_ble_eq_true rfl) dX7_doChannels_95 h (fun S3 H locs hW hS h => ?_)
    refine lv_goto (tgt := 203) hx hb dX7_doChannels_98 (by decide) ?_
    refine lv_iconst (v := (1 : Int32)) hx hb dX7_doChannels_203 (by decide) ?_
    exact x_zret F hr hlk hW hS rfl dX7_doChannels_204 h
  replace h := (if_neg c_1_11).symm.trans h
  have hn_1_11 := x_swN (z := 11) c_1_11 hn_1_7 rfl
  by_cases c_1_14 : a1 = (14 : Int32)
  · replace h := (if_pos c_1_14).symm.trans h
    refine lv_lookup (tgt := 101) (off := 100) hx hb dX7_doChannels_1 (by decide) (by rw [c_1_14]; decide) (by decide) ?_
    refine lv_aload_n hx hb dX7_doChannels_101 rfl (lv_at hl 0 rfl) ?_
    refine x_get F hK hW xc_X7 (cd_dX7 hn) (cd_eX7 hN hn) 0 (by decide) k_2_89 (rfl) dX7_doChannels_102 ?_
    refine lv_iconst (v := (0 : Int32)) hx hb dX7_doChannels_105 (by decide) ?_
    refine lv_aload_n hx hb dX7_doChannels_106 rfl (lv_at hl 0 rfl) ?_
    refine x_get F hK hW xc_X7 (cd_dX7 hn) (cd_eX7 hN hn) 1 (by decide) k_2_90 (rfl) dX7_doChannels_107 ?_
    refine x_getN F hK hW xc_X9 (cd_dX9 ⟨hn, Or.inl rfl⟩) (cd_eX9 hN ⟨hn, Or.inl rfl⟩) 0 (by decide) kn_2 (rfl) dX7_doChannels_110 ?_
    refine x_cVv (As := [.int (0 : Int32), .int (xI S n 4 0)]) F xG_ok hK hW hS um_X1_setLocal k_4_41 (fun _ h1 => m_c1_setLocal hN hI hn _ _ h1) rfl (cd_dX1 hn) (cd_eX1 hN hn) rfl rfl hl.1 rfl rfl ⟨Nat.le_of_ble_eq_true rfl, Nat.le_of_ble_eq_true rfl⟩ ⟨Nat.zero_le _, Nat.zero_le _⟩ (Nat.le_of_ble_eq_true rfl) dX7_doChannels_113 h (fun S4 H locs hW hS h => ?_)
    refine lv_aload_n hx hb dX7_doChannels_116 rfl (lv_at hl 0 rfl) ?_
    refine x_get F hK hW xc_X7 (cd_dX7 hn) (cd_eX7 hN hn) 3 (by decide) k_2_92 (rfl) dX7_doChannels_117 ?_
    refine lv_iconst (v := (1 : Int32)) hx hb dX7_doChannels_120 (by decide) ?_
    refine lv_aload_n hx hb dX7_doChannels_121 rfl (lv_at hl 0 rfl) ?_
    refine x_get F hK hW xc_X7 (cd_dX7 hn) (cd_eX7 hN hn) 1 (by decide) k_2_90 (rfl) dX7_doChannels_122 ?_
    refine x_getN F hK hW xc_X9 (cd_dX9 ⟨hn, Or.inl rfl⟩) (cd_eX9 hN ⟨hn, Or.inl rfl⟩) 1 (by decide) kn_5 (rfl) dX7_doChannels_125 ?_
    refine lv_aload_n hx hb dX7_doChannels_128 rfl (lv_at hl 0 rfl) ?_
    refine x_get F hK hW xc_X7 (cd_dX7 hn) (cd_eX7 hN hn) 1 (by decide) k_2_90 (rfl) dX7_doChannels_129 ?_
    refine x_getN F hK hW xc_X9 (cd_dX9 ⟨hn, Or.inl rfl⟩) (cd_eX9 hN ⟨hn, Or.inl rfl⟩) 5 (by decide) kn_15 (rfl) dX7_doChannels_132 ?_
    refine x_cVv (As := [.int (1 : Int32), .int (xI S4 n 4 1), .int (xI S4 n 4 5)]) F xG_ok hK hW hS um_X0_output k_4_218 (fun _ h1 => m_c0_output hN hI hn _ _ _ h1) rfl (cd_dX0 hn) (cd_eX0 hN hn) rfl rfl hl.1 rfl rfl ⟨Nat.le_of_ble_eq_true rfl, Nat.le_of_ble_eq_true rfl⟩ ⟨Nat.zero_le _, Nat.zero_le _⟩ (Nat.le_of_ble_eq_true rfl) dX7_doChannels_135 h (fun S5 H locs hW hS h => ?_)
    refine lv_goto (tgt := 203) hx hb dX7_doChannels_138 (by decide) ?_
    refine lv_iconst (v := (1 : Int32)) hx hb dX7_doChannels_203 (by decide) ?_
    exact x_zret F hr hlk hW hS rfl dX7_doChannels_204 h
  replace h := (if_neg c_1_14).symm.trans h
  have hn_1_14 := x_swN (z := 14) c_1_14 hn_1_11 rfl
  by_cases c_1_15 : a1 = (15 : Int32)
  · replace h := (if_pos c_1_15).symm.trans h
    refine lv_lookup (tgt := 141) (off := 140) hx hb dX7_doChannels_1 (by decide) (by rw [c_1_15]; decide) (by decide) ?_
    refine lv_aload_n hx hb dX7_doChannels_141 rfl (lv_at hl 0 rfl) ?_
    refine x_get F hK hW xc_X7 (cd_dX7 hn) (cd_eX7 hN hn) 0 (by decide) k_2_89 (rfl) dX7_doChannels_142 ?_
    refine lv_iconst (v := (0 : Int32)) hx hb dX7_doChannels_145 (by decide) ?_
    refine lv_aload_n hx hb dX7_doChannels_146 rfl (lv_at hl 0 rfl) ?_
    refine x_get F hK hW xc_X7 (cd_dX7 hn) (cd_eX7 hN hn) 1 (by decide) k_2_90 (rfl) dX7_doChannels_147 ?_
    refine x_getN F hK hW xc_X9 (cd_dX9 ⟨hn, Or.inl rfl⟩) (cd_eX9 hN ⟨hn, Or.inl rfl⟩) 0 (by decide) kn_2 (rfl) dX7_doChannels_150 ?_
    refine x_cVv (As := [.int (0 : Int32), .int (xI S n 4 0)]) F xG_ok hK hW hS um_X1_setLocal k_4_41 (fun _ h1 => m_c1_setLocal hN hI hn _ _ h1) rfl (cd_dX1 hn) (cd_eX1 hN hn) rfl rfl hl.1 rfl rfl ⟨Nat.le_of_ble_eq_true rfl, Nat.le_of_ble_eq_true rfl⟩ ⟨Nat.zero_le _, Nat.zero_le _⟩ (Nat.le_of_ble_eq_true rfl) dX7_doChannels_153 h (fun S6 H locs hW hS h => ?_)
    refine lv_aload_n hx hb dX7_doChannels_156 rfl (lv_at hl 0 rfl) ?_
    refine x_get F hK hW xc_X7 (cd_dX7 hn) (cd_eX7 hN hn) 3 (by decide) k_2_92 (rfl) dX7_doChannels_157 ?_
    refine lv_iconst (v := (2 : Int32)) hx hb dX7_doChannels_160 (by decide) ?_
    refine lv_aload_n hx hb dX7_doChannels_161 rfl (lv_at hl 0 rfl) ?_
    refine x_get F hK hW xc_X7 (cd_dX7 hn) (cd_eX7 hN hn) 1 (by decide) k_2_90 (rfl) dX7_doChannels_162 ?_
    refine x_getN F hK hW xc_X9 (cd_dX9 ⟨hn, Or.inl rfl⟩) (cd_eX9 hN ⟨hn, Or.inl rfl⟩) 1 (by decide) kn_5 (rfl) dX7_doChannels_165 ?_
    refine lv_aload_n hx hb dX7_doChannels_168 rfl (lv_at hl 0 rfl) ?_
    refine x_get F hK hW xc_X7 (cd_dX7 hn) (cd_eX7 hN hn) 1 (by decide) k_2_90 (rfl) dX7_doChannels_169 ?_
    refine x_getN F hK hW xc_X9 (cd_dX9 ⟨hn, Or.inl rfl⟩) (cd_eX9 hN ⟨hn, Or.inl rfl⟩) 5 (by decide) kn_15 (rfl) dX7_doChannels_172 ?_
    refine x_cVv (As := [.int (2 : Int32), .int (xI S6 n 4 1), .int (xI S6 n 4 5)]) F xG_ok hK hW hS um_X0_output k_4_218 (fun _ h1 => m_c0_output hN hI hn _ _ _ h1) rfl (cd_dX0 hn) (cd_eX0 hN hn) rfl rfl hl.1 rfl rfl ⟨Nat.le_of_ble_eq_true rfl, Nat.le_of_ble_eq_true rfl⟩ ⟨Nat.zero_le _, Nat.zero_le _⟩ (Nat.le_of_ble_eq_true rfl) dX7_doChannels_175 h (fun S7 H locs hW hS h => ?_)
    refine lv_goto (tgt := 203) hx hb dX7_doChannels_178 (by decide) ?_
    refine lv_iconst (v := (1 : Int32)) hx hb dX7_doChannels_203 (by decide) ?_
    exact x_zret F hr hlk hW hS rfl dX7_doChannels_204 h
  replace h := (if_neg c_1_15).symm.trans h
  have hn_1_15 := x_swN (z := 15) c_1_15 hn_1_14 rfl
  by_cases c_1_18 : a1 = (18 : Int32)
  · replace h := (if_pos c_1_18).symm.trans h
    refine lv_lookup (tgt := 181) (off := 180) hx hb dX7_doChannels_1 (by decide) (by rw [c_1_18]; decide) (by decide) ?_
    refine lv_aload_n hx hb dX7_doChannels_181 rfl (lv_at hl 0 rfl) ?_
    refine x_get F hK hW xc_X7 (cd_dX7 hn) (cd_eX7 hN hn) 3 (by decide) k_2_92 (rfl) dX7_doChannels_182 ?_
    refine x_cVv (As := []) F xG_ok hK hW hS um_X0_reset k_4_231 (fun _ h1 => m_c0_reset hN hI hn  h1) rfl (cd_dX0 hn) (cd_eX0 hN hn) rfl rfl hl.1 rfl rfl ⟨Nat.le_of_ble_eq_true rfl, Nat.le_of_ble_eq_true rfl⟩ ⟨Nat.zero_le _, Nat.zero_le _⟩ (Nat.le_of_ble_eq_true rfl) dX7_doChannels_185 h (fun S8 H locs hW hS h => ?_)
    refine lv_goto (tgt := 203) hx hb dX7_doChannels_188 (by decide) ?_
    refine lv_iconst (v := (1 : Int32)) hx hb dX7_doChannels_203 (by decide) ?_
    exact x_zret F hr hlk hW hS rfl dX7_doChannels_204 h
  replace h := (if_neg c_1_18).symm.trans h
  have hn_1_18 := x_swN (z := 18) c_1_18 hn_1_15 rfl
  by_cases c_1_43 : a1 = (43 : Int32)
  · replace h := (if_pos c_1_43).symm.trans h
    refine lv_lookup (tgt := 191) (off := 190) hx hb dX7_doChannels_1 (by decide) (by rw [c_1_43]; decide) (by decide) ?_
    refine lv_aload_n hx hb dX7_doChannels_191 rfl (lv_at hl 0 rfl) ?_
    refine x_get F hK hW xc_X7 (cd_dX7 hn) (cd_eX7 hN hn) 3 (by decide) k_2_92 (rfl) dX7_doChannels_192 ?_
    refine x_cVv (As := []) F xG_ok hK hW hS um_X0_inputTime k_5_5 (fun _ h1 => m_c0_inputTime hN hI hn  h1) rfl (cd_dX0 hn) (cd_eX0 hN hn) rfl rfl hl.1 rfl rfl ⟨Nat.le_of_ble_eq_true rfl, Nat.le_of_ble_eq_true rfl⟩ ⟨Nat.zero_le _, Nat.zero_le _⟩ (Nat.le_of_ble_eq_true rfl) dX7_doChannels_195 h (fun S9 H locs hW hS h => ?_)
    refine lv_goto (tgt := 203) hx hb dX7_doChannels_198 (by decide) ?_
    refine lv_iconst (v := (1 : Int32)) hx hb dX7_doChannels_203 (by decide) ?_
    exact x_zret F hr hlk hW hS rfl dX7_doChannels_204 h
  replace h := (if_neg c_1_43).symm.trans h
  have hn_1_43 := x_swN (z := 43) c_1_43 hn_1_18 rfl
  refine x_lkpD (tgt := 201) hx hb dX7_doChannels_1 hn_1_43 (by decide) (by decide) (by decide) ?_
  refine lv_iconst (v := (0 : Int32)) hx hb dX7_doChannels_201 (by decide) ?_
  exact x_zret F hr hlk hW hS rfl dX7_doChannels_202 h
/-! X7_doAlternatives -/
def c7_doAlternatives (n : Nat) (S : xS) (a1 : Int32) : Option (Int32 × xS) := if a1 = (46 : Int32) then ((c0_disableTime n S ).bind (fun S2 => some ((1 : Int32), S2))) else (if a1 = (47 : Int32) then ((c0_disableChannel n S ).bind (fun S3 => some ((1 : Int32), S3))) else (if a1 = (48 : Int32) then ((c0_disableSkip n S ).bind (fun S4 => some ((1 : Int32), S4))) else (if a1 = (67 : Int32) then ((c1_setLocal n S (-3 : Int32) (32769 : Int32)).bind (fun S5 => some ((1 : Int32), S5))) else (if a1 = (68 : Int32) then ((c0_waitForGuard n S ).bind (fun S6 => some ((1 : Int32), S6))) else (if a1 = (69 : Int32) then ((c1_local n S (0 : Int32)).bind (fun (r_7, S7) => (c9_jump n 4 S7 r_7).bind (fun S8 => some ((1 : Int32), S8)))) else (if a1 = (71 : Int32) then ((c0_enableTime n S ).bind (fun S9 => some ((1 : Int32), S9))) else (if a1 = (72 : Int32) then ((c0_enableChannel n S ).bind (fun S10 => some ((1 : Int32), S10))) else (if a1 = (73 : Int32) then ((c0_enableSkip n S ).bind (fun S11 => some ((1 : Int32), S11))) else (if a1 = (78 : Int32) then ((c1_setLocal n S (-3 : Int32) (32769 : Int32)).bind (fun S12 => (c1_setLocal n S12 (-4 : Int32) (32770 : Int32)).bind (fun S13 => some ((1 : Int32), S13)))) else (if a1 = (81 : Int32) then ((c0_waitForGuardOrTime n S ).bind (fun S14 => some ((1 : Int32), S14))) else (some ((0 : Int32), S))))))))))))
set_option maxHeartbeats 4000000 in
set_option maxRecDepth 100000 in
theorem m_c7_doAlternatives {l : Launch} {D : va_G} {cI cJ cL cN : ClassId} {ad : Nat → Nat → Nat} {N : Nat} (hN : N ≤ 8) (hI : xInj (cDom N) ad) {n : Nat} (hn : n < N) {S : xS} (a1 : Int32) {o : Int32 × xS} (h : c7_doAlternatives n S a1 = some o) : Met l yX7_doAlternatives (Cond.code yX7_doAlternatives cX7_doAlternatives 2 (some .boolean) :: xG) { frames := 4, cells := 0, slots := 0, locals := 91 } (xPc D vwCl (cTy cI cJ cL cN) cNf cNm (cDom N) ad (cDe ad N cI cJ cL cN) [.ref (ad n 20), .int a1] S) (xQ D vwCl (cDom N) ad (cDe ad N cI cJ cL cN) (some (.int o.1)) o.2) 0 0 (xA (cDom N) ad) := by
  unfold c7_doAlternatives at h
  refine x_enter (by decide) (Nat.le_of_ble_eq_true rfl) (fun p e s m below meth c F hr hlk hK hW hS ls hl => ?_)
  have hl : lv_has ls 2 [(0, .ref (ad n 20)), (1, .int a1)] := hl
  have hx := F.1
  have hb := F.2.1
  refine lv_iload_n hx hb dX7_doAlternatives_0 rfl (lv_at hl 1 rfl) ?_
  by_cases c_1_46 : a1 = (46 : Int32)
  · replace h := (if_pos c_1_46).symm.trans h
    refine lv_tableIn (tgt := 160) (off := 159) hx hb dX7_doAlternatives_1 (by rw [c_1_46]; decide) (by rw [c_1_46]; decide) (by rw [c_1_46]; decide) (by decide) ?_
    refine lv_aload_n hx hb dX7_doAlternatives_160 rfl (lv_at hl 0 rfl) ?_
    refine x_get F hK hW xc_X7 (cd_dX7 hn) (cd_eX7 hN hn) 3 (by decide) k_2_92 (rfl) dX7_doAlternatives_161 ?_
    refine x_cVv (As := []) F xG_ok hK hW hS um_X0_disableTime k_5_26 (fun _ h1 => m_c0_disableTime hN hI hn  h1) rfl (cd_dX0 hn) (cd_eX0 hN hn) rfl rfl hl.1 rfl rfl ⟨Nat.le_of_ble_eq_true rfl, Nat.le_of_ble_eq_true rfl⟩ ⟨Nat.zero_le _, Nat.zero_le _⟩ (Nat.le_of_ble_eq_true rfl) dX7_doAlternatives_164 h (fun S2 H locs hW hS h => ?_)
    refine lv_goto (tgt := 302) hx hb dX7_doAlternatives_167 (by decide) ?_
    refine lv_iconst (v := (1 : Int32)) hx hb dX7_doAlternatives_302 (by decide) ?_
    exact x_zret F hr hlk hW hS rfl dX7_doAlternatives_303 h
  replace h := (if_neg c_1_46).symm.trans h
  have hn_1_46 := x_swN (z := 46) c_1_46 x_sw0 rfl
  by_cases c_1_47 : a1 = (47 : Int32)
  · replace h := (if_pos c_1_47).symm.trans h
    refine lv_tableIn (tgt := 170) (off := 169) hx hb dX7_doAlternatives_1 (by rw [c_1_47]; decide) (by rw [c_1_47]; decide) (by rw [c_1_47]; decide) (by decide) ?_
    refine lv_aload_n hx hb dX7_doAlternatives_170 rfl (lv_at hl 0 rfl) ?_
    refine x_get F hK hW xc_X7 (cd_dX7 hn) (cd_eX7 hN hn) 3 (by decide) k_2_92 (rfl) dX7_doAlternatives_171 ?_
    refine x_cVv (As := []) F xG_ok hK hW hS um_X0_disableChannel k_5_36 (fun _ h1 => m_c0_disableChannel hN hI hn  h1) rfl (cd_dX0 hn) (cd_eX0 hN hn) rfl rfl hl.1 rfl rfl ⟨Nat.le_of_ble_eq_true rfl, Nat.le_of_ble_eq_true rfl⟩ ⟨Nat.zero_le _, Nat.zero_le _⟩ (Nat.le_of_ble_eq_true rfl) dX7_doAlternatives_174 h (fun S3 H locs hW hS h => ?_)
    refine lv_goto (tgt := 302) hx hb dX7_doAlternatives_177 (by decide) ?_
    refine lv_iconst (v := (1 : Int32)) hx hb dX7_doAlternatives_302 (by decide) ?_
    exact x_zret F hr hlk hW hS rfl dX7_doAlternatives_303 h
  replace h := (if_neg c_1_47).symm.trans h
  have hn_1_47 := x_swN (z := 47) c_1_47 hn_1_46 rfl
  by_cases c_1_48 : a1 = (48 : Int32)
  · replace h := (if_pos c_1_48).symm.trans h
    refine lv_tableIn (tgt := 180) (off := 179) hx hb dX7_doAlternatives_1 (by rw [c_1_48]; decide) (by rw [c_1_48]; decide) (by rw [c_1_48]; decide) (by decide) ?_
    refine lv_aload_n hx hb dX7_doAlternatives_180 rfl (lv_at hl 0 rfl) ?_
    refine x_get F hK hW xc_X7 (cd_dX7 hn) (cd_eX7 hN hn) 3 (by decide) k_2_92 (rfl) dX7_doAlternatives_181 ?_
    refine x_cVv (As := []) F xG_ok hK hW hS um_X0_disableSkip k_5_48 (fun _ h1 => m_c0_disableSkip hN hI hn  h1) rfl (cd_dX0 hn) (cd_eX0 hN hn) rfl rfl hl.1 rfl rfl ⟨Nat.le_of_ble_eq_true rfl, Nat.le_of_ble_eq_true rfl⟩ ⟨Nat.zero_le _, Nat.zero_le _⟩ (Nat.le_of_ble_eq_true rfl) dX7_doAlternatives_184 h (fun S4 H locs hW hS h => ?_)
    refine lv_goto (tgt := 302) hx hb dX7_doAlternatives_187 (by decide) ?_
    refine lv_iconst (v := (1 : Int32)) hx hb dX7_doAlternatives_302 (by decide) ?_
    exact x_zret F hr hlk hW hS rfl dX7_doAlternatives_303 h
  replace h := (if_neg c_1_48).symm.trans h
  have hn_1_48 := x_swN (z := 48) c_1_48 hn_1_47 rfl
  by_cases c_1_67 : a1 = (67 : Int32)
  · replace h := (if_pos c_1_67).symm.trans h
    refine lv_tableIn (tgt := 190) (off := 189) hx hb dX7_doAlternatives_1 (by rw [c_1_67]; decide) (by rw [c_1_67]; decide) (by rw [c_1_67]; decide) (by decide) ?_
    refine lv_aload_n hx hb dX7_doAlternatives_190 rfl (lv_at hl 0 rfl) ?_
    refine x_get F hK hW xc_X7 (cd_dX7 hn) (cd_eX7 hN hn) 0 (by decide) k_2_89 (rfl) dX7_doAlternatives_191 ?_
    refine lv_bipush (v := (-3 : Int32)) hx hb dX7_doAlternatives_194 (by decide) ?_
    refine lv_ldcw (v := (32769 : Int32)) hx hb F.2.2.2.1 (x_hts F _ k_5_52) dX7_doAlternatives_196 ?_
    refine x_cVv (As := [.int (-3 : Int32), .int (32769 : Int32)]) F xG_ok hK hW hS um_X1_setLocal k_4_41 (fun _ h1 => m_c1_setLocal hN hI hn _ _ h1) rfl (cd_dX1 hn) (cd_eX1 hN hn) rfl rfl hl.1 rfl rfl ⟨Nat.le_of_ble_eq_true rfl, Nat.le_of_ble_eq_true rfl⟩ ⟨Nat.zero_le _, Nat.zero_le _⟩ (Nat.le_of_ble_eq_true rfl) dX7_doAlternatives_199 h (fun S5 H locs hW hS h => ?_)
    refine lv_goto (tgt := 302) hx hb dX7_doAlternatives_202 (by decide) ?_
    refine lv_iconst (v := (1 : Int32)) hx hb dX7_doAlternatives_302 (by decide) ?_
    exact x_zret F hr hlk hW hS rfl dX7_doAlternatives_303 h
  replace h := (if_neg c_1_67).symm.trans h
  have hn_1_67 := x_swN (z := 67) c_1_67 hn_1_48 rfl
  by_cases c_1_68 : a1 = (68 : Int32)
  · replace h := (if_pos c_1_68).symm.trans h
    refine lv_tableIn (tgt := 205) (off := 204) hx hb dX7_doAlternatives_1 (by rw [c_1_68]; decide) (by rw [c_1_68]; decide) (by rw [c_1_68]; decide) (by decide) ?_
    refine lv_aload_n hx hb dX7_doAlternatives_205 rfl (lv_at hl 0 rfl) ?_
    refine x_get F hK hW xc_X7 (cd_dX7 hn) (cd_eX7 hN hn) 3 (by decide) k_2_92 (rfl) dX7_doAlternatives_206 ?_
    refine x_cVv (As := []) F xG_ok hK hW hS um_X0_waitForGuard k_5_53 (fun _ h1 => m_c0_waitForGuard hN hI hn  h1) rfl (cd_dX0 hn) (cd_eX0 hN hn) rfl rfl hl.1 rfl rfl ⟨Nat.le_of_ble_eq_true rfl, Nat.le_of_ble_eq_true rfl⟩ ⟨Nat.zero_le _, Nat.zero_le _⟩ (Nat.le_of_ble_eq_true rfl) dX7_doAlternatives_209 h (fun S6 H locs hW hS h => ?_)
    refine lv_goto (tgt := 302) hx hb dX7_doAlternatives_212 (by decide) ?_
    refine lv_iconst (v := (1 : Int32)) hx hb dX7_doAlternatives_302 (by decide) ?_
    exact x_zret F hr hlk hW hS rfl dX7_doAlternatives_303 h
  replace h := (if_neg c_1_68).symm.trans h
  have hn_1_68 := x_swN (z := 68) c_1_68 hn_1_67 rfl
  by_cases c_1_69 : a1 = (69 : Int32)
  · replace h := (if_pos c_1_69).symm.trans h
    refine lv_tableIn (tgt := 215) (off := 214) hx hb dX7_doAlternatives_1 (by rw [c_1_69]; decide) (by rw [c_1_69]; decide) (by rw [c_1_69]; decide) (by decide) ?_
    refine lv_aload_n hx hb dX7_doAlternatives_215 rfl (lv_at hl 0 rfl) ?_
    refine x_get F hK hW xc_X7 (cd_dX7 hn) (cd_eX7 hN hn) 1 (by decide) k_2_90 (rfl) dX7_doAlternatives_216 ?_
    refine lv_aload_n hx hb dX7_doAlternatives_219 rfl (lv_at hl 0 rfl) ?_
    refine x_get F hK hW xc_X7 (cd_dX7 hn) (cd_eX7 hN hn) 0 (by decide) k_2_89 (rfl) dX7_doAlternatives_220 ?_
    refine lv_iconst (v := (0 : Int32)) hx hb dX7_doAlternatives_223 (by decide) ?_
    refine x_cVi (As := [.int (0 : Int32)]) F xG_ok hK hW hS um_X1_local k_4_20 (fun _ h1 => m_c1_local hN hI hn _ h1) rfl (cd_dX1 hn) (cd_eX1 hN hn) rfl rfl hl.1 rfl rfl ⟨Nat.le_of_ble_eq_true rfl, Nat.le_of_ble_eq_true rfl⟩ ⟨Nat.zero_le _, Nat.zero_le _⟩ (Nat.le_of_ble_eq_true rfl) dX7_doAlternatives_224 h (fun r_7 S7 H locs hW hS h => ?_)
    refine x_cVv (As := [.int r_7]) F xG_ok hK hW hS um_X9_jump k_3_233 (fun _ h1 => m_c9_jump hN hI ⟨hn, Or.inl rfl⟩ _ h1) rfl (cd_dX9 ⟨hn, Or.inl rfl⟩) (cd_eX9 hN ⟨hn, Or.inl rfl⟩) rfl rfl hl.1 rfl rfl ⟨Nat.le_of_ble_eq_true rfl, Nat.le_of_ble_eq_true rfl⟩ ⟨Nat.zero_le _, Nat.zero_le _⟩ (Nat.le_of_ble_eq_true rfl) dX7_doAlternatives_227 h (fun S8 H locs hW hS h => ?_)
    refine lv_goto (tgt := 302) hx hb dX7_doAlternatives_230 (by decide) ?_
    refine lv_iconst (v := (1 : Int32)) hx hb dX7_doAlternatives_302 (by decide) ?_
    exact x_zret F hr hlk hW hS rfl dX7_doAlternatives_303 h
  replace h := (if_neg c_1_69).symm.trans h
  have hn_1_69 := x_swN (z := 69) c_1_69 hn_1_68 rfl
  by_cases c_1_71 : a1 = (71 : Int32)
  · replace h := (if_pos c_1_71).symm.trans h
    refine lv_tableIn (tgt := 233) (off := 232) hx hb dX7_doAlternatives_1 (by rw [c_1_71]; decide) (by rw [c_1_71]; decide) (by rw [c_1_71]; decide) (by decide) ?_
    refine lv_aload_n hx hb dX7_doAlternatives_233 rfl (lv_at hl 0 rfl) ?_
    refine x_get F hK hW xc_X7 (cd_dX7 hn) (cd_eX7 hN hn) 3 (by decide) k_2_92 (rfl) dX7_doAlternatives_234 ?_
    refine x_cVv (As := []) F xG_ok hK hW hS um_X0_enableTime k_5_58 (fun _ h1 => m_c0_enableTime hN hI hn  h1) rfl (cd_dX0 hn) (cd_eX0 hN hn) rfl rfl hl.1 rfl rfl ⟨Nat.le_of_ble_eq_true rfl, Nat.le_of_ble_eq_true rfl⟩ ⟨Nat.zero_le _, Nat.zero_le _⟩ (Nat.le_of_ble_eq_true rfl) dX7_doAlternatives_237 h (fun S9 H locs hW hS h => ?_)
    refine lv_goto (tgt := 302) hx hb dX7_doAlternatives_240 (by decide) ?_
    refine lv_iconst (v := (1 : Int32)) hx hb dX7_doAlternatives_302 (by decide) ?_
    exact x_zret F hr hlk hW hS rfl dX7_doAlternatives_303 h
  replace h := (if_neg c_1_71).symm.trans h
  have hn_1_71 := x_swN (z := 71) c_1_71 hn_1_69 rfl
  by_cases c_1_72 : a1 = (72 : Int32)
  · replace h := (if_pos c_1_72).symm.trans h
    refine lv_tableIn (tgt := 243) (off := 242) hx hb dX7_doAlternatives_1 (by rw [c_1_72]; decide) (by rw [c_1_72]; decide) (by rw [c_1_72]; decide) (by decide) ?_
    refine lv_aload_n hx hb dX7_doAlternatives_243 rfl (lv_at hl 0 rfl) ?_
    refine x_get F hK hW xc_X7 (cd_dX7 hn) (cd_eX7 hN hn) 3 (by decide) k_2_92 (rfl) dX7_doAlternatives_244 ?_
    refine x_cVv (As := []) F xG_ok hK hW hS um_X0_enableChannel k_5_62 (fun _ h1 => m_c0_enableChannel hN hI hn  h1) rfl (cd_dX0 hn) (cd_eX0 hN hn) rfl rfl hl.1 rfl rfl ⟨Nat.le_of_ble_eq_true rfl, Nat.le_of_ble_eq_true rfl⟩ ⟨Nat.zero_le _, Nat.zero_le _⟩ (Nat.le_of_ble_eq_true rfl) dX7_doAlternatives_247 h (fun S10 H locs hW hS h => ?_)
    refine lv_goto (tgt := 302) hx hb dX7_doAlternatives_250 (by decide) ?_
    refine lv_iconst (v := (1 : Int32)) hx hb dX7_doAlternatives_302 (by decide) ?_
    exact x_zret F hr hlk hW hS rfl dX7_doAlternatives_303 h
  replace h := (if_neg c_1_72).symm.trans h
  have hn_1_72 := x_swN (z := 72) c_1_72 hn_1_71 rfl
  by_cases c_1_73 : a1 = (73 : Int32)
  · replace h := (if_pos c_1_73).symm.trans h
    refine lv_tableIn (tgt := 253) (off := 252) hx hb dX7_doAlternatives_1 (by rw [c_1_73]; decide) (by rw [c_1_73]; decide) (by rw [c_1_73]; decide) (by decide) ?_
    refine lv_aload_n hx hb dX7_doAlternatives_253 rfl (lv_at hl 0 rfl) ?_
    refine x_get F hK hW xc_X7 (cd_dX7 hn) (cd_eX7 hN hn) 3 (by decide) k_2_92 (rfl) dX7_doAlternatives_254 ?_
    refine x_cVv (As := []) F xG_ok hK hW hS um_X0_enableSkip k_5_74 (fun _ h1 => m_c0_enableSkip hN hI hn  h1) rfl (cd_dX0 hn) (cd_eX0 hN hn) rfl rfl hl.1 rfl rfl ⟨Nat.le_of_ble_eq_true rfl, Nat.le_of_ble_eq_true rfl⟩ ⟨Nat.zero_le _, Nat.zero_le _⟩ (Nat.le_of_ble_eq_true rfl) dX7_doAlternatives_257 h (fun S11 H locs hW hS h => ?_)
    refine lv_goto (tgt := 302) hx hb dX7_doAlternatives_260 (by decide) ?_
    refine lv_iconst (v := (1 : Int32)) hx hb dX7_doAlternatives_302 (by decide) ?_
    exact x_zret F hr hlk hW hS rfl dX7_doAlternatives_303 h
  replace h := (if_neg c_1_73).symm.trans h
  have hn_1_73 := x_swN (z := 73) c_1_73 hn_1_72 rfl
  by_cases c_1_78 : a1 = (78 : Int32)
  · replace h := (if_pos c_1_78).symm.trans h
    refine lv_tableIn (tgt := 263) (off := 262) hx hb dX7_doAlternatives_1 (by rw [c_1_78]; decide) (by rw [c_1_78]; decide) (by rw [c_1_78]; decide) (by decide) ?_
    refine lv_aload_n hx hb dX7_doAlternatives_263 rfl (lv_at hl 0 rfl) ?_
    refine x_get F hK hW xc_X7 (cd_dX7 hn) (cd_eX7 hN hn) 0 (by decide) k_2_89 (rfl) dX7_doAlternatives_264 ?_
    refine lv_bipush (v := (-3 : Int32)) hx hb dX7_doAlternatives_267 (by decide) ?_
    refine lv_ldcw (v := (32769 : Int32)) hx hb F.2.2.2.1 (x_hts F _ k_5_52) dX7_doAlternatives_269 ?_
    refine x_cVv (As := [.int (-3 : Int32), .int (32769 : Int32)]) F xG_ok hK hW hS um_X1_setLocal k_4_41 (fun _ h1 => m_c1_setLocal hN hI hn _ _ h1) rfl (cd_dX1 hn) (cd_eX1 hN hn) rfl rfl hl.1 rfl rfl ⟨Nat.le_of_ble_eq_true rfl, Nat.le_of_ble_eq_true rfl⟩ ⟨Nat.zero_le _, Nat.zero_le _⟩ (Nat.le_of_ble_eq_true rfl) dX7_doAlternatives_272 h (fun S12 H locs hW hS h => ?_)
    refine lv_aload_n hx hb dX7_doAlternatives_275 rfl (lv_at hl 0 rfl) ?_
    refine x_get F hK hW xc_X7 (cd_dX7 hn) (cd_eX7 hN hn) 0 (by decide) k_2_89 (rfl) dX7_doAlternatives_276 ?_
    refine lv_bipush (v := (-4 : Int32)) hx hb dX7_doAlternatives_279 (by decide) ?_
    refine lv_ldcw (v := (32770 : Int32)) hx hb F.2.2.2.1 (x_hts F _ k_5_78) dX7_doAlternatives_281 ?_
    refine x_cVv (As := [.int (-4 : Int32), .int (32770 : Int32)]) F xG_ok hK hW hS um_X1_setLocal k_4_41 (fun _ h1 => m_c1_setLocal hN hI hn _ _ h1) rfl (cd_dX1 hn) (cd_eX1 hN hn) rfl rfl hl.1 rfl rfl ⟨Nat.le_of_ble_eq_true rfl, Nat.le_of_ble_eq_true rfl⟩ ⟨Nat.zero_le _, Nat.zero_le _⟩ (Nat.le_of_ble_eq_true rfl) dX7_doAlternatives_284 h (fun S13 H locs hW hS h => ?_)
    refine lv_goto (tgt := 302) hx hb dX7_doAlternatives_287 (by decide) ?_
    refine lv_iconst (v := (1 : Int32)) hx hb dX7_doAlternatives_302 (by decide) ?_
    exact x_zret F hr hlk hW hS rfl dX7_doAlternatives_303 h
  replace h := (if_neg c_1_78).symm.trans h
  have hn_1_78 := x_swN (z := 78) c_1_78 hn_1_73 rfl
  by_cases c_1_81 : a1 = (81 : Int32)
  · replace h := (if_pos c_1_81).symm.trans h
    refine lv_tableIn (tgt := 290) (off := 289) hx hb dX7_doAlternatives_1 (by rw [c_1_81]; decide) (by rw [c_1_81]; decide) (by rw [c_1_81]; decide) (by decide) ?_
    refine lv_aload_n hx hb dX7_doAlternatives_290 rfl (lv_at hl 0 rfl) ?_
    refine x_get F hK hW xc_X7 (cd_dX7 hn) (cd_eX7 hN hn) 3 (by decide) k_2_92 (rfl) dX7_doAlternatives_291 ?_
    refine x_cVv (As := []) F xG_ok hK hW hS um_X0_waitForGuardOrTime k_5_79 (fun _ h1 => m_c0_waitForGuardOrTime hN hI hn  h1) rfl (cd_dX0 hn) (cd_eX0 hN hn) rfl rfl hl.1 rfl rfl ⟨Nat.le_of_ble_eq_true rfl, Nat.le_of_ble_eq_true rfl⟩ ⟨Nat.zero_le _, Nat.zero_le _⟩ (Nat.le_of_ble_eq_true rfl) dX7_doAlternatives_294 h (fun S14 H locs hW hS h => ?_)
    refine lv_goto (tgt := 302) hx hb dX7_doAlternatives_297 (by decide) ?_
    refine lv_iconst (v := (1 : Int32)) hx hb dX7_doAlternatives_302 (by decide) ?_
    exact x_zret F hr hlk hW hS rfl dX7_doAlternatives_303 h
  replace h := (if_neg c_1_81).symm.trans h
  have hn_1_81 := x_swN (z := 81) c_1_81 hn_1_78 rfl
  refine x_tblD (tgt := 300) hx hb dX7_doAlternatives_1 hn_1_81 (by decide) (by decide) (by decide) ?_
  refine lv_iconst (v := (0 : Int32)) hx hb dX7_doAlternatives_300 (by decide) ?_
  exact x_zret F hr hlk hW hS rfl dX7_doAlternatives_301 h
/-! X7_isOperationDone -/
def c7_isOperationDone (n : Nat) (S : xS) (a1 : Int32) : Option (Int32 × xS) := (c7_doArithmetic n S a1).bind (fun (r_1, S1) => if r_1 = 0 then ((c7_doLogic n S1 a1).bind (fun (r_3, S3) => if r_3 = 0 then ((c7_doDoubleWords n S3 a1).bind (fun (r_5, S5) => if r_5 = 0 then ((c7_doChecks n S5 a1).bind (fun (r_7, S7) => if r_7 = 0 then ((c7_doMoves n S7 a1).bind (fun (r_9, S9) => if r_9 = 0 then ((c7_doScheduling n S9 a1).bind (fun (r_11, S11) => if r_11 = 0 then ((c7_doChannels n S11 a1).bind (fun (r_13, S13) => if r_13 = 0 then ((c7_doAlternatives n S13 a1).bind (fun (r_15, S15) => if r_15 = 0 then (some ((0 : Int32), S15)) else (some ((1 : Int32), S15)))) else (some ((1 : Int32), S13)))) else (some ((1 : Int32), S11)))) else (some ((1 : Int32), S9)))) else (some ((1 : Int32), S7)))) else (some ((1 : Int32), S5)))) else (some ((1 : Int32), S3)))) else (some ((1 : Int32), S1)))
set_option maxHeartbeats 4000000 in
set_option maxRecDepth 100000 in
theorem m_c7_isOperationDone {l : Launch} {D : va_G} {cI cJ cL cN : ClassId} {ad : Nat → Nat → Nat} {N : Nat} (hN : N ≤ 8) (hI : xInj (cDom N) ad) {n : Nat} (hn : n < N) {S : xS} (a1 : Int32) {o : Int32 × xS} (h : c7_isOperationDone n S a1 = some o) : Met l yX7_isOperationDone (Cond.code yX7_isOperationDone cX7_isOperationDone 2 (some .boolean) :: xG) { frames := 5, cells := 0, slots := 0, locals := 119 } (xPc D vwCl (cTy cI cJ cL cN) cNf cNm (cDom N) ad (cDe ad N cI cJ cL cN) [.ref (ad n 20), .int a1] S) (xQ D vwCl (cDom N) ad (cDe ad N cI cJ cL cN) (some (.int o.1)) o.2) 0 0 (xA (cDom N) ad) := by
  unfold c7_isOperationDone at h
  refine x_enter (by decide) (Nat.le_of_ble_eq_true rfl) (fun p e s m below meth c F hr hlk hK hW hS ls hl => ?_)
  have hl : lv_has ls 2 [(0, .ref (ad n 20)), (1, .int a1)] := hl
  have hx := F.1
  have hb := F.2.1
  refine lv_aload_n hx hb dX7_isOperationDone_0 rfl (lv_at hl 0 rfl) ?_
  refine lv_iload_n hx hb dX7_isOperationDone_1 rfl (lv_at hl 1 rfl) ?_
  refine x_cVi (As := [.int a1]) F xG_ok hK hW hS um_X7_doArithmetic k_4_58 (fun _ h1 => m_c7_doArithmetic hN hI hn _ h1) rfl (cd_dX7 hn) (cd_eX7 hN hn) rfl rfl hl.1 rfl rfl ⟨Nat.le_of_ble_eq_true rfl, Nat.le_of_ble_eq_true rfl⟩ ⟨Nat.zero_le _, Nat.zero_le _⟩ (Nat.le_of_ble_eq_true rfl) dX7_isOperationDone_2 h (fun r_1 S1 H locs hW hS h => ?_)
  refine lv_if_ne (tgt := 64) hx hb dX7_isOperationDone_5 (by decide) (fun c_2 => ?_) (fun c_2 => ?_)
  · replace h := (if_neg c_2).symm.trans h
    refine lv_iconst (v := (1 : Int32)) hx hb dX7_isOperationDone_64 (by decide) ?_
    refine lv_goto (tgt := 69) hx hb dX7_isOperationDone_65 (by decide) ?_
    exact x_zret F hr hlk hW hS rfl dX7_isOperationDone_69 h
  replace h := (if_pos c_2).symm.trans h
  refine lv_aload_n hx hb dX7_isOperationDone_8 rfl (lv_at hl 0 rfl) ?_
  refine lv_iload_n hx hb dX7_isOperationDone_9 rfl (lv_at hl 1 rfl) ?_
  refine x_cVi (As := [.int a1]) F xG_ok hK hW hS um_X7_doLogic k_4_74 (fun _ h1 => m_c7_doLogic hN hI hn _ h1) rfl (cd_dX7 hn) (cd_eX7 hN hn) rfl rfl hl.1 rfl rfl ⟨Nat.le_of_ble_eq_true rfl, Nat.le_of_ble_eq_true rfl⟩ ⟨Nat.zero_le _, Nat.zero_le _⟩ (Nat.le_of_ble_eq_true rfl) dX7_isOperationDone_10 h (fun r_3 S3 H locs hW hS h => ?_)
  refine lv_if_ne (tgt := 64) hx hb dX7_isOperationDone_13 (by decide) (fun c_4 => ?_) (fun c_4 => ?_)
  · replace h := (if_neg c_4).symm.trans h
    refine lv_iconst (v := (1 : Int32)) hx hb dX7_isOperationDone_64 (by decide) ?_
    refine lv_goto (tgt := 69) hx hb dX7_isOperationDone_65 (by decide) ?_
    exact x_zret F hr hlk hW hS rfl dX7_isOperationDone_69 h
  replace h := (if_pos c_4).symm.trans h
  refine lv_aload_n hx hb dX7_isOperationDone_16 rfl (lv_at hl 0 rfl) ?_
  refine lv_iload_n hx hb dX7_isOperationDone_17 rfl (lv_at hl 1 rfl) ?_
  refine x_cVi (As := [.int a1]) F xG_ok hK hW hS um_X7_doDoubleWords k_4_92 (fun _ h1 => m_c7_doDoubleWords hN hI hn _ h1) rfl (cd_dX7 hn) (cd_eX7 hN hn) rfl rfl hl.1 rfl rfl ⟨Nat.le_of_ble_eq_true rfl, Nat.le_of_ble_eq_true rfl⟩ ⟨Nat.zero_le _, Nat.zero_le _⟩ (Nat.le_of_ble_eq_true rfl) dX7_isOperationDone_18 h (fun r_5 S5 H locs hW hS h => ?_)
  refine lv_if_ne (tgt := 64) hx hb dX7_isOperationDone_21 (by decide) (fun c_6 => ?_) (fun c_6 => ?_)
  · replace h := (if_neg c_6).symm.trans h
    refine lv_iconst (v := (1 : Int32)) hx hb dX7_isOperationDone_64 (by decide) ?_
    refine lv_goto (tgt := 69) hx hb dX7_isOperationDone_65 (by decide) ?_
    exact x_zret F hr hlk hW hS rfl dX7_isOperationDone_69 h
  replace h := (if_pos c_6).symm.trans h
  refine lv_aload_n hx hb dX7_isOperationDone_24 rfl (lv_at hl 0 rfl) ?_
  refine lv_iload_n hx hb dX7_isOperationDone_25 rfl (lv_at hl 1 rfl) ?_
  refine x_cVi (As := [.int a1]) F xG_ok hK hW hS um_X7_doChecks k_4_108 (fun _ h1 => m_c7_doChecks hN hI hn _ h1) rfl (cd_dX7 hn) (cd_eX7 hN hn) rfl rfl hl.1 rfl rfl ⟨Nat.le_of_ble_eq_true rfl, Nat.le_of_ble_eq_true rfl⟩ ⟨Nat.zero_le _, Nat.zero_le _⟩ (Nat.le_of_ble_eq_true rfl) dX7_isOperationDone_26 h (fun r_7 S7 H locs hW hS h => ?_)
  refine lv_if_ne (tgt := 64) hx hb dX7_isOperationDone_29 (by decide) (fun c_8 => ?_) (fun c_8 => ?_)
  · replace h := (if_neg c_8).symm.trans h
    refine lv_iconst (v := (1 : Int32)) hx hb dX7_isOperationDone_64 (by decide) ?_
    refine lv_goto (tgt := 69) hx hb dX7_isOperationDone_65 (by decide) ?_
    exact x_zret F hr hlk hW hS rfl dX7_isOperationDone_69 h
  replace h := (if_pos c_8).symm.trans h
  refine lv_aload_n hx hb dX7_isOperationDone_32 rfl (lv_at hl 0 rfl) ?_
  refine lv_iload_n hx hb dX7_isOperationDone_33 rfl (lv_at hl 1 rfl) ?_
  refine x_cVi (As := [.int a1]) F xG_ok hK hW hS um_X7_doMoves k_4_117 (fun _ h1 => m_c7_doMoves hN hI hn _ h1) rfl (cd_dX7 hn) (cd_eX7 hN hn) rfl rfl hl.1 rfl rfl ⟨Nat.le_of_ble_eq_true rfl, Nat.le_of_ble_eq_true rfl⟩ ⟨Nat.zero_le _, Nat.zero_le _⟩ (Nat.le_of_ble_eq_true rfl) dX7_isOperationDone_34 h (fun r_9 S9 H locs hW hS h => ?_)
  refine lv_if_ne (tgt := 64) hx hb dX7_isOperationDone_37 (by decide) (fun c_10 => ?_) (fun c_10 => ?_)
  · replace h := (if_neg c_10).symm.trans h
    refine lv_iconst (v := (1 : Int32)) hx hb dX7_isOperationDone_64 (by decide) ?_
    refine lv_goto (tgt := 69) hx hb dX7_isOperationDone_65 (by decide) ?_
    exact x_zret F hr hlk hW hS rfl dX7_isOperationDone_69 h
  replace h := (if_pos c_10).symm.trans h
  refine lv_aload_n hx hb dX7_isOperationDone_40 rfl (lv_at hl 0 rfl) ?_
  refine lv_iload_n hx hb dX7_isOperationDone_41 rfl (lv_at hl 1 rfl) ?_
  refine x_cVi (As := [.int a1]) F xG_ok hK hW hS um_X7_doScheduling k_4_159 (fun _ h1 => m_c7_doScheduling hN hI hn _ h1) rfl (cd_dX7 hn) (cd_eX7 hN hn) rfl rfl hl.1 rfl rfl ⟨Nat.le_of_ble_eq_true rfl, Nat.le_of_ble_eq_true rfl⟩ ⟨Nat.zero_le _, Nat.zero_le _⟩ (Nat.le_of_ble_eq_true rfl) dX7_isOperationDone_42 h (fun r_11 S11 H locs hW hS h => ?_)
  refine lv_if_ne (tgt := 64) hx hb dX7_isOperationDone_45 (by decide) (fun c_12 => ?_) (fun c_12 => ?_)
  · replace h := (if_neg c_12).symm.trans h
    refine lv_iconst (v := (1 : Int32)) hx hb dX7_isOperationDone_64 (by decide) ?_
    refine lv_goto (tgt := 69) hx hb dX7_isOperationDone_65 (by decide) ?_
    exact x_zret F hr hlk hW hS rfl dX7_isOperationDone_69 h
  replace h := (if_pos c_12).symm.trans h
  refine lv_aload_n hx hb dX7_isOperationDone_48 rfl (lv_at hl 0 rfl) ?_
  refine lv_iload_n hx hb dX7_isOperationDone_49 rfl (lv_at hl 1 rfl) ?_
  refine x_cVi (As := [.int a1]) F xG_ok hK hW hS um_X7_doChannels k_4_177 (fun _ h1 => m_c7_doChannels hN hI hn _ h1) rfl (cd_dX7 hn) (cd_eX7 hN hn) rfl rfl hl.1 rfl rfl ⟨Nat.le_of_ble_eq_true rfl, Nat.le_of_ble_eq_true rfl⟩ ⟨Nat.zero_le _, Nat.zero_le _⟩ (Nat.le_of_ble_eq_true rfl) dX7_isOperationDone_50 h (fun r_13 S13 H locs hW hS h => ?_)
  refine lv_if_ne (tgt := 64) hx hb dX7_isOperationDone_53 (by decide) (fun c_14 => ?_) (fun c_14 => ?_)
  · replace h := (if_neg c_14).symm.trans h
    refine lv_iconst (v := (1 : Int32)) hx hb dX7_isOperationDone_64 (by decide) ?_
    refine lv_goto (tgt := 69) hx hb dX7_isOperationDone_65 (by decide) ?_
    exact x_zret F hr hlk hW hS rfl dX7_isOperationDone_69 h
  replace h := (if_pos c_14).symm.trans h
  refine lv_aload_n hx hb dX7_isOperationDone_56 rfl (lv_at hl 0 rfl) ?_
  refine lv_iload_n hx hb dX7_isOperationDone_57 rfl (lv_at hl 1 rfl) ?_
  refine x_cVi (As := [.int a1]) F xG_ok hK hW hS um_X7_doAlternatives k_5_22 (fun _ h1 => m_c7_doAlternatives hN hI hn _ h1) rfl (cd_dX7 hn) (cd_eX7 hN hn) rfl rfl hl.1 rfl rfl ⟨Nat.le_of_ble_eq_true rfl, Nat.le_of_ble_eq_true rfl⟩ ⟨Nat.zero_le _, Nat.zero_le _⟩ (Nat.le_of_ble_eq_true rfl) dX7_isOperationDone_58 h (fun r_15 S15 H locs hW hS h => ?_)
  refine lv_if_eq (tgt := 68) hx hb dX7_isOperationDone_61 (by decide) (fun c_16 => ?_) (fun c_16 => ?_)
  · replace h := (if_pos c_16).symm.trans h
    refine lv_iconst (v := (0 : Int32)) hx hb dX7_isOperationDone_68 (by decide) ?_
    exact x_zret F hr hlk hW hS rfl dX7_isOperationDone_69 h
  replace h := (if_neg c_16).symm.trans h
  refine lv_iconst (v := (1 : Int32)) hx hb dX7_isOperationDone_64 (by decide) ?_
  refine lv_goto (tgt := 69) hx hb dX7_isOperationDone_65 (by decide) ?_
  exact x_zret F hr hlk hW hS rfl dX7_isOperationDone_69 h
/-! X7_execute -/
def c7_execute_b149 (n : Nat) (v1 : Int32) (S : xS) : Option (xS) := (c1_stopIfBeyond n S ).bind (fun S11 => if (xI S11 n 1 6) = 0 then (some S11) else (if v1 = 0 then (if (xI S11 n 1 7) = 0 then (some S11) else ((c1_stopWith n S11 (6 : Int32)).bind (fun S15 => some S15))) else (some S11)))
set_option maxHeartbeats 4000000 in
set_option maxRecDepth 100000 in
theorem m_c7_execute_b149 {l : Launch} {D : va_G} {cI cJ cL cN : ClassId} {ad : Nat → Nat → Nat} {N : Nat} (hN : N ≤ 8) (hI : xInj (cDom N) ad) {n : Nat} (hn : n < N) {p : Program} {e : Env} {s : State} {m : MethodId} {args : Array Value} {below : List Frame} {meth : Method} {c : Code} (F : CallFix p m c cX7_execute 4 s args (Cond.code yX7_execute cX7_execute 4 none :: xG) (yX7_execute).cls) (hr : meth.sig.returnType = none) (hlk : meth.locks = false) (hK : xK D vwCl (cTy cI cJ cL cN) cNf cNm s) {o : xS} (v1 : Int32) (S : xS) {H : Heap} {locs : List Loc} {ls : Array Slot} (h : c7_execute_b149 n v1 S = some o) (hW : xW D vwCl (cDom N) ad (cDe ad N cI cJ cL cN) S H) (hS : va_S (xA (cDom N) ad) s.heap H locs) (hl : lv_has ls 4 [(0, .ref (ad n 20)), (1, .int v1)]) : W p l e { frames := 6, cells := 0, slots := 0, locals := 140 } s m args below meth c H locs 0 0 (MQ below (xQ D vwCl (cDom N) ad (cDe ad N cI cJ cL cN) none o) args s 0 0 (xA (cDom N) ad)) (F0 m 149 ls []) := by
  have hx := F.1
  have hb := F.2.1
  unfold c7_execute_b149 at h
  refine lv_aload_n hx hb dX7_execute_149 rfl (lv_at hl 0 rfl) ?_
  refine x_get F hK hW xc_X7 (cd_dX7 hn) (cd_eX7 hN hn) 0 (by decide) k_2_89 (rfl) dX7_execute_150 ?_
  refine x_cVv (As := []) F xG_ok hK hW hS um_X1_stopIfBeyond k_5_83 (fun _ h1 => m_c1_stopIfBeyond hN hI hn  h1) rfl (cd_dX1 hn) (cd_eX1 hN hn) rfl rfl hl.1 rfl rfl ⟨Nat.le_of_ble_eq_true rfl, Nat.le_of_ble_eq_true rfl⟩ ⟨Nat.zero_le _, Nat.zero_le _⟩ (Nat.le_of_ble_eq_true rfl) dX7_execute_153 h (fun S11 H locs hW hS h => ?_)
  refine lv_aload_n hx hb dX7_execute_156 rfl (lv_at hl 0 rfl) ?_
  refine x_get F hK hW xc_X7 (cd_dX7 hn) (cd_eX7 hN hn) 0 (by decide) k_2_89 (rfl) dX7_execute_157 ?_
  refine x_getN F hK hW xc_X1 (cd_dX1 hn) (cd_eX1 hN hn) 6 (by decide) kn_36 (rfl) dX7_execute_160 ?_
  refine lv_if_eq (tgt := 189) hx hb dX7_execute_163 (by decide) (fun c_12 => ?_) (fun c_12 => ?_)
  · replace h := (if_pos c_12).symm.trans h
    exact x_vret F hr hlk hW hS dX7_execute_189 h
  replace h := (if_neg c_12).symm.trans h
  refine lv_iload_n hx hb dX7_execute_166 rfl (lv_at hl 1 rfl) ?_
  refine lv_if_ne (tgt := 189) hx hb dX7_execute_167 (by decide) (fun c_13 => ?_) (fun c_13 => ?_)
  · replace h := (if_neg c_13).symm.trans h
    exact x_vret F hr hlk hW hS dX7_execute_189 h
  replace h := (if_pos c_13).symm.trans h
  refine lv_aload_n hx hb dX7_execute_170 rfl (lv_at hl 0 rfl) ?_
  refine x_get F hK hW xc_X7 (cd_dX7 hn) (cd_eX7 hN hn) 0 (by decide) k_2_89 (rfl) dX7_execute_171 ?_
  refine x_getN F hK hW xc_X1 (cd_dX1 hn) (cd_eX1 hN hn) 7 (by decide) kn_37 (rfl) dX7_execute_174 ?_
  refine lv_if_eq (tgt := 189) hx hb dX7_execute_177 (by decide) (fun c_14 => ?_) (fun c_14 => ?_)
  · replace h := (if_pos c_14).symm.trans h
    exact x_vret F hr hlk hW hS dX7_execute_189 h
  replace h := (if_neg c_14).symm.trans h
  refine lv_aload_n hx hb dX7_execute_180 rfl (lv_at hl 0 rfl) ?_
  refine x_get F hK hW xc_X7 (cd_dX7 hn) (cd_eX7 hN hn) 0 (by decide) k_2_89 (rfl) dX7_execute_181 ?_
  refine lv_bipush (v := (6 : Int32)) hx hb dX7_execute_184 (by decide) ?_
  refine x_cVv (As := [.int (6 : Int32)]) F xG_ok hK hW hS um_X1_stopWith k_4_144 (fun _ h1 => m_c1_stopWith hN hI hn _ h1) rfl (cd_dX1 hn) (cd_eX1 hN hn) rfl rfl hl.1 rfl rfl ⟨Nat.le_of_ble_eq_true rfl, Nat.le_of_ble_eq_true rfl⟩ ⟨Nat.zero_le _, Nat.zero_le _⟩ (Nat.le_of_ble_eq_true rfl) dX7_execute_186 h (fun S15 H locs hW hS h => ?_)
  exact x_vret F hr hlk hW hS dX7_execute_189 h
def c7_execute_b68 (n : Nat) (v1 : Int32) (v2 : Int32) (S : xS) : Option (xS) := xnm (sI S n 4 3 ((xI S n 4 3) ||| (v2 &&& (15 : Int32)))) (fun S5 => if (8 : Int32) ≤ (v2 >>> ((4 : Int32) &&& 31)) then (if (15 : Int32) ≤ (v2 >>> ((4 : Int32) &&& 31)) then ((c7_isOperationDone n S5 (xI S5 n 4 3)).bind (fun (r_8, S8) => if r_8 = 0 then ((c1_stopWith n S8 (1 : Int32)).bind (fun S10 => c7_execute_b149 n v1 S10)) else (xnm (sI S8 n 4 3 (0 : Int32)) (fun S16 => c7_execute_b149 n v1 S16)))) else ((c7_doHighFunction n S5 (v2 >>> ((4 : Int32) &&& 31))).bind (fun S17 => c7_execute_b149 n v1 S17))) else ((c7_doLowFunction n S5 (v2 >>> ((4 : Int32) &&& 31))).bind (fun S18 => c7_execute_b149 n v1 S18)))
set_option maxHeartbeats 4000000 in
set_option maxRecDepth 100000 in
theorem m_c7_execute_b68 {l : Launch} {D : va_G} {cI cJ cL cN : ClassId} {ad : Nat → Nat → Nat} {N : Nat} (hN : N ≤ 8) (hI : xInj (cDom N) ad) {n : Nat} (hn : n < N) {p : Program} {e : Env} {s : State} {m : MethodId} {args : Array Value} {below : List Frame} {meth : Method} {c : Code} (F : CallFix p m c cX7_execute 4 s args (Cond.code yX7_execute cX7_execute 4 none :: xG) (yX7_execute).cls) (hr : meth.sig.returnType = none) (hlk : meth.locks = false) (hK : xK D vwCl (cTy cI cJ cL cN) cNf cNm s) {o : xS} (v1 : Int32) (v2 : Int32) (S : xS) {H : Heap} {locs : List Loc} {ls : Array Slot} (h : c7_execute_b68 n v1 v2 S = some o) (hW : xW D vwCl (cDom N) ad (cDe ad N cI cJ cL cN) S H) (hS : va_S (xA (cDom N) ad) s.heap H locs) (hl : lv_has ls 4 [(0, .ref (ad n 20)), (1, .int v1), (2, .int v2)]) : W p l e { frames := 6, cells := 0, slots := 0, locals := 140 } s m args below meth c H locs 0 0 (MQ below (xQ D vwCl (cDom N) ad (cDe ad N cI cJ cL cN) none o) args s 0 0 (xA (cDom N) ad)) (F0 m 68 ls []) := by
  have hx := F.1
  have hb := F.2.1
  unfold c7_execute_b68 at h
  refine lv_aload_n hx hb dX7_execute_68 rfl (lv_at hl 0 rfl) ?_
  refine x_get F hK hW xc_X7 (cd_dX7 hn) (cd_eX7 hN hn) 1 (by decide) k_2_90 (rfl) dX7_execute_69 ?_
  refine lv_dup hx hb dX7_execute_72 rfl ?_
  refine x_getN F hK hW xc_X9 (cd_dX9 ⟨hn, Or.inl rfl⟩) (cd_eX9 hN ⟨hn, Or.inl rfl⟩) 3 (by decide) kn_10 (rfl) dX7_execute_73 ?_
  refine lv_iload_n hx hb dX7_execute_76 rfl (lv_at hl 2 rfl) ?_
  refine lv_bipush (v := (15 : Int32)) hx hb dX7_execute_77 (by decide) ?_
  refine lv_iand hx hb dX7_execute_79 ?_
  refine lv_ior hx hb dX7_execute_80 ?_
  refine x_putN F hK hI hW hS xc_X9 (cd_dX9 ⟨hn, Or.inl rfl⟩) (cd_eX9 hN ⟨hn, Or.inl rfl⟩) 3 (by decide) kn_10 rfl (v := ((xI S n 4 3) ||| (v2 &&& (15 : Int32)))) rfl rfl (fun _ _ => rfl) (fun _ _ => Nat.le_of_ble_eq_true rfl) dX7_execute_81 h (fun S5 H locs hW hS h => ?_)
  refine lv_iload_n hx hb dX7_execute_84 rfl (lv_at hl 2 rfl) ?_
  refine lv_iconst (v := (4 : Int32)) hx hb dX7_execute_85 (by decide) ?_
  refine lv_ishr hx hb dX7_execute_86 ?_
  refine lv_istore_n (lv' := [(3, .int (v2 >>> ((4 : Int32) &&& 31))), (0, .ref (ad n 20)), (1, .int v1), (2, .int v2)]) hx hb dX7_execute_87 rfl hl (by decide) rfl (fun ls hl => ?_)
  refine lv_iload_n hx hb dX7_execute_88 rfl (lv_at hl 0 rfl) ?_
  refine lv_bipush (v := (8 : Int32)) hx hb dX7_execute_89 (by decide) ?_
  refine lv_icmp_ge (tgt := 102) hx hb dX7_execute_91 (by decide) (fun c_6 => ?_) (fun c_6 => ?_)
  · replace h := (if_pos c_6).symm.trans h
    refine lv_iload_n hx hb dX7_execute_102 rfl (lv_at hl 0 rfl) ?_
    refine lv_bipush (v := (15 : Int32)) hx hb dX7_execute_103 (by decide) ?_
    refine lv_icmp_ge (tgt := 116) hx hb dX7_execute_105 (by decide) (fun c_7 => ?_) (fun c_7 => ?_)
    · replace h := (if_pos c_7).symm.trans h
      refine lv_aload_n hx hb dX7_execute_116 rfl (lv_at hl 1 rfl) ?_
      refine lv_aload_n hx hb dX7_execute_117 rfl (lv_at hl 1 rfl) ?_
      refine x_get F hK hW xc_X7 (cd_dX7 hn) (cd_eX7 hN hn) 1 (by decide) k_2_90 (rfl) dX7_execute_118 ?_
      refine x_getN F hK hW xc_X9 (cd_dX9 ⟨hn, Or.inl rfl⟩) (cd_eX9 hN ⟨hn, Or.inl rfl⟩) 3 (by decide) kn_10 (rfl) dX7_execute_121 ?_
      refine x_cVi (As := [.int (xI S5 n 4 3)]) F xG_ok hK hW hS um_X7_isOperationDone k_4_54 (fun _ h1 => m_c7_isOperationDone hN hI hn _ h1) rfl (cd_dX7 hn) (cd_eX7 hN hn) rfl rfl hl.1 rfl rfl ⟨Nat.le_of_ble_eq_true rfl, Nat.le_of_ble_eq_true rfl⟩ ⟨Nat.zero_le _, Nat.zero_le _⟩ (Nat.le_of_ble_eq_true rfl) dX7_execute_124 h (fun r_8 S8 H locs hW hS h => ?_)
      refine lv_if_eq (tgt := 141) hx hb dX7_execute_127 (by decide) (fun c_9 => ?_) (fun c_9 => ?_)
      · replace h := (if_pos c_9).symm.trans h
        refine lv_aload_n hx hb dX7_execute_141 rfl (lv_at hl 1 rfl) ?_
        refine x_get F hK hW xc_X7 (cd_dX7 hn) (cd_eX7 hN hn) 0 (by decide) k_2_89 (rfl) dX7_execute_142 ?_
        refine lv_iconst (v := (1 : Int32)) hx hb dX7_execute_145 (by decide) ?_
        refine x_cVv (As := [.int (1 : Int32)]) F xG_ok hK hW hS um_X1_stopWith k_4_144 (fun _ h1 => m_c1_stopWith hN hI hn _ h1) rfl (cd_dX1 hn) (cd_eX1 hN hn) rfl rfl hl.1 rfl rfl ⟨Nat.le_of_ble_eq_true rfl, Nat.le_of_ble_eq_true rfl⟩ ⟨Nat.zero_le _, Nat.zero_le _⟩ (Nat.le_of_ble_eq_true rfl) dX7_execute_146 h (fun S10 H locs hW hS h => ?_)
        exact m_c7_execute_b149 hN hI hn F hr hlk hK _ _ h hW hS (lv_sub hl [1, 2] rfl)
      replace h := (if_neg c_9).symm.trans h
      refine lv_aload_n hx hb dX7_execute_130 rfl (lv_at hl 1 rfl) ?_
      refine x_get F hK hW xc_X7 (cd_dX7 hn) (cd_eX7 hN hn) 1 (by decide) k_2_90 (rfl) dX7_execute_131 ?_
      refine lv_iconst (v := (0 : Int32)) hx hb dX7_execute_134 (by decide) ?_
      refine x_putN F hK hI hW hS xc_X9 (cd_dX9 ⟨hn, Or.inl rfl⟩) (cd_eX9 hN ⟨hn, Or.inl rfl⟩) 3 (by decide) kn_10 rfl (v := (0 : Int32)) rfl rfl (fun _ _ => rfl) (fun _ _ => Nat.le_of_ble_eq_true rfl) dX7_execute_135 h (fun S16 H locs hW hS h => ?_)
      refine lv_goto (tgt := 149) hx hb dX7_execute_138 (by decide) ?_
      exact m_c7_execute_b149 hN hI hn F hr hlk hK _ _ h hW hS (lv_sub hl [1, 2] rfl)
    replace h := (if_neg c_7).symm.trans h
    refine lv_aload_n hx hb dX7_execute_108 rfl (lv_at hl 1 rfl) ?_
    refine lv_iload_n hx hb dX7_execute_109 rfl (lv_at hl 0 rfl) ?_
    refine x_cVv (As := [.int (v2 >>> ((4 : Int32) &&& 31))]) F xG_ok hK hW hS um_X7_doHighFunction k_4_24 (fun _ h1 => m_c7_doHighFunction hN hI hn _ h1) rfl (cd_dX7 hn) (cd_eX7 hN hn) rfl rfl hl.1 rfl rfl ⟨Nat.le_of_ble_eq_true rfl, Nat.le_of_ble_eq_true rfl⟩ ⟨Nat.zero_le _, Nat.zero_le _⟩ (Nat.le_of_ble_eq_true rfl) dX7_execute_110 h (fun S17 H locs hW hS h => ?_)
    refine lv_goto (tgt := 149) hx hb dX7_execute_113 (by decide) ?_
    exact m_c7_execute_b149 hN hI hn F hr hlk hK _ _ h hW hS (lv_sub hl [1, 2] rfl)
  replace h := (if_neg c_6).symm.trans h
  refine lv_aload_n hx hb dX7_execute_94 rfl (lv_at hl 1 rfl) ?_
  refine lv_iload_n hx hb dX7_execute_95 rfl (lv_at hl 0 rfl) ?_
  refine x_cVv (As := [.int (v2 >>> ((4 : Int32) &&& 31))]) F xG_ok hK hW hS um_X7_doLowFunction k_3_238 (fun _ h1 => m_c7_doLowFunction hN hI hn _ h1) rfl (cd_dX7 hn) (cd_eX7 hN hn) rfl rfl hl.1 rfl rfl ⟨Nat.le_of_ble_eq_true rfl, Nat.le_of_ble_eq_true rfl⟩ ⟨Nat.zero_le _, Nat.zero_le _⟩ (Nat.le_of_ble_eq_true rfl) dX7_execute_96 h (fun S18 H locs hW hS h => ?_)
  refine lv_goto (tgt := 149) hx hb dX7_execute_99 (by decide) ?_
  exact m_c7_execute_b149 hN hI hn F hr hlk hK _ _ h hW hS (lv_sub hl [1, 2] rfl)
def c7_execute (n : Nat) (S : xS)  : Option (xS) := (c5_byteAt n 2 S (xI S n 4 4)).bind (fun (r_1, S1) => (c9_jump n 4 S1 (1 : Int32)).bind (fun S2 => xnm (sI S2 n 1 10 ((xI S2 n 1 10) + (1 : Int32))) (fun S3 => if (xI S3 n 4 6) = (1 : Int32) then (xnm (sI S3 n 4 7 ((xI S3 n 4 7) + (1 : Int32))) (fun S19 => c7_execute_b68 n (xI S n 1 6) r_1 S19)) else (c7_execute_b68 n (xI S n 1 6) r_1 S3))))
set_option maxHeartbeats 4000000 in
set_option maxRecDepth 100000 in
theorem m_c7_execute {l : Launch} {D : va_G} {cI cJ cL cN : ClassId} {ad : Nat → Nat → Nat} {N : Nat} (hN : N ≤ 8) (hI : xInj (cDom N) ad) {n : Nat} (hn : n < N) {S : xS}  {o : xS} (h : c7_execute n S  = some o) : Met l yX7_execute (Cond.code yX7_execute cX7_execute 4 none :: xG) { frames := 6, cells := 0, slots := 0, locals := 140 } (xPc D vwCl (cTy cI cJ cL cN) cNf cNm (cDom N) ad (cDe ad N cI cJ cL cN) [.ref (ad n 20)] S) (xQ D vwCl (cDom N) ad (cDe ad N cI cJ cL cN) none o) 0 0 (xA (cDom N) ad) := by
  unfold c7_execute at h
  refine x_enter (by decide) (Nat.le_of_ble_eq_true rfl) (fun p e s m below meth c F hr hlk hK hW hS ls hl => ?_)
  have hl : lv_has ls 4 [(0, .ref (ad n 20))] := hl
  have hx := F.1
  have hb := F.2.1
  refine lv_aload_n hx hb dX7_execute_0 rfl (lv_at hl 0 rfl) ?_
  refine x_get F hK hW xc_X7 (cd_dX7 hn) (cd_eX7 hN hn) 0 (by decide) k_2_89 (rfl) dX7_execute_1 ?_
  refine x_getN F hK hW xc_X1 (cd_dX1 hn) (cd_eX1 hN hn) 6 (by decide) kn_36 (rfl) dX7_execute_4 ?_
  refine lv_istore_n (lv' := [(1, .int (xI S n 1 6)), (0, .ref (ad n 20))]) hx hb dX7_execute_7 rfl hl (by decide) rfl (fun ls hl => ?_)
  refine lv_aload_n hx hb dX7_execute_8 rfl (lv_at hl 1 rfl) ?_
  refine x_get F hK hW xc_X7 (cd_dX7 hn) (cd_eX7 hN hn) 2 (by decide) k_2_91 (rfl) dX7_execute_9 ?_
  refine lv_aload_n hx hb dX7_execute_12 rfl (lv_at hl 1 rfl) ?_
  refine x_get F hK hW xc_X7 (cd_dX7 hn) (cd_eX7 hN hn) 1 (by decide) k_2_90 (rfl) dX7_execute_13 ?_
  refine x_getN F hK hW xc_X9 (cd_dX9 ⟨hn, Or.inl rfl⟩) (cd_eX9 hN ⟨hn, Or.inl rfl⟩) 4 (by decide) kn_12 (rfl) dX7_execute_16 ?_
  refine x_cVi (As := [.int (xI S n 4 4)]) F xG_ok hK hW hS um_X5_byteAt k_3_232 (fun _ h1 => m_c5_byteAt hN hI (is5n hn) _ h1) rfl (cd_dX5 (is5n hn)) (cd_eX5 hN (is5n hn)) rfl rfl hl.1 rfl rfl ⟨Nat.le_of_ble_eq_true rfl, Nat.le_of_ble_eq_true rfl⟩ ⟨Nat.zero_le _, Nat.zero_le _⟩ (Nat.le_of_ble_eq_true rfl) dX7_execute_19 h (fun r_1 S1 H locs hW hS h => ?_)
  refine lv_istore_n (lv' := [(2, .int r_1), (1, .int (xI S n 1 6)), (0, .ref (ad n 20))]) hx hb dX7_execute_22 rfl hl (by decide) rfl (fun ls hl => ?_)
  refine lv_aload_n hx hb dX7_execute_23 rfl (lv_at hl 2 rfl) ?_
  refine x_get F hK hW xc_X7 (cd_dX7 hn) (cd_eX7 hN hn) 1 (by decide) k_2_90 (rfl) dX7_execute_24 ?_
  refine lv_iconst (v := (1 : Int32)) hx hb dX7_execute_27 (by decide) ?_
  refine x_cVv (As := [.int (1 : Int32)]) F xG_ok hK hW hS um_X9_jump k_3_233 (fun _ h1 => m_c9_jump hN hI ⟨hn, Or.inl rfl⟩ _ h1) rfl (cd_dX9 ⟨hn, Or.inl rfl⟩) (cd_eX9 hN ⟨hn, Or.inl rfl⟩) rfl rfl hl.1 rfl rfl ⟨Nat.le_of_ble_eq_true rfl, Nat.le_of_ble_eq_true rfl⟩ ⟨Nat.zero_le _, Nat.zero_le _⟩ (Nat.le_of_ble_eq_true rfl) dX7_execute_28 h (fun S2 H locs hW hS h => ?_)
  refine lv_aload_n hx hb dX7_execute_31 rfl (lv_at hl 2 rfl) ?_
  refine x_get F hK hW xc_X7 (cd_dX7 hn) (cd_eX7 hN hn) 0 (by decide) k_2_89 (rfl) dX7_execute_32 ?_
  refine lv_dup hx hb dX7_execute_35 rfl ?_
  refine x_getN F hK hW xc_X1 (cd_dX1 hn) (cd_eX1 hN hn) 10 (by decide) kn_40 (rfl) dX7_execute_36 ?_
  refine lv_iconst (v := (1 : Int32)) hx hb dX7_execute_39 (by decide) ?_
  refine lv_iadd hx hb dX7_execute_40 ?_
  refine x_putN F hK hI hW hS xc_X1 (cd_dX1 hn) (cd_eX1 hN hn) 10 (by decide) kn_40 rfl (v := ((xI S2 n 1 10) + (1 : Int32))) rfl rfl (fun _ _ => rfl) (fun _ _ => Nat.le_of_ble_eq_true rfl) dX7_execute_41 h (fun S3 H locs hW hS h => ?_)
  refine lv_aload_n hx hb dX7_execute_44 rfl (lv_at hl 2 rfl) ?_
  refine x_get F hK hW xc_X7 (cd_dX7 hn) (cd_eX7 hN hn) 1 (by decide) k_2_90 (rfl) dX7_execute_45 ?_
  refine x_getN F hK hW xc_X9 (cd_dX9 ⟨hn, Or.inl rfl⟩) (cd_eX9 hN ⟨hn, Or.inl rfl⟩) 6 (by decide) kn_17 (rfl) dX7_execute_48 ?_
  refine lv_iconst (v := (1 : Int32)) hx hb dX7_execute_51 (by decide) ?_
  refine lv_icmp_ne (tgt := 68) hx hb dX7_execute_52 (by decide) (fun c_4 => ?_) (fun c_4 => ?_)
  · replace h := (if_neg c_4).symm.trans h
    exact m_c7_execute_b68 hN hI hn F hr hlk hK _ _ _ h hW hS (lv_sub hl [2, 1, 0] rfl)
  replace h := (if_pos c_4).symm.trans h
  refine lv_aload_n hx hb dX7_execute_55 rfl (lv_at hl 2 rfl) ?_
  refine x_get F hK hW xc_X7 (cd_dX7 hn) (cd_eX7 hN hn) 1 (by decide) k_2_90 (rfl) dX7_execute_56 ?_
  refine lv_dup hx hb dX7_execute_59 rfl ?_
  refine x_getN F hK hW xc_X9 (cd_dX9 ⟨hn, Or.inl rfl⟩) (cd_eX9 hN ⟨hn, Or.inl rfl⟩) 7 (by decide) kn_18 (rfl) dX7_execute_60 ?_
  refine lv_iconst (v := (1 : Int32)) hx hb dX7_execute_63 (by decide) ?_
  refine lv_iadd hx hb dX7_execute_64 ?_
  refine x_putN F hK hI hW hS xc_X9 (cd_dX9 ⟨hn, Or.inl rfl⟩) (cd_eX9 hN ⟨hn, Or.inl rfl⟩) 7 (by decide) kn_18 rfl (v := ((xI S3 n 4 7) + (1 : Int32))) rfl rfl (fun _ _ => rfl) (fun _ _ => Nat.le_of_ble_eq_true rfl) dX7_execute_65 h (fun S19 H locs hW hS h => ?_)
  exact m_c7_execute_b68 hN hI hn F hr hlk hK _ _ _ h hW hS (lv_sub hl [2, 1, 0] rfl)
/-! X11_nodeAt -/
def c11_nodeAt (N : Nat) (S : xS) (a1 : Int32) : Option (Option (Nat × Nat) × xS) := if a1 < 0 then (some (none, S)) else (if a1 < (Int32.ofNat N) then (gd a1 N (some (some ((a1).toNatClampNeg, 0), S))) else (some (none, S)))
set_option maxHeartbeats 4000000 in
set_option maxRecDepth 100000 in
theorem m_c11_nodeAt {l : Launch} {D : va_G} {cI cJ cL cN : ClassId} {ad : Nat → Nat → Nat} {N : Nat} (hN : N ≤ 8) (hI : xInj (cDom N) ad)  {S : xS} (a1 : Int32) {o : Option (Nat × Nat) × xS} (h : c11_nodeAt N S a1 = some o) : Met l yX11_nodeAt (Cond.code yX11_nodeAt cX11_nodeAt 2 (some (.object "TransputerNet$Node")) :: xG) { frames := 0, cells := 0, slots := 0, locals := 0 } (xPc D vwCl (cTy cI cJ cL cN) cNf cNm (cDom N) ad (cDe ad N cI cJ cL cN) [.ref (ad 9 0), .int a1] S) (xQ D vwCl (cDom N) ad (cDe ad N cI cJ cL cN) (some (xRv ad o.1)) o.2) 0 0 (xA (cDom N) ad) := by
  unfold c11_nodeAt at h
  refine x_enter (by decide) (Nat.le_of_ble_eq_true rfl) (fun p e s m below meth c F hr hlk hK hW hS ls hl => ?_)
  have hl : lv_has ls 2 [(0, .ref (ad 9 0)), (1, .int a1)] := hl
  have hx := F.1
  have hb := F.2.1
  refine lv_iload_n hx hb dX11_nodeAt_0 rfl (lv_at hl 1 rfl) ?_
  refine lv_if_lt (tgt := 13) hx hb dX11_nodeAt_1 (by decide) (fun c_1 => ?_) (fun c_1 => ?_)
  · replace h := (if_pos c_1).symm.trans h
    refine lv_null hx hb dX11_nodeAt_13 ?_
    exact x_aret F hr hlk hW hS (r := none) rfl dX11_nodeAt_14 h
  replace h := (if_neg c_1).symm.trans h
  refine lv_iload_n hx hb dX11_nodeAt_4 rfl (lv_at hl 1 rfl) ?_
  refine lv_aload_n hx hb dX11_nodeAt_5 rfl (lv_at hl 0 rfl) ?_
  refine x_get F hK hW xc_X11 cd_dX11 cd_eX11 0 (by decide) k_2_168 (rfl) dX11_nodeAt_6 ?_
  refine x_alen (t0 := 3) F hK hW cd_dAN (cd_eAN _ _ _) rfl rfl dX11_nodeAt_9 ?_
  refine lv_icmp_lt (tgt := 15) hx hb dX11_nodeAt_10 (by decide) (fun c_2 => ?_) (fun c_2 => ?_)
  · replace h := (if_pos c_2).symm.trans h
    refine lv_aload_n hx hb dX11_nodeAt_15 rfl (lv_at hl 0 rfl) ?_
    refine x_get F hK hW xc_X11 cd_dX11 cd_eX11 0 (by decide) k_2_168 (rfl) dX11_nodeAt_16 ?_
    refine lv_iload_n hx hb dX11_nodeAt_19 rfl (lv_at hl 1 rfl) ?_
    have hk_3 := gd_lt h
    refine x_aald (t0 := 3) F hK hW cd_dAN cd_eAN rfl dX11_nodeAt_20 h (fun h => ?_)
    exact x_aret F hr hlk hW hS (r := some ((a1).toNatClampNeg, 0)) rfl dX11_nodeAt_21 h
  replace h := (if_neg c_2).symm.trans h
  refine lv_null hx hb dX11_nodeAt_13 ?_
  exact x_aret F hr hlk hW hS (r := none) rfl dX11_nodeAt_14 h
/-! X11_linkAt -/
def c11_linkAt (N : Nat) (S : xS) (a1 : Int32) (a2 : Int32) : Option (Option (Nat × Nat) × xS) := (c11_nodeAt N S a1).bind (fun (r_1, S1) => xcs r_1 (some (none, S1)) (fun n_2 j_2 => gq (n_2 < N ∧ j_2 = 0) (if a2 < 0 then (some (none, S1)) else (if a2 < (4 : Int32) then (gd a2 4 (some (some (n_2, (12 + (a2).toNatClampNeg)), S1))) else (some (none, S1))))))
set_option maxHeartbeats 4000000 in
set_option maxRecDepth 100000 in
theorem m_c11_linkAt {l : Launch} {D : va_G} {cI cJ cL cN : ClassId} {ad : Nat → Nat → Nat} {N : Nat} (hN : N ≤ 8) (hI : xInj (cDom N) ad)  {S : xS} (a1 : Int32) (a2 : Int32) {o : Option (Nat × Nat) × xS} (h : c11_linkAt N S a1 a2 = some o) : Met l yX11_linkAt (Cond.code yX11_linkAt cX11_linkAt 4 (some (.object "TransputerNet$Link")) :: xG) { frames := 1, cells := 0, slots := 0, locals := 21 } (xPc D vwCl (cTy cI cJ cL cN) cNf cNm (cDom N) ad (cDe ad N cI cJ cL cN) [.ref (ad 9 0), .int a1, .int a2] S) (xQ D vwCl (cDom N) ad (cDe ad N cI cJ cL cN) (some (xRv ad o.1)) o.2) 0 0 (xA (cDom N) ad) := by
  unfold c11_linkAt at h
  refine x_enter (by decide) (Nat.le_of_ble_eq_true rfl) (fun p e s m below meth c F hr hlk hK hW hS ls hl => ?_)
  have hl : lv_has ls 4 [(0, .ref (ad 9 0)), (1, .int a1), (2, .int a2)] := hl
  have hx := F.1
  have hb := F.2.1
  refine lv_aload_n hx hb dX11_linkAt_0 rfl (lv_at hl 0 rfl) ?_
  refine lv_iload_n hx hb dX11_linkAt_1 rfl (lv_at hl 1 rfl) ?_
  refine x_cVq (As := [.int a1]) F xG_ok hK hW hS um_X11_nodeAt k_2_190 (fun _ h1 => m_c11_nodeAt hN hI  _ h1) rfl cd_dX11 cd_eX11 rfl rfl hl.1 rfl rfl ⟨Nat.le_of_ble_eq_true rfl, Nat.le_of_ble_eq_true rfl⟩ ⟨Nat.zero_le _, Nat.zero_le _⟩ (Nat.le_of_ble_eq_true rfl) dX11_linkAt_2 h (fun r_1 S1 H locs hW hS h => ?_)
  refine x_astore_nq (lv' := [(3, xRv ad r_1), (0, .ref (ad 9 0)), (1, .int a1), (2, .int a2)]) hx hb dX11_linkAt_5 rfl hl (by decide) rfl (fun ls hl => ?_)
  refine x_aload_nq hx hb dX11_linkAt_6 rfl (lv_at hl 0 rfl) ?_
  rcases r_1 with _ | ⟨n_2, j_2⟩
  · replace h := xcs_n h
    have hl : lv_has ls 4 [(3, .null), (0, .ref (ad 9 0)), (1, .int a1), (2, .int a2)] := hl
    refine lv_ifnullN (tgt := 19) hx hb dX11_linkAt_7 (by decide) ?_
    refine lv_null hx hb dX11_linkAt_19 ?_
    exact x_aret F hr hlk hW hS (r := none) rfl dX11_linkAt_20 h
  replace h := xcs_s h
  have hg_2 := (gq_use h).1
  replace h := (gq_use h).2
  obtain ⟨-, he_2⟩ := id hg_2
  subst he_2
  have hl : lv_has ls 4 [(3, .ref (ad n_2 0)), (0, .ref (ad 9 0)), (1, .int a1), (2, .int a2)] := hl
  refine lv_ifnull hx hb dX11_linkAt_7 ?_
  refine lv_iload_n hx hb dX11_linkAt_10 rfl (lv_at hl 3 rfl) ?_
  refine lv_if_lt (tgt := 19) hx hb dX11_linkAt_11 (by decide) (fun c_3 => ?_) (fun c_3 => ?_)
  · replace h := (if_pos c_3).symm.trans h
    refine lv_null hx hb dX11_linkAt_19 ?_
    exact x_aret F hr hlk hW hS (r := none) rfl dX11_linkAt_20 h
  replace h := (if_neg c_3).symm.trans h
  refine lv_iload_n hx hb dX11_linkAt_14 rfl (lv_at hl 3 rfl) ?_
  refine lv_iconst (v := (4 : Int32)) hx hb dX11_linkAt_15 (by decide) ?_
  refine lv_icmp_lt (tgt := 21) hx hb dX11_linkAt_16 (by decide) (fun c_4 => ?_) (fun c_4 => ?_)
  · replace h := (if_pos c_4).symm.trans h
    refine lv_aload_n hx hb dX11_linkAt_21 rfl (lv_at hl 0 rfl) ?_
    refine x_getN F hK hW xc_X6 (cd_dX6 hg_2.1) (cd_eX6 hN hg_2.1) 1 (by decide) kn_57 (rfl) dX11_linkAt_22 ?_
    refine lv_iload_n hx hb dX11_linkAt_25 rfl (lv_at hl 3 rfl) ?_
    have hk_5 := gd_lt h
    refine x_aald (t0 := 2) F hK hW (cd_dAL hg_2.1) (cd_eAL hN hg_2.1) rfl dX11_linkAt_26 h (fun h => ?_)
    exact x_aret F hr hlk hW hS (r := some (n_2, (12 + (a2).toNatClampNeg))) rfl dX11_linkAt_27 h
  replace h := (if_neg c_4).symm.trans h
  refine lv_null hx hb dX11_linkAt_19 ?_
  exact x_aret F hr hlk hW hS (r := none) rfl dX11_linkAt_20 h
/-! X11_endAt -/
def c11_endAt (N : Nat) (S : xS) (a1 : Int32) (a2 : Int32) : Option (Option (Nat × Nat) × xS) := (c11_linkAt N S a1 a2).bind (fun (r_1, S1) => xcs r_1 (some (none, S1)) (fun n_2 j_2 => gq (n_2 < N ∧ 12 ≤ j_2 ∧ j_2 < 16) (some (some (n_2, (j_2 + 4)), S1))))
set_option maxHeartbeats 4000000 in
set_option maxRecDepth 100000 in
theorem m_c11_endAt {l : Launch} {D : va_G} {cI cJ cL cN : ClassId} {ad : Nat → Nat → Nat} {N : Nat} (hN : N ≤ 8) (hI : xInj (cDom N) ad)  {S : xS} (a1 : Int32) (a2 : Int32) {o : Option (Nat × Nat) × xS} (h : c11_endAt N S a1 a2 = some o) : Met l yX11_endAt (Cond.code yX11_endAt cX11_endAt 4 (some (.object "TransputerNet$End")) :: xG) { frames := 2, cells := 0, slots := 0, locals := 44 } (xPc D vwCl (cTy cI cJ cL cN) cNf cNm (cDom N) ad (cDe ad N cI cJ cL cN) [.ref (ad 9 0), .int a1, .int a2] S) (xQ D vwCl (cDom N) ad (cDe ad N cI cJ cL cN) (some (xRv ad o.1)) o.2) 0 0 (xA (cDom N) ad) := by
  unfold c11_endAt at h
  refine x_enter (by decide) (Nat.le_of_ble_eq_true rfl) (fun p e s m below meth c F hr hlk hK hW hS ls hl => ?_)
  have hl : lv_has ls 4 [(0, .ref (ad 9 0)), (1, .int a1), (2, .int a2)] := hl
  have hx := F.1
  have hb := F.2.1
  refine lv_aload_n hx hb dX11_endAt_0 rfl (lv_at hl 0 rfl) ?_
  refine lv_iload_n hx hb dX11_endAt_1 rfl (lv_at hl 1 rfl) ?_
  refine lv_iload_n hx hb dX11_endAt_2 rfl (lv_at hl 2 rfl) ?_
  refine x_cVq (As := [.int a1, .int a2]) F xG_ok hK hW hS um_X11_linkAt k_2_186 (fun _ h1 => m_c11_linkAt hN hI  _ _ h1) rfl cd_dX11 cd_eX11 rfl rfl hl.1 rfl rfl ⟨Nat.le_of_ble_eq_true rfl, Nat.le_of_ble_eq_true rfl⟩ ⟨Nat.zero_le _, Nat.zero_le _⟩ (Nat.le_of_ble_eq_true rfl) dX11_endAt_3 h (fun r_1 S1 H locs hW hS h => ?_)
  refine x_astore_nq (lv' := [(3, xRv ad r_1), (0, .ref (ad 9 0)), (1, .int a1), (2, .int a2)]) hx hb dX11_endAt_6 rfl hl (by decide) rfl (fun ls hl => ?_)
  refine x_aload_nq hx hb dX11_endAt_7 rfl (lv_at hl 0 rfl) ?_
  rcases r_1 with _ | ⟨n_2, j_2⟩
  · replace h := xcs_n h
    have hl : lv_has ls 4 [(3, .null), (0, .ref (ad 9 0)), (1, .int a1), (2, .int a2)] := hl
    refine lv_ifnonnullN hx hb dX11_endAt_8 ?_
    refine lv_null hx hb dX11_endAt_11 ?_
    refine lv_goto (tgt := 19) hx hb dX11_endAt_12 (by decide) ?_
    exact x_aret F hr hlk hW hS (r := none) rfl dX11_endAt_19 h
  replace h := xcs_s h
  have hg_2 := (gq_use h).1
  replace h := (gq_use h).2
  have hl : lv_has ls 4 [(3, .ref (ad n_2 j_2)), (0, .ref (ad 9 0)), (1, .int a1), (2, .int a2)] := hl
  refine lv_ifnonnull (tgt := 15) hx hb dX11_endAt_8 (by decide) ?_
  refine lv_aload_n hx hb dX11_endAt_15 rfl (lv_at hl 0 rfl) ?_
  refine x_getN F hK hW xc_X4 (cd_dX4 hg_2) (cd_eX4 hN hg_2) 1 (by decide) kn_49 (rfl) dX11_endAt_16 ?_
  exact x_aret F hr hlk hW hS (r := some (n_2, (j_2 + 4))) rfl dX11_endAt_19 h
/-! X11_wire -/
def c11_wire (N : Nat) (S : xS) (a1 : Int32) (a2 : Int32) (a3 : Int32) (a4 : Int32) : Option (Int32 × xS) := (c11_endAt N S a1 a2).bind (fun (r_1, S1) => if a3 = (-1 : Int32) then (xcs r_1 (some ((0 : Int32), S1)) (fun n_16 j_16 => gq ((n_16 < N ∧ 16 ≤ j_16 ∧ j_16 < 20) ∨ (n_16 = 8 ∧ j_16 = 16)) (if n_16 = 8 ∧ j_16 = 16 then (some ((0 : Int32), S1)) else ((c2_isWired N n_16 j_16 S1 ).bind (fun (r_18, S18) => if r_18 = 0 then ((c2_isWired N 8 16 S18 ).bind (fun (r_20, S20) => if r_20 = 0 then (if a3 = (-1 : Int32) then ((c2_join n_16 j_16 8 16 S20 (8 : Int32)).bind (fun S25 => (c2_join 8 16 n_16 j_16 S25 a1).bind (fun S26 => some ((1 : Int32), S26)))) else ((c2_join n_16 j_16 8 16 S20 a3).bind (fun S23 => (c2_join 8 16 n_16 j_16 S23 a1).bind (fun S24 => some ((1 : Int32), S24))))) else (some ((0 : Int32), S20)))) else (some ((0 : Int32), S18))))))) else ((c11_endAt N S1 a3 a4).bind (fun (r_3, S3) => xcs r_1 (some ((0 : Int32), S3)) (fun n_4 j_4 => gq ((n_4 < N ∧ 16 ≤ j_4 ∧ j_4 < 20) ∨ (n_4 = 8 ∧ j_4 = 16)) (xcs r_3 (some ((0 : Int32), S3)) (fun n_5 j_5 => gq ((n_5 < N ∧ 16 ≤ j_5 ∧ j_5 < 20) ∨ (n_5 = 8 ∧ j_5 = 16)) (if n_4 = n_5 ∧ j_4 = j_5 then (some ((0 : Int32), S3)) else ((c2_isWired N n_4 j_4 S3 ).bind (fun (r_7, S7) => if r_7 = 0 then ((c2_isWired N n_5 j_5 S7 ).bind (fun (r_9, S9) => if r_9 = 0 then (if a3 = (-1 : Int32) then ((c2_join n_4 j_4 n_5 j_5 S9 (8 : Int32)).bind (fun S14 => (c2_join n_5 j_5 n_4 j_4 S14 a1).bind (fun S15 => some ((1 : Int32), S15)))) else ((c2_join n_4 j_4 n_5 j_5 S9 a3).bind (fun S12 => (c2_join n_5 j_5 n_4 j_4 S12 a1).bind (fun S13 => some ((1 : Int32), S13))))) else (some ((0 : Int32), S9)))) else (some ((0 : Int32), S7)))))))))))
set_option maxHeartbeats 4000000 in
set_option maxRecDepth 100000 in
theorem m_c11_wire {l : Launch} {D : va_G} {cI cJ cL cN : ClassId} {ad : Nat → Nat → Nat} {N : Nat} (hN : N ≤ 8) (hI : xInj (cDom N) ad)  {S : xS} (a1 : Int32) (a2 : Int32) (a3 : Int32) (a4 : Int32) {o : Int32 × xS} (h : c11_wire N S a1 a2 a3 a4 = some o) : Met l yX11_wire (Cond.code yX11_wire cX11_wire 7 (some .boolean) :: xG) { frames := 3, cells := 0, slots := 0, locals := 67 } (xPc D vwCl (cTy cI cJ cL cN) cNf cNm (cDom N) ad (cDe ad N cI cJ cL cN) [.ref (ad 9 0), .int a1, .int a2, .int a3, .int a4] S) (xQ D vwCl (cDom N) ad (cDe ad N cI cJ cL cN) (some (.int o.1)) o.2) 0 0 (xA (cDom N) ad) := by
  unfold c11_wire at h
  refine x_enter (by decide) (Nat.le_of_ble_eq_true rfl) (fun p e s m below meth c F hr hlk hK hW hS ls hl => ?_)
  have hl : lv_has ls 7 [(0, .ref (ad 9 0)), (1, .int a1), (2, .int a2), (3, .int a3), (4, .int a4)] := hl
  have hx := F.1
  have hb := F.2.1
  refine lv_aload_n hx hb dX11_wire_0 rfl (lv_at hl 0 rfl) ?_
  refine lv_iload_n hx hb dX11_wire_1 rfl (lv_at hl 1 rfl) ?_
  refine lv_iload_n hx hb dX11_wire_2 rfl (lv_at hl 2 rfl) ?_
  refine x_cVq (As := [.int a1, .int a2]) F xG_ok hK hW hS um_X11_endAt k_2_182 (fun _ h1 => m_c11_endAt hN hI  _ _ h1) rfl cd_dX11 cd_eX11 rfl rfl hl.1 rfl rfl ⟨Nat.le_of_ble_eq_true rfl, Nat.le_of_ble_eq_true rfl⟩ ⟨Nat.zero_le _, Nat.zero_le _⟩ (Nat.le_of_ble_eq_true rfl) dX11_wire_3 h (fun r_1 S1 H locs hW hS h => ?_)
  refine x_astoreq (lv' := [(5, xRv ad r_1), (0, .ref (ad 9 0)), (1, .int a1), (2, .int a2), (3, .int a3), (4, .int a4)]) hx hb dX11_wire_6 hl (by decide) rfl (fun ls hl => ?_)
  refine lv_iload_n hx hb dX11_wire_8 rfl (lv_at hl 4 rfl) ?_
  refine lv_iconst (v := (-1 : Int32)) hx hb dX11_wire_9 (by decide) ?_
  refine lv_icmp_ne (tgt := 23) hx hb dX11_wire_10 (by decide) (fun c_2 => ?_) (fun c_2 => ?_)
  · replace h := (if_neg c_2).symm.trans h
    refine lv_aload_n hx hb dX11_wire_23 rfl (lv_at hl 1 rfl) ?_
    refine lv_iload_n hx hb dX11_wire_24 rfl (lv_at hl 4 rfl) ?_
    refine lv_iload hx hb dX11_wire_25 (lv_at hl 5 rfl) ?_
    refine x_cVq (As := [.int a3, .int a4]) F xG_ok hK hW hS um_X11_endAt k_2_182 (fun _ h1 => m_c11_endAt hN hI  _ _ h1) rfl cd_dX11 cd_eX11 rfl rfl hl.1 rfl rfl ⟨Nat.le_of_ble_eq_true rfl, Nat.le_of_ble_eq_true rfl⟩ ⟨Nat.zero_le _, Nat.zero_le _⟩ (Nat.le_of_ble_eq_true rfl) dX11_wire_27 h (fun r_3 S3 H locs hW hS h => ?_)
    refine x_astoreq (lv' := [(6, xRv ad r_3), (5, xRv ad r_1), (0, .ref (ad 9 0)), (1, .int a1), (2, .int a2), (3, .int a3), (4, .int a4)]) hx hb dX11_wire_30 hl (by decide) (by cases r_1 <;> rfl) (fun ls hl => ?_)
    refine x_aloadq hx hb dX11_wire_32 (lv_at hl 1 rfl) ?_
    rcases r_1 with _ | ⟨n_4, j_4⟩
    · replace h := xcs_n h
      have hl : lv_has ls 7 [(6, xRv ad r_3), (5, .null), (0, .ref (ad 9 0)), (1, .int a1), (2, .int a2), (3, .int a3), (4, .int a4)] := hl
      refine lv_ifnullN (tgt := 49) hx hb dX11_wire_34 (by decide) ?_
      refine lv_iconst (v := (0 : Int32)) hx hb dX11_wire_49 (by decide) ?_
      exact x_zret F hr hlk hW hS rfl dX11_wire_50 h
    replace h := xcs_s h
    have hg_4 := (gq_use h).1
    replace h := (gq_use h).2
    have hl : lv_has ls 7 [(6, xRv ad r_3), (5, .ref (ad n_4 j_4)), (0, .ref (ad 9 0)), (1, .int a1), (2, .int a2), (3, .int a3), (4, .int a4)] := hl
    refine lv_ifnull hx hb dX11_wire_34 ?_
    refine x_aloadq hx hb dX11_wire_37 (lv_at hl 0 rfl) ?_
    rcases r_3 with _ | ⟨n_5, j_5⟩
    · replace h := xcs_n h
      have hl : lv_has ls 7 [(6, .null), (5, .ref (ad n_4 j_4)), (0, .ref (ad 9 0)), (1, .int a1), (2, .int a2), (3, .int a3), (4, .int a4)] := hl
      refine lv_ifnullN (tgt := 49) hx hb dX11_wire_39 (by decide) ?_
      refine lv_iconst (v := (0 : Int32)) hx hb dX11_wire_49 (by decide) ?_
      exact x_zret F hr hlk hW hS rfl dX11_wire_50 h
    replace h := xcs_s h
    have hg_5 := (gq_use h).1
    replace h := (gq_use h).2
    have hl : lv_has ls 7 [(6, .ref (ad n_5 j_5)), (5, .ref (ad n_4 j_4)), (0, .ref (ad 9 0)), (1, .int a1), (2, .int a2), (3, .int a3), (4, .int a4)] := hl
    refine lv_ifnull hx hb dX11_wire_39 ?_
    refine lv_aload hx hb dX11_wire_42 (lv_at hl 1 rfl) ?_
    refine lv_aload hx hb dX11_wire_44 (lv_at hl 0 rfl) ?_
    refine x_acmp_ne (tgt := 51) hx hb hI (cd_dX2 hg_4) (cd_dX2 hg_5) dX11_wire_46 (by decide) (fun c_6 => ?_) (fun c_6 => ?_)
    · replace h := (if_neg c_6).symm.trans h
      refine lv_aload hx hb dX11_wire_51 (lv_at hl 1 rfl) ?_
      refine x_cVi (As := []) F xG_ok hK hW hS um_X2_isWired k_2_194 (fun _ h1 => m_c2_isWired hN hI hg_4  h1) rfl (cd_dX2 hg_4) (cd_eX2 hN hg_4) rfl rfl hl.1 rfl rfl ⟨Nat.le_of_ble_eq_true rfl, Nat.le_of_ble_eq_true rfl⟩ ⟨Nat.zero_le _, Nat.zero_le _⟩ (Nat.le_of_ble_eq_true rfl) dX11_wire_53 h (fun r_7 S7 H locs hW hS h => ?_)
      refine lv_if_ne (tgt := 67) hx hb dX11_wire_56 (by decide) (fun c_8 => ?_) (fun c_8 => ?_)
      · replace h := (if_neg c_8).symm.trans h
        refine lv_iconst (v := (0 : Int32)) hx hb dX11_wire_67 (by decide) ?_
        exact x_zret F hr hlk hW hS rfl dX11_wire_68 h
      replace h := (if_pos c_8).symm.trans h
      refine lv_aload hx hb dX11_wire_59 (lv_at hl 0 rfl) ?_
      refine x_cVi (As := []) F xG_ok hK hW hS um_X2_isWired k_2_194 (fun _ h1 => m_c2_isWired hN hI hg_5  h1) rfl (cd_dX2 hg_5) (cd_eX2 hN hg_5) rfl rfl hl.1 rfl rfl ⟨Nat.le_of_ble_eq_true rfl, Nat.le_of_ble_eq_true rfl⟩ ⟨Nat.zero_le _, Nat.zero_le _⟩ (Nat.le_of_ble_eq_true rfl) dX11_wire_61 h (fun r_9 S9 H locs hW hS h => ?_)
      refine lv_if_eq (tgt := 69) hx hb dX11_wire_64 (by decide) (fun c_10 => ?_) (fun c_10 => ?_)
      · replace h := (if_pos c_10).symm.trans h
        refine lv_aload hx hb dX11_wire_69 (lv_at hl 1 rfl) ?_
        refine lv_aload hx hb dX11_wire_71 (lv_at hl 0 rfl) ?_
        refine lv_iload_n hx hb dX11_wire_73 rfl (lv_at hl 5 rfl) ?_
        refine lv_iconst (v := (-1 : Int32)) hx hb dX11_wire_74 (by decide) ?_
        refine lv_icmp_ne (tgt := 83) hx hb dX11_wire_75 (by decide) (fun c_11 => ?_) (fun c_11 => ?_)
        · replace h := (if_neg c_11).symm.trans h
          refine lv_iload_n hx hb dX11_wire_83 rfl (lv_at hl 5 rfl) ?_
          refine x_cVv (As := [.ref (ad n_5 j_5), .int a3]) F xG_ok hK hW hS um_X2_join k_2_198 (fun _ h1 => m_c2_join hN hI hg_4 hg_5 _ h1) rfl (cd_dX2 hg_4) (cd_eX2 hN hg_4) rfl rfl hl.1 rfl rfl ⟨Nat.le_of_ble_eq_true rfl, Nat.le_of_ble_eq_true rfl⟩ ⟨Nat.zero_le _, Nat.zero_le _⟩ (Nat.le_of_ble_eq_true rfl) dX11_wire_84 h (fun S12 H locs hW hS h => ?_)
          refine lv_aload hx hb dX11_wire_87 (lv_at hl 0 rfl) ?_
          refine lv_aload hx hb dX11_wire_89 (lv_at hl 1 rfl) ?_
          refine lv_iload_n hx hb dX11_wire_91 rfl (lv_at hl 3 rfl) ?_
          refine x_cVv (As := [.ref (ad n_4 j_4), .int a1]) F xG_ok hK hW hS um_X2_join k_2_198 (fun _ h1 => m_c2_join hN hI hg_5 hg_4 _ h1) rfl (cd_dX2 hg_5) (cd_eX2 hN hg_5) rfl rfl hl.1 rfl rfl ⟨Nat.le_of_ble_eq_true rfl, Nat.le_of_ble_eq_true rfl⟩ ⟨Nat.zero_le _, Nat.zero_le _⟩ (Nat.le_of_ble_eq_true rfl) dX11_wire_92 h (fun S13 H locs hW hS h => ?_)
          refine lv_iconst (v := (1 : Int32)) hx hb dX11_wire_95 (by decide) ?_
          exact x_zret F hr hlk hW hS rfl dX11_wire_96 h
        replace h := (if_pos c_11).symm.trans h
        refine lv_bipush (v := (8 : Int32)) hx hb dX11_wire_78 (by decide) ?_
        refine lv_goto (tgt := 84) hx hb dX11_wire_80 (by decide) ?_
        refine x_cVv (As := [.ref (ad n_5 j_5), .int (8 : Int32)]) F xG_ok hK hW hS um_X2_join k_2_198 (fun _ h1 => m_c2_join hN hI hg_4 hg_5 _ h1) rfl (cd_dX2 hg_4) (cd_eX2 hN hg_4) rfl rfl hl.1 rfl rfl ⟨Nat.le_of_ble_eq_true rfl, Nat.le_of_ble_eq_true rfl⟩ ⟨Nat.zero_le _, Nat.zero_le _⟩ (Nat.le_of_ble_eq_true rfl) dX11_wire_84 h (fun S14 H locs hW hS h => ?_)
        refine lv_aload hx hb dX11_wire_87 (lv_at hl 0 rfl) ?_
        refine lv_aload hx hb dX11_wire_89 (lv_at hl 1 rfl) ?_
        refine lv_iload_n hx hb dX11_wire_91 rfl (lv_at hl 3 rfl) ?_
        refine x_cVv (As := [.ref (ad n_4 j_4), .int a1]) F xG_ok hK hW hS um_X2_join k_2_198 (fun _ h1 => m_c2_join hN hI hg_5 hg_4 _ h1) rfl (cd_dX2 hg_5) (cd_eX2 hN hg_5) rfl rfl hl.1 rfl rfl ⟨Nat.le_of_ble_eq_true rfl, Nat.le_of_ble_eq_true rfl⟩ ⟨Nat.zero_le _, Nat.zero_le _⟩ (Nat.le_of_ble_eq_true rfl) dX11_wire_92 h (fun S15 H locs hW hS h => ?_)
        refine lv_iconst (v := (1 : Int32)) hx hb dX11_wire_95 (by decide) ?_
        exact x_zret F hr hlk hW hS rfl dX11_wire_96 h
      replace h := (if_neg c_10).symm.trans h
      refine lv_iconst (v := (0 : Int32)) hx hb dX11_wire_67 (by decide) ?_
      exact x_zret F hr hlk hW hS rfl dX11_wire_68 h
    replace h := (if_pos c_6).symm.trans h
    refine lv_iconst (v := (0 : Int32)) hx hb dX11_wire_49 (by decide) ?_
    exact x_zret F hr hlk hW hS rfl dX11_wire_50 h
  replace h := (if_pos c_2).symm.trans h
  refine lv_aload_n hx hb dX11_wire_13 rfl (lv_at hl 1 rfl) ?_
  refine x_get F hK hW xc_X11 cd_dX11 cd_eX11 1 (by decide) k_2_169 (rfl) dX11_wire_14 ?_
  refine x_getN F hK hW xc_X3 cd_dX3 cd_eX3 0 (by decide) kn_60 (rfl) dX11_wire_17 ?_
  refine lv_goto (tgt := 30) hx hb dX11_wire_20 (by decide) ?_
  refine lv_astore (lv' := [(6, .ref (ad 8 16)), (5, xRv ad r_1), (0, .ref (ad 9 0)), (1, .int a1), (2, .int a2), (3, .int a3), (4, .int a4)]) hx hb dX11_wire_30 hl (by decide) (by cases r_1 <;> rfl) (fun ls hl => ?_)
  refine x_aloadq hx hb dX11_wire_32 (lv_at hl 1 rfl) ?_
  rcases r_1 with _ | ⟨n_16, j_16⟩
  · replace h := xcs_n h
    have hl : lv_has ls 7 [(6, .ref (ad 8 16)), (5, .null), (0, .ref (ad 9 0)), (1, .int a1), (2, .int a2), (3, .int a3), (4, .int a4)] := hl
    refine lv_ifnullN (tgt := 49) hx hb dX11_wire_34 (by decide) ?_
    refine lv_iconst (v := (0 : Int32)) hx hb dX11_wire_49 (by decide) ?_
    exact x_zret F hr hlk hW hS rfl dX11_wire_50 h
  replace h := xcs_s h
  have hg_16 := (gq_use h).1
  replace h := (gq_use h).2
  have hl : lv_has ls 7 [(6, .ref (ad 8 16)), (5, .ref (ad n_16 j_16)), (0, .ref (ad 9 0)), (1, .int a1), (2, .int a2), (3, .int a3), (4, .int a4)] := hl
  refine lv_ifnull hx hb dX11_wire_34 ?_
  refine lv_aload hx hb dX11_wire_37 (lv_at hl 0 rfl) ?_
  refine lv_ifnull hx hb dX11_wire_39 ?_
  refine lv_aload hx hb dX11_wire_42 (lv_at hl 1 rfl) ?_
  refine lv_aload hx hb dX11_wire_44 (lv_at hl 0 rfl) ?_
  refine x_acmp_ne (tgt := 51) hx hb hI (cd_dX2 hg_16) (cd_dX2 (Or.inr ⟨rfl, rfl⟩)) dX11_wire_46 (by decide) (fun c_17 => ?_) (fun c_17 => ?_)
  · replace h := (if_neg c_17).symm.trans h
    refine lv_aload hx hb dX11_wire_51 (lv_at hl 1 rfl) ?_
    refine x_cVi (As := []) F xG_ok hK hW hS um_X2_isWired k_2_194 (fun _ h1 => m_c2_isWired hN hI hg_16  h1) rfl (cd_dX2 hg_16) (cd_eX2 hN hg_16) rfl rfl hl.1 rfl rfl ⟨Nat.le_of_ble_eq_true rfl, Nat.le_of_ble_eq_true rfl⟩ ⟨Nat.zero_le _, Nat.zero_le _⟩ (Nat.le_of_ble_eq_true rfl) dX11_wire_53 h (fun r_18 S18 H locs hW hS h => ?_)
    refine lv_if_ne (tgt := 67) hx hb dX11_wire_56 (by decide) (fun c_19 => ?_) (fun c_19 => ?_)
    · replace h := (if_neg c_19).symm.trans h
      refine lv_iconst (v := (0 : Int32)) hx hb dX11_wire_67 (by decide) ?_
      exact x_zret F hr hlk hW hS rfl dX11_wire_68 h
    replace h := (if_pos c_19).symm.trans h
    refine lv_aload hx hb dX11_wire_59 (lv_at hl 0 rfl) ?_
    refine x_cVi (As := []) F xG_ok hK hW hS um_X2_isWired k_2_194 (fun _ h1 => m_c2_isWired hN hI (Or.inr ⟨rfl, rfl⟩)  h1) rfl (cd_dX2 (Or.inr ⟨rfl, rfl⟩)) (cd_eX2 hN (Or.inr ⟨rfl, rfl⟩)) rfl rfl hl.1 rfl rfl ⟨Nat.le_of_ble_eq_true rfl, Nat.le_of_ble_eq_true rfl⟩ ⟨Nat.zero_le _, Nat.zero_le _⟩ (Nat.le_of_ble_eq_true rfl) dX11_wire_61 h (fun r_20 S20 H locs hW hS h => ?_)
    refine lv_if_eq (tgt := 69) hx hb dX11_wire_64 (by decide) (fun c_21 => ?_) (fun c_21 => ?_)
    · replace h := (if_pos c_21).symm.trans h
      refine lv_aload hx hb dX11_wire_69 (lv_at hl 1 rfl) ?_
      refine lv_aload hx hb dX11_wire_71 (lv_at hl 0 rfl) ?_
      refine lv_iload_n hx hb dX11_wire_73 rfl (lv_at hl 5 rfl) ?_
      refine lv_iconst (v := (-1 : Int32)) hx hb dX11_wire_74 (by decide) ?_
      refine lv_icmp_ne (tgt := 83) hx hb dX11_wire_75 (by decide) (fun c_22 => ?_) (fun c_22 => ?_)
      · replace h := (if_neg c_22).symm.trans h
        refine lv_iload_n hx hb dX11_wire_83 rfl (lv_at hl 5 rfl) ?_
        refine x_cVv (As := [.ref (ad 8 16), .int a3]) F xG_ok hK hW hS um_X2_join k_2_198 (fun _ h1 => m_c2_join hN hI hg_16 (Or.inr ⟨rfl, rfl⟩) _ h1) rfl (cd_dX2 hg_16) (cd_eX2 hN hg_16) rfl rfl hl.1 rfl rfl ⟨Nat.le_of_ble_eq_true rfl, Nat.le_of_ble_eq_true rfl⟩ ⟨Nat.zero_le _, Nat.zero_le _⟩ (Nat.le_of_ble_eq_true rfl) dX11_wire_84 h (fun S23 H locs hW hS h => ?_)
        refine lv_aload hx hb dX11_wire_87 (lv_at hl 0 rfl) ?_
        refine lv_aload hx hb dX11_wire_89 (lv_at hl 1 rfl) ?_
        refine lv_iload_n hx hb dX11_wire_91 rfl (lv_at hl 3 rfl) ?_
        refine x_cVv (As := [.ref (ad n_16 j_16), .int a1]) F xG_ok hK hW hS um_X2_join k_2_198 (fun _ h1 => m_c2_join hN hI (Or.inr ⟨rfl, rfl⟩) hg_16 _ h1) rfl (cd_dX2 (Or.inr ⟨rfl, rfl⟩)) (cd_eX2 hN (Or.inr ⟨rfl, rfl⟩)) rfl rfl hl.1 rfl rfl ⟨Nat.le_of_ble_eq_true rfl, Nat.le_of_ble_eq_true rfl⟩ ⟨Nat.zero_le _, Nat.zero_le _⟩ (Nat.le_of_ble_eq_true rfl) dX11_wire_92 h (fun S24 H locs hW hS h => ?_)
        refine lv_iconst (v := (1 : Int32)) hx hb dX11_wire_95 (by decide) ?_
        exact x_zret F hr hlk hW hS rfl dX11_wire_96 h
      replace h := (if_pos c_22).symm.trans h
      refine lv_bipush (v := (8 : Int32)) hx hb dX11_wire_78 (by decide) ?_
      refine lv_goto (tgt := 84) hx hb dX11_wire_80 (by decide) ?_
      refine x_cVv (As := [.ref (ad 8 16), .int (8 : Int32)]) F xG_ok hK hW hS um_X2_join k_2_198 (fun _ h1 => m_c2_join hN hI hg_16 (Or.inr ⟨rfl, rfl⟩) _ h1) rfl (cd_dX2 hg_16) (cd_eX2 hN hg_16) rfl rfl hl.1 rfl rfl ⟨Nat.le_of_ble_eq_true rfl, Nat.le_of_ble_eq_true rfl⟩ ⟨Nat.zero_le _, Nat.zero_le _⟩ (Nat.le_of_ble_eq_true rfl) dX11_wire_84 h (fun S25 H locs hW hS h => ?_)
      refine lv_aload hx hb dX11_wire_87 (lv_at hl 0 rfl) ?_
      refine lv_aload hx hb dX11_wire_89 (lv_at hl 1 rfl) ?_
      refine lv_iload_n hx hb dX11_wire_91 rfl (lv_at hl 3 rfl) ?_
      refine x_cVv (As := [.ref (ad n_16 j_16), .int a1]) F xG_ok hK hW hS um_X2_join k_2_198 (fun _ h1 => m_c2_join hN hI (Or.inr ⟨rfl, rfl⟩) hg_16 _ h1) rfl (cd_dX2 (Or.inr ⟨rfl, rfl⟩)) (cd_eX2 hN (Or.inr ⟨rfl, rfl⟩)) rfl rfl hl.1 rfl rfl ⟨Nat.le_of_ble_eq_true rfl, Nat.le_of_ble_eq_true rfl⟩ ⟨Nat.zero_le _, Nat.zero_le _⟩ (Nat.le_of_ble_eq_true rfl) dX11_wire_92 h (fun S26 H locs hW hS h => ?_)
      refine lv_iconst (v := (1 : Int32)) hx hb dX11_wire_95 (by decide) ?_
      exact x_zret F hr hlk hW hS rfl dX11_wire_96 h
    replace h := (if_neg c_21).symm.trans h
    refine lv_iconst (v := (0 : Int32)) hx hb dX11_wire_67 (by decide) ?_
    exact x_zret F hr hlk hW hS rfl dX11_wire_68 h
  replace h := (if_pos c_17).symm.trans h
  refine lv_iconst (v := (0 : Int32)) hx hb dX11_wire_49 (by decide) ?_
  exact x_zret F hr hlk hW hS rfl dX11_wire_50 h
