/-! X11_send -/
def c11_send_b26 (N : Nat) : Nat → Int64 → Int32 → Int32 → xS → Option (Int32 × xS)
  | 0, _, _, _, _ => none
  | fu + 1, v1, v3, v4, S => if v3 ≤ v4 then (some ((1 : Int32), S)) else ((c3_append  S (((lush v1 ((8 : Int32) * v4)).toInt32) &&& (255 : Int32))).bind (fun S6 => (c11_send_b26 N fu) v1 v3 (v4 + (1 : Int32)) S6))
set_option maxHeartbeats 4000000 in
set_option maxRecDepth 100000 in
theorem m_c11_send_b26 {l : Launch} {D : va_G} {cI cJ cL cN : ClassId} {ad : Nat → Nat → Nat} {N : Nat} (hN : N ≤ 8) (hI : xInj (cDom N) ad)  {p : Program} {e : Env} {s : State} {m : MethodId} {args : Array Value} {below : List Frame} {meth : Method} {c : Code} (F : CallFix p m c cX11_send 5 s args (Cond.code yX11_send cX11_send 5 (some .boolean) :: xG) (yX11_send).cls) (hr : meth.sig.returnType = (some .boolean)) (hlk : meth.locks = false) (hK : xK D vwCl (cTy cI cJ cL cN) cNf cNm s) {o : Int32 × xS} : ∀ (fu : Nat) (v1 : Int64) (v3 : Int32) (v4 : Int32) (S : xS) {H : Heap} {locs : List Loc} {ls : Array Slot}, c11_send_b26 N fu v1 v3 v4 S = some o → xW D vwCl (cDom N) ad (cDe ad N cI cJ cL cN) S H → va_S (xA (cDom N) ad) s.heap H locs → lv_has ls 5 [(0, .ref (ad 9 0)), (1, .long v1), (3, .int v3), (4, .int v4)] → W p l e { frames := 2, cells := 0, slots := 0, locals := 47 } s m args below meth c H locs 0 0 (MQ below (xQ D vwCl (cDom N) ad (cDe ad N cI cJ cL cN) (some (.int o.1)) o.2) args s 0 0 (xA (cDom N) ad)) (F0 m 26 ls []) := by
  have hx := F.1
  have hb := F.2.1
  intro fu
  induction fu with
  | zero =>
    intro v1 v3 v4 S H locs ls h
    simp [c11_send_b26] at h
  | succ fu ih =>
    intro v1 v3 v4 S H locs ls h hW hS hl
    have hk26 := fun v1 v3 v4 S H locs ls (h : c11_send_b26 N fu v1 v3 v4 S = some o) hW hS hl => ih v1 v3 v4 S (H := H) (locs := locs) (ls := ls) h hW hS hl
    rw [c11_send_b26] at h
    refine lv_iload hx hb dX11_send_26 (lv_at hl 3 rfl) ?_
    refine lv_iload_n hx hb dX11_send_28 rfl (lv_at hl 2 rfl) ?_
    refine lv_icmp_ge (tgt := 57) hx hb dX11_send_29 (by decide) (fun c_5 => ?_) (fun c_5 => ?_)
    · replace h := (if_pos c_5).symm.trans h
      refine lv_iconst (v := (1 : Int32)) hx hb dX11_send_57 (by decide) ?_
      exact x_zret F hr hlk hW hS rfl dX11_send_58 h
    replace h := (if_neg c_5).symm.trans h
    refine lv_aload_n hx hb dX11_send_32 rfl (lv_at hl 0 rfl) ?_
    refine x_get F hK hW xc_X11 cd_dX11 cd_eX11 1 (by decide) k_2_169 (rfl) dX11_send_33 ?_
    refine lv_lload_n hx hb dX11_send_36 rfl (lv_at hl 1 rfl) ?_
    refine lv_bipush (v := (8 : Int32)) hx hb dX11_send_37 (by decide) ?_
    refine lv_iload hx hb dX11_send_39 (lv_at hl 3 rfl) ?_
    refine lv_imul hx hb dX11_send_41 ?_
    refine lv_lushr (v := (lush v1 ((8 : Int32) * v4))) hx hb dX11_send_42 rfl ?_
    refine lv_l2i (v := (lush v1 ((8 : Int32) * v4)).toInt32) hx hb dX11_send_43 rfl ?_
    refine lv_sipush (v := (255 : Int32)) hx hb dX11_send_44 (by decide) ?_
    refine lv_iand hx hb dX11_send_47 ?_
    refine x_cVv (As := [.int (((lush v1 ((8 : Int32) * v4)).toInt32) &&& (255 : Int32))]) F xG_ok hK hW hS um_X3_append k_2_210 (fun _ h1 => m_c3_append hN hI  _ h1) rfl cd_dX3 cd_eX3 rfl rfl hl.1 rfl rfl ⟨Nat.le_of_ble_eq_true rfl, Nat.le_of_ble_eq_true rfl⟩ ⟨Nat.zero_le _, Nat.zero_le _⟩ (Nat.le_of_ble_eq_true rfl) dX11_send_48 h (fun S6 H locs hW hS h => ?_)
    refine lv_iinc (v := (v4 + (1 : Int32))) (lv' := [(4, .int (v4 + (1 : Int32))), (0, .ref (ad 9 0)), (1, .long v1), (3, .int v3)]) hx hb dX11_send_51 hl (k := 3) rfl rfl (by decide) rfl (fun ls hl => ?_)
    refine lv_goto (tgt := 26) hx hb dX11_send_54 (by decide) ?_
    exact hk26 _ _ _ _ _ _ _ h hW hS (lv_sub hl [1, 2, 3, 0] rfl)
def c11_send (N : Nat) (S : xS) (a1 : Int64) (a2 : Int32) : Option (Int32 × xS) := if a2 < 0 then (some ((0 : Int32), S)) else (if (8 : Int32) < a2 then (some ((0 : Int32), S)) else ((c3_hasRoomFor  S a2).bind (fun (r_3, S3) => if r_3 = 0 then (some ((0 : Int32), S3)) else (c11_send_b26 N (100000) a1 a2 (0 : Int32) S3))))
set_option maxHeartbeats 4000000 in
set_option maxRecDepth 100000 in
theorem m_c11_send {l : Launch} {D : va_G} {cI cJ cL cN : ClassId} {ad : Nat → Nat → Nat} {N : Nat} (hN : N ≤ 8) (hI : xInj (cDom N) ad)  {S : xS} (a1 : Int64) (a2 : Int32) {o : Int32 × xS} (h : c11_send N S a1 a2 = some o) : Met l yX11_send (Cond.code yX11_send cX11_send 5 (some .boolean) :: xG) { frames := 2, cells := 0, slots := 0, locals := 47 } (xPc D vwCl (cTy cI cJ cL cN) cNf cNm (cDom N) ad (cDe ad N cI cJ cL cN) [.ref (ad 9 0), .long a1, .int a2] S) (xQ D vwCl (cDom N) ad (cDe ad N cI cJ cL cN) (some (.int o.1)) o.2) 0 0 (xA (cDom N) ad) := by
  unfold c11_send at h
  refine x_enter (by decide) (Nat.le_of_ble_eq_true rfl) (fun p e s m below meth c F hr hlk hK hW hS ls hl => ?_)
  have hl : lv_has ls 5 [(0, .ref (ad 9 0)), (1, .long a1), (3, .int a2)] := hl
  have hx := F.1
  have hb := F.2.1
  refine lv_iload_n hx hb dX11_send_0 rfl (lv_at hl 2 rfl) ?_
  refine lv_if_lt (tgt := 21) hx hb dX11_send_1 (by decide) (fun c_1 => ?_) (fun c_1 => ?_)
  · replace h := (if_pos c_1).symm.trans h
    refine lv_iconst (v := (0 : Int32)) hx hb dX11_send_21 (by decide) ?_
    exact x_zret F hr hlk hW hS rfl dX11_send_22 h
  replace h := (if_neg c_1).symm.trans h
  refine lv_iload_n hx hb dX11_send_4 rfl (lv_at hl 2 rfl) ?_
  refine lv_bipush (v := (8 : Int32)) hx hb dX11_send_5 (by decide) ?_
  refine lv_icmp_gt (tgt := 21) hx hb dX11_send_7 (by decide) (fun c_2 => ?_) (fun c_2 => ?_)
  · replace h := (if_pos c_2).symm.trans h
    refine lv_iconst (v := (0 : Int32)) hx hb dX11_send_21 (by decide) ?_
    exact x_zret F hr hlk hW hS rfl dX11_send_22 h
  replace h := (if_neg c_2).symm.trans h
  refine lv_aload_n hx hb dX11_send_10 rfl (lv_at hl 0 rfl) ?_
  refine x_get F hK hW xc_X11 cd_dX11 cd_eX11 1 (by decide) k_2_169 (rfl) dX11_send_11 ?_
  refine lv_iload_n hx hb dX11_send_14 rfl (lv_at hl 2 rfl) ?_
  refine x_cVi (As := [.int a2]) F xG_ok hK hW hS um_X3_hasRoomFor k_2_206 (fun _ h1 => m_c3_hasRoomFor hN hI  _ h1) rfl cd_dX3 cd_eX3 rfl rfl hl.1 rfl rfl ⟨Nat.le_of_ble_eq_true rfl, Nat.le_of_ble_eq_true rfl⟩ ⟨Nat.zero_le _, Nat.zero_le _⟩ (Nat.le_of_ble_eq_true rfl) dX11_send_15 h (fun r_3 S3 H locs hW hS h => ?_)
  refine lv_if_ne (tgt := 23) hx hb dX11_send_18 (by decide) (fun c_4 => ?_) (fun c_4 => ?_)
  · replace h := (if_neg c_4).symm.trans h
    refine lv_iconst (v := (0 : Int32)) hx hb dX11_send_23 (by decide) ?_
    refine lv_istore (lv' := [(4, .int (0 : Int32)), (0, .ref (ad 9 0)), (1, .long a1), (3, .int a2)]) hx hb dX11_send_24 hl (by decide) rfl (fun ls hl => ?_)
    exact m_c11_send_b26 hN hI  F hr hlk hK (100000) _ _ _ _ h hW hS (lv_sub hl [1, 2, 3, 0] rfl)
  replace h := (if_pos c_4).symm.trans h
  refine lv_iconst (v := (0 : Int32)) hx hb dX11_send_21 (by decide) ?_
  exact x_zret F hr hlk hW hS rfl dX11_send_22 h
/-! X11_isInMemory -/
def c11_isInMemory (a1 : Int32) : Option Int32 := if a1 < (32768 : Int32) then (some (0 : Int32)) else (if (36864 : Int32) ≤ a1 then (some (0 : Int32)) else (some (1 : Int32)))
set_option maxHeartbeats 4000000 in
set_option maxRecDepth 100000 in
theorem m_c11_isInMemory {l : Launch} (a1 : Int32) {o : Int32} (h : c11_isInMemory a1 = some o) : Met l yX11_isInMemory (Cond.code yX11_isInMemory cX11_isInMemory 1 (some .boolean) :: xG) { frames := 0, cells := 0, slots := 0, locals := 0 } (va_Pc [.int a1] (fun _ => True)) (xQs o) 0 0 (fun _ => False) := by
  unfold c11_isInMemory at h
  refine x_sEnter (by decide) (Nat.le_of_ble_eq_true rfl) (fun p e s m below meth c F hr hlk hS ls hl => ?_)
  have hl : lv_has ls 1 [(0, .int a1)] := hl
  have hx := F.1
  have hb := F.2.1
  refine lv_iload_n hx hb dX11_isInMemory_0 rfl (lv_at hl 0 rfl) ?_
  refine lv_ldc (v := (32768 : Int32)) hx hb F.2.2.2.1 (x_hts F _ k_1_197) dX11_isInMemory_1 ?_
  refine lv_icmp_lt (tgt := 16) hx hb dX11_isInMemory_3 (by decide) (fun c_1 => ?_) (fun c_1 => ?_)
  · replace h := (if_pos c_1).symm.trans h
    refine lv_iconst (v := (0 : Int32)) hx hb dX11_isInMemory_16 (by decide) ?_
    exact x_szret F hr hlk hS rfl dX11_isInMemory_17 h
  replace h := (if_neg c_1).symm.trans h
  refine lv_iload_n hx hb dX11_isInMemory_6 rfl (lv_at hl 0 rfl) ?_
  refine lv_ldc (v := (36864 : Int32)) hx hb F.2.2.2.1 (x_hts F _ k_2_228) dX11_isInMemory_7 ?_
  refine lv_icmp_ge (tgt := 16) hx hb dX11_isInMemory_9 (by decide) (fun c_2 => ?_) (fun c_2 => ?_)
  · replace h := (if_pos c_2).symm.trans h
    refine lv_iconst (v := (0 : Int32)) hx hb dX11_isInMemory_16 (by decide) ?_
    exact x_szret F hr hlk hS rfl dX11_isInMemory_17 h
  replace h := (if_neg c_2).symm.trans h
  refine lv_iconst (v := (1 : Int32)) hx hb dX11_isInMemory_12 (by decide) ?_
  refine lv_goto (tgt := 17) hx hb dX11_isInMemory_13 (by decide) ?_
  exact x_szret F hr hlk hS rfl dX11_isInMemory_17 h
/-! X11_put -/
def c11_put_b30 (N : Nat) : Nat → Int32 → Int64 → Nat → Int32 → xS → Option (Int32 × xS)
  | 0, _, _, _, _, _ => none
  | fu + 1, v2, v3, v5, v6, S => if (8 : Int32) ≤ v6 then (some ((1 : Int32), S)) else ((c5_setByte v5 2 S (v2 + v6) (((lush v3 ((8 : Int32) * v6)).toInt32) &&& (255 : Int32))).bind (fun S7 => (c11_put_b30 N fu) v2 v3 v5 (v6 + (1 : Int32)) S7))
set_option maxHeartbeats 4000000 in
set_option maxRecDepth 100000 in
theorem m_c11_put_b30 {l : Launch} {D : va_G} {cI cJ cL cN : ClassId} {ad : Nat → Nat → Nat} {N : Nat} (hN : N ≤ 8) (hI : xInj (cDom N) ad)  {p : Program} {e : Env} {s : State} {m : MethodId} {args : Array Value} {below : List Frame} {meth : Method} {c : Code} (F : CallFix p m c cX11_put 7 s args (Cond.code yX11_put cX11_put 7 (some .boolean) :: xG) (yX11_put).cls) (hr : meth.sig.returnType = (some .boolean)) (hlk : meth.locks = false) (hK : xK D vwCl (cTy cI cJ cL cN) cNf cNm s) {o : Int32 × xS} : ∀ (fu : Nat) (v2 : Int32) (v3 : Int64) (v5 : Nat) (v6 : Int32) (hv5 : v5 < N) (S : xS) {H : Heap} {locs : List Loc} {ls : Array Slot}, c11_put_b30 N fu v2 v3 v5 v6 S = some o → xW D vwCl (cDom N) ad (cDe ad N cI cJ cL cN) S H → va_S (xA (cDom N) ad) s.heap H locs → lv_has ls 7 [(2, .int v2), (3, .long v3), (5, .ref (ad v5 0)), (6, .int v6)] → W p l e { frames := 1, cells := 0, slots := 0, locals := 26 } s m args below meth c H locs 0 0 (MQ below (xQ D vwCl (cDom N) ad (cDe ad N cI cJ cL cN) (some (.int o.1)) o.2) args s 0 0 (xA (cDom N) ad)) (F0 m 30 ls []) := by
  have hx := F.1
  have hb := F.2.1
  intro fu
  induction fu with
  | zero =>
    intro v2 v3 v5 v6 hv5 S H locs ls h
    simp [c11_put_b30] at h
  | succ fu ih =>
    intro v2 v3 v5 v6 hv5 S H locs ls h hW hS hl
    have hk30 := fun v2 v3 v5 v6 hv5 S H locs ls (h : c11_put_b30 N fu v2 v3 v5 v6 S = some o) hW hS hl => ih v2 v3 v5 v6 hv5 S (H := H) (locs := locs) (ls := ls) h hW hS hl
    rw [c11_put_b30] at h
    refine lv_iload hx hb dX11_put_30 (lv_at hl 3 rfl) ?_
    refine lv_bipush (v := (8 : Int32)) hx hb dX11_put_32 (by decide) ?_
    refine lv_icmp_ge (tgt := 70) hx hb dX11_put_34 (by decide) (fun c_6 => ?_) (fun c_6 => ?_)
    · replace h := (if_pos c_6).symm.trans h
      refine lv_iconst (v := (1 : Int32)) hx hb dX11_put_70 (by decide) ?_
      exact x_zret F hr hlk hW hS rfl dX11_put_71 h
    replace h := (if_neg c_6).symm.trans h
    refine lv_aload hx hb dX11_put_37 (lv_at hl 2 rfl) ?_
    refine x_getN F hK hW xc_X6 (cd_dX6 hv5) (cd_eX6 hN hv5) 0 (by decide) kn_56 (rfl) dX11_put_39 ?_
    refine x_getN F hK hW xc_X1 (cd_dX1 hv5) (cd_eX1 hN hv5) 0 (by decide) kn_28 (rfl) dX11_put_42 ?_
    refine lv_iload_n hx hb dX11_put_45 rfl (lv_at hl 0 rfl) ?_
    refine lv_iload hx hb dX11_put_46 (lv_at hl 3 rfl) ?_
    refine lv_iadd hx hb dX11_put_48 ?_
    refine lv_lload_n hx hb dX11_put_49 rfl (lv_at hl 1 rfl) ?_
    refine lv_bipush (v := (8 : Int32)) hx hb dX11_put_50 (by decide) ?_
    refine lv_iload hx hb dX11_put_52 (lv_at hl 3 rfl) ?_
    refine lv_imul hx hb dX11_put_54 ?_
    refine lv_lushr (v := (lush v3 ((8 : Int32) * v6))) hx hb dX11_put_55 rfl ?_
    refine lv_l2i (v := (lush v3 ((8 : Int32) * v6)).toInt32) hx hb dX11_put_56 rfl ?_
    refine lv_sipush (v := (255 : Int32)) hx hb dX11_put_57 (by decide) ?_
    refine lv_iand hx hb dX11_put_60 ?_
    refine x_cVv (As := [.int (v2 + v6), .int (((lush v3 ((8 : Int32) * v6)).toInt32) &&& (255 : Int32))]) F xG_ok hK hW hS um_X5_setByte k_2_230 (fun _ h1 => m_c5_setByte hN hI (is5n hv5) _ _ h1) rfl (cd_dX5 (is5n hv5)) (cd_eX5 hN (is5n hv5)) rfl rfl hl.1 rfl rfl ⟨Nat.le_of_ble_eq_true rfl, Nat.le_of_ble_eq_true rfl⟩ ⟨Nat.zero_le _, Nat.zero_le _⟩ (Nat.le_of_ble_eq_true rfl) dX11_put_61 h (fun S7 H locs hW hS h => ?_)
    refine lv_iinc (v := (v6 + (1 : Int32))) (lv' := [(6, .int (v6 + (1 : Int32))), (2, .int v2), (3, .long v3), (5, .ref (ad v5 0))]) hx hb dX11_put_64 hl (k := 3) rfl rfl (by decide) rfl (fun ls hl => ?_)
    refine lv_goto (tgt := 30) hx hb dX11_put_67 (by decide) ?_
    exact hk30 _ _ _ _ hv5 _ _ _ _ h hW hS (lv_sub hl [1, 2, 3, 0] rfl)
def c11_put (N : Nat) (S : xS) (a1 : Int32) (a2 : Int32) (a3 : Int64) : Option (Int32 × xS) := (c11_nodeAt N S a1).bind (fun (r_1, S1) => xcs r_1 (some ((0 : Int32), S1)) (fun n_2 j_2 => gq (n_2 < N ∧ j_2 = 0) ((c11_isInMemory a2).bind (fun r_3 => if r_3 = 0 then (some ((0 : Int32), S1)) else (if a2 ≤ (36856 : Int32) then (c11_put_b30 N (100000) a2 a3 n_2 (0 : Int32) S1) else (some ((0 : Int32), S1)))))))
set_option maxHeartbeats 4000000 in
set_option maxRecDepth 100000 in
theorem m_c11_put {l : Launch} {D : va_G} {cI cJ cL cN : ClassId} {ad : Nat → Nat → Nat} {N : Nat} (hN : N ≤ 8) (hI : xInj (cDom N) ad)  {S : xS} (a1 : Int32) (a2 : Int32) (a3 : Int64) {o : Int32 × xS} (h : c11_put N S a1 a2 a3 = some o) : Met l yX11_put (Cond.code yX11_put cX11_put 7 (some .boolean) :: xG) { frames := 1, cells := 0, slots := 0, locals := 26 } (xPc D vwCl (cTy cI cJ cL cN) cNf cNm (cDom N) ad (cDe ad N cI cJ cL cN) [.ref (ad 9 0), .int a1, .int a2, .long a3] S) (xQ D vwCl (cDom N) ad (cDe ad N cI cJ cL cN) (some (.int o.1)) o.2) 0 0 (xA (cDom N) ad) := by
  unfold c11_put at h
  refine x_enter (by decide) (Nat.le_of_ble_eq_true rfl) (fun p e s m below meth c F hr hlk hK hW hS ls hl => ?_)
  have hl : lv_has ls 7 [(0, .ref (ad 9 0)), (1, .int a1), (2, .int a2), (3, .long a3)] := hl
  have hx := F.1
  have hb := F.2.1
  refine lv_aload_n hx hb dX11_put_0 rfl (lv_at hl 0 rfl) ?_
  refine lv_iload_n hx hb dX11_put_1 rfl (lv_at hl 1 rfl) ?_
  refine x_cVq (As := [.int a1]) F xG_ok hK hW hS um_X11_nodeAt k_2_190 (fun _ h1 => m_c11_nodeAt hN hI  _ h1) rfl cd_dX11 cd_eX11 rfl rfl hl.1 rfl rfl ⟨Nat.le_of_ble_eq_true rfl, Nat.le_of_ble_eq_true rfl⟩ ⟨Nat.zero_le _, Nat.zero_le _⟩ (Nat.le_of_ble_eq_true rfl) dX11_put_2 h (fun r_1 S1 H locs hW hS h => ?_)
  refine x_astoreq (lv' := [(5, xRv ad r_1), (0, .ref (ad 9 0)), (1, .int a1), (2, .int a2), (3, .long a3)]) hx hb dX11_put_5 hl (by decide) rfl (fun ls hl => ?_)
  refine x_aloadq hx hb dX11_put_7 (lv_at hl 0 rfl) ?_
  rcases r_1 with _ | ⟨n_2, j_2⟩
  · replace h := xcs_n h
    have hl : lv_has ls 7 [(5, .null), (0, .ref (ad 9 0)), (1, .int a1), (2, .int a2), (3, .long a3)] := hl
    refine lv_ifnullN (tgt := 25) hx hb dX11_put_9 (by decide) ?_
    refine lv_iconst (v := (0 : Int32)) hx hb dX11_put_25 (by decide) ?_
    exact x_zret F hr hlk hW hS rfl dX11_put_26 h
  replace h := xcs_s h
  have hg_2 := (gq_use h).1
  replace h := (gq_use h).2
  obtain ⟨-, he_2⟩ := id hg_2
  subst he_2
  have hl : lv_has ls 7 [(5, .ref (ad n_2 0)), (0, .ref (ad 9 0)), (1, .int a1), (2, .int a2), (3, .long a3)] := hl
  refine lv_ifnull hx hb dX11_put_9 ?_
  refine lv_iload_n hx hb dX11_put_12 rfl (lv_at hl 3 rfl) ?_
  refine x_cSo (As := [.int a2]) F xG_ok hS um_X11_isInMemory k_2_225 (fun _ h1 => m_c11_isInMemory _ h1) rfl rfl hl.1 rfl rfl ⟨Nat.le_of_ble_eq_true rfl, Nat.le_of_ble_eq_true rfl⟩ ⟨Nat.zero_le _, Nat.zero_le _⟩ (Nat.le_of_ble_eq_true rfl) dX11_put_13 h (fun r_3 locs hS h => ?_)
  refine lv_if_eq (tgt := 25) hx hb dX11_put_16 (by decide) (fun c_4 => ?_) (fun c_4 => ?_)
  · replace h := (if_pos c_4).symm.trans h
    refine lv_iconst (v := (0 : Int32)) hx hb dX11_put_25 (by decide) ?_
    exact x_zret F hr hlk hW hS rfl dX11_put_26 h
  replace h := (if_neg c_4).symm.trans h
  refine lv_iload_n hx hb dX11_put_19 rfl (lv_at hl 3 rfl) ?_
  refine lv_ldc (v := (36856 : Int32)) hx hb F.2.2.2.1 (x_hts F _ k_2_229) dX11_put_20 ?_
  refine lv_icmp_le (tgt := 27) hx hb dX11_put_22 (by decide) (fun c_5 => ?_) (fun c_5 => ?_)
  · replace h := (if_pos c_5).symm.trans h
    refine lv_iconst (v := (0 : Int32)) hx hb dX11_put_27 (by decide) ?_
    refine lv_istore (lv' := [(6, .int (0 : Int32)), (5, .ref (ad n_2 0)), (0, .ref (ad 9 0)), (1, .int a1), (2, .int a2), (3, .long a3)]) hx hb dX11_put_28 hl (by decide) rfl (fun ls hl => ?_)
    exact m_c11_put_b30 hN hI  F hr hlk hK (100000) _ _ _ _ hg_2.1 _ h hW hS (lv_sub hl [4, 5, 1, 0] rfl)
  replace h := (if_neg c_5).symm.trans h
  refine lv_iconst (v := (0 : Int32)) hx hb dX11_put_25 (by decide) ?_
  exact x_zret F hr hlk hW hS rfl dX11_put_26 h
/-! X11_isWord -/
def c11_isWord (a1 : Int32) : Option Int32 := if a1 < 0 then (some (0 : Int32)) else (if (65535 : Int32) < a1 then (some (0 : Int32)) else (some (1 : Int32)))
set_option maxHeartbeats 4000000 in
set_option maxRecDepth 100000 in
theorem m_c11_isWord {l : Launch} (a1 : Int32) {o : Int32} (h : c11_isWord a1 = some o) : Met l yX11_isWord (Cond.code yX11_isWord cX11_isWord 1 (some .boolean) :: xG) { frames := 0, cells := 0, slots := 0, locals := 0 } (va_Pc [.int a1] (fun _ => True)) (xQs o) 0 0 (fun _ => False) := by
  unfold c11_isWord at h
  refine x_sEnter (by decide) (Nat.le_of_ble_eq_true rfl) (fun p e s m below meth c F hr hlk hS ls hl => ?_)
  have hl : lv_has ls 1 [(0, .int a1)] := hl
  have hx := F.1
  have hb := F.2.1
  refine lv_iload_n hx hb dX11_isWord_0 rfl (lv_at hl 0 rfl) ?_
  refine lv_if_lt (tgt := 14) hx hb dX11_isWord_1 (by decide) (fun c_1 => ?_) (fun c_1 => ?_)
  · replace h := (if_pos c_1).symm.trans h
    refine lv_iconst (v := (0 : Int32)) hx hb dX11_isWord_14 (by decide) ?_
    exact x_szret F hr hlk hS rfl dX11_isWord_15 h
  replace h := (if_neg c_1).symm.trans h
  refine lv_iload_n hx hb dX11_isWord_4 rfl (lv_at hl 0 rfl) ?_
  refine lv_ldc (v := (65535 : Int32)) hx hb F.2.2.2.1 (x_hts F _ k_2_238) dX11_isWord_5 ?_
  refine lv_icmp_gt (tgt := 14) hx hb dX11_isWord_7 (by decide) (fun c_2 => ?_) (fun c_2 => ?_)
  · replace h := (if_pos c_2).symm.trans h
    refine lv_iconst (v := (0 : Int32)) hx hb dX11_isWord_14 (by decide) ?_
    exact x_szret F hr hlk hS rfl dX11_isWord_15 h
  replace h := (if_neg c_2).symm.trans h
  refine lv_iconst (v := (1 : Int32)) hx hb dX11_isWord_10 (by decide) ?_
  refine lv_goto (tgt := 15) hx hb dX11_isWord_11 (by decide) ?_
  exact x_szret F hr hlk hS rfl dX11_isWord_15 h
/-! X11_start -/
def c11_start_b39 (N : Nat) (v2 : Int32) (v3 : Int32) (v4 : Int32) (v5 : Nat) (S : xS) : Option (Int32 × xS) := (c6_isStartable v5 S ).bind (fun (r_8, S8) => if r_8 = 0 then (some ((0 : Int32), S8)) else ((c6_launch v5 S8 v2 v3 v4).bind (fun S10 => some ((1 : Int32), S10))))
set_option maxHeartbeats 4000000 in
set_option maxRecDepth 100000 in
theorem m_c11_start_b39 {l : Launch} {D : va_G} {cI cJ cL cN : ClassId} {ad : Nat → Nat → Nat} {N : Nat} (hN : N ≤ 8) (hI : xInj (cDom N) ad)  {p : Program} {e : Env} {s : State} {m : MethodId} {args : Array Value} {below : List Frame} {meth : Method} {c : Code} (F : CallFix p m c cX11_start 6 s args (Cond.code yX11_start cX11_start 6 (some .boolean) :: xG) (yX11_start).cls) (hr : meth.sig.returnType = (some .boolean)) (hlk : meth.locks = false) (hK : xK D vwCl (cTy cI cJ cL cN) cNf cNm s) {o : Int32 × xS} (v2 : Int32) (v3 : Int32) (v4 : Int32) (v5 : Nat) (hv5 : v5 < N) (S : xS) {H : Heap} {locs : List Loc} {ls : Array Slot} (h : c11_start_b39 N v2 v3 v4 v5 S = some o) (hW : xW D vwCl (cDom N) ad (cDe ad N cI cJ cL cN) S H) (hS : va_S (xA (cDom N) ad) s.heap H locs) (hl : lv_has ls 6 [(2, .int v2), (3, .int v3), (4, .int v4), (5, .ref (ad v5 0))]) : W p l e { frames := 2, cells := 0, slots := 0, locals := 46 } s m args below meth c H locs 0 0 (MQ below (xQ D vwCl (cDom N) ad (cDe ad N cI cJ cL cN) (some (.int o.1)) o.2) args s 0 0 (xA (cDom N) ad)) (F0 m 39 ls []) := by
  have hx := F.1
  have hb := F.2.1
  unfold c11_start_b39 at h
  refine lv_aload hx hb dX11_start_39 (lv_at hl 3 rfl) ?_
  refine x_cVi (As := []) F xG_ok hK hW hS um_X6_isStartable k_2_239 (fun _ h1 => m_c6_isStartable hN hI hv5  h1) rfl (cd_dX6 hv5) (cd_eX6 hN hv5) rfl rfl hl.1 rfl rfl ⟨Nat.le_of_ble_eq_true rfl, Nat.le_of_ble_eq_true rfl⟩ ⟨Nat.zero_le _, Nat.zero_le _⟩ (Nat.le_of_ble_eq_true rfl) dX11_start_41 h (fun r_8 S8 H locs hW hS h => ?_)
  refine lv_if_ne (tgt := 49) hx hb dX11_start_44 (by decide) (fun c_9 => ?_) (fun c_9 => ?_)
  · replace h := (if_neg c_9).symm.trans h
    refine lv_aload hx hb dX11_start_49 (lv_at hl 3 rfl) ?_
    refine lv_iload_n hx hb dX11_start_51 rfl (lv_at hl 0 rfl) ?_
    refine lv_iload_n hx hb dX11_start_52 rfl (lv_at hl 1 rfl) ?_
    refine lv_iload hx hb dX11_start_53 (lv_at hl 2 rfl) ?_
    refine x_cVv (As := [.int v2, .int v3, .int v4]) F xG_ok hK hW hS um_X6_launch k_3_3 (fun _ h1 => m_c6_launch hN hI hv5 _ _ _ h1) rfl (cd_dX6 hv5) (cd_eX6 hN hv5) rfl rfl hl.1 rfl rfl ⟨Nat.le_of_ble_eq_true rfl, Nat.le_of_ble_eq_true rfl⟩ ⟨Nat.zero_le _, Nat.zero_le _⟩ (Nat.le_of_ble_eq_true rfl) dX11_start_55 h (fun S10 H locs hW hS h => ?_)
    refine lv_iconst (v := (1 : Int32)) hx hb dX11_start_58 (by decide) ?_
    exact x_zret F hr hlk hW hS rfl dX11_start_59 h
  replace h := (if_pos c_9).symm.trans h
  refine lv_iconst (v := (0 : Int32)) hx hb dX11_start_47 (by decide) ?_
  exact x_zret F hr hlk hW hS rfl dX11_start_48 h
def c11_start (N : Nat) (S : xS) (a1 : Int32) (a2 : Int32) (a3 : Int32) (a4 : Int32) : Option (Int32 × xS) := (c11_nodeAt N S a1).bind (fun (r_1, S1) => xcs r_1 (some ((0 : Int32), S1)) (fun n_2 j_2 => gq (n_2 < N ∧ j_2 = 0) ((c11_isWord a2).bind (fun r_3 => if r_3 = 0 then (some ((0 : Int32), S1)) else ((c11_isWord a3).bind (fun r_5 => if r_5 = 0 then (some ((0 : Int32), S1)) else (if a4 = 0 then (c11_start_b39 N a2 a3 a4 n_2 S1) else (if a4 = (1 : Int32) then (c11_start_b39 N a2 a3 a4 n_2 S1) else (some ((0 : Int32), S1))))))))))
set_option maxHeartbeats 4000000 in
set_option maxRecDepth 100000 in
theorem m_c11_start {l : Launch} {D : va_G} {cI cJ cL cN : ClassId} {ad : Nat → Nat → Nat} {N : Nat} (hN : N ≤ 8) (hI : xInj (cDom N) ad)  {S : xS} (a1 : Int32) (a2 : Int32) (a3 : Int32) (a4 : Int32) {o : Int32 × xS} (h : c11_start N S a1 a2 a3 a4 = some o) : Met l yX11_start (Cond.code yX11_start cX11_start 6 (some .boolean) :: xG) { frames := 2, cells := 0, slots := 0, locals := 46 } (xPc D vwCl (cTy cI cJ cL cN) cNf cNm (cDom N) ad (cDe ad N cI cJ cL cN) [.ref (ad 9 0), .int a1, .int a2, .int a3, .int a4] S) (xQ D vwCl (cDom N) ad (cDe ad N cI cJ cL cN) (some (.int o.1)) o.2) 0 0 (xA (cDom N) ad) := by
  unfold c11_start at h
  refine x_enter (by decide) (Nat.le_of_ble_eq_true rfl) (fun p e s m below meth c F hr hlk hK hW hS ls hl => ?_)
  have hl : lv_has ls 6 [(0, .ref (ad 9 0)), (1, .int a1), (2, .int a2), (3, .int a3), (4, .int a4)] := hl
  have hx := F.1
  have hb := F.2.1
  refine lv_aload_n hx hb dX11_start_0 rfl (lv_at hl 0 rfl) ?_
  refine lv_iload_n hx hb dX11_start_1 rfl (lv_at hl 1 rfl) ?_
  refine x_cVq (As := [.int a1]) F xG_ok hK hW hS um_X11_nodeAt k_2_190 (fun _ h1 => m_c11_nodeAt hN hI  _ h1) rfl cd_dX11 cd_eX11 rfl rfl hl.1 rfl rfl ⟨Nat.le_of_ble_eq_true rfl, Nat.le_of_ble_eq_true rfl⟩ ⟨Nat.zero_le _, Nat.zero_le _⟩ (Nat.le_of_ble_eq_true rfl) dX11_start_2 h (fun r_1 S1 H locs hW hS h => ?_)
  refine x_astoreq (lv' := [(5, xRv ad r_1), (0, .ref (ad 9 0)), (1, .int a1), (2, .int a2), (3, .int a3), (4, .int a4)]) hx hb dX11_start_5 hl (by decide) rfl (fun ls hl => ?_)
  refine x_aloadq hx hb dX11_start_7 (lv_at hl 0 rfl) ?_
  rcases r_1 with _ | ⟨n_2, j_2⟩
  · replace h := xcs_n h
    have hl : lv_has ls 6 [(5, .null), (0, .ref (ad 9 0)), (1, .int a1), (2, .int a2), (3, .int a3), (4, .int a4)] := hl
    refine lv_ifnullN (tgt := 37) hx hb dX11_start_9 (by decide) ?_
    refine lv_iconst (v := (0 : Int32)) hx hb dX11_start_37 (by decide) ?_
    exact x_zret F hr hlk hW hS rfl dX11_start_38 h
  replace h := xcs_s h
  have hg_2 := (gq_use h).1
  replace h := (gq_use h).2
  obtain ⟨-, he_2⟩ := id hg_2
  subst he_2
  have hl : lv_has ls 6 [(5, .ref (ad n_2 0)), (0, .ref (ad 9 0)), (1, .int a1), (2, .int a2), (3, .int a3), (4, .int a4)] := hl
  refine lv_ifnull hx hb dX11_start_9 ?_
  refine lv_iload_n hx hb dX11_start_12 rfl (lv_at hl 3 rfl) ?_
  refine x_cSo (As := [.int a2]) F xG_ok hS um_X11_isWord k_2_235 (fun _ h1 => m_c11_isWord _ h1) rfl rfl hl.1 rfl rfl ⟨Nat.le_of_ble_eq_true rfl, Nat.le_of_ble_eq_true rfl⟩ ⟨Nat.zero_le _, Nat.zero_le _⟩ (Nat.le_of_ble_eq_true rfl) dX11_start_13 h (fun r_3 locs hS h => ?_)
  refine lv_if_eq (tgt := 37) hx hb dX11_start_16 (by decide) (fun c_4 => ?_) (fun c_4 => ?_)
  · replace h := (if_pos c_4).symm.trans h
    refine lv_iconst (v := (0 : Int32)) hx hb dX11_start_37 (by decide) ?_
    exact x_zret F hr hlk hW hS rfl dX11_start_38 h
  replace h := (if_neg c_4).symm.trans h
  refine lv_iload_n hx hb dX11_start_19 rfl (lv_at hl 4 rfl) ?_
  refine x_cSo (As := [.int a3]) F xG_ok hS um_X11_isWord k_2_235 (fun _ h1 => m_c11_isWord _ h1) rfl rfl hl.1 rfl rfl ⟨Nat.le_of_ble_eq_true rfl, Nat.le_of_ble_eq_true rfl⟩ ⟨Nat.zero_le _, Nat.zero_le _⟩ (Nat.le_of_ble_eq_true rfl) dX11_start_20 h (fun r_5 locs hS h => ?_)
  refine lv_if_eq (tgt := 37) hx hb dX11_start_23 (by decide) (fun c_6 => ?_) (fun c_6 => ?_)
  · replace h := (if_pos c_6).symm.trans h
    refine lv_iconst (v := (0 : Int32)) hx hb dX11_start_37 (by decide) ?_
    exact x_zret F hr hlk hW hS rfl dX11_start_38 h
  replace h := (if_neg c_6).symm.trans h
  refine lv_iload hx hb dX11_start_26 (lv_at hl 5 rfl) ?_
  refine lv_if_eq (tgt := 39) hx hb dX11_start_28 (by decide) (fun c_7 => ?_) (fun c_7 => ?_)
  · replace h := (if_pos c_7).symm.trans h
    exact m_c11_start_b39 hN hI  F hr hlk hK _ _ _ _ hg_2.1 _ h hW hS (lv_sub hl [3, 4, 5, 0] rfl)
  replace h := (if_neg c_7).symm.trans h
  refine lv_iload hx hb dX11_start_31 (lv_at hl 5 rfl) ?_
  refine lv_iconst (v := (1 : Int32)) hx hb dX11_start_33 (by decide) ?_
  refine lv_icmp_eq (tgt := 39) hx hb dX11_start_34 (by decide) (fun c_11 => ?_) (fun c_11 => ?_)
  · replace h := (if_pos c_11).symm.trans h
    exact m_c11_start_b39 hN hI  F hr hlk hK _ _ _ _ hg_2.1 _ h hW hS (lv_sub hl [3, 4, 5, 0] rfl)
  replace h := (if_neg c_11).symm.trans h
  refine lv_iconst (v := (0 : Int32)) hx hb dX11_start_37 (by decide) ?_
  exact x_zret F hr hlk hW hS rfl dX11_start_38 h
/-! X11_passBits -/
def c11_passBits_b108 (N : Nat) (K83 : Int32 → Int32 → xS → Option (xS)) : Nat → Int32 → Int32 → Nat → Int32 → Int32 → xS → Option (xS)
  | 0, _, _, _, _, _, _ => none
  | fu + 1, v2, v3, v5, v6, v7, S => if v6 ≤ v7 then (K83 v2 (v3 + (1 : Int32)) S) else (gd v7 4 ((c4_takeBit N v5 (12 + (v7).toNatClampNeg) S ).bind (fun S8 => (c11_passBits_b108 N K83 fu) v2 v3 v5 v6 (v7 + (1 : Int32)) S8)))
set_option maxHeartbeats 4000000 in
set_option maxRecDepth 100000 in
theorem m_c11_passBits_b108 {l : Launch} {D : va_G} {cI cJ cL cN : ClassId} {ad : Nat → Nat → Nat} {N : Nat} (hN : N ≤ 8) (hI : xInj (cDom N) ad)  {p : Program} {e : Env} {s : State} {m : MethodId} {args : Array Value} {below : List Frame} {meth : Method} {c : Code} (F : CallFix p m c cX11_passBits 9 s args (Cond.code yX11_passBits cX11_passBits 9 none :: xG) (yX11_passBits).cls) (hr : meth.sig.returnType = none) (hlk : meth.locks = false) (hK : xK D vwCl (cTy cI cJ cL cN) cNf cNm s) {o : xS} {K83 : Int32 → Int32 → xS → Option (xS)} (hk83 : ∀ (v2 : Int32) (v3 : Int32) (S : xS) (H : Heap) (locs : List Loc) (ls : Array Slot), K83 v2 v3 S = some o → xW D vwCl (cDom N) ad (cDe ad N cI cJ cL cN) S H → va_S (xA (cDom N) ad) s.heap H locs → lv_has ls 9 [(0, .ref (ad 9 0)), (1, .ref (ad 9 1)), (2, .int v2), (3, .int v3)] → W p l e { frames := 6, cells := 0, slots := 0, locals := 136 } s m args below meth c H locs 0 0 (MQ below (xQ D vwCl (cDom N) ad (cDe ad N cI cJ cL cN) none o) args s 0 0 (xA (cDom N) ad)) (F0 m 83 ls [])) : ∀ (fu : Nat) (v2 : Int32) (v3 : Int32) (v5 : Nat) (v6 : Int32) (v7 : Int32) (hv5 : v5 < N) (S : xS) {H : Heap} {locs : List Loc} {ls : Array Slot}, c11_passBits_b108 N K83 fu v2 v3 v5 v6 v7 S = some o → xW D vwCl (cDom N) ad (cDe ad N cI cJ cL cN) S H → va_S (xA (cDom N) ad) s.heap H locs → lv_has ls 9 [(0, .ref (ad 9 0)), (1, .ref (ad 9 1)), (2, .int v2), (3, .int v3), (5, .ref (ad v5 11)), (6, .int v6), (7, .int v7)] → W p l e { frames := 6, cells := 0, slots := 0, locals := 136 } s m args below meth c H locs 0 0 (MQ below (xQ D vwCl (cDom N) ad (cDe ad N cI cJ cL cN) none o) args s 0 0 (xA (cDom N) ad)) (F0 m 108 ls []) := by
  have hx := F.1
  have hb := F.2.1
  intro fu
  induction fu with
  | zero =>
    intro v2 v3 v5 v6 v7 hv5 S H locs ls h
    simp [c11_passBits_b108] at h
  | succ fu ih =>
    intro v2 v3 v5 v6 v7 hv5 S H locs ls h hW hS hl
    have hk108 := fun v2 v3 v5 v6 v7 hv5 S H locs ls (h : c11_passBits_b108 N K83 fu v2 v3 v5 v6 v7 S = some o) hW hS hl => ih v2 v3 v5 v6 v7 hv5 S (H := H) (locs := locs) (ls := ls) h hW hS hl
    rw [c11_passBits_b108] at h
    refine lv_iload hx hb dX11_passBits_108 (lv_at hl 6 rfl) ?_
    refine lv_iload hx hb dX11_passBits_110 (lv_at hl 5 rfl) ?_
    refine lv_icmp_ge (tgt := 133) hx hb dX11_passBits_112 (by decide) (fun c_6 => ?_) (fun c_6 => ?_)
    · replace h := (if_pos c_6).symm.trans h
      refine lv_iinc (v := (v3 + (1 : Int32))) (lv' := [(3, .int (v3 + (1 : Int32))), (0, .ref (ad 9 0)), (1, .ref (ad 9 1)), (2, .int v2), (5, .ref (ad v5 11)), (6, .int v6), (7, .int v7)]) hx hb dX11_passBits_133 hl (k := 3) rfl rfl (by decide) rfl (fun ls hl => ?_)
      refine lv_goto (tgt := 83) hx hb dX11_passBits_136 (by decide) ?_
      exact hk83 _ _ _ _ _ _ h hW hS (lv_sub hl [1, 2, 3, 0] rfl)
    replace h := (if_neg c_6).symm.trans h
    refine lv_aload hx hb dX11_passBits_115 (lv_at hl 4 rfl) ?_
    refine lv_iload hx hb dX11_passBits_117 (lv_at hl 6 rfl) ?_
    have hk_7 := gd_lt h
    refine x_aald (t0 := 2) F hK hW (cd_dAL hv5) (cd_eAL hN hv5) rfl dX11_passBits_119 h (fun h => ?_)
    refine lv_astore (lv' := [(8, .ref (ad v5 (12 + (v7).toNatClampNeg))), (0, .ref (ad 9 0)), (1, .ref (ad 9 1)), (2, .int v2), (3, .int v3), (5, .ref (ad v5 11)), (6, .int v6), (7, .int v7)]) hx hb dX11_passBits_120 hl (by decide) rfl (fun ls hl => ?_)
    refine lv_aload hx hb dX11_passBits_122 (lv_at hl 0 rfl) ?_
    refine x_cVv (As := []) F xG_ok hK hW hS um_X4_takeBit k_3_52 (fun _ h1 => m_c4_takeBit hN hI (is4k hv5 hk_7)  h1) rfl (cd_dX4 (is4k hv5 hk_7)) (cd_eX4 hN (is4k hv5 hk_7)) rfl rfl hl.1 rfl rfl ⟨Nat.le_of_ble_eq_true rfl, Nat.le_of_ble_eq_true rfl⟩ ⟨Nat.zero_le _, Nat.zero_le _⟩ (Nat.le_of_ble_eq_true rfl) dX11_passBits_124 h (fun S8 H locs hW hS h => ?_)
    refine lv_iinc (v := (v7 + (1 : Int32))) (lv' := [(7, .int (v7 + (1 : Int32))), (8, .ref (ad v5 (12 + (v7).toNatClampNeg))), (0, .ref (ad 9 0)), (1, .ref (ad 9 1)), (2, .int v2), (3, .int v3), (5, .ref (ad v5 11)), (6, .int v6)]) hx hb dX11_passBits_127 hl (k := 7) rfl rfl (by decide) rfl (fun ls hl => ?_)
    refine lv_goto (tgt := 108) hx hb dX11_passBits_130 (by decide) ?_
    exact hk108 _ _ _ _ _ hv5 _ _ _ _ h hW hS (lv_sub hl [2, 3, 4, 5, 6, 7, 0] rfl)
def c11_passBits_b83 (N : Nat) : Nat → Int32 → Int32 → xS → Option (xS)
  | 0, _, _, _ => none
  | fu + 1, v2, v3, S => if v2 ≤ v3 then ((c3_takeBit N S ).bind (fun S4 => some S4)) else (gd v3 N (c11_passBits_b108 N (c11_passBits_b83 N fu) (100000) v2 v3 ((v3).toNatClampNeg) (Int32.ofNat 4) (0 : Int32) S))
set_option maxHeartbeats 4000000 in
set_option maxRecDepth 100000 in
theorem m_c11_passBits_b83 {l : Launch} {D : va_G} {cI cJ cL cN : ClassId} {ad : Nat → Nat → Nat} {N : Nat} (hN : N ≤ 8) (hI : xInj (cDom N) ad)  {p : Program} {e : Env} {s : State} {m : MethodId} {args : Array Value} {below : List Frame} {meth : Method} {c : Code} (F : CallFix p m c cX11_passBits 9 s args (Cond.code yX11_passBits cX11_passBits 9 none :: xG) (yX11_passBits).cls) (hr : meth.sig.returnType = none) (hlk : meth.locks = false) (hK : xK D vwCl (cTy cI cJ cL cN) cNf cNm s) {o : xS} : ∀ (fu : Nat) (v2 : Int32) (v3 : Int32) (S : xS) {H : Heap} {locs : List Loc} {ls : Array Slot}, c11_passBits_b83 N fu v2 v3 S = some o → xW D vwCl (cDom N) ad (cDe ad N cI cJ cL cN) S H → va_S (xA (cDom N) ad) s.heap H locs → lv_has ls 9 [(0, .ref (ad 9 0)), (1, .ref (ad 9 1)), (2, .int v2), (3, .int v3)] → W p l e { frames := 6, cells := 0, slots := 0, locals := 136 } s m args below meth c H locs 0 0 (MQ below (xQ D vwCl (cDom N) ad (cDe ad N cI cJ cL cN) none o) args s 0 0 (xA (cDom N) ad)) (F0 m 83 ls []) := by
  have hx := F.1
  have hb := F.2.1
  intro fu
  induction fu with
  | zero =>
    intro v2 v3 S H locs ls h
    simp [c11_passBits_b83] at h
  | succ fu ih =>
    intro v2 v3 S H locs ls h hW hS hl
    have hk83 := fun v2 v3 S H locs ls (h : c11_passBits_b83 N fu v2 v3 S = some o) hW hS hl => ih v2 v3 S (H := H) (locs := locs) (ls := ls) h hW hS hl
    rw [c11_passBits_b83] at h
    refine lv_iload_n hx hb dX11_passBits_83 rfl (lv_at hl 3 rfl) ?_
    refine lv_iload_n hx hb dX11_passBits_84 rfl (lv_at hl 2 rfl) ?_
    refine lv_icmp_ge (tgt := 139) hx hb dX11_passBits_85 (by decide) (fun c_3 => ?_) (fun c_3 => ?_)
    · replace h := (if_pos c_3).symm.trans h
      refine lv_aload_n hx hb dX11_passBits_139 rfl (lv_at hl 0 rfl) ?_
      refine x_get F hK hW xc_X11 cd_dX11 cd_eX11 1 (by decide) k_2_169 (rfl) dX11_passBits_140 ?_
      refine x_cVv (As := []) F xG_ok hK hW hS um_X3_takeBit k_3_115 (fun _ h1 => m_c3_takeBit hN hI   h1) rfl cd_dX3 cd_eX3 rfl rfl hl.1 rfl rfl ⟨Nat.le_of_ble_eq_true rfl, Nat.le_of_ble_eq_true rfl⟩ ⟨Nat.zero_le _, Nat.zero_le _⟩ (Nat.le_of_ble_eq_true rfl) dX11_passBits_143 h (fun S4 H locs hW hS h => ?_)
      exact x_vret F hr hlk hW hS dX11_passBits_146 h
    replace h := (if_neg c_3).symm.trans h
    refine lv_aload_n hx hb dX11_passBits_88 rfl (lv_at hl 1 rfl) ?_
    refine lv_iload_n hx hb dX11_passBits_89 rfl (lv_at hl 3 rfl) ?_
    have hk_5 := gd_lt h
    refine x_aald (t0 := 3) F hK hW cd_dAN cd_eAN rfl dX11_passBits_90 h (fun h => ?_)
    refine lv_astore (lv' := [(4, .ref (ad ((v3).toNatClampNeg) 0)), (0, .ref (ad 9 0)), (1, .ref (ad 9 1)), (2, .int v2), (3, .int v3)]) hx hb dX11_passBits_91 hl (by decide) rfl (fun ls hl => ?_)
    refine lv_aload hx hb dX11_passBits_93 (lv_at hl 0 rfl) ?_
    refine x_getN F hK hW xc_X6 (cd_dX6 hk_5) (cd_eX6 hN hk_5) 1 (by decide) kn_57 (rfl) dX11_passBits_95 ?_
    refine lv_astore (lv' := [(5, .ref (ad ((v3).toNatClampNeg) 11)), (4, .ref (ad ((v3).toNatClampNeg) 0)), (0, .ref (ad 9 0)), (1, .ref (ad 9 1)), (2, .int v2), (3, .int v3)]) hx hb dX11_passBits_98 hl (by decide) rfl (fun ls hl => ?_)
    refine lv_aload hx hb dX11_passBits_100 (lv_at hl 0 rfl) ?_
    refine x_alen (t0 := 2) F hK hW (cd_dAL hk_5) ((cd_eAL hN hk_5) _ _ _) rfl rfl dX11_passBits_102 ?_
    refine lv_istore (lv' := [(6, .int (Int32.ofNat 4)), (5, .ref (ad ((v3).toNatClampNeg) 11)), (4, .ref (ad ((v3).toNatClampNeg) 0)), (0, .ref (ad 9 0)), (1, .ref (ad 9 1)), (2, .int v2), (3, .int v3)]) hx hb dX11_passBits_103 hl (by decide) rfl (fun ls hl => ?_)
    refine lv_iconst (v := (0 : Int32)) hx hb dX11_passBits_105 (by decide) ?_
    refine lv_istore (lv' := [(7, .int (0 : Int32)), (6, .int (Int32.ofNat 4)), (5, .ref (ad ((v3).toNatClampNeg) 11)), (4, .ref (ad ((v3).toNatClampNeg) 0)), (0, .ref (ad 9 0)), (1, .ref (ad 9 1)), (2, .int v2), (3, .int v3)]) hx hb dX11_passBits_106 hl (by decide) rfl (fun ls hl => ?_)
    exact m_c11_passBits_b108 hN hI  F hr hlk hK hk83 (100000) _ _ _ _ _ hk_5 _ h hW hS (lv_sub hl [4, 5, 6, 7, 2, 1, 0] rfl)
def c11_passBits_b35 (N : Nat) (K10 : Int32 → Int32 → xS → Option (xS)) : Nat → Int32 → Int32 → Nat → Int32 → Int32 → xS → Option (xS)
  | 0, _, _, _, _, _, _ => none
  | fu + 1, v2, v3, v5, v6, v7, S => if v6 ≤ v7 then (K10 v2 (v3 + (1 : Int32)) S) else (gd v7 4 ((c4_putBit v5 (12 + (v7).toNatClampNeg) S ).bind (fun S12 => (c11_passBits_b35 N K10 fu) v2 v3 v5 v6 (v7 + (1 : Int32)) S12)))
set_option maxHeartbeats 4000000 in
set_option maxRecDepth 100000 in
theorem m_c11_passBits_b35 {l : Launch} {D : va_G} {cI cJ cL cN : ClassId} {ad : Nat → Nat → Nat} {N : Nat} (hN : N ≤ 8) (hI : xInj (cDom N) ad)  {p : Program} {e : Env} {s : State} {m : MethodId} {args : Array Value} {below : List Frame} {meth : Method} {c : Code} (F : CallFix p m c cX11_passBits 9 s args (Cond.code yX11_passBits cX11_passBits 9 none :: xG) (yX11_passBits).cls) (hr : meth.sig.returnType = none) (hlk : meth.locks = false) (hK : xK D vwCl (cTy cI cJ cL cN) cNf cNm s) {o : xS} {K10 : Int32 → Int32 → xS → Option (xS)} (hk10 : ∀ (v2 : Int32) (v3 : Int32) (S : xS) (H : Heap) (locs : List Loc) (ls : Array Slot), K10 v2 v3 S = some o → xW D vwCl (cDom N) ad (cDe ad N cI cJ cL cN) S H → va_S (xA (cDom N) ad) s.heap H locs → lv_has ls 9 [(0, .ref (ad 9 0)), (1, .ref (ad 9 1)), (2, .int v2), (3, .int v3)] → W p l e { frames := 6, cells := 0, slots := 0, locals := 136 } s m args below meth c H locs 0 0 (MQ below (xQ D vwCl (cDom N) ad (cDe ad N cI cJ cL cN) none o) args s 0 0 (xA (cDom N) ad)) (F0 m 10 ls [])) : ∀ (fu : Nat) (v2 : Int32) (v3 : Int32) (v5 : Nat) (v6 : Int32) (v7 : Int32) (hv5 : v5 < N) (S : xS) {H : Heap} {locs : List Loc} {ls : Array Slot}, c11_passBits_b35 N K10 fu v2 v3 v5 v6 v7 S = some o → xW D vwCl (cDom N) ad (cDe ad N cI cJ cL cN) S H → va_S (xA (cDom N) ad) s.heap H locs → lv_has ls 9 [(0, .ref (ad 9 0)), (1, .ref (ad 9 1)), (2, .int v2), (3, .int v3), (5, .ref (ad v5 11)), (6, .int v6), (7, .int v7)] → W p l e { frames := 6, cells := 0, slots := 0, locals := 136 } s m args below meth c H locs 0 0 (MQ below (xQ D vwCl (cDom N) ad (cDe ad N cI cJ cL cN) none o) args s 0 0 (xA (cDom N) ad)) (F0 m 35 ls []) := by
  have hx := F.1
  have hb := F.2.1
  intro fu
  induction fu with
  | zero =>
    intro v2 v3 v5 v6 v7 hv5 S H locs ls h
    simp [c11_passBits_b35] at h
  | succ fu ih =>
    intro v2 v3 v5 v6 v7 hv5 S H locs ls h hW hS hl
    have hk35 := fun v2 v3 v5 v6 v7 hv5 S H locs ls (h : c11_passBits_b35 N K10 fu v2 v3 v5 v6 v7 S = some o) hW hS hl => ih v2 v3 v5 v6 v7 hv5 S (H := H) (locs := locs) (ls := ls) h hW hS hl
    rw [c11_passBits_b35] at h
    refine lv_iload hx hb dX11_passBits_35 (lv_at hl 6 rfl) ?_
    refine lv_iload hx hb dX11_passBits_37 (lv_at hl 5 rfl) ?_
    refine lv_icmp_ge (tgt := 60) hx hb dX11_passBits_39 (by decide) (fun c_10 => ?_) (fun c_10 => ?_)
    · replace h := (if_pos c_10).symm.trans h
      refine lv_iinc (v := (v3 + (1 : Int32))) (lv' := [(3, .int (v3 + (1 : Int32))), (0, .ref (ad 9 0)), (1, .ref (ad 9 1)), (2, .int v2), (5, .ref (ad v5 11)), (6, .int v6), (7, .int v7)]) hx hb dX11_passBits_60 hl (k := 3) rfl rfl (by decide) rfl (fun ls hl => ?_)
      refine lv_goto (tgt := 10) hx hb dX11_passBits_63 (by decide) ?_
      exact hk10 _ _ _ _ _ _ h hW hS (lv_sub hl [1, 2, 3, 0] rfl)
    replace h := (if_neg c_10).symm.trans h
    refine lv_aload hx hb dX11_passBits_42 (lv_at hl 4 rfl) ?_
    refine lv_iload hx hb dX11_passBits_44 (lv_at hl 6 rfl) ?_
    have hk_11 := gd_lt h
    refine x_aald (t0 := 2) F hK hW (cd_dAL hv5) (cd_eAL hN hv5) rfl dX11_passBits_46 h (fun h => ?_)
    refine lv_astore (lv' := [(8, .ref (ad v5 (12 + (v7).toNatClampNeg))), (0, .ref (ad 9 0)), (1, .ref (ad 9 1)), (2, .int v2), (3, .int v3), (5, .ref (ad v5 11)), (6, .int v6), (7, .int v7)]) hx hb dX11_passBits_47 hl (by decide) rfl (fun ls hl => ?_)
    refine lv_aload hx hb dX11_passBits_49 (lv_at hl 0 rfl) ?_
    refine x_cVv (As := []) F xG_ok hK hW hS um_X4_putBit k_3_24 (fun _ h1 => m_c4_putBit hN hI (is4k hv5 hk_11)  h1) rfl (cd_dX4 (is4k hv5 hk_11)) (cd_eX4 hN (is4k hv5 hk_11)) rfl rfl hl.1 rfl rfl ⟨Nat.le_of_ble_eq_true rfl, Nat.le_of_ble_eq_true rfl⟩ ⟨Nat.zero_le _, Nat.zero_le _⟩ (Nat.le_of_ble_eq_true rfl) dX11_passBits_51 h (fun S12 H locs hW hS h => ?_)
    refine lv_iinc (v := (v7 + (1 : Int32))) (lv' := [(7, .int (v7 + (1 : Int32))), (8, .ref (ad v5 (12 + (v7).toNatClampNeg))), (0, .ref (ad 9 0)), (1, .ref (ad 9 1)), (2, .int v2), (3, .int v3), (5, .ref (ad v5 11)), (6, .int v6)]) hx hb dX11_passBits_54 hl (k := 7) rfl rfl (by decide) rfl (fun ls hl => ?_)
    refine lv_goto (tgt := 35) hx hb dX11_passBits_57 (by decide) ?_
    exact hk35 _ _ _ _ _ hv5 _ _ _ _ h hW hS (lv_sub hl [2, 3, 4, 5, 6, 7, 0] rfl)
def c11_passBits_b10 (N : Nat) : Nat → Int32 → Int32 → xS → Option (xS)
  | 0, _, _, _ => none
  | fu + 1, v2, v3, S => if v2 ≤ v3 then ((c3_putBit  S ).bind (fun S2 => c11_passBits_b83 N (100000) (Int32.ofNat N) (0 : Int32) S2)) else (gd v3 N (c11_passBits_b35 N (c11_passBits_b10 N fu) (100000) v2 v3 ((v3).toNatClampNeg) (Int32.ofNat 4) (0 : Int32) S))
set_option maxHeartbeats 4000000 in
set_option maxRecDepth 100000 in
theorem m_c11_passBits_b10 {l : Launch} {D : va_G} {cI cJ cL cN : ClassId} {ad : Nat → Nat → Nat} {N : Nat} (hN : N ≤ 8) (hI : xInj (cDom N) ad)  {p : Program} {e : Env} {s : State} {m : MethodId} {args : Array Value} {below : List Frame} {meth : Method} {c : Code} (F : CallFix p m c cX11_passBits 9 s args (Cond.code yX11_passBits cX11_passBits 9 none :: xG) (yX11_passBits).cls) (hr : meth.sig.returnType = none) (hlk : meth.locks = false) (hK : xK D vwCl (cTy cI cJ cL cN) cNf cNm s) {o : xS} : ∀ (fu : Nat) (v2 : Int32) (v3 : Int32) (S : xS) {H : Heap} {locs : List Loc} {ls : Array Slot}, c11_passBits_b10 N fu v2 v3 S = some o → xW D vwCl (cDom N) ad (cDe ad N cI cJ cL cN) S H → va_S (xA (cDom N) ad) s.heap H locs → lv_has ls 9 [(0, .ref (ad 9 0)), (1, .ref (ad 9 1)), (2, .int v2), (3, .int v3)] → W p l e { frames := 6, cells := 0, slots := 0, locals := 136 } s m args below meth c H locs 0 0 (MQ below (xQ D vwCl (cDom N) ad (cDe ad N cI cJ cL cN) none o) args s 0 0 (xA (cDom N) ad)) (F0 m 10 ls []) := by
  have hx := F.1
  have hb := F.2.1
  intro fu
  induction fu with
  | zero =>
    intro v2 v3 S H locs ls h
    simp [c11_passBits_b10] at h
  | succ fu ih =>
    intro v2 v3 S H locs ls h hW hS hl
    have hk10 := fun v2 v3 S H locs ls (h : c11_passBits_b10 N fu v2 v3 S = some o) hW hS hl => ih v2 v3 S (H := H) (locs := locs) (ls := ls) h hW hS hl
    rw [c11_passBits_b10] at h
    refine lv_iload_n hx hb dX11_passBits_10 rfl (lv_at hl 3 rfl) ?_
    refine lv_iload_n hx hb dX11_passBits_11 rfl (lv_at hl 2 rfl) ?_
    refine lv_icmp_ge (tgt := 66) hx hb dX11_passBits_12 (by decide) (fun c_1 => ?_) (fun c_1 => ?_)
    · replace h := (if_pos c_1).symm.trans h
      refine lv_aload_n hx hb dX11_passBits_66 rfl (lv_at hl 0 rfl) ?_
      refine x_get F hK hW xc_X11 cd_dX11 cd_eX11 1 (by decide) k_2_169 (rfl) dX11_passBits_67 ?_
      refine x_cVv (As := []) F xG_ok hK hW hS um_X3_putBit k_3_44 (fun _ h1 => m_c3_putBit hN hI   h1) rfl cd_dX3 cd_eX3 rfl rfl hl.1 rfl rfl ⟨Nat.le_of_ble_eq_true rfl, Nat.le_of_ble_eq_true rfl⟩ ⟨Nat.zero_le _, Nat.zero_le _⟩ (Nat.le_of_ble_eq_true rfl) dX11_passBits_70 h (fun S2 H locs hW hS h => ?_)
      refine lv_aload_n hx hb dX11_passBits_73 rfl (lv_at hl 0 rfl) ?_
      refine x_get F hK hW xc_X11 cd_dX11 cd_eX11 0 (by decide) k_2_168 (rfl) dX11_passBits_74 ?_
      refine lv_astore_n (lv' := [(1, .ref (ad 9 1)), (0, .ref (ad 9 0)), (2, .int v2), (3, .int v3)]) hx hb dX11_passBits_77 rfl hl (by decide) rfl (fun ls hl => ?_)
      refine lv_aload_n hx hb dX11_passBits_78 rfl (lv_at hl 0 rfl) ?_
      refine x_alen (t0 := 3) F hK hW cd_dAN (cd_eAN _ _ _) rfl rfl dX11_passBits_79 ?_
      refine lv_istore_n (lv' := [(2, .int (Int32.ofNat N)), (1, .ref (ad 9 1)), (0, .ref (ad 9 0)), (3, .int v3)]) hx hb dX11_passBits_80 rfl hl (by decide) rfl (fun ls hl => ?_)
      refine lv_iconst (v := (0 : Int32)) hx hb dX11_passBits_81 (by decide) ?_
      refine lv_istore_n (lv' := [(3, .int (0 : Int32)), (2, .int (Int32.ofNat N)), (1, .ref (ad 9 1)), (0, .ref (ad 9 0))]) hx hb dX11_passBits_82 rfl hl (by decide) rfl (fun ls hl => ?_)
      exact m_c11_passBits_b83 hN hI  F hr hlk hK (100000) _ _ _ h hW hS (lv_sub hl [3, 2, 1, 0] rfl)
    replace h := (if_neg c_1).symm.trans h
    refine lv_aload_n hx hb dX11_passBits_15 rfl (lv_at hl 1 rfl) ?_
    refine lv_iload_n hx hb dX11_passBits_16 rfl (lv_at hl 3 rfl) ?_
    have hk_9 := gd_lt h
    refine x_aald (t0 := 3) F hK hW cd_dAN cd_eAN rfl dX11_passBits_17 h (fun h => ?_)
    refine lv_astore (lv' := [(4, .ref (ad ((v3).toNatClampNeg) 0)), (0, .ref (ad 9 0)), (1, .ref (ad 9 1)), (2, .int v2), (3, .int v3)]) hx hb dX11_passBits_18 hl (by decide) rfl (fun ls hl => ?_)
    refine lv_aload hx hb dX11_passBits_20 (lv_at hl 0 rfl) ?_
    refine x_getN F hK hW xc_X6 (cd_dX6 hk_9) (cd_eX6 hN hk_9) 1 (by decide) kn_57 (rfl) dX11_passBits_22 ?_
    refine lv_astore (lv' := [(5, .ref (ad ((v3).toNatClampNeg) 11)), (4, .ref (ad ((v3).toNatClampNeg) 0)), (0, .ref (ad 9 0)), (1, .ref (ad 9 1)), (2, .int v2), (3, .int v3)]) hx hb dX11_passBits_25 hl (by decide) rfl (fun ls hl => ?_)
    refine lv_aload hx hb dX11_passBits_27 (lv_at hl 0 rfl) ?_
    refine x_alen (t0 := 2) F hK hW (cd_dAL hk_9) ((cd_eAL hN hk_9) _ _ _) rfl rfl dX11_passBits_29 ?_
    refine lv_istore (lv' := [(6, .int (Int32.ofNat 4)), (5, .ref (ad ((v3).toNatClampNeg) 11)), (4, .ref (ad ((v3).toNatClampNeg) 0)), (0, .ref (ad 9 0)), (1, .ref (ad 9 1)), (2, .int v2), (3, .int v3)]) hx hb dX11_passBits_30 hl (by decide) rfl (fun ls hl => ?_)
    refine lv_iconst (v := (0 : Int32)) hx hb dX11_passBits_32 (by decide) ?_
    refine lv_istore (lv' := [(7, .int (0 : Int32)), (6, .int (Int32.ofNat 4)), (5, .ref (ad ((v3).toNatClampNeg) 11)), (4, .ref (ad ((v3).toNatClampNeg) 0)), (0, .ref (ad 9 0)), (1, .ref (ad 9 1)), (2, .int v2), (3, .int v3)]) hx hb dX11_passBits_33 hl (by decide) rfl (fun ls hl => ?_)
    exact m_c11_passBits_b35 hN hI  F hr hlk hK hk10 (100000) _ _ _ _ _ hk_9 _ h hW hS (lv_sub hl [4, 5, 6, 7, 2, 1, 0] rfl)
def c11_passBits (N : Nat) (S : xS)  : Option (xS) := c11_passBits_b10 N (100000) (Int32.ofNat N) (0 : Int32) S
set_option maxHeartbeats 4000000 in
set_option maxRecDepth 100000 in
theorem m_c11_passBits {l : Launch} {D : va_G} {cI cJ cL cN : ClassId} {ad : Nat → Nat → Nat} {N : Nat} (hN : N ≤ 8) (hI : xInj (cDom N) ad)  {S : xS}  {o : xS} (h : c11_passBits N S  = some o) : Met l yX11_passBits (Cond.code yX11_passBits cX11_passBits 9 none :: xG) { frames := 6, cells := 0, slots := 0, locals := 136 } (xPc D vwCl (cTy cI cJ cL cN) cNf cNm (cDom N) ad (cDe ad N cI cJ cL cN) [.ref (ad 9 0)] S) (xQ D vwCl (cDom N) ad (cDe ad N cI cJ cL cN) none o) 0 0 (xA (cDom N) ad) := by
  unfold c11_passBits at h
  refine x_enter (by decide) (Nat.le_of_ble_eq_true rfl) (fun p e s m below meth c F hr hlk hK hW hS ls hl => ?_)
  have hl : lv_has ls 9 [(0, .ref (ad 9 0))] := hl
  have hx := F.1
  have hb := F.2.1
  refine lv_aload_n hx hb dX11_passBits_0 rfl (lv_at hl 0 rfl) ?_
  refine x_get F hK hW xc_X11 cd_dX11 cd_eX11 0 (by decide) k_2_168 (rfl) dX11_passBits_1 ?_
  refine lv_astore_n (lv' := [(1, .ref (ad 9 1)), (0, .ref (ad 9 0))]) hx hb dX11_passBits_4 rfl hl (by decide) rfl (fun ls hl => ?_)
  refine lv_aload_n hx hb dX11_passBits_5 rfl (lv_at hl 0 rfl) ?_
  refine x_alen (t0 := 3) F hK hW cd_dAN (cd_eAN _ _ _) rfl rfl dX11_passBits_6 ?_
  refine lv_istore_n (lv' := [(2, .int (Int32.ofNat N)), (1, .ref (ad 9 1)), (0, .ref (ad 9 0))]) hx hb dX11_passBits_7 rfl hl (by decide) rfl (fun ls hl => ?_)
  refine lv_iconst (v := (0 : Int32)) hx hb dX11_passBits_8 (by decide) ?_
  refine lv_istore_n (lv' := [(3, .int (0 : Int32)), (2, .int (Int32.ofNat N)), (1, .ref (ad 9 1)), (0, .ref (ad 9 0))]) hx hb dX11_passBits_9 rfl hl (by decide) rfl (fun ls hl => ?_)
  exact m_c11_passBits_b10 hN hI  F hr hlk hK (100000) _ _ _ h hW hS (lv_sub hl [3, 2, 1, 0] rfl)
/-! X11_run -/
def c11_run_b120 (N : Nat) (K15 : Int32 → Int32 → xS → Option (Int32 × xS)) (K91 : Int32 → Int32 → Int32 → Int32 → xS → Option (Int32 × xS)) (v1 : Int32) (v2 : Int32) (v4 : Int32) (v5 : Int32) (S : xS) : Option (Int32 × xS) := K91 v1 v2 v4 (v5 + (1 : Int32)) S
set_option maxHeartbeats 4000000 in
set_option maxRecDepth 100000 in
theorem m_c11_run_b120 {l : Launch} {D : va_G} {cI cJ cL cN : ClassId} {ad : Nat → Nat → Nat} {N : Nat} (hN : N ≤ 8) (hI : xInj (cDom N) ad)  {p : Program} {e : Env} {s : State} {m : MethodId} {args : Array Value} {below : List Frame} {meth : Method} {c : Code} (F : CallFix p m c cX11_run 7 s args (Cond.code yX11_run cX11_run 7 (some .int) :: xG) (yX11_run).cls) (hr : meth.sig.returnType = (some .int)) (hlk : meth.locks = false) (hK : xK D vwCl (cTy cI cJ cL cN) cNf cNm s) {o : Int32 × xS} {K15 : Int32 → Int32 → xS → Option (Int32 × xS)} (hk15 : ∀ (v1 : Int32) (v2 : Int32) (S : xS) (H : Heap) (locs : List Loc) (ls : Array Slot), K15 v1 v2 S = some o → xW D vwCl (cDom N) ad (cDe ad N cI cJ cL cN) S H → va_S (xA (cDom N) ad) s.heap H locs → lv_has ls 7 [(0, .ref (ad 9 0)), (1, .int v1), (2, .int v2)] → W p l e { frames := 7, cells := 0, slots := 0, locals := 164 } s m args below meth c H locs 0 0 (MQ below (xQ D vwCl (cDom N) ad (cDe ad N cI cJ cL cN) (some (.int o.1)) o.2) args s 0 0 (xA (cDom N) ad)) (F0 m 15 ls [])) {K91 : Int32 → Int32 → Int32 → Int32 → xS → Option (Int32 × xS)} (hk91 : ∀ (v1 : Int32) (v2 : Int32) (v4 : Int32) (v5 : Int32) (S : xS) (H : Heap) (locs : List Loc) (ls : Array Slot), K91 v1 v2 v4 v5 S = some o → xW D vwCl (cDom N) ad (cDe ad N cI cJ cL cN) S H → va_S (xA (cDom N) ad) s.heap H locs → lv_has ls 7 [(0, .ref (ad 9 0)), (1, .int v1), (2, .int v2), (3, .ref (ad 9 1)), (4, .int v4), (5, .int v5)] → W p l e { frames := 7, cells := 0, slots := 0, locals := 164 } s m args below meth c H locs 0 0 (MQ below (xQ D vwCl (cDom N) ad (cDe ad N cI cJ cL cN) (some (.int o.1)) o.2) args s 0 0 (xA (cDom N) ad)) (F0 m 91 ls [])) (v1 : Int32) (v2 : Int32) (v4 : Int32) (v5 : Int32) (S : xS) {H : Heap} {locs : List Loc} {ls : Array Slot} (h : c11_run_b120 N K15 K91 v1 v2 v4 v5 S = some o) (hW : xW D vwCl (cDom N) ad (cDe ad N cI cJ cL cN) S H) (hS : va_S (xA (cDom N) ad) s.heap H locs) (hl : lv_has ls 7 [(0, .ref (ad 9 0)), (1, .int v1), (2, .int v2), (3, .ref (ad 9 1)), (4, .int v4), (5, .int v5)]) : W p l e { frames := 7, cells := 0, slots := 0, locals := 164 } s m args below meth c H locs 0 0 (MQ below (xQ D vwCl (cDom N) ad (cDe ad N cI cJ cL cN) (some (.int o.1)) o.2) args s 0 0 (xA (cDom N) ad)) (F0 m 120 ls []) := by
  have hx := F.1
  have hb := F.2.1
  unfold c11_run_b120 at h
  refine lv_iinc (v := (v5 + (1 : Int32))) (lv' := [(5, .int (v5 + (1 : Int32))), (0, .ref (ad 9 0)), (1, .int v1), (2, .int v2), (3, .ref (ad 9 1)), (4, .int v4)]) hx hb dX11_run_120 hl (k := 5) rfl rfl (by decide) rfl (fun ls hl => ?_)
  refine lv_goto (tgt := 91) hx hb dX11_run_123 (by decide) ?_
  exact hk91 _ _ _ _ _ _ _ _ h hW hS (lv_sub hl [1, 2, 3, 4, 5, 0] rfl)
def c11_run_b91 (N : Nat) (K15 : Int32 → Int32 → xS → Option (Int32 × xS)) : Nat → Int32 → Int32 → Int32 → Int32 → xS → Option (Int32 × xS)
  | 0, _, _, _, _, _ => none
  | fu + 1, v1, v2, v4, v5, S => if v4 ≤ v5 then (K15 v1 (v2 + (1 : Int32)) S) else (gd v5 N ((c6_prepareTurn (v5).toNatClampNeg S ).bind (fun (r_9, S9) => if r_9 = 0 then (c11_run_b120 N K15 (c11_run_b91 N K15 fu) v1 v2 v4 v5 S9) else ((c7_execute (v5).toNatClampNeg S9 ).bind (fun S11 => c11_run_b120 N K15 (c11_run_b91 N K15 fu) v1 v2 v4 v5 S11)))))
set_option maxHeartbeats 4000000 in
set_option maxRecDepth 100000 in
theorem m_c11_run_b91 {l : Launch} {D : va_G} {cI cJ cL cN : ClassId} {ad : Nat → Nat → Nat} {N : Nat} (hN : N ≤ 8) (hI : xInj (cDom N) ad)  {p : Program} {e : Env} {s : State} {m : MethodId} {args : Array Value} {below : List Frame} {meth : Method} {c : Code} (F : CallFix p m c cX11_run 7 s args (Cond.code yX11_run cX11_run 7 (some .int) :: xG) (yX11_run).cls) (hr : meth.sig.returnType = (some .int)) (hlk : meth.locks = false) (hK : xK D vwCl (cTy cI cJ cL cN) cNf cNm s) {o : Int32 × xS} {K15 : Int32 → Int32 → xS → Option (Int32 × xS)} (hk15 : ∀ (v1 : Int32) (v2 : Int32) (S : xS) (H : Heap) (locs : List Loc) (ls : Array Slot), K15 v1 v2 S = some o → xW D vwCl (cDom N) ad (cDe ad N cI cJ cL cN) S H → va_S (xA (cDom N) ad) s.heap H locs → lv_has ls 7 [(0, .ref (ad 9 0)), (1, .int v1), (2, .int v2)] → W p l e { frames := 7, cells := 0, slots := 0, locals := 164 } s m args below meth c H locs 0 0 (MQ below (xQ D vwCl (cDom N) ad (cDe ad N cI cJ cL cN) (some (.int o.1)) o.2) args s 0 0 (xA (cDom N) ad)) (F0 m 15 ls [])) : ∀ (fu : Nat) (v1 : Int32) (v2 : Int32) (v4 : Int32) (v5 : Int32) (S : xS) {H : Heap} {locs : List Loc} {ls : Array Slot}, c11_run_b91 N K15 fu v1 v2 v4 v5 S = some o → xW D vwCl (cDom N) ad (cDe ad N cI cJ cL cN) S H → va_S (xA (cDom N) ad) s.heap H locs → lv_has ls 7 [(0, .ref (ad 9 0)), (1, .int v1), (2, .int v2), (3, .ref (ad 9 1)), (4, .int v4), (5, .int v5)] → W p l e { frames := 7, cells := 0, slots := 0, locals := 164 } s m args below meth c H locs 0 0 (MQ below (xQ D vwCl (cDom N) ad (cDe ad N cI cJ cL cN) (some (.int o.1)) o.2) args s 0 0 (xA (cDom N) ad)) (F0 m 91 ls []) := by
  have hx := F.1
  have hb := F.2.1
  intro fu
  induction fu with
  | zero =>
    intro v1 v2 v4 v5 S H locs ls h
    simp [c11_run_b91] at h
  | succ fu ih =>
    intro v1 v2 v4 v5 S H locs ls h hW hS hl
    have hk91 := fun v1 v2 v4 v5 S H locs ls (h : c11_run_b91 N K15 fu v1 v2 v4 v5 S = some o) hW hS hl => ih v1 v2 v4 v5 S (H := H) (locs := locs) (ls := ls) h hW hS hl
    rw [c11_run_b91] at h
    refine lv_iload hx hb dX11_run_91 (lv_at hl 5 rfl) ?_
    refine lv_iload hx hb dX11_run_93 (lv_at hl 4 rfl) ?_
    refine lv_icmp_ge (tgt := 126) hx hb dX11_run_95 (by decide) (fun c_7 => ?_) (fun c_7 => ?_)
    · replace h := (if_pos c_7).symm.trans h
      refine lv_iinc (v := (v2 + (1 : Int32))) (lv' := [(2, .int (v2 + (1 : Int32))), (0, .ref (ad 9 0)), (1, .int v1), (3, .ref (ad 9 1)), (4, .int v4), (5, .int v5)]) hx hb dX11_run_126 hl (k := 2) rfl rfl (by decide) rfl (fun ls hl => ?_)
      refine lv_goto (tgt := 15) hx hb dX11_run_129 (by decide) ?_
      exact hk15 _ _ _ _ _ _ h hW hS (lv_sub hl [1, 2, 0] rfl)
    replace h := (if_neg c_7).symm.trans h
    refine lv_aload_n hx hb dX11_run_98 rfl (lv_at hl 3 rfl) ?_
    refine lv_iload hx hb dX11_run_99 (lv_at hl 5 rfl) ?_
    have hk_8 := gd_lt h
    refine x_aald (t0 := 3) F hK hW cd_dAN cd_eAN rfl dX11_run_101 h (fun h => ?_)
    refine lv_astore (lv' := [(6, .ref (ad ((v5).toNatClampNeg) 0)), (0, .ref (ad 9 0)), (1, .int v1), (2, .int v2), (3, .ref (ad 9 1)), (4, .int v4), (5, .int v5)]) hx hb dX11_run_102 hl (by decide) rfl (fun ls hl => ?_)
    refine lv_aload hx hb dX11_run_104 (lv_at hl 0 rfl) ?_
    refine x_cVi (As := []) F xG_ok hK hW hS um_X6_prepareTurn k_3_204 (fun _ h1 => m_c6_prepareTurn hN hI hk_8  h1) rfl (cd_dX6 hk_8) (cd_eX6 hN hk_8) rfl rfl hl.1 rfl rfl ⟨Nat.le_of_ble_eq_true rfl, Nat.le_of_ble_eq_true rfl⟩ ⟨Nat.zero_le _, Nat.zero_le _⟩ (Nat.le_of_ble_eq_true rfl) dX11_run_106 h (fun r_9 S9 H locs hW hS h => ?_)
    refine lv_if_eq (tgt := 120) hx hb dX11_run_109 (by decide) (fun c_10 => ?_) (fun c_10 => ?_)
    · replace h := (if_pos c_10).symm.trans h
      exact m_c11_run_b120 hN hI  F hr hlk hK hk15 hk91 _ _ _ _ _ h hW hS (lv_sub hl [1, 2, 3, 4, 5, 6] rfl)
    replace h := (if_neg c_10).symm.trans h
    refine lv_aload hx hb dX11_run_112 (lv_at hl 0 rfl) ?_
    refine x_getN F hK hW xc_X6 (cd_dX6 hk_8) (cd_eX6 hN hk_8) 2 (by decide) kn_58 (rfl) dX11_run_114 ?_
    refine x_cVv (As := []) F xG_ok hK hW hS um_X7_execute k_3_228 (fun _ h1 => m_c7_execute hN hI hk_8  h1) rfl (cd_dX7 hk_8) (cd_eX7 hN hk_8) rfl rfl hl.1 rfl rfl ⟨Nat.le_of_ble_eq_true rfl, Nat.le_of_ble_eq_true rfl⟩ ⟨Nat.zero_le _, Nat.zero_le _⟩ (Nat.le_of_ble_eq_true rfl) dX11_run_117 h (fun S11 H locs hW hS h => ?_)
    exact m_c11_run_b120 hN hI  F hr hlk hK hk15 hk91 _ _ _ _ _ h hW hS (lv_sub hl [1, 2, 3, 4, 5, 6] rfl)
def c11_run_b46 (N : Nat) (K15 : Int32 → Int32 → xS → Option (Int32 × xS)) : Nat → Int32 → Int32 → Int32 → Int32 → xS → Option (Int32 × xS)
  | 0, _, _, _, _, _ => none
  | fu + 1, v1, v2, v4, v5, S => if v4 ≤ v5 then (c11_run_b91 N K15 (100000) v1 v2 (Int32.ofNat N) (0 : Int32) S) else (gd v5 N ((c6_takeBootByte (v5).toNatClampNeg S ).bind (fun S13 => (c6_changeClocks (v5).toNatClampNeg S13 (xI S13 9 0 2)).bind (fun S14 => (c11_run_b46 N K15 fu) v1 v2 v4 (v5 + (1 : Int32)) S14))))
set_option maxHeartbeats 4000000 in
set_option maxRecDepth 100000 in
theorem m_c11_run_b46 {l : Launch} {D : va_G} {cI cJ cL cN : ClassId} {ad : Nat → Nat → Nat} {N : Nat} (hN : N ≤ 8) (hI : xInj (cDom N) ad)  {p : Program} {e : Env} {s : State} {m : MethodId} {args : Array Value} {below : List Frame} {meth : Method} {c : Code} (F : CallFix p m c cX11_run 7 s args (Cond.code yX11_run cX11_run 7 (some .int) :: xG) (yX11_run).cls) (hr : meth.sig.returnType = (some .int)) (hlk : meth.locks = false) (hK : xK D vwCl (cTy cI cJ cL cN) cNf cNm s) {o : Int32 × xS} {K15 : Int32 → Int32 → xS → Option (Int32 × xS)} (hk15 : ∀ (v1 : Int32) (v2 : Int32) (S : xS) (H : Heap) (locs : List Loc) (ls : Array Slot), K15 v1 v2 S = some o → xW D vwCl (cDom N) ad (cDe ad N cI cJ cL cN) S H → va_S (xA (cDom N) ad) s.heap H locs → lv_has ls 7 [(0, .ref (ad 9 0)), (1, .int v1), (2, .int v2)] → W p l e { frames := 7, cells := 0, slots := 0, locals := 164 } s m args below meth c H locs 0 0 (MQ below (xQ D vwCl (cDom N) ad (cDe ad N cI cJ cL cN) (some (.int o.1)) o.2) args s 0 0 (xA (cDom N) ad)) (F0 m 15 ls [])) : ∀ (fu : Nat) (v1 : Int32) (v2 : Int32) (v4 : Int32) (v5 : Int32) (S : xS) {H : Heap} {locs : List Loc} {ls : Array Slot}, c11_run_b46 N K15 fu v1 v2 v4 v5 S = some o → xW D vwCl (cDom N) ad (cDe ad N cI cJ cL cN) S H → va_S (xA (cDom N) ad) s.heap H locs → lv_has ls 7 [(0, .ref (ad 9 0)), (1, .int v1), (2, .int v2), (3, .ref (ad 9 1)), (4, .int v4), (5, .int v5)] → W p l e { frames := 7, cells := 0, slots := 0, locals := 164 } s m args below meth c H locs 0 0 (MQ below (xQ D vwCl (cDom N) ad (cDe ad N cI cJ cL cN) (some (.int o.1)) o.2) args s 0 0 (xA (cDom N) ad)) (F0 m 46 ls []) := by
  have hx := F.1
  have hb := F.2.1
  intro fu
  induction fu with
  | zero =>
    intro v1 v2 v4 v5 S H locs ls h
    simp [c11_run_b46] at h
  | succ fu ih =>
    intro v1 v2 v4 v5 S H locs ls h hW hS hl
    have hk46 := fun v1 v2 v4 v5 S H locs ls (h : c11_run_b46 N K15 fu v1 v2 v4 v5 S = some o) hW hS hl => ih v1 v2 v4 v5 S (H := H) (locs := locs) (ls := ls) h hW hS hl
    rw [c11_run_b46] at h
    refine lv_iload hx hb dX11_run_46 (lv_at hl 5 rfl) ?_
    refine lv_iload hx hb dX11_run_48 (lv_at hl 4 rfl) ?_
    refine lv_icmp_ge (tgt := 79) hx hb dX11_run_50 (by decide) (fun c_6 => ?_) (fun c_6 => ?_)
    · replace h := (if_pos c_6).symm.trans h
      refine lv_aload_n hx hb dX11_run_79 rfl (lv_at hl 0 rfl) ?_
      refine x_get F hK hW xc_X11 cd_dX11 cd_eX11 0 (by decide) k_2_168 (rfl) dX11_run_80 ?_
      refine lv_astore_n (lv' := [(3, .ref (ad 9 1)), (0, .ref (ad 9 0)), (1, .int v1), (2, .int v2), (4, .int v4), (5, .int v5)]) hx hb dX11_run_83 rfl hl (by decide) rfl (fun ls hl => ?_)
      refine lv_aload_n hx hb dX11_run_84 rfl (lv_at hl 0 rfl) ?_
      refine x_alen (t0 := 3) F hK hW cd_dAN (cd_eAN _ _ _) rfl rfl dX11_run_85 ?_
      refine lv_istore (lv' := [(4, .int (Int32.ofNat N)), (3, .ref (ad 9 1)), (0, .ref (ad 9 0)), (1, .int v1), (2, .int v2), (5, .int v5)]) hx hb dX11_run_86 hl (by decide) rfl (fun ls hl => ?_)
      refine lv_iconst (v := (0 : Int32)) hx hb dX11_run_88 (by decide) ?_
      refine lv_istore (lv' := [(5, .int (0 : Int32)), (4, .int (Int32.ofNat N)), (3, .ref (ad 9 1)), (0, .ref (ad 9 0)), (1, .int v1), (2, .int v2)]) hx hb dX11_run_89 hl (by decide) rfl (fun ls hl => ?_)
      exact m_c11_run_b91 hN hI  F hr hlk hK hk15 (100000) _ _ _ _ _ h hW hS (lv_sub hl [3, 4, 5, 2, 1, 0] rfl)
    replace h := (if_neg c_6).symm.trans h
    refine lv_aload_n hx hb dX11_run_53 rfl (lv_at hl 3 rfl) ?_
    refine lv_iload hx hb dX11_run_54 (lv_at hl 5 rfl) ?_
    have hk_12 := gd_lt h
    refine x_aald (t0 := 3) F hK hW cd_dAN cd_eAN rfl dX11_run_56 h (fun h => ?_)
    refine lv_astore (lv' := [(6, .ref (ad ((v5).toNatClampNeg) 0)), (0, .ref (ad 9 0)), (1, .int v1), (2, .int v2), (3, .ref (ad 9 1)), (4, .int v4), (5, .int v5)]) hx hb dX11_run_57 hl (by decide) rfl (fun ls hl => ?_)
    refine lv_aload hx hb dX11_run_59 (lv_at hl 0 rfl) ?_
    refine x_cVv (As := []) F xG_ok hK hW hS um_X6_takeBootByte k_3_128 (fun _ h1 => m_c6_takeBootByte hN hI hk_12  h1) rfl (cd_dX6 hk_12) (cd_eX6 hN hk_12) rfl rfl hl.1 rfl rfl ⟨Nat.le_of_ble_eq_true rfl, Nat.le_of_ble_eq_true rfl⟩ ⟨Nat.zero_le _, Nat.zero_le _⟩ (Nat.le_of_ble_eq_true rfl) dX11_run_61 h (fun S13 H locs hW hS h => ?_)
    refine lv_aload hx hb dX11_run_64 (lv_at hl 0 rfl) ?_
    refine lv_aload_n hx hb dX11_run_66 rfl (lv_at hl 1 rfl) ?_
    refine x_get F hK hW xc_X11 cd_dX11 cd_eX11 2 (by decide) k_2_170 (rfl) dX11_run_67 ?_
    refine x_cVv (As := [.int (xI S13 9 0 2)]) F xG_ok hK hW hS um_X6_changeClocks k_3_165 (fun _ h1 => m_c6_changeClocks hN hI hk_12 _ h1) rfl (cd_dX6 hk_12) (cd_eX6 hN hk_12) rfl rfl hl.1 rfl rfl ⟨Nat.le_of_ble_eq_true rfl, Nat.le_of_ble_eq_true rfl⟩ ⟨Nat.zero_le _, Nat.zero_le _⟩ (Nat.le_of_ble_eq_true rfl) dX11_run_70 h (fun S14 H locs hW hS h => ?_)
    refine lv_iinc (v := (v5 + (1 : Int32))) (lv' := [(5, .int (v5 + (1 : Int32))), (6, .ref (ad ((v5).toNatClampNeg) 0)), (0, .ref (ad 9 0)), (1, .int v1), (2, .int v2), (3, .ref (ad 9 1)), (4, .int v4)]) hx hb dX11_run_73 hl (k := 6) rfl rfl (by decide) rfl (fun ls hl => ?_)
    refine lv_goto (tgt := 46) hx hb dX11_run_76 (by decide) ?_
    exact hk46 _ _ _ _ _ _ _ _ h hW hS (lv_sub hl [2, 3, 4, 5, 6, 0] rfl)
def c11_run_b15 (N : Nat) : Nat → Int32 → Int32 → xS → Option (Int32 × xS)
  | 0, _, _, _ => none
  | fu + 1, v1, v2, S => if v1 ≤ v2 then (some ((xI S 9 0 2), S)) else (xnm (sI S 9 0 2 ((xI S 9 0 2) + (1 : Int32))) (fun S4 => (c11_passBits N S4 ).bind (fun S5 => c11_run_b46 N (c11_run_b15 N fu) (100000) v1 v2 (Int32.ofNat N) (0 : Int32) S5)))
set_option maxHeartbeats 4000000 in
set_option maxRecDepth 100000 in
theorem m_c11_run_b15 {l : Launch} {D : va_G} {cI cJ cL cN : ClassId} {ad : Nat → Nat → Nat} {N : Nat} (hN : N ≤ 8) (hI : xInj (cDom N) ad)  {p : Program} {e : Env} {s : State} {m : MethodId} {args : Array Value} {below : List Frame} {meth : Method} {c : Code} (F : CallFix p m c cX11_run 7 s args (Cond.code yX11_run cX11_run 7 (some .int) :: xG) (yX11_run).cls) (hr : meth.sig.returnType = (some .int)) (hlk : meth.locks = false) (hK : xK D vwCl (cTy cI cJ cL cN) cNf cNm s) {o : Int32 × xS} : ∀ (fu : Nat) (v1 : Int32) (v2 : Int32) (S : xS) {H : Heap} {locs : List Loc} {ls : Array Slot}, c11_run_b15 N fu v1 v2 S = some o → xW D vwCl (cDom N) ad (cDe ad N cI cJ cL cN) S H → va_S (xA (cDom N) ad) s.heap H locs → lv_has ls 7 [(0, .ref (ad 9 0)), (1, .int v1), (2, .int v2)] → W p l e { frames := 7, cells := 0, slots := 0, locals := 164 } s m args below meth c H locs 0 0 (MQ below (xQ D vwCl (cDom N) ad (cDe ad N cI cJ cL cN) (some (.int o.1)) o.2) args s 0 0 (xA (cDom N) ad)) (F0 m 15 ls []) := by
  have hx := F.1
  have hb := F.2.1
  intro fu
  induction fu with
  | zero =>
    intro v1 v2 S H locs ls h
    simp [c11_run_b15] at h
  | succ fu ih =>
    intro v1 v2 S H locs ls h hW hS hl
    have hk15 := fun v1 v2 S H locs ls (h : c11_run_b15 N fu v1 v2 S = some o) hW hS hl => ih v1 v2 S (H := H) (locs := locs) (ls := ls) h hW hS hl
    rw [c11_run_b15] at h
    refine lv_iload_n hx hb dX11_run_15 rfl (lv_at hl 2 rfl) ?_
    refine lv_iload_n hx hb dX11_run_16 rfl (lv_at hl 1 rfl) ?_
    refine lv_icmp_ge (tgt := 132) hx hb dX11_run_17 (by decide) (fun c_3 => ?_) (fun c_3 => ?_)
    · replace h := (if_pos c_3).symm.trans h
      refine lv_aload_n hx hb dX11_run_132 rfl (lv_at hl 0 rfl) ?_
      refine x_get F hK hW xc_X11 cd_dX11 cd_eX11 2 (by decide) k_2_170 (rfl) dX11_run_133 ?_
      exact x_iret F hr hlk hW hS dX11_run_136 h
    replace h := (if_neg c_3).symm.trans h
    refine lv_aload_n hx hb dX11_run_20 rfl (lv_at hl 0 rfl) ?_
    refine lv_dup hx hb dX11_run_21 rfl ?_
    refine x_get F hK hW xc_X11 cd_dX11 cd_eX11 2 (by decide) k_2_170 (rfl) dX11_run_22 ?_
    refine lv_iconst (v := (1 : Int32)) hx hb dX11_run_25 (by decide) ?_
    refine lv_iadd hx hb dX11_run_26 ?_
    refine x_put F hK hI hW hS xc_X11 cd_dX11 cd_eX11 2 (by decide) k_2_170 rfl (v := ((xI S 9 0 2) + (1 : Int32))) rfl rfl (fun _ _ => rfl) (fun _ _ => Nat.le_of_ble_eq_true rfl) dX11_run_27 h (fun S4 H locs hW hS h => ?_)
    refine lv_aload_n hx hb dX11_run_30 rfl (lv_at hl 0 rfl) ?_
    refine x_cVv (As := []) F xG_ok hK hW hS um_X11_passBits k_3_20 (fun _ h1 => m_c11_passBits hN hI   h1) rfl cd_dX11 cd_eX11 rfl rfl hl.1 rfl rfl ⟨Nat.le_of_ble_eq_true rfl, Nat.le_of_ble_eq_true rfl⟩ ⟨Nat.zero_le _, Nat.zero_le _⟩ (Nat.le_of_ble_eq_true rfl) dX11_run_31 h (fun S5 H locs hW hS h => ?_)
    refine lv_aload_n hx hb dX11_run_34 rfl (lv_at hl 0 rfl) ?_
    refine x_get F hK hW xc_X11 cd_dX11 cd_eX11 0 (by decide) k_2_168 (rfl) dX11_run_35 ?_
    refine lv_astore_n (lv' := [(3, .ref (ad 9 1)), (0, .ref (ad 9 0)), (1, .int v1), (2, .int v2)]) hx hb dX11_run_38 rfl hl (by decide) rfl (fun ls hl => ?_)
    refine lv_aload_n hx hb dX11_run_39 rfl (lv_at hl 0 rfl) ?_
    refine x_alen (t0 := 3) F hK hW cd_dAN (cd_eAN _ _ _) rfl rfl dX11_run_40 ?_
    refine lv_istore (lv' := [(4, .int (Int32.ofNat N)), (3, .ref (ad 9 1)), (0, .ref (ad 9 0)), (1, .int v1), (2, .int v2)]) hx hb dX11_run_41 hl (by decide) rfl (fun ls hl => ?_)
    refine lv_iconst (v := (0 : Int32)) hx hb dX11_run_43 (by decide) ?_
    refine lv_istore (lv' := [(5, .int (0 : Int32)), (4, .int (Int32.ofNat N)), (3, .ref (ad 9 1)), (0, .ref (ad 9 0)), (1, .int v1), (2, .int v2)]) hx hb dX11_run_44 hl (by decide) rfl (fun ls hl => ?_)
    exact m_c11_run_b46 hN hI  F hr hlk hK hk15 (100000) _ _ _ _ _ h hW hS (lv_sub hl [3, 4, 5, 2, 1, 0] rfl)
def c11_run (N : Nat) (S : xS) (a1 : Int32) : Option (Int32 × xS) := if a1 < 0 then (some ((-1 : Int32), S)) else (if a1 ≤ (1000 : Int32) then (c11_run_b15 N (100000) a1 (0 : Int32) S) else (some ((-1 : Int32), S)))
set_option maxHeartbeats 4000000 in
set_option maxRecDepth 100000 in
theorem m_c11_run {l : Launch} {D : va_G} {cI cJ cL cN : ClassId} {ad : Nat → Nat → Nat} {N : Nat} (hN : N ≤ 8) (hI : xInj (cDom N) ad)  {S : xS} (a1 : Int32) {o : Int32 × xS} (h : c11_run N S a1 = some o) : Met l yX11_run (Cond.code yX11_run cX11_run 7 (some .int) :: xG) { frames := 7, cells := 0, slots := 0, locals := 164 } (xPc D vwCl (cTy cI cJ cL cN) cNf cNm (cDom N) ad (cDe ad N cI cJ cL cN) [.ref (ad 9 0), .int a1] S) (xQ D vwCl (cDom N) ad (cDe ad N cI cJ cL cN) (some (.int o.1)) o.2) 0 0 (xA (cDom N) ad) := by
  unfold c11_run at h
  refine x_enter (by decide) (Nat.le_of_ble_eq_true rfl) (fun p e s m below meth c F hr hlk hK hW hS ls hl => ?_)
  have hl : lv_has ls 7 [(0, .ref (ad 9 0)), (1, .int a1)] := hl
  have hx := F.1
  have hb := F.2.1
  refine lv_iload_n hx hb dX11_run_0 rfl (lv_at hl 1 rfl) ?_
  refine lv_if_lt (tgt := 11) hx hb dX11_run_1 (by decide) (fun c_1 => ?_) (fun c_1 => ?_)
  · replace h := (if_pos c_1).symm.trans h
    refine lv_iconst (v := (-1 : Int32)) hx hb dX11_run_11 (by decide) ?_
    exact x_iret F hr hlk hW hS dX11_run_12 h
  replace h := (if_neg c_1).symm.trans h
  refine lv_iload_n hx hb dX11_run_4 rfl (lv_at hl 1 rfl) ?_
  refine lv_sipush (v := (1000 : Int32)) hx hb dX11_run_5 (by decide) ?_
  refine lv_icmp_le (tgt := 13) hx hb dX11_run_8 (by decide) (fun c_2 => ?_) (fun c_2 => ?_)
  · replace h := (if_pos c_2).symm.trans h
    refine lv_iconst (v := (0 : Int32)) hx hb dX11_run_13 (by decide) ?_
    refine lv_istore_n (lv' := [(2, .int (0 : Int32)), (0, .ref (ad 9 0)), (1, .int a1)]) hx hb dX11_run_14 rfl hl (by decide) rfl (fun ls hl => ?_)
    exact m_c11_run_b15 hN hI  F hr hlk hK (100000) _ _ _ h hW hS (lv_sub hl [1, 2, 0] rfl)
  replace h := (if_neg c_2).symm.trans h
  refine lv_iconst (v := (-1 : Int32)) hx hb dX11_run_11 (by decide) ?_
  exact x_iret F hr hlk hW hS dX11_run_12 h
/-! X11_register -/
def c11_register_b31 (N : Nat) (v2 : Int32) (v3 : Nat) (S : xS) : Option (Int32 × xS) := if v2 = (18 : Int32) then (if (xI S v3 0 3) = 0 then (some ((0 : Int32), S)) else (some ((1 : Int32), S))) else ((c1_schedulerFact v3 S v2).bind (fun (r_5, S5) => some (r_5, S5)))
set_option maxHeartbeats 4000000 in
set_option maxRecDepth 100000 in
theorem m_c11_register_b31 {l : Launch} {D : va_G} {cI cJ cL cN : ClassId} {ad : Nat → Nat → Nat} {N : Nat} (hN : N ≤ 8) (hI : xInj (cDom N) ad)  {p : Program} {e : Env} {s : State} {m : MethodId} {args : Array Value} {below : List Frame} {meth : Method} {c : Code} (F : CallFix p m c cX11_register 4 s args (Cond.code yX11_register cX11_register 4 (some .int) :: xG) (yX11_register).cls) (hr : meth.sig.returnType = (some .int)) (hlk : meth.locks = false) (hK : xK D vwCl (cTy cI cJ cL cN) cNf cNm s) {o : Int32 × xS} (v2 : Int32) (v3 : Nat) (hv3 : v3 < N) (S : xS) {H : Heap} {locs : List Loc} {ls : Array Slot} (h : c11_register_b31 N v2 v3 S = some o) (hW : xW D vwCl (cDom N) ad (cDe ad N cI cJ cL cN) S H) (hS : va_S (xA (cDom N) ad) s.heap H locs) (hl : lv_has ls 4 [(2, .int v2), (3, .ref (ad v3 0))]) : W p l e { frames := 2, cells := 0, slots := 0, locals := 42 } s m args below meth c H locs 0 0 (MQ below (xQ D vwCl (cDom N) ad (cDe ad N cI cJ cL cN) (some (.int o.1)) o.2) args s 0 0 (xA (cDom N) ad)) (F0 m 31 ls []) := by
  have hx := F.1
  have hb := F.2.1
  unfold c11_register_b31 at h
  refine lv_iload_n hx hb dX11_register_31 rfl (lv_at hl 0 rfl) ?_
  refine lv_bipush (v := (18 : Int32)) hx hb dX11_register_32 (by decide) ?_
  refine lv_icmp_ne (tgt := 50) hx hb dX11_register_34 (by decide) (fun c_4 => ?_) (fun c_4 => ?_)
  · replace h := (if_neg c_4).symm.trans h
    refine lv_aload_n hx hb dX11_register_50 rfl (lv_at hl 1 rfl) ?_
    refine x_getN F hK hW xc_X6 (cd_dX6 hv3) (cd_eX6 hN hv3) 0 (by decide) kn_56 (rfl) dX11_register_51 ?_
    refine lv_iload_n hx hb dX11_register_54 rfl (lv_at hl 0 rfl) ?_
    refine x_cVi (As := [.int v2]) F xG_ok hK hW hS um_X1_schedulerFact k_5_92 (fun _ h1 => m_c1_schedulerFact hN hI hv3 _ h1) rfl (cd_dX1 hv3) (cd_eX1 hN hv3) rfl rfl hl.1 rfl rfl ⟨Nat.le_of_ble_eq_true rfl, Nat.le_of_ble_eq_true rfl⟩ ⟨Nat.zero_le _, Nat.zero_le _⟩ (Nat.le_of_ble_eq_true rfl) dX11_register_55 h (fun r_5 S5 H locs hW hS h => ?_)
    exact x_iret F hr hlk hW hS dX11_register_58 h
  replace h := (if_pos c_4).symm.trans h
  refine lv_aload_n hx hb dX11_register_37 rfl (lv_at hl 1 rfl) ?_
  refine x_getN F hK hW xc_X6 (cd_dX6 hv3) (cd_eX6 hN hv3) 3 (by decide) kn_59 (rfl) dX11_register_38 ?_
  refine lv_if_eq (tgt := 48) hx hb dX11_register_41 (by decide) (fun c_6 => ?_) (fun c_6 => ?_)
  · replace h := (if_pos c_6).symm.trans h
    refine lv_iconst (v := (0 : Int32)) hx hb dX11_register_48 (by decide) ?_
    exact x_iret F hr hlk hW hS dX11_register_49 h
  replace h := (if_neg c_6).symm.trans h
  refine lv_iconst (v := (1 : Int32)) hx hb dX11_register_44 (by decide) ?_
  refine lv_goto (tgt := 49) hx hb dX11_register_45 (by decide) ?_
  exact x_iret F hr hlk hW hS dX11_register_49 h
def c11_register (N : Nat) (S : xS) (a1 : Int32) (a2 : Int32) : Option (Int32 × xS) := (c11_nodeAt N S a1).bind (fun (r_1, S1) => xcs r_1 (some ((-1 : Int32), S1)) (fun n_2 j_2 => gq (n_2 < N ∧ j_2 = 0) (if a2 < 0 then (c11_register_b31 N a2 n_2 S1) else (if (8 : Int32) < a2 then (c11_register_b31 N a2 n_2 S1) else ((c1_processorFact n_2 S1 a2).bind (fun (r_8, S8) => some (r_8, S8)))))))
set_option maxHeartbeats 4000000 in
set_option maxRecDepth 100000 in
theorem m_c11_register {l : Launch} {D : va_G} {cI cJ cL cN : ClassId} {ad : Nat → Nat → Nat} {N : Nat} (hN : N ≤ 8) (hI : xInj (cDom N) ad)  {S : xS} (a1 : Int32) (a2 : Int32) {o : Int32 × xS} (h : c11_register N S a1 a2 = some o) : Met l yX11_register (Cond.code yX11_register cX11_register 4 (some .int) :: xG) { frames := 2, cells := 0, slots := 0, locals := 42 } (xPc D vwCl (cTy cI cJ cL cN) cNf cNm (cDom N) ad (cDe ad N cI cJ cL cN) [.ref (ad 9 0), .int a1, .int a2] S) (xQ D vwCl (cDom N) ad (cDe ad N cI cJ cL cN) (some (.int o.1)) o.2) 0 0 (xA (cDom N) ad) := by
  unfold c11_register at h
  refine x_enter (by decide) (Nat.le_of_ble_eq_true rfl) (fun p e s m below meth c F hr hlk hK hW hS ls hl => ?_)
  have hl : lv_has ls 4 [(0, .ref (ad 9 0)), (1, .int a1), (2, .int a2)] := hl
  have hx := F.1
  have hb := F.2.1
  refine lv_aload_n hx hb dX11_register_0 rfl (lv_at hl 0 rfl) ?_
  refine lv_iload_n hx hb dX11_register_1 rfl (lv_at hl 1 rfl) ?_
  refine x_cVq (As := [.int a1]) F xG_ok hK hW hS um_X11_nodeAt k_2_190 (fun _ h1 => m_c11_nodeAt hN hI  _ h1) rfl cd_dX11 cd_eX11 rfl rfl hl.1 rfl rfl ⟨Nat.le_of_ble_eq_true rfl, Nat.le_of_ble_eq_true rfl⟩ ⟨Nat.zero_le _, Nat.zero_le _⟩ (Nat.le_of_ble_eq_true rfl) dX11_register_2 h (fun r_1 S1 H locs hW hS h => ?_)
  refine x_astore_nq (lv' := [(3, xRv ad r_1), (0, .ref (ad 9 0)), (1, .int a1), (2, .int a2)]) hx hb dX11_register_5 rfl hl (by decide) rfl (fun ls hl => ?_)
  refine x_aload_nq hx hb dX11_register_6 rfl (lv_at hl 0 rfl) ?_
  rcases r_1 with _ | ⟨n_2, j_2⟩
  · replace h := xcs_n h
    have hl : lv_has ls 4 [(3, .null), (0, .ref (ad 9 0)), (1, .int a1), (2, .int a2)] := hl
    refine lv_ifnonnullN hx hb dX11_register_7 ?_
    refine lv_iconst (v := (-1 : Int32)) hx hb dX11_register_10 (by decide) ?_
    exact x_iret F hr hlk hW hS dX11_register_11 h
  replace h := xcs_s h
  have hg_2 := (gq_use h).1
  replace h := (gq_use h).2
  obtain ⟨-, he_2⟩ := id hg_2
  subst he_2
  have hl : lv_has ls 4 [(3, .ref (ad n_2 0)), (0, .ref (ad 9 0)), (1, .int a1), (2, .int a2)] := hl
  refine lv_ifnonnull (tgt := 12) hx hb dX11_register_7 (by decide) ?_
  refine lv_iload_n hx hb dX11_register_12 rfl (lv_at hl 3 rfl) ?_
  refine lv_if_lt (tgt := 31) hx hb dX11_register_13 (by decide) (fun c_3 => ?_) (fun c_3 => ?_)
  · replace h := (if_pos c_3).symm.trans h
    exact m_c11_register_b31 hN hI  F hr hlk hK _ _ hg_2.1 _ h hW hS (lv_sub hl [3, 0] rfl)
  replace h := (if_neg c_3).symm.trans h
  refine lv_iload_n hx hb dX11_register_16 rfl (lv_at hl 3 rfl) ?_
  refine lv_bipush (v := (8 : Int32)) hx hb dX11_register_17 (by decide) ?_
  refine lv_icmp_gt (tgt := 31) hx hb dX11_register_19 (by decide) (fun c_7 => ?_) (fun c_7 => ?_)
  · replace h := (if_pos c_7).symm.trans h
    exact m_c11_register_b31 hN hI  F hr hlk hK _ _ hg_2.1 _ h hW hS (lv_sub hl [3, 0] rfl)
  replace h := (if_neg c_7).symm.trans h
  refine lv_aload_n hx hb dX11_register_22 rfl (lv_at hl 0 rfl) ?_
  refine x_getN F hK hW xc_X6 (cd_dX6 hg_2.1) (cd_eX6 hN hg_2.1) 0 (by decide) kn_56 (rfl) dX11_register_23 ?_
  refine lv_iload_n hx hb dX11_register_26 rfl (lv_at hl 3 rfl) ?_
  refine x_cVi (As := [.int a2]) F xG_ok hK hW hS um_X1_processorFact k_5_88 (fun _ h1 => m_c1_processorFact hN hI hg_2.1 _ h1) rfl (cd_dX1 hg_2.1) (cd_eX1 hN hg_2.1) rfl rfl hl.1 rfl rfl ⟨Nat.le_of_ble_eq_true rfl, Nat.le_of_ble_eq_true rfl⟩ ⟨Nat.zero_le _, Nat.zero_le _⟩ (Nat.le_of_ble_eq_true rfl) dX11_register_27 h (fun r_8 S8 H locs hW hS h => ?_)
  exact x_iret F hr hlk hW hS dX11_register_30 h
/-! X11_peek -/
def c11_peek (N : Nat) (S : xS) (a1 : Int32) (a2 : Int32) : Option (Int32 × xS) := (c11_nodeAt N S a1).bind (fun (r_1, S1) => xcs r_1 (some ((-1 : Int32), S1)) (fun n_2 j_2 => gq (n_2 < N ∧ j_2 = 0) ((c11_isInMemory a2).bind (fun r_3 => if r_3 = 0 then (some ((-1 : Int32), S1)) else ((c5_byteAt n_2 2 S1 a2).bind (fun (r_5, S5) => some (r_5, S5)))))))
set_option maxHeartbeats 4000000 in
set_option maxRecDepth 100000 in
theorem m_c11_peek {l : Launch} {D : va_G} {cI cJ cL cN : ClassId} {ad : Nat → Nat → Nat} {N : Nat} (hN : N ≤ 8) (hI : xInj (cDom N) ad)  {S : xS} (a1 : Int32) (a2 : Int32) {o : Int32 × xS} (h : c11_peek N S a1 a2 = some o) : Met l yX11_peek (Cond.code yX11_peek cX11_peek 4 (some .int) :: xG) { frames := 1, cells := 0, slots := 0, locals := 22 } (xPc D vwCl (cTy cI cJ cL cN) cNf cNm (cDom N) ad (cDe ad N cI cJ cL cN) [.ref (ad 9 0), .int a1, .int a2] S) (xQ D vwCl (cDom N) ad (cDe ad N cI cJ cL cN) (some (.int o.1)) o.2) 0 0 (xA (cDom N) ad) := by
  unfold c11_peek at h
  refine x_enter (by decide) (Nat.le_of_ble_eq_true rfl) (fun p e s m below meth c F hr hlk hK hW hS ls hl => ?_)
  have hl : lv_has ls 4 [(0, .ref (ad 9 0)), (1, .int a1), (2, .int a2)] := hl
  have hx := F.1
  have hb := F.2.1
  refine lv_aload_n hx hb dX11_peek_0 rfl (lv_at hl 0 rfl) ?_
  refine lv_iload_n hx hb dX11_peek_1 rfl (lv_at hl 1 rfl) ?_
  refine x_cVq (As := [.int a1]) F xG_ok hK hW hS um_X11_nodeAt k_2_190 (fun _ h1 => m_c11_nodeAt hN hI  _ h1) rfl cd_dX11 cd_eX11 rfl rfl hl.1 rfl rfl ⟨Nat.le_of_ble_eq_true rfl, Nat.le_of_ble_eq_true rfl⟩ ⟨Nat.zero_le _, Nat.zero_le _⟩ (Nat.le_of_ble_eq_true rfl) dX11_peek_2 h (fun r_1 S1 H locs hW hS h => ?_)
  refine x_astore_nq (lv' := [(3, xRv ad r_1), (0, .ref (ad 9 0)), (1, .int a1), (2, .int a2)]) hx hb dX11_peek_5 rfl hl (by decide) rfl (fun ls hl => ?_)
  refine x_aload_nq hx hb dX11_peek_6 rfl (lv_at hl 0 rfl) ?_
  rcases r_1 with _ | ⟨n_2, j_2⟩
  · replace h := xcs_n h
    have hl : lv_has ls 4 [(3, .null), (0, .ref (ad 9 0)), (1, .int a1), (2, .int a2)] := hl
    refine lv_ifnullN (tgt := 17) hx hb dX11_peek_7 (by decide) ?_
    refine lv_iconst (v := (-1 : Int32)) hx hb dX11_peek_17 (by decide) ?_
    exact x_iret F hr hlk hW hS dX11_peek_18 h
  replace h := xcs_s h
  have hg_2 := (gq_use h).1
  replace h := (gq_use h).2
  obtain ⟨-, he_2⟩ := id hg_2
  subst he_2
  have hl : lv_has ls 4 [(3, .ref (ad n_2 0)), (0, .ref (ad 9 0)), (1, .int a1), (2, .int a2)] := hl
  refine lv_ifnull hx hb dX11_peek_7 ?_
  refine lv_iload_n hx hb dX11_peek_10 rfl (lv_at hl 3 rfl) ?_
  refine x_cSo (As := [.int a2]) F xG_ok hS um_X11_isInMemory k_2_225 (fun _ h1 => m_c11_isInMemory _ h1) rfl rfl hl.1 rfl rfl ⟨Nat.le_of_ble_eq_true rfl, Nat.le_of_ble_eq_true rfl⟩ ⟨Nat.zero_le _, Nat.zero_le _⟩ (Nat.le_of_ble_eq_true rfl) dX11_peek_11 h (fun r_3 locs hS h => ?_)
  refine lv_if_ne (tgt := 19) hx hb dX11_peek_14 (by decide) (fun c_4 => ?_) (fun c_4 => ?_)
  · replace h := (if_neg c_4).symm.trans h
    refine lv_aload_n hx hb dX11_peek_19 rfl (lv_at hl 0 rfl) ?_
    refine x_getN F hK hW xc_X6 (cd_dX6 hg_2.1) (cd_eX6 hN hg_2.1) 0 (by decide) kn_56 (rfl) dX11_peek_20 ?_
    refine x_getN F hK hW xc_X1 (cd_dX1 hg_2.1) (cd_eX1 hN hg_2.1) 0 (by decide) kn_28 (rfl) dX11_peek_23 ?_
    refine lv_iload_n hx hb dX11_peek_26 rfl (lv_at hl 3 rfl) ?_
    refine x_cVi (As := [.int a2]) F xG_ok hK hW hS um_X5_byteAt k_5_100 (fun _ h1 => m_c5_byteAt hN hI (is5n hg_2.1) _ h1) rfl (cd_dX5 (is5n hg_2.1)) (cd_eX5 hN (is5n hg_2.1)) rfl rfl hl.1 rfl rfl ⟨Nat.le_of_ble_eq_true rfl, Nat.le_of_ble_eq_true rfl⟩ ⟨Nat.zero_le _, Nat.zero_le _⟩ (Nat.le_of_ble_eq_true rfl) dX11_peek_27 h (fun r_5 S5 H locs hW hS h => ?_)
    exact x_iret F hr hlk hW hS dX11_peek_30 h
  replace h := (if_pos c_4).symm.trans h
  refine lv_iconst (v := (-1 : Int32)) hx hb dX11_peek_17 (by decide) ?_
  exact x_iret F hr hlk hW hS dX11_peek_18 h
/-! X11_link -/
def c11_link (N : Nat) (S : xS) (a1 : Int32) (a2 : Int32) (a3 : Int32) : Option (Int32 × xS) := (c11_linkAt N S a1 a2).bind (fun (r_1, S1) => xcs r_1 (some ((-2 : Int32), S1)) (fun n_2 j_2 => gq (n_2 < N ∧ 12 ≤ j_2 ∧ j_2 < 16) ((c4_fact n_2 j_2 S1 a3).bind (fun (r_3, S3) => some (r_3, S3)))))
set_option maxHeartbeats 4000000 in
set_option maxRecDepth 100000 in
theorem m_c11_link {l : Launch} {D : va_G} {cI cJ cL cN : ClassId} {ad : Nat → Nat → Nat} {N : Nat} (hN : N ≤ 8) (hI : xInj (cDom N) ad)  {S : xS} (a1 : Int32) (a2 : Int32) (a3 : Int32) {o : Int32 × xS} (h : c11_link N S a1 a2 a3 = some o) : Met l yX11_link (Cond.code yX11_link cX11_link 5 (some .int) :: xG) { frames := 2, cells := 0, slots := 0, locals := 44 } (xPc D vwCl (cTy cI cJ cL cN) cNf cNm (cDom N) ad (cDe ad N cI cJ cL cN) [.ref (ad 9 0), .int a1, .int a2, .int a3] S) (xQ D vwCl (cDom N) ad (cDe ad N cI cJ cL cN) (some (.int o.1)) o.2) 0 0 (xA (cDom N) ad) := by
  unfold c11_link at h
  refine x_enter (by decide) (Nat.le_of_ble_eq_true rfl) (fun p e s m below meth c F hr hlk hK hW hS ls hl => ?_)
  have hl : lv_has ls 5 [(0, .ref (ad 9 0)), (1, .int a1), (2, .int a2), (3, .int a3)] := hl
  have hx := F.1
  have hb := F.2.1
  refine lv_aload_n hx hb dX11_link_0 rfl (lv_at hl 0 rfl) ?_
  refine lv_iload_n hx hb dX11_link_1 rfl (lv_at hl 1 rfl) ?_
  refine lv_iload_n hx hb dX11_link_2 rfl (lv_at hl 2 rfl) ?_
  refine x_cVq (As := [.int a1, .int a2]) F xG_ok hK hW hS um_X11_linkAt k_2_186 (fun _ h1 => m_c11_linkAt hN hI  _ _ h1) rfl cd_dX11 cd_eX11 rfl rfl hl.1 rfl rfl ⟨Nat.le_of_ble_eq_true rfl, Nat.le_of_ble_eq_true rfl⟩ ⟨Nat.zero_le _, Nat.zero_le _⟩ (Nat.le_of_ble_eq_true rfl) dX11_link_3 h (fun r_1 S1 H locs hW hS h => ?_)
  refine x_astoreq (lv' := [(4, xRv ad r_1), (0, .ref (ad 9 0)), (1, .int a1), (2, .int a2), (3, .int a3)]) hx hb dX11_link_6 hl (by decide) rfl (fun ls hl => ?_)
  refine x_aloadq hx hb dX11_link_8 (lv_at hl 0 rfl) ?_
  rcases r_1 with _ | ⟨n_2, j_2⟩
  · replace h := xcs_n h
    have hl : lv_has ls 5 [(4, .null), (0, .ref (ad 9 0)), (1, .int a1), (2, .int a2), (3, .int a3)] := hl
    refine lv_ifnonnullN hx hb dX11_link_10 ?_
    refine lv_bipush (v := (-2 : Int32)) hx hb dX11_link_13 (by decide) ?_
    exact x_iret F hr hlk hW hS dX11_link_15 h
  replace h := xcs_s h
  have hg_2 := (gq_use h).1
  replace h := (gq_use h).2
  have hl : lv_has ls 5 [(4, .ref (ad n_2 j_2)), (0, .ref (ad 9 0)), (1, .int a1), (2, .int a2), (3, .int a3)] := hl
  refine lv_ifnonnull (tgt := 16) hx hb dX11_link_10 (by decide) ?_
  refine lv_aload hx hb dX11_link_16 (lv_at hl 0 rfl) ?_
  refine lv_iload_n hx hb dX11_link_18 rfl (lv_at hl 4 rfl) ?_
  refine x_cVi (As := [.int a3]) F xG_ok hK hW hS um_X4_fact k_5_105 (fun _ h1 => m_c4_fact hN hI hg_2 _ h1) rfl (cd_dX4 hg_2) (cd_eX4 hN hg_2) rfl rfl hl.1 rfl rfl ⟨Nat.le_of_ble_eq_true rfl, Nat.le_of_ble_eq_true rfl⟩ ⟨Nat.zero_le _, Nat.zero_le _⟩ (Nat.le_of_ble_eq_true rfl) dX11_link_19 h (fun r_3 S3 H locs hW hS h => ?_)
  exact x_iret F hr hlk hW hS dX11_link_22 h
/-! X11_out -/
def c11_out (N : Nat) (S : xS) (a1 : Int32) : Option (Int32 × xS) := (c3_keptAt  S a1).bind (fun (r_1, S1) => some (r_1, S1))
set_option maxHeartbeats 4000000 in
set_option maxRecDepth 100000 in
theorem m_c11_out {l : Launch} {D : va_G} {cI cJ cL cN : ClassId} {ad : Nat → Nat → Nat} {N : Nat} (hN : N ≤ 8) (hI : xInj (cDom N) ad)  {S : xS} (a1 : Int32) {o : Int32 × xS} (h : c11_out N S a1 = some o) : Met l yX11_out (Cond.code yX11_out cX11_out 2 (some .int) :: xG) { frames := 2, cells := 0, slots := 0, locals := 43 } (xPc D vwCl (cTy cI cJ cL cN) cNf cNm (cDom N) ad (cDe ad N cI cJ cL cN) [.ref (ad 9 0), .int a1] S) (xQ D vwCl (cDom N) ad (cDe ad N cI cJ cL cN) (some (.int o.1)) o.2) 0 0 (xA (cDom N) ad) := by
  unfold c11_out at h
  refine x_enter (by decide) (Nat.le_of_ble_eq_true rfl) (fun p e s m below meth c F hr hlk hK hW hS ls hl => ?_)
  have hl : lv_has ls 2 [(0, .ref (ad 9 0)), (1, .int a1)] := hl
  have hx := F.1
  have hb := F.2.1
  refine lv_aload_n hx hb dX11_out_0 rfl (lv_at hl 0 rfl) ?_
  refine x_get F hK hW xc_X11 cd_dX11 cd_eX11 1 (by decide) k_2_169 (rfl) dX11_out_1 ?_
  refine lv_iload_n hx hb dX11_out_4 rfl (lv_at hl 1 rfl) ?_
  refine x_cVi (As := [.int a1]) F xG_ok hK hW hS um_X3_keptAt k_5_113 (fun _ h1 => m_c3_keptAt hN hI  _ h1) rfl cd_dX3 cd_eX3 rfl rfl hl.1 rfl rfl ⟨Nat.le_of_ble_eq_true rfl, Nat.le_of_ble_eq_true rfl⟩ ⟨Nat.zero_le _, Nat.zero_le _⟩ (Nat.le_of_ble_eq_true rfl) dX11_out_5 h (fun r_1 S1 H locs hW hS h => ?_)
  exact x_iret F hr hlk hW hS dX11_out_8 h
