/-! X7_addToCrc -/
def c7_addToCrc_b73 (n : Nat) (K19 : Int32 → Int32 → Int32 → Int32 → xS → Option (xS)) (v1 : Int32) (v2 : Int32) (v3 : Int32) (v4 : Int32) (S : xS) : Option (xS) := K19 v1 v2 v3 (v4 + (1 : Int32)) S
set_option maxHeartbeats 4000000 in
set_option maxRecDepth 100000 in
theorem m_c7_addToCrc_b73 {l : Launch} {D : va_G} {cI cJ cL cN : ClassId} {ad : Nat → Nat → Nat} {N : Nat} (hN : N ≤ 8) (hI : xInj (cDom N) ad) {n : Nat} (hn : n < N) {p : Program} {e : Env} {s : State} {m : MethodId} {args : Array Value} {below : List Frame} {meth : Method} {c : Code} (F : CallFix p m c cX7_addToCrc 6 s args (Cond.code yX7_addToCrc cX7_addToCrc 6 none :: xG) (yX7_addToCrc).cls) (hr : meth.sig.returnType = none) (hlk : meth.locks = false) (hK : xK D vwCl (cTy cI cJ cL cN) cNf cNm s) {o : xS} {K19 : Int32 → Int32 → Int32 → Int32 → xS → Option (xS)} (hk19 : ∀ (v1 : Int32) (v2 : Int32) (v3 : Int32) (v4 : Int32) (S : xS) (H : Heap) (locs : List Loc) (ls : Array Slot), K19 v1 v2 v3 v4 S = some o → xW D vwCl (cDom N) ad (cDe ad N cI cJ cL cN) S H → va_S (xA (cDom N) ad) s.heap H locs → lv_has ls 6 [(0, .ref (ad n 20)), (1, .int v1), (2, .int v2), (3, .int v3), (4, .int v4)] → W p l e { frames := 1, cells := 0, slots := 0, locals := 21 } s m args below meth c H locs 0 0 (MQ below (xQ D vwCl (cDom N) ad (cDe ad N cI cJ cL cN) none o) args s 0 0 (xA (cDom N) ad)) (F0 m 19 ls [])) (v1 : Int32) (v2 : Int32) (v3 : Int32) (v4 : Int32) (S : xS) {H : Heap} {locs : List Loc} {ls : Array Slot} (h : c7_addToCrc_b73 n K19 v1 v2 v3 v4 S = some o) (hW : xW D vwCl (cDom N) ad (cDe ad N cI cJ cL cN) S H) (hS : va_S (xA (cDom N) ad) s.heap H locs) (hl : lv_has ls 6 [(0, .ref (ad n 20)), (1, .int v1), (2, .int v2), (3, .int v3), (4, .int v4)]) : W p l e { frames := 1, cells := 0, slots := 0, locals := 21 } s m args below meth c H locs 0 0 (MQ below (xQ D vwCl (cDom N) ad (cDe ad N cI cJ cL cN) none o) args s 0 0 (xA (cDom N) ad)) (F0 m 73 ls []) := by
  have hx := F.1
  have hb := F.2.1
  unfold c7_addToCrc_b73 at h
  refine lv_iinc (v := (v4 + (1 : Int32))) (lv' := [(4, .int (v4 + (1 : Int32))), (0, .ref (ad n 20)), (1, .int v1), (2, .int v2), (3, .int v3)]) hx hb dX7_addToCrc_73 hl (k := 4) rfl rfl (by decide) rfl (fun ls hl => ?_)
  refine lv_goto (tgt := 19) hx hb dX7_addToCrc_76 (by decide) ?_
  exact hk19 _ _ _ _ _ _ _ _ h hW hS (lv_sub hl [1, 2, 3, 4, 0] rfl)
def c7_addToCrc_b37 (n : Nat) (K19 : Int32 → Int32 → Int32 → Int32 → xS → Option (xS)) (v1 : Int32) (v2 : Int32) (v3 : Int32) (v4 : Int32) (t0 : Int32) (S : xS) : Option (xS) := if t0 = 0 then (c7_addToCrc_b73 n K19 v1 ((v2 <<< ((1 : Int32) &&& 31)) &&& (65535 : Int32)) (((v3 <<< ((1 : Int32) &&& 31)) ||| (v2 >>> ((15 : Int32) &&& 31))) &&& (65535 : Int32)) v4 S) else (c7_addToCrc_b73 n K19 v1 ((v2 <<< ((1 : Int32) &&& 31)) &&& (65535 : Int32)) ((((v3 <<< ((1 : Int32) &&& 31)) ||| (v2 >>> ((15 : Int32) &&& 31))) &&& (65535 : Int32)) ^^^ (xI S n 4 2)) v4 S)
set_option maxHeartbeats 4000000 in
set_option maxRecDepth 100000 in
theorem m_c7_addToCrc_b37 {l : Launch} {D : va_G} {cI cJ cL cN : ClassId} {ad : Nat → Nat → Nat} {N : Nat} (hN : N ≤ 8) (hI : xInj (cDom N) ad) {n : Nat} (hn : n < N) {p : Program} {e : Env} {s : State} {m : MethodId} {args : Array Value} {below : List Frame} {meth : Method} {c : Code} (F : CallFix p m c cX7_addToCrc 6 s args (Cond.code yX7_addToCrc cX7_addToCrc 6 none :: xG) (yX7_addToCrc).cls) (hr : meth.sig.returnType = none) (hlk : meth.locks = false) (hK : xK D vwCl (cTy cI cJ cL cN) cNf cNm s) {o : xS} {K19 : Int32 → Int32 → Int32 → Int32 → xS → Option (xS)} (hk19 : ∀ (v1 : Int32) (v2 : Int32) (v3 : Int32) (v4 : Int32) (S : xS) (H : Heap) (locs : List Loc) (ls : Array Slot), K19 v1 v2 v3 v4 S = some o → xW D vwCl (cDom N) ad (cDe ad N cI cJ cL cN) S H → va_S (xA (cDom N) ad) s.heap H locs → lv_has ls 6 [(0, .ref (ad n 20)), (1, .int v1), (2, .int v2), (3, .int v3), (4, .int v4)] → W p l e { frames := 1, cells := 0, slots := 0, locals := 21 } s m args below meth c H locs 0 0 (MQ below (xQ D vwCl (cDom N) ad (cDe ad N cI cJ cL cN) none o) args s 0 0 (xA (cDom N) ad)) (F0 m 19 ls [])) (v1 : Int32) (v2 : Int32) (v3 : Int32) (v4 : Int32) (t0 : Int32) (S : xS) {H : Heap} {locs : List Loc} {ls : Array Slot} (h : c7_addToCrc_b37 n K19 v1 v2 v3 v4 t0 S = some o) (hW : xW D vwCl (cDom N) ad (cDe ad N cI cJ cL cN) S H) (hS : va_S (xA (cDom N) ad) s.heap H locs) (hl : lv_has ls 6 [(0, .ref (ad n 20)), (1, .int v1), (2, .int v2), (3, .int v3), (4, .int v4)]) : W p l e { frames := 1, cells := 0, slots := 0, locals := 21 } s m args below meth c H locs 0 0 (MQ below (xQ D vwCl (cDom N) ad (cDe ad N cI cJ cL cN) none o) args s 0 0 (xA (cDom N) ad)) (F0 m 37 ls [.int t0]) := by
  have hx := F.1
  have hb := F.2.1
  unfold c7_addToCrc_b37 at h
  refine lv_istore (lv' := [(5, .int t0), (0, .ref (ad n 20)), (1, .int v1), (2, .int v2), (3, .int v3), (4, .int v4)]) hx hb dX7_addToCrc_37 hl (by decide) rfl (fun ls hl => ?_)
  refine lv_iload_n hx hb dX7_addToCrc_39 rfl (lv_at hl 4 rfl) ?_
  refine lv_iconst (v := (1 : Int32)) hx hb dX7_addToCrc_40 (by decide) ?_
  refine lv_ishl hx hb dX7_addToCrc_41 ?_
  refine lv_iload_n hx hb dX7_addToCrc_42 rfl (lv_at hl 3 rfl) ?_
  refine lv_bipush (v := (15 : Int32)) hx hb dX7_addToCrc_43 (by decide) ?_
  refine lv_ishr hx hb dX7_addToCrc_45 ?_
  refine lv_ior hx hb dX7_addToCrc_46 ?_
  refine lv_ldc (v := (65535 : Int32)) hx hb F.2.2.2.1 (x_hts F _ k_4_18) dX7_addToCrc_47 ?_
  refine lv_iand hx hb dX7_addToCrc_49 ?_
  refine lv_istore_n (lv' := [(3, .int (((v3 <<< ((1 : Int32) &&& 31)) ||| (v2 >>> ((15 : Int32) &&& 31))) &&& (65535 : Int32))), (5, .int t0), (0, .ref (ad n 20)), (1, .int v1), (2, .int v2), (4, .int v4)]) hx hb dX7_addToCrc_50 rfl hl (by decide) rfl (fun ls hl => ?_)
  refine lv_iload_n hx hb dX7_addToCrc_51 rfl (lv_at hl 4 rfl) ?_
  refine lv_iconst (v := (1 : Int32)) hx hb dX7_addToCrc_52 (by decide) ?_
  refine lv_ishl hx hb dX7_addToCrc_53 ?_
  refine lv_ldc (v := (65535 : Int32)) hx hb F.2.2.2.1 (x_hts F _ k_4_18) dX7_addToCrc_54 ?_
  refine lv_iand hx hb dX7_addToCrc_56 ?_
  refine lv_istore_n (lv' := [(2, .int ((v2 <<< ((1 : Int32) &&& 31)) &&& (65535 : Int32))), (3, .int (((v3 <<< ((1 : Int32) &&& 31)) ||| (v2 >>> ((15 : Int32) &&& 31))) &&& (65535 : Int32))), (5, .int t0), (0, .ref (ad n 20)), (1, .int v1), (4, .int v4)]) hx hb dX7_addToCrc_57 rfl hl (by decide) rfl (fun ls hl => ?_)
  refine lv_iload hx hb dX7_addToCrc_58 (lv_at hl 2 rfl) ?_
  refine lv_if_eq (tgt := 73) hx hb dX7_addToCrc_60 (by decide) (fun c_4 => ?_) (fun c_4 => ?_)
  · replace h := (if_pos c_4).symm.trans h
    exact m_c7_addToCrc_b73 hN hI hn F hr hlk hK hk19 _ _ _ _ _ h hW hS (lv_sub hl [3, 4, 0, 1, 5] rfl)
  replace h := (if_neg c_4).symm.trans h
  refine lv_iload_n hx hb dX7_addToCrc_63 rfl (lv_at hl 1 rfl) ?_
  refine lv_aload_n hx hb dX7_addToCrc_64 rfl (lv_at hl 3 rfl) ?_
  refine x_get F hK hW xc_X7 (cd_dX7 hn) (cd_eX7 hN hn) 1 (by decide) k_2_90 (rfl) dX7_addToCrc_65 ?_
  refine x_getN F hK hW xc_X9 (cd_dX9 ⟨hn, Or.inl rfl⟩) (cd_eX9 hN ⟨hn, Or.inl rfl⟩) 2 (by decide) kn_8 (rfl) dX7_addToCrc_68 ?_
  refine lv_ixor hx hb dX7_addToCrc_71 ?_
  refine lv_istore_n (lv' := [(3, .int ((((v3 <<< ((1 : Int32) &&& 31)) ||| (v2 >>> ((15 : Int32) &&& 31))) &&& (65535 : Int32)) ^^^ (xI S n 4 2))), (2, .int ((v2 <<< ((1 : Int32) &&& 31)) &&& (65535 : Int32))), (5, .int t0), (0, .ref (ad n 20)), (1, .int v1), (4, .int v4)]) hx hb dX7_addToCrc_72 rfl hl (by decide) rfl (fun ls hl => ?_)
  exact m_c7_addToCrc_b73 hN hI hn F hr hlk hK hk19 _ _ _ _ _ h hW hS (lv_sub hl [3, 4, 1, 0, 5] rfl)
def c7_addToCrc_b19 (n : Nat) : Nat → Int32 → Int32 → Int32 → Int32 → xS → Option (xS)
  | 0, _, _, _, _, _ => none
  | fu + 1, v1, v2, v3, v4, S => if v1 ≤ v4 then ((c9_replaceTwo n 4 S v3).bind (fun S2 => some S2)) else (if (v3 &&& (32768 : Int32)) = 0 then (c7_addToCrc_b37 n (c7_addToCrc_b19 n fu) v1 v2 v3 v4 (0 : Int32) S) else (c7_addToCrc_b37 n (c7_addToCrc_b19 n fu) v1 v2 v3 v4 (1 : Int32) S))
set_option maxHeartbeats 4000000 in
set_option maxRecDepth 100000 in
theorem m_c7_addToCrc_b19 {l : Launch} {D : va_G} {cI cJ cL cN : ClassId} {ad : Nat → Nat → Nat} {N : Nat} (hN : N ≤ 8) (hI : xInj (cDom N) ad) {n : Nat} (hn : n < N) {p : Program} {e : Env} {s : State} {m : MethodId} {args : Array Value} {below : List Frame} {meth : Method} {c : Code} (F : CallFix p m c cX7_addToCrc 6 s args (Cond.code yX7_addToCrc cX7_addToCrc 6 none :: xG) (yX7_addToCrc).cls) (hr : meth.sig.returnType = none) (hlk : meth.locks = false) (hK : xK D vwCl (cTy cI cJ cL cN) cNf cNm s) {o : xS} : ∀ (fu : Nat) (v1 : Int32) (v2 : Int32) (v3 : Int32) (v4 : Int32) (S : xS) {H : Heap} {locs : List Loc} {ls : Array Slot}, c7_addToCrc_b19 n fu v1 v2 v3 v4 S = some o → xW D vwCl (cDom N) ad (cDe ad N cI cJ cL cN) S H → va_S (xA (cDom N) ad) s.heap H locs → lv_has ls 6 [(0, .ref (ad n 20)), (1, .int v1), (2, .int v2), (3, .int v3), (4, .int v4)] → W p l e { frames := 1, cells := 0, slots := 0, locals := 21 } s m args below meth c H locs 0 0 (MQ below (xQ D vwCl (cDom N) ad (cDe ad N cI cJ cL cN) none o) args s 0 0 (xA (cDom N) ad)) (F0 m 19 ls []) := by
  have hx := F.1
  have hb := F.2.1
  intro fu
  induction fu with
  | zero =>
    intro v1 v2 v3 v4 S H locs ls h
    simp [c7_addToCrc_b19] at h
  | succ fu ih =>
    intro v1 v2 v3 v4 S H locs ls h hW hS hl
    have hk19 := fun v1 v2 v3 v4 S H locs ls (h : c7_addToCrc_b19 n fu v1 v2 v3 v4 S = some o) hW hS hl => ih v1 v2 v3 v4 S (H := H) (locs := locs) (ls := ls) h hW hS hl
    rw [c7_addToCrc_b19] at h
    refine lv_iload hx hb dX7_addToCrc_19 (lv_at hl 4 rfl) ?_
    refine lv_iload_n hx hb dX7_addToCrc_21 rfl (lv_at hl 1 rfl) ?_
    refine lv_icmp_ge (tgt := 79) hx hb dX7_addToCrc_22 (by decide) (fun c_1 => ?_) (fun c_1 => ?_)
    · replace h := (if_pos c_1).symm.trans h
      refine lv_aload_n hx hb dX7_addToCrc_79 rfl (lv_at hl 0 rfl) ?_
      refine x_get F hK hW xc_X7 (cd_dX7 hn) (cd_eX7 hN hn) 1 (by decide) k_2_90 (rfl) dX7_addToCrc_80 ?_
      refine lv_iload_n hx hb dX7_addToCrc_83 rfl (lv_at hl 3 rfl) ?_
      refine x_cVv (As := [.int v3]) F xG_ok hK hW hS um_X9_replaceTwo k_4_62 (fun _ h1 => m_c9_replaceTwo hN hI ⟨hn, Or.inl rfl⟩ _ h1) rfl (cd_dX9 ⟨hn, Or.inl rfl⟩) (cd_eX9 hN ⟨hn, Or.inl rfl⟩) rfl rfl hl.1 rfl rfl ⟨Nat.le_of_ble_eq_true rfl, Nat.le_of_ble_eq_true rfl⟩ ⟨Nat.zero_le _, Nat.zero_le _⟩ (Nat.le_of_ble_eq_true rfl) dX7_addToCrc_84 h (fun S2 H locs hW hS h => ?_)
      exact x_vret F hr hlk hW hS dX7_addToCrc_87 h
    replace h := (if_neg c_1).symm.trans h
    refine lv_iload_n hx hb dX7_addToCrc_25 rfl (lv_at hl 3 rfl) ?_
    refine lv_ldc (v := (32768 : Int32)) hx hb F.2.2.2.1 (x_hts F _ k_4_82) dX7_addToCrc_26 ?_
    refine lv_iand hx hb dX7_addToCrc_28 ?_
    refine lv_if_eq (tgt := 36) hx hb dX7_addToCrc_29 (by decide) (fun c_3 => ?_) (fun c_3 => ?_)
    · replace h := (if_pos c_3).symm.trans h
      refine lv_iconst (v := (0 : Int32)) hx hb dX7_addToCrc_36 (by decide) ?_
      exact m_c7_addToCrc_b37 hN hI hn F hr hlk hK hk19 _ _ _ _ _ _ h hW hS (lv_sub hl [0, 1, 2, 3, 4] rfl)
    replace h := (if_neg c_3).symm.trans h
    refine lv_iconst (v := (1 : Int32)) hx hb dX7_addToCrc_32 (by decide) ?_
    refine lv_goto (tgt := 37) hx hb dX7_addToCrc_33 (by decide) ?_
    exact m_c7_addToCrc_b37 hN hI hn F hr hlk hK hk19 _ _ _ _ _ _ h hW hS (lv_sub hl [0, 1, 2, 3, 4] rfl)
def c7_addToCrc (n : Nat) (S : xS) (a1 : Int32) : Option (xS) := c7_addToCrc_b19 n (100000) a1 (xI S n 4 0) (xI S n 4 1) (0 : Int32) S
set_option maxHeartbeats 4000000 in
set_option maxRecDepth 100000 in
theorem m_c7_addToCrc {l : Launch} {D : va_G} {cI cJ cL cN : ClassId} {ad : Nat → Nat → Nat} {N : Nat} (hN : N ≤ 8) (hI : xInj (cDom N) ad) {n : Nat} (hn : n < N) {S : xS} (a1 : Int32) {o : xS} (h : c7_addToCrc n S a1 = some o) : Met l yX7_addToCrc (Cond.code yX7_addToCrc cX7_addToCrc 6 none :: xG) { frames := 1, cells := 0, slots := 0, locals := 21 } (xPc D vwCl (cTy cI cJ cL cN) cNf cNm (cDom N) ad (cDe ad N cI cJ cL cN) [.ref (ad n 20), .int a1] S) (xQ D vwCl (cDom N) ad (cDe ad N cI cJ cL cN) none o) 0 0 (xA (cDom N) ad) := by
  unfold c7_addToCrc at h
  refine x_enter (by decide) (Nat.le_of_ble_eq_true rfl) (fun p e s m below meth c F hr hlk hK hW hS ls hl => ?_)
  have hl : lv_has ls 6 [(0, .ref (ad n 20)), (1, .int a1)] := hl
  have hx := F.1
  have hb := F.2.1
  refine lv_aload_n hx hb dX7_addToCrc_0 rfl (lv_at hl 0 rfl) ?_
  refine x_get F hK hW xc_X7 (cd_dX7 hn) (cd_eX7 hN hn) 1 (by decide) k_2_90 (rfl) dX7_addToCrc_1 ?_
  refine x_getN F hK hW xc_X9 (cd_dX9 ⟨hn, Or.inl rfl⟩) (cd_eX9 hN ⟨hn, Or.inl rfl⟩) 0 (by decide) kn_2 (rfl) dX7_addToCrc_4 ?_
  refine lv_istore_n (lv' := [(2, .int (xI S n 4 0)), (0, .ref (ad n 20)), (1, .int a1)]) hx hb dX7_addToCrc_7 rfl hl (by decide) rfl (fun ls hl => ?_)
  refine lv_aload_n hx hb dX7_addToCrc_8 rfl (lv_at hl 1 rfl) ?_
  refine x_get F hK hW xc_X7 (cd_dX7 hn) (cd_eX7 hN hn) 1 (by decide) k_2_90 (rfl) dX7_addToCrc_9 ?_
  refine x_getN F hK hW xc_X9 (cd_dX9 ⟨hn, Or.inl rfl⟩) (cd_eX9 hN ⟨hn, Or.inl rfl⟩) 1 (by decide) kn_5 (rfl) dX7_addToCrc_12 ?_
  refine lv_istore_n (lv' := [(3, .int (xI S n 4 1)), (2, .int (xI S n 4 0)), (0, .ref (ad n 20)), (1, .int a1)]) hx hb dX7_addToCrc_15 rfl hl (by decide) rfl (fun ls hl => ?_)
  refine lv_iconst (v := (0 : Int32)) hx hb dX7_addToCrc_16 (by decide) ?_
  refine lv_istore (lv' := [(4, .int (0 : Int32)), (3, .int (xI S n 4 1)), (2, .int (xI S n 4 0)), (0, .ref (ad n 20)), (1, .int a1)]) hx hb dX7_addToCrc_17 hl (by decide) rfl (fun ls hl => ?_)
  exact m_c7_addToCrc_b19 hN hI hn F hr hlk hK (100000) _ _ _ _ _ h hW hS (lv_sub hl [3, 4, 2, 1, 0] rfl)
/-! J6_bitCount_0f7a4 -/
def j6_bitCount_0f7a4 (a1 : Int32) : Option Int32 := some ((((((((a1 - ((iush a1 (1 : Int32)) &&& (1431655765 : Int32))) &&& (858993459 : Int32)) + ((iush (a1 - ((iush a1 (1 : Int32)) &&& (1431655765 : Int32))) (2 : Int32)) &&& (858993459 : Int32))) + (iush (((a1 - ((iush a1 (1 : Int32)) &&& (1431655765 : Int32))) &&& (858993459 : Int32)) + ((iush (a1 - ((iush a1 (1 : Int32)) &&& (1431655765 : Int32))) (2 : Int32)) &&& (858993459 : Int32))) (4 : Int32))) &&& (252645135 : Int32)) + (iush (((((a1 - ((iush a1 (1 : Int32)) &&& (1431655765 : Int32))) &&& (858993459 : Int32)) + ((iush (a1 - ((iush a1 (1 : Int32)) &&& (1431655765 : Int32))) (2 : Int32)) &&& (858993459 : Int32))) + (iush (((a1 - ((iush a1 (1 : Int32)) &&& (1431655765 : Int32))) &&& (858993459 : Int32)) + ((iush (a1 - ((iush a1 (1 : Int32)) &&& (1431655765 : Int32))) (2 : Int32)) &&& (858993459 : Int32))) (4 : Int32))) &&& (252645135 : Int32)) (8 : Int32))) + (iush ((((((a1 - ((iush a1 (1 : Int32)) &&& (1431655765 : Int32))) &&& (858993459 : Int32)) + ((iush (a1 - ((iush a1 (1 : Int32)) &&& (1431655765 : Int32))) (2 : Int32)) &&& (858993459 : Int32))) + (iush (((a1 - ((iush a1 (1 : Int32)) &&& (1431655765 : Int32))) &&& (858993459 : Int32)) + ((iush (a1 - ((iush a1 (1 : Int32)) &&& (1431655765 : Int32))) (2 : Int32)) &&& (858993459 : Int32))) (4 : Int32))) &&& (252645135 : Int32)) + (iush (((((a1 - ((iush a1 (1 : Int32)) &&& (1431655765 : Int32))) &&& (858993459 : Int32)) + ((iush (a1 - ((iush a1 (1 : Int32)) &&& (1431655765 : Int32))) (2 : Int32)) &&& (858993459 : Int32))) + (iush (((a1 - ((iush a1 (1 : Int32)) &&& (1431655765 : Int32))) &&& (858993459 : Int32)) + ((iush (a1 - ((iush a1 (1 : Int32)) &&& (1431655765 : Int32))) (2 : Int32)) &&& (858993459 : Int32))) (4 : Int32))) &&& (252645135 : Int32)) (8 : Int32))) (16 : Int32))) &&& (63 : Int32))
set_option maxHeartbeats 4000000 in
set_option maxRecDepth 100000 in
theorem m_j6_bitCount_0f7a4 {l : Launch} (a1 : Int32) {o : Int32} (h : j6_bitCount_0f7a4 a1 = some o) : Met l yJ6_bitCount_0f7a4 (Cond.code yJ6_bitCount_0f7a4 cJ6_bitCount_0f7a4 1 (some .int) :: xG) { frames := 0, cells := 0, slots := 0, locals := 0 } (va_Pc [.int a1] (fun _ => True)) (xQs o) 0 0 (fun _ => False) := by
  unfold j6_bitCount_0f7a4 at h
  refine x_sEnter (by decide) (Nat.le_of_ble_eq_true rfl) (fun p e s m below meth c F hr hlk hS ls hl => ?_)
  have hl : lv_has ls 1 [(0, .int a1)] := hl
  have hx := F.1
  have hb := F.2.1
  refine lv_iload_n hx hb dJ6_bitCount_0f7a4_0 rfl (lv_at hl 0 rfl) ?_
  refine lv_iload_n hx hb dJ6_bitCount_0f7a4_1 rfl (lv_at hl 0 rfl) ?_
  refine lv_iconst (v := (1 : Int32)) hx hb dJ6_bitCount_0f7a4_2 (by decide) ?_
  refine lv_iushr (v := (iush a1 (1 : Int32))) hx hb dJ6_bitCount_0f7a4_3 rfl ?_
  refine lv_ldcw (v := (1431655765 : Int32)) hx hb F.2.2.2.1 (x_hts F _ k_4_86) dJ6_bitCount_0f7a4_4 ?_
  refine lv_iand hx hb dJ6_bitCount_0f7a4_7 ?_
  refine lv_isub hx hb dJ6_bitCount_0f7a4_8 ?_
  refine lv_istore_n (lv' := [(0, .int (a1 - ((iush a1 (1 : Int32)) &&& (1431655765 : Int32))))]) hx hb dJ6_bitCount_0f7a4_9 rfl hl (by decide) rfl (fun ls hl => ?_)
  refine lv_iload_n hx hb dJ6_bitCount_0f7a4_10 rfl (lv_at hl 0 rfl) ?_
  refine lv_ldcw (v := (858993459 : Int32)) hx hb F.2.2.2.1 (x_hts F _ k_4_87) dJ6_bitCount_0f7a4_11 ?_
  refine lv_iand hx hb dJ6_bitCount_0f7a4_14 ?_
  refine lv_iload_n hx hb dJ6_bitCount_0f7a4_15 rfl (lv_at hl 0 rfl) ?_
  refine lv_iconst (v := (2 : Int32)) hx hb dJ6_bitCount_0f7a4_16 (by decide) ?_
  refine lv_iushr (v := (iush (a1 - ((iush a1 (1 : Int32)) &&& (1431655765 : Int32))) (2 : Int32))) hx hb dJ6_bitCount_0f7a4_17 rfl ?_
  refine lv_ldcw (v := (858993459 : Int32)) hx hb F.2.2.2.1 (x_hts F _ k_4_87) dJ6_bitCount_0f7a4_18 ?_
  refine lv_iand hx hb dJ6_bitCount_0f7a4_21 ?_
  refine lv_iadd hx hb dJ6_bitCount_0f7a4_22 ?_
  refine lv_istore_n (lv' := [(0, .int (((a1 - ((iush a1 (1 : Int32)) &&& (1431655765 : Int32))) &&& (858993459 : Int32)) + ((iush (a1 - ((iush a1 (1 : Int32)) &&& (1431655765 : Int32))) (2 : Int32)) &&& (858993459 : Int32))))]) hx hb dJ6_bitCount_0f7a4_23 rfl hl (by decide) rfl (fun ls hl => ?_)
  refine lv_iload_n hx hb dJ6_bitCount_0f7a4_24 rfl (lv_at hl 0 rfl) ?_
  refine lv_iload_n hx hb dJ6_bitCount_0f7a4_25 rfl (lv_at hl 0 rfl) ?_
  refine lv_iconst (v := (4 : Int32)) hx hb dJ6_bitCount_0f7a4_26 (by decide) ?_
  refine lv_iushr (v := (iush (((a1 - ((iush a1 (1 : Int32)) &&& (1431655765 : Int32))) &&& (858993459 : Int32)) + ((iush (a1 - ((iush a1 (1 : Int32)) &&& (1431655765 : Int32))) (2 : Int32)) &&& (858993459 : Int32))) (4 : Int32))) hx hb dJ6_bitCount_0f7a4_27 rfl ?_
  refine lv_iadd hx hb dJ6_bitCount_0f7a4_28 ?_
  refine lv_ldcw (v := (252645135 : Int32)) hx hb F.2.2.2.1 (x_hts F _ k_4_88) dJ6_bitCount_0f7a4_29 ?_
  refine lv_iand hx hb dJ6_bitCount_0f7a4_32 ?_
  refine lv_istore_n (lv' := [(0, .int (((((a1 - ((iush a1 (1 : Int32)) &&& (1431655765 : Int32))) &&& (858993459 : Int32)) + ((iush (a1 - ((iush a1 (1 : Int32)) &&& (1431655765 : Int32))) (2 : Int32)) &&& (858993459 : Int32))) + (iush (((a1 - ((iush a1 (1 : Int32)) &&& (1431655765 : Int32))) &&& (858993459 : Int32)) + ((iush (a1 - ((iush a1 (1 : Int32)) &&& (1431655765 : Int32))) (2 : Int32)) &&& (858993459 : Int32))) (4 : Int32))) &&& (252645135 : Int32)))]) hx hb dJ6_bitCount_0f7a4_33 rfl hl (by decide) rfl (fun ls hl => ?_)
  refine lv_iload_n hx hb dJ6_bitCount_0f7a4_34 rfl (lv_at hl 0 rfl) ?_
  refine lv_iload_n hx hb dJ6_bitCount_0f7a4_35 rfl (lv_at hl 0 rfl) ?_
  refine lv_bipush (v := (8 : Int32)) hx hb dJ6_bitCount_0f7a4_36 (by decide) ?_
  refine lv_iushr (v := (iush (((((a1 - ((iush a1 (1 : Int32)) &&& (1431655765 : Int32))) &&& (858993459 : Int32)) + ((iush (a1 - ((iush a1 (1 : Int32)) &&& (1431655765 : Int32))) (2 : Int32)) &&& (858993459 : Int32))) + (iush (((a1 - ((iush a1 (1 : Int32)) &&& (1431655765 : Int32))) &&& (858993459 : Int32)) + ((iush (a1 - ((iush a1 (1 : Int32)) &&& (1431655765 : Int32))) (2 : Int32)) &&& (858993459 : Int32))) (4 : Int32))) &&& (252645135 : Int32)) (8 : Int32))) hx hb dJ6_bitCount_0f7a4_38 rfl ?_
  refine lv_iadd hx hb dJ6_bitCount_0f7a4_39 ?_
  refine lv_istore_n (lv' := [(0, .int ((((((a1 - ((iush a1 (1 : Int32)) &&& (1431655765 : Int32))) &&& (858993459 : Int32)) + ((iush (a1 - ((iush a1 (1 : Int32)) &&& (1431655765 : Int32))) (2 : Int32)) &&& (858993459 : Int32))) + (iush (((a1 - ((iush a1 (1 : Int32)) &&& (1431655765 : Int32))) &&& (858993459 : Int32)) + ((iush (a1 - ((iush a1 (1 : Int32)) &&& (1431655765 : Int32))) (2 : Int32)) &&& (858993459 : Int32))) (4 : Int32))) &&& (252645135 : Int32)) + (iush (((((a1 - ((iush a1 (1 : Int32)) &&& (1431655765 : Int32))) &&& (858993459 : Int32)) + ((iush (a1 - ((iush a1 (1 : Int32)) &&& (1431655765 : Int32))) (2 : Int32)) &&& (858993459 : Int32))) + (iush (((a1 - ((iush a1 (1 : Int32)) &&& (1431655765 : Int32))) &&& (858993459 : Int32)) + ((iush (a1 - ((iush a1 (1 : Int32)) &&& (1431655765 : Int32))) (2 : Int32)) &&& (858993459 : Int32))) (4 : Int32))) &&& (252645135 : Int32)) (8 : Int32))))]) hx hb dJ6_bitCount_0f7a4_40 rfl hl (by decide) rfl (fun ls hl => ?_)
  refine lv_iload_n hx hb dJ6_bitCount_0f7a4_41 rfl (lv_at hl 0 rfl) ?_
  refine lv_iload_n hx hb dJ6_bitCount_0f7a4_42 rfl (lv_at hl 0 rfl) ?_
  refine lv_bipush (v := (16 : Int32)) hx hb dJ6_bitCount_0f7a4_43 (by decide) ?_
  refine lv_iushr (v := (iush ((((((a1 - ((iush a1 (1 : Int32)) &&& (1431655765 : Int32))) &&& (858993459 : Int32)) + ((iush (a1 - ((iush a1 (1 : Int32)) &&& (1431655765 : Int32))) (2 : Int32)) &&& (858993459 : Int32))) + (iush (((a1 - ((iush a1 (1 : Int32)) &&& (1431655765 : Int32))) &&& (858993459 : Int32)) + ((iush (a1 - ((iush a1 (1 : Int32)) &&& (1431655765 : Int32))) (2 : Int32)) &&& (858993459 : Int32))) (4 : Int32))) &&& (252645135 : Int32)) + (iush (((((a1 - ((iush a1 (1 : Int32)) &&& (1431655765 : Int32))) &&& (858993459 : Int32)) + ((iush (a1 - ((iush a1 (1 : Int32)) &&& (1431655765 : Int32))) (2 : Int32)) &&& (858993459 : Int32))) + (iush (((a1 - ((iush a1 (1 : Int32)) &&& (1431655765 : Int32))) &&& (858993459 : Int32)) + ((iush (a1 - ((iush a1 (1 : Int32)) &&& (1431655765 : Int32))) (2 : Int32)) &&& (858993459 : Int32))) (4 : Int32))) &&& (252645135 : Int32)) (8 : Int32))) (16 : Int32))) hx hb dJ6_bitCount_0f7a4_45 rfl ?_
  refine lv_iadd hx hb dJ6_bitCount_0f7a4_46 ?_
  refine lv_istore_n (lv' := [(0, .int (((((((a1 - ((iush a1 (1 : Int32)) &&& (1431655765 : Int32))) &&& (858993459 : Int32)) + ((iush (a1 - ((iush a1 (1 : Int32)) &&& (1431655765 : Int32))) (2 : Int32)) &&& (858993459 : Int32))) + (iush (((a1 - ((iush a1 (1 : Int32)) &&& (1431655765 : Int32))) &&& (858993459 : Int32)) + ((iush (a1 - ((iush a1 (1 : Int32)) &&& (1431655765 : Int32))) (2 : Int32)) &&& (858993459 : Int32))) (4 : Int32))) &&& (252645135 : Int32)) + (iush (((((a1 - ((iush a1 (1 : Int32)) &&& (1431655765 : Int32))) &&& (858993459 : Int32)) + ((iush (a1 - ((iush a1 (1 : Int32)) &&& (1431655765 : Int32))) (2 : Int32)) &&& (858993459 : Int32))) + (iush (((a1 - ((iush a1 (1 : Int32)) &&& (1431655765 : Int32))) &&& (858993459 : Int32)) + ((iush (a1 - ((iush a1 (1 : Int32)) &&& (1431655765 : Int32))) (2 : Int32)) &&& (858993459 : Int32))) (4 : Int32))) &&& (252645135 : Int32)) (8 : Int32))) + (iush ((((((a1 - ((iush a1 (1 : Int32)) &&& (1431655765 : Int32))) &&& (858993459 : Int32)) + ((iush (a1 - ((iush a1 (1 : Int32)) &&& (1431655765 : Int32))) (2 : Int32)) &&& (858993459 : Int32))) + (iush (((a1 - ((iush a1 (1 : Int32)) &&& (1431655765 : Int32))) &&& (858993459 : Int32)) + ((iush (a1 - ((iush a1 (1 : Int32)) &&& (1431655765 : Int32))) (2 : Int32)) &&& (858993459 : Int32))) (4 : Int32))) &&& (252645135 : Int32)) + (iush (((((a1 - ((iush a1 (1 : Int32)) &&& (1431655765 : Int32))) &&& (858993459 : Int32)) + ((iush (a1 - ((iush a1 (1 : Int32)) &&& (1431655765 : Int32))) (2 : Int32)) &&& (858993459 : Int32))) + (iush (((a1 - ((iush a1 (1 : Int32)) &&& (1431655765 : Int32))) &&& (858993459 : Int32)) + ((iush (a1 - ((iush a1 (1 : Int32)) &&& (1431655765 : Int32))) (2 : Int32)) &&& (858993459 : Int32))) (4 : Int32))) &&& (252645135 : Int32)) (8 : Int32))) (16 : Int32))))]) hx hb dJ6_bitCount_0f7a4_47 rfl hl (by decide) rfl (fun ls hl => ?_)
  refine lv_iload_n hx hb dJ6_bitCount_0f7a4_48 rfl (lv_at hl 0 rfl) ?_
  refine lv_bipush (v := (63 : Int32)) hx hb dJ6_bitCount_0f7a4_49 (by decide) ?_
  refine lv_iand hx hb dJ6_bitCount_0f7a4_51 ?_
  exact x_siret F hr hlk hS dJ6_bitCount_0f7a4_52 h
/-! X7_reversed -/
def c7_reversed_b4 : Nat → Int32 → Int32 → Int32 → Int32 → Option (Int32)
  | 0, _, _, _, _ => none
  | fu + 1, v0, v1, v2, v3 => if v1 ≤ v3 then (some v2) else ((c7_reversed_b4 fu) v0 v1 ((v2 <<< ((1 : Int32) &&& 31)) ||| ((v0 >>> (v3 &&& 31)) &&& (1 : Int32))) (v3 + (1 : Int32)))
set_option maxHeartbeats 4000000 in
set_option maxRecDepth 100000 in
theorem m_c7_reversed_b4 {l : Launch} {p : Program} {e : Env} {s : State} {m : MethodId} {args : Array Value} {below : List Frame} {meth : Method} {c : Code} (F : CallFix p m c cX7_reversed 4 s args (Cond.code yX7_reversed cX7_reversed 4 (some .int) :: xG) (yX7_reversed).cls) (hr : meth.sig.returnType = (some .int)) (hlk : meth.locks = false) {o : Int32} : ∀ (fu : Nat) (v0 : Int32) (v1 : Int32) (v2 : Int32) (v3 : Int32) {locs : List Loc} {ls : Array Slot}, c7_reversed_b4 fu v0 v1 v2 v3  = some o → va_S (fun _ => False) s.heap s.heap locs → lv_has ls 4 [(0, .int v0), (1, .int v1), (2, .int v2), (3, .int v3)] → W p l e { frames := 0, cells := 0, slots := 0, locals := 0 } s m args below meth c s.heap locs 0 0 (MQ below (xQs o) args s 0 0 (fun _ => False)) (F0 m 4 ls []) := by
  have hx := F.1
  have hb := F.2.1
  intro fu
  induction fu with
  | zero =>
    intro v0 v1 v2 v3  locs ls h
    simp [c7_reversed_b4] at h
  | succ fu ih =>
    intro v0 v1 v2 v3  locs ls h hS hl
    have hk4 := fun v0 v1 v2 v3 locs ls (h : c7_reversed_b4 fu v0 v1 v2 v3 = some o) hS hl => ih v0 v1 v2 v3 (locs := locs) (ls := ls) h hS hl
    rw [c7_reversed_b4] at h
    refine lv_iload_n hx hb dX7_reversed_4 rfl (lv_at hl 3 rfl) ?_
    refine lv_iload_n hx hb dX7_reversed_5 rfl (lv_at hl 1 rfl) ?_
    refine lv_icmp_ge (tgt := 25) hx hb dX7_reversed_6 (by decide) (fun c_1 => ?_) (fun c_1 => ?_)
    · replace h := (if_pos c_1).symm.trans h
      refine lv_iload_n hx hb dX7_reversed_25 rfl (lv_at hl 2 rfl) ?_
      exact x_siret F hr hlk hS dX7_reversed_26 h
    replace h := (if_neg c_1).symm.trans h
    refine lv_iload_n hx hb dX7_reversed_9 rfl (lv_at hl 2 rfl) ?_
    refine lv_iconst (v := (1 : Int32)) hx hb dX7_reversed_10 (by decide) ?_
    refine lv_ishl hx hb dX7_reversed_11 ?_
    refine lv_iload_n hx hb dX7_reversed_12 rfl (lv_at hl 0 rfl) ?_
    refine lv_iload_n hx hb dX7_reversed_13 rfl (lv_at hl 3 rfl) ?_
    refine lv_ishr hx hb dX7_reversed_14 ?_
    refine lv_iconst (v := (1 : Int32)) hx hb dX7_reversed_15 (by decide) ?_
    refine lv_iand hx hb dX7_reversed_16 ?_
    refine lv_ior hx hb dX7_reversed_17 ?_
    refine lv_istore_n (lv' := [(2, .int ((v2 <<< ((1 : Int32) &&& 31)) ||| ((v0 >>> (v3 &&& 31)) &&& (1 : Int32)))), (0, .int v0), (1, .int v1), (3, .int v3)]) hx hb dX7_reversed_18 rfl hl (by decide) rfl (fun ls hl => ?_)
    refine lv_iinc (v := (v3 + (1 : Int32))) (lv' := [(3, .int (v3 + (1 : Int32))), (2, .int ((v2 <<< ((1 : Int32) &&& 31)) ||| ((v0 >>> (v3 &&& 31)) &&& (1 : Int32)))), (0, .int v0), (1, .int v1)]) hx hb dX7_reversed_19 hl (k := 3) rfl rfl (by decide) rfl (fun ls hl => ?_)
    refine lv_goto (tgt := 4) hx hb dX7_reversed_22 (by decide) ?_
    exact hk4 _ _ _ _ _ _ h hS (lv_sub hl [2, 3, 1, 0] rfl)
def c7_reversed (a1 : Int32) (a2 : Int32) : Option Int32 := c7_reversed_b4  (100000) a1 a2 (0 : Int32) (0 : Int32)
set_option maxHeartbeats 4000000 in
set_option maxRecDepth 100000 in
theorem m_c7_reversed {l : Launch} (a1 : Int32) (a2 : Int32) {o : Int32} (h : c7_reversed a1 a2 = some o) : Met l yX7_reversed (Cond.code yX7_reversed cX7_reversed 4 (some .int) :: xG) { frames := 0, cells := 0, slots := 0, locals := 0 } (va_Pc [.int a1, .int a2] (fun _ => True)) (xQs o) 0 0 (fun _ => False) := by
  unfold c7_reversed at h
  refine x_sEnter (by decide) (Nat.le_of_ble_eq_true rfl) (fun p e s m below meth c F hr hlk hS ls hl => ?_)
  have hl : lv_has ls 4 [(0, .int a1), (1, .int a2)] := hl
  have hx := F.1
  have hb := F.2.1
  refine lv_iconst (v := (0 : Int32)) hx hb dX7_reversed_0 (by decide) ?_
  refine lv_istore_n (lv' := [(2, .int (0 : Int32)), (0, .int a1), (1, .int a2)]) hx hb dX7_reversed_1 rfl hl (by decide) rfl (fun ls hl => ?_)
  refine lv_iconst (v := (0 : Int32)) hx hb dX7_reversed_2 (by decide) ?_
  refine lv_istore_n (lv' := [(3, .int (0 : Int32)), (2, .int (0 : Int32)), (0, .int a1), (1, .int a2)]) hx hb dX7_reversed_3 rfl hl (by decide) rfl (fun ls hl => ?_)
  exact m_c7_reversed_b4 F hr hlk  (100000) _ _ _ _  h hS (lv_sub hl [2, 3, 1, 0] rfl)
/-! X7_doLogic -/
def c7_doLogic (n : Nat) (S : xS) (a1 : Int32) : Option (Int32 × xS) := if a1 = (50 : Int32) then (xnm (sI S n 4 0 ((65535 : Int32) - (xI S n 4 0))) (fun S2 => some ((1 : Int32), S2))) else (if a1 = (51 : Int32) then ((c9_replaceTwo n 4 S ((xI S n 4 1) ^^^ (xI S n 4 0))).bind (fun S3 => some ((1 : Int32), S3))) else (if a1 = (58 : Int32) then (if (xI S n 4 1) < (xI S n 4 0) then ((c9_replaceTwo n 4 S (xI S n 4 1)).bind (fun S5 => some ((1 : Int32), S5))) else ((c9_replaceTwo n 4 S ((xI S n 4 1) - ((2 : Int32) * (xI S n 4 0)))).bind (fun S6 => some ((1 : Int32), S6)))) else (if a1 = (64 : Int32) then (if (xI S n 4 0) < (16 : Int32) then ((c9_replaceTwo n 4 S (iush (xI S n 4 1) (xI S n 4 0))).bind (fun S8 => some ((1 : Int32), S8))) else ((c9_replaceTwo n 4 S (0 : Int32)).bind (fun S9 => some ((1 : Int32), S9)))) else (if a1 = (65 : Int32) then (if (xI S n 4 0) < (16 : Int32) then ((c9_replaceTwo n 4 S ((xI S n 4 1) <<< ((xI S n 4 0) &&& 31))).bind (fun S11 => some ((1 : Int32), S11))) else ((c9_replaceTwo n 4 S (0 : Int32)).bind (fun S12 => some ((1 : Int32), S12)))) else (if a1 = (70 : Int32) then ((c9_replaceTwo n 4 S ((xI S n 4 1) &&& (xI S n 4 0))).bind (fun S13 => some ((1 : Int32), S13))) else (if a1 = (75 : Int32) then ((c9_replaceTwo n 4 S ((xI S n 4 1) ||| (xI S n 4 0))).bind (fun S14 => some ((1 : Int32), S14))) else (if a1 = (116 : Int32) then ((c7_addToCrc n S (16 : Int32)).bind (fun S15 => some ((1 : Int32), S15))) else (if a1 = (117 : Int32) then ((c7_addToCrc n S (8 : Int32)).bind (fun S16 => some ((1 : Int32), S16))) else (if a1 = (118 : Int32) then ((j6_bitCount_0f7a4 (xI S n 4 0)).bind (fun r_17 => (c9_replaceTwo n 4 S ((xI S n 4 1) + r_17)).bind (fun S18 => some ((1 : Int32), S18)))) else (if a1 = (119 : Int32) then ((c7_reversed (xI S n 4 0) (16 : Int32)).bind (fun r_19 => xnm (sI S n 4 0 r_19) (fun S20 => some ((1 : Int32), S20)))) else (if a1 = (120 : Int32) then (if (xI S n 4 0) ≤ (16 : Int32) then ((c7_reversed (xI S n 4 1) (xI S n 4 0)).bind (fun r_22 => (c9_replaceTwo n 4 S r_22).bind (fun S23 => some ((1 : Int32), S23)))) else ((c9_replaceTwo n 4 S (0 : Int32)).bind (fun S24 => some ((1 : Int32), S24)))) else (some ((0 : Int32), S)))))))))))))
set_option maxHeartbeats 4000000 in
set_option maxRecDepth 100000 in
theorem m_c7_doLogic {l : Launch} {D : va_G} {cI cJ cL cN : ClassId} {ad : Nat → Nat → Nat} {N : Nat} (hN : N ≤ 8) (hI : xInj (cDom N) ad) {n : Nat} (hn : n < N) {S : xS} (a1 : Int32) {o : Int32 × xS} (h : c7_doLogic n S a1 = some o) : Met l yX7_doLogic (Cond.code yX7_doLogic cX7_doLogic 4 (some .boolean) :: xG) { frames := 2, cells := 0, slots := 0, locals := 46 } (xPc D vwCl (cTy cI cJ cL cN) cNf cNm (cDom N) ad (cDe ad N cI cJ cL cN) [.ref (ad n 20), .int a1] S) (xQ D vwCl (cDom N) ad (cDe ad N cI cJ cL cN) (some (.int o.1)) o.2) 0 0 (xA (cDom N) ad) := by
  unfold c7_doLogic at h
  refine x_enter (by decide) (Nat.le_of_ble_eq_true rfl) (fun p e s m below meth c F hr hlk hK hW hS ls hl => ?_)
  have hl : lv_has ls 4 [(0, .ref (ad n 20)), (1, .int a1)] := hl
  have hx := F.1
  have hb := F.2.1
  refine lv_aload_n hx hb dX7_doLogic_0 rfl (lv_at hl 0 rfl) ?_
  refine x_get F hK hW xc_X7 (cd_dX7 hn) (cd_eX7 hN hn) 1 (by decide) k_2_90 (rfl) dX7_doLogic_1 ?_
  refine x_getN F hK hW xc_X9 (cd_dX9 ⟨hn, Or.inl rfl⟩) (cd_eX9 hN ⟨hn, Or.inl rfl⟩) 0 (by decide) kn_2 (rfl) dX7_doLogic_4 ?_
  refine lv_istore_n (lv' := [(2, .int (xI S n 4 0)), (0, .ref (ad n 20)), (1, .int a1)]) hx hb dX7_doLogic_7 rfl hl (by decide) rfl (fun ls hl => ?_)
  refine lv_aload_n hx hb dX7_doLogic_8 rfl (lv_at hl 1 rfl) ?_
  refine x_get F hK hW xc_X7 (cd_dX7 hn) (cd_eX7 hN hn) 1 (by decide) k_2_90 (rfl) dX7_doLogic_9 ?_
  refine x_getN F hK hW xc_X9 (cd_dX9 ⟨hn, Or.inl rfl⟩) (cd_eX9 hN ⟨hn, Or.inl rfl⟩) 1 (by decide) kn_5 (rfl) dX7_doLogic_12 ?_
  refine lv_istore_n (lv' := [(3, .int (xI S n 4 1)), (2, .int (xI S n 4 0)), (0, .ref (ad n 20)), (1, .int a1)]) hx hb dX7_doLogic_15 rfl hl (by decide) rfl (fun ls hl => ?_)
  refine lv_iload_n hx hb dX7_doLogic_16 rfl (lv_at hl 3 rfl) ?_
  by_cases c_1_50 : a1 = (50 : Int32)
  · replace h := (if_pos c_1_50).symm.trans h
    refine lv_lookup (tgt := 124) (off := 107) hx hb dX7_doLogic_17 (by decide) (by rw [c_1_50]; decide) (by decide) ?_
    refine lv_aload_n hx hb dX7_doLogic_124 rfl (lv_at hl 2 rfl) ?_
    refine x_get F hK hW xc_X7 (cd_dX7 hn) (cd_eX7 hN hn) 1 (by decide) k_2_90 (rfl) dX7_doLogic_125 ?_
    refine lv_ldc (v := (65535 : Int32)) hx hb F.2.2.2.1 (x_hts F _ k_4_18) dX7_doLogic_128 ?_
    refine lv_iload_n hx hb dX7_doLogic_130 rfl (lv_at hl 1 rfl) ?_
    refine lv_isub hx hb dX7_doLogic_131 ?_
    refine x_putN F hK hI hW hS xc_X9 (cd_dX9 ⟨hn, Or.inl rfl⟩) (cd_eX9 hN ⟨hn, Or.inl rfl⟩) 0 (by decide) kn_2 rfl (v := ((65535 : Int32) - (xI S n 4 0))) rfl rfl (fun _ _ => rfl) (fun _ _ => Nat.le_of_ble_eq_true rfl) dX7_doLogic_132 h (fun S2 H locs hW hS h => ?_)
    refine lv_goto (tgt := 324) hx hb dX7_doLogic_135 (by decide) ?_
    refine lv_iconst (v := (1 : Int32)) hx hb dX7_doLogic_324 (by decide) ?_
    exact x_zret F hr hlk hW hS rfl dX7_doLogic_325 h
  replace h := (if_neg c_1_50).symm.trans h
  have hn_1_50 := x_swN (z := 50) c_1_50 x_sw0 rfl
  by_cases c_1_51 : a1 = (51 : Int32)
  · replace h := (if_pos c_1_51).symm.trans h
    refine lv_lookup (tgt := 138) (off := 121) hx hb dX7_doLogic_17 (by decide) (by rw [c_1_51]; decide) (by decide) ?_
    refine lv_aload_n hx hb dX7_doLogic_138 rfl (lv_at hl 2 rfl) ?_
    refine x_get F hK hW xc_X7 (cd_dX7 hn) (cd_eX7 hN hn) 1 (by decide) k_2_90 (rfl) dX7_doLogic_139 ?_
    refine lv_iload_n hx hb dX7_doLogic_142 rfl (lv_at hl 0 rfl) ?_
    refine lv_iload_n hx hb dX7_doLogic_143 rfl (lv_at hl 1 rfl) ?_
    refine lv_ixor hx hb dX7_doLogic_144 ?_
    refine x_cVv (As := [.int ((xI S n 4 1) ^^^ (xI S n 4 0))]) F xG_ok hK hW hS um_X9_replaceTwo k_4_62 (fun _ h1 => m_c9_replaceTwo hN hI ⟨hn, Or.inl rfl⟩ _ h1) rfl (cd_dX9 ⟨hn, Or.inl rfl⟩) (cd_eX9 hN ⟨hn, Or.inl rfl⟩) rfl rfl hl.1 rfl rfl ⟨Nat.le_of_ble_eq_true rfl, Nat.le_of_ble_eq_true rfl⟩ ⟨Nat.zero_le _, Nat.zero_le _⟩ (Nat.le_of_ble_eq_true rfl) dX7_doLogic_145 h (fun S3 H locs hW hS h => ?_)
    refine lv_goto (tgt := 324) hx hb dX7_doLogic_148 (by decide) ?_
    refine lv_iconst (v := (1 : Int32)) hx hb dX7_doLogic_324 (by decide) ?_
    exact x_zret F hr hlk hW hS rfl dX7_doLogic_325 h
  replace h := (if_neg c_1_51).symm.trans h
  have hn_1_51 := x_swN (z := 51) c_1_51 hn_1_50 rfl
  by_cases c_1_58 : a1 = (58 : Int32)
  · replace h := (if_pos c_1_58).symm.trans h
    refine lv_lookup (tgt := 151) (off := 134) hx hb dX7_doLogic_17 (by decide) (by rw [c_1_58]; decide) (by decide) ?_
    refine lv_aload_n hx hb dX7_doLogic_151 rfl (lv_at hl 2 rfl) ?_
    refine x_get F hK hW xc_X7 (cd_dX7 hn) (cd_eX7 hN hn) 1 (by decide) k_2_90 (rfl) dX7_doLogic_152 ?_
    refine lv_iload_n hx hb dX7_doLogic_155 rfl (lv_at hl 0 rfl) ?_
    refine lv_iload_n hx hb dX7_doLogic_156 rfl (lv_at hl 1 rfl) ?_
    refine lv_icmp_lt (tgt := 168) hx hb dX7_doLogic_157 (by decide) (fun c_4 => ?_) (fun c_4 => ?_)
    · replace h := (if_pos c_4).symm.trans h
      refine lv_iload_n hx hb dX7_doLogic_168 rfl (lv_at hl 0 rfl) ?_
      refine x_cVv (As := [.int (xI S n 4 1)]) F xG_ok hK hW hS um_X9_replaceTwo k_4_62 (fun _ h1 => m_c9_replaceTwo hN hI ⟨hn, Or.inl rfl⟩ _ h1) rfl (cd_dX9 ⟨hn, Or.inl rfl⟩) (cd_eX9 hN ⟨hn, Or.inl rfl⟩) rfl rfl hl.1 rfl rfl ⟨Nat.le_of_ble_eq_true rfl, Nat.le_of_ble_eq_true rfl⟩ ⟨Nat.zero_le _, Nat.zero_le _⟩ (Nat.le_of_ble_eq_true rfl) dX7_doLogic_169 h (fun S5 H locs hW hS h => ?_)
      refine lv_goto (tgt := 324) hx hb dX7_doLogic_172 (by decide) ?_
      refine lv_iconst (v := (1 : Int32)) hx hb dX7_doLogic_324 (by decide) ?_
      exact x_zret F hr hlk hW hS rfl dX7_doLogic_325 h
    replace h := (if_neg c_4).symm.trans h
    refine lv_iload_n hx hb dX7_doLogic_160 rfl (lv_at hl 0 rfl) ?_
    refine lv_iconst (v := (2 : Int32)) hx hb dX7_doLogic_161 (by decide) ?_
    refine lv_iload_n hx hb dX7_doLogic_162 rfl (lv_at hl 1 rfl) ?_
    refine lv_imul hx hb dX7_doLogic_163 ?_
    refine lv_isub hx hb dX7_doLogic_164 ?_
    refine lv_goto (tgt := 169) hx hb dX7_doLogic_165 (by decide) ?_
    refine x_cVv (As := [.int ((xI S n 4 1) - ((2 : Int32) * (xI S n 4 0)))]) F xG_ok hK hW hS um_X9_replaceTwo k_4_62 (fun _ h1 => m_c9_replaceTwo hN hI ⟨hn, Or.inl rfl⟩ _ h1) rfl (cd_dX9 ⟨hn, Or.inl rfl⟩) (cd_eX9 hN ⟨hn, Or.inl rfl⟩) rfl rfl hl.1 rfl rfl ⟨Nat.le_of_ble_eq_true rfl, Nat.le_of_ble_eq_true rfl⟩ ⟨Nat.zero_le _, Nat.zero_le _⟩ (Nat.le_of_ble_eq_true rfl) dX7_doLogic_169 h (fun S6 H locs hW hS h => ?_)
    refine lv_goto (tgt := 324) hx hb dX7_doLogic_172 (by decide) ?_
    refine lv_iconst (v := (1 : Int32)) hx hb dX7_doLogic_324 (by decide) ?_
    exact x_zret F hr hlk hW hS rfl dX7_doLogic_325 h
  replace h := (if_neg c_1_58).symm.trans h
  have hn_1_58 := x_swN (z := 58) c_1_58 hn_1_51 rfl
  by_cases c_1_64 : a1 = (64 : Int32)
  · replace h := (if_pos c_1_64).symm.trans h
    refine lv_lookup (tgt := 175) (off := 158) hx hb dX7_doLogic_17 (by decide) (by rw [c_1_64]; decide) (by decide) ?_
    refine lv_aload_n hx hb dX7_doLogic_175 rfl (lv_at hl 2 rfl) ?_
    refine x_get F hK hW xc_X7 (cd_dX7 hn) (cd_eX7 hN hn) 1 (by decide) k_2_90 (rfl) dX7_doLogic_176 ?_
    refine lv_iload_n hx hb dX7_doLogic_179 rfl (lv_at hl 1 rfl) ?_
    refine lv_bipush (v := (16 : Int32)) hx hb dX7_doLogic_180 (by decide) ?_
    refine lv_icmp_lt (tgt := 189) hx hb dX7_doLogic_182 (by decide) (fun c_7 => ?_) (fun c_7 => ?_)
    · replace h := (if_pos c_7).symm.trans h
      refine lv_iload_n hx hb dX7_doLogic_189 rfl (lv_at hl 0 rfl) ?_
      refine lv_iload_n hx hb dX7_doLogic_190 rfl (lv_at hl 1 rfl) ?_
      refine lv_iushr (v := (iush (xI S n 4 1) (xI S n 4 0))) hx hb dX7_doLogic_191 rfl ?_
      refine x_cVv (As := [.int (iush (xI S n 4 1) (xI S n 4 0))]) F xG_ok hK hW hS um_X9_replaceTwo k_4_62 (fun _ h1 => m_c9_replaceTwo hN hI ⟨hn, Or.inl rfl⟩ _ h1) rfl (cd_dX9 ⟨hn, Or.inl rfl⟩) (cd_eX9 hN ⟨hn, Or.inl rfl⟩) rfl rfl hl.1 rfl rfl ⟨Nat.le_of_ble_eq_true rfl, Nat.le_of_ble_eq_true rfl⟩ ⟨Nat.zero_le _, Nat.zero_le _⟩ (Nat.le_of_ble_eq_true rfl) dX7_doLogic_192 h (fun S8 H locs hW hS h => ?_)
      refine lv_goto (tgt := 324) hx hb dX7_doLogic_195 (by decide) ?_
      refine lv_iconst (v := (1 : Int32)) hx hb dX7_doLogic_324 (by decide) ?_
      exact x_zret F hr hlk hW hS rfl dX7_doLogic_325 h
    replace h := (if_neg c_7).symm.trans h
    refine lv_iconst (v := (0 : Int32)) hx hb dX7_doLogic_185 (by decide) ?_
    refine lv_goto (tgt := 192) hx hb dX7_doLogic_186 (by decide) ?_
    refine x_cVv (As := [.int (0 : Int32)]) F xG_ok hK hW hS um_X9_replaceTwo k_4_62 (fun _ h1 => m_c9_replaceTwo hN hI ⟨hn, Or.inl rfl⟩ _ h1) rfl (cd_dX9 ⟨hn, Or.inl rfl⟩) (cd_eX9 hN ⟨hn, Or.inl rfl⟩) rfl rfl hl.1 rfl rfl ⟨Nat.le_of_ble_eq_true rfl, Nat.le_of_ble_eq_true rfl⟩ ⟨Nat.zero_le _, Nat.zero_le _⟩ (Nat.le_of_ble_eq_true rfl) dX7_doLogic_192 h (fun S9 H locs hW hS h => ?_)
    refine lv_goto (tgt := 324) hx hb dX7_doLogic_195 (by decide) ?_
    refine lv_iconst (v := (1 : Int32)) hx hb dX7_doLogic_324 (by decide) ?_
    exact x_zret F hr hlk hW hS rfl dX7_doLogic_325 h
  replace h := (if_neg c_1_64).symm.trans h
  have hn_1_64 := x_swN (z := 64) c_1_64 hn_1_58 rfl
  by_cases c_1_65 : a1 = (65 : Int32)
  · replace h := (if_pos c_1_65).symm.trans h
    refine lv_lookup (tgt := 198) (off := 181) hx hb dX7_doLogic_17 (by decide) (by rw [c_1_65]; decide) (by decide) ?_
    refine lv_aload_n hx hb dX7_doLogic_198 rfl (lv_at hl 2 rfl) ?_
    refine x_get F hK hW xc_X7 (cd_dX7 hn) (cd_eX7 hN hn) 1 (by decide) k_2_90 (rfl) dX7_doLogic_199 ?_
    refine lv_iload_n hx hb dX7_doLogic_202 rfl (lv_at hl 1 rfl) ?_
    refine lv_bipush (v := (16 : Int32)) hx hb dX7_doLogic_203 (by decide) ?_
    refine lv_icmp_lt (tgt := 212) hx hb dX7_doLogic_205 (by decide) (fun c_10 => ?_) (fun c_10 => ?_)
    · replace h := (if_pos c_10).symm.trans h
      refine lv_iload_n hx hb dX7_doLogic_212 rfl (lv_at hl 0 rfl) ?_
      refine lv_iload_n hx hb dX7_doLogic_213 rfl (lv_at hl 1 rfl) ?_
      refine lv_ishl hx hb dX7_doLogic_214 ?_
      refine x_cVv (As := [.int ((xI S n 4 1) <<< ((xI S n 4 0) &&& 31))]) F xG_ok hK hW hS um_X9_replaceTwo k_4_62 (fun _ h1 => m_c9_replaceTwo hN hI ⟨hn, Or.inl rfl⟩ _ h1) rfl (cd_dX9 ⟨hn, Or.inl rfl⟩) (cd_eX9 hN ⟨hn, Or.inl rfl⟩) rfl rfl hl.1 rfl rfl ⟨Nat.le_of_ble_eq_true rfl, Nat.le_of_ble_eq_true rfl⟩ ⟨Nat.zero_le _, Nat.zero_le _⟩ (Nat.le_of_ble_eq_true rfl) dX7_doLogic_215 h (fun S11 H locs hW hS h => ?_)
      refine lv_goto (tgt := 324) hx hb dX7_doLogic_218 (by decide) ?_
      refine lv_iconst (v := (1 : Int32)) hx hb dX7_doLogic_324 (by decide) ?_
      exact x_zret F hr hlk hW hS rfl dX7_doLogic_325 h
    replace h := (if_neg c_10).symm.trans h
    refine lv_iconst (v := (0 : Int32)) hx hb dX7_doLogic_208 (by decide) ?_
    refine lv_goto (tgt := 215) hx hb dX7_doLogic_209 (by decide) ?_
    refine x_cVv (As := [.int (0 : Int32)]) F xG_ok hK hW hS um_X9_replaceTwo k_4_62 (fun _ h1 => m_c9_replaceTwo hN hI ⟨hn, Or.inl rfl⟩ _ h1) rfl (cd_dX9 ⟨hn, Or.inl rfl⟩) (cd_eX9 hN ⟨hn, Or.inl rfl⟩) rfl rfl hl.1 rfl rfl ⟨Nat.le_of_ble_eq_true rfl, Nat.le_of_ble_eq_true rfl⟩ ⟨Nat.zero_le _, Nat.zero_le _⟩ (Nat.le_of_ble_eq_true rfl) dX7_doLogic_215 h (fun S12 H locs hW hS h => ?_)
    refine lv_goto (tgt := 324) hx hb dX7_doLogic_218 (by decide) ?_
    refine lv_iconst (v := (1 : Int32)) hx hb dX7_doLogic_324 (by decide) ?_
    exact x_zret F hr hlk hW hS rfl dX7_doLogic_325 h
  replace h := (if_neg c_1_65).symm.trans h
  have hn_1_65 := x_swN (z := 65) c_1_65 hn_1_64 rfl
  by_cases c_1_70 : a1 = (70 : Int32)
  · replace h := (if_pos c_1_70).symm.trans h
    refine lv_lookup (tgt := 221) (off := 204) hx hb dX7_doLogic_17 (by decide) (by rw [c_1_70]; decide) (by decide) ?_
    refine lv_aload_n hx hb dX7_doLogic_221 rfl (lv_at hl 2 rfl) ?_
    refine x_get F hK hW xc_X7 (cd_dX7 hn) (cd_eX7 hN hn) 1 (by decide) k_2_90 (rfl) dX7_doLogic_222 ?_
    refine lv_iload_n hx hb dX7_doLogic_225 rfl (lv_at hl 0 rfl) ?_
    refine lv_iload_n hx hb dX7_doLogic_226 rfl (lv_at hl 1 rfl) ?_
    refine lv_iand hx hb dX7_doLogic_227 ?_
    refine x_cVv (As := [.int ((xI S n 4 1) &&& (xI S n 4 0))]) F xG_ok hK hW hS um_X9_replaceTwo k_4_62 (fun _ h1 => m_c9_replaceTwo hN hI ⟨hn, Or.inl rfl⟩ _ h1) rfl (cd_dX9 ⟨hn, Or.inl rfl⟩) (cd_eX9 hN ⟨hn, Or.inl rfl⟩) rfl rfl hl.1 rfl rfl ⟨Nat.le_of_ble_eq_true rfl, Nat.le_of_ble_eq_true rfl⟩ ⟨Nat.zero_le _, Nat.zero_le _⟩ (Nat.le_of_ble_eq_true rfl) dX7_doLogic_228 h (fun S13 H locs hW hS h => ?_)
    refine lv_goto (tgt := 324) hx hb dX7_doLogic_231 (by decide) ?_
    refine lv_iconst (v := (1 : Int32)) hx hb dX7_doLogic_324 (by decide) ?_
    exact x_zret F hr hlk hW hS rfl dX7_doLogic_325 h
  replace h := (if_neg c_1_70).symm.trans h
  have hn_1_70 := x_swN (z := 70) c_1_70 hn_1_65 rfl
  by_cases c_1_75 : a1 = (75 : Int32)
  · replace h := (if_pos c_1_75).symm.trans h
    refine lv_lookup (tgt := 234) (off := 217) hx hb dX7_doLogic_17 (by decide) (by rw [c_1_75]; decide) (by decide) ?_
    refine lv_aload_n hx hb dX7_doLogic_234 rfl (lv_at hl 2 rfl) ?_
    refine x_get F hK hW xc_X7 (cd_dX7 hn) (cd_eX7 hN hn) 1 (by decide) k_2_90 (rfl) dX7_doLogic_235 ?_
    refine lv_iload_n hx hb dX7_doLogic_238 rfl (lv_at hl 0 rfl) ?_
    refine lv_iload_n hx hb dX7_doLogic_239 rfl (lv_at hl 1 rfl) ?_
    refine lv_ior hx hb dX7_doLogic_240 ?_
    refine x_cVv (As := [.int ((xI S n 4 1) ||| (xI S n 4 0))]) F xG_ok hK hW hS um_X9_replaceTwo k_4_62 (fun _ h1 => m_c9_replaceTwo hN hI ⟨hn, Or.inl rfl⟩ _ h1) rfl (cd_dX9 ⟨hn, Or.inl rfl⟩) (cd_eX9 hN ⟨hn, Or.inl rfl⟩) rfl rfl hl.1 rfl rfl ⟨Nat.le_of_ble_eq_true rfl, Nat.le_of_ble_eq_true rfl⟩ ⟨Nat.zero_le _, Nat.zero_le _⟩ (Nat.le_of_ble_eq_true rfl) dX7_doLogic_241 h (fun S14 H locs hW hS h => ?_)
    refine lv_goto (tgt := 324) hx hb dX7_doLogic_244 (by decide) ?_
    refine lv_iconst (v := (1 : Int32)) hx hb dX7_doLogic_324 (by decide) ?_
    exact x_zret F hr hlk hW hS rfl dX7_doLogic_325 h
  replace h := (if_neg c_1_75).symm.trans h
  have hn_1_75 := x_swN (z := 75) c_1_75 hn_1_70 rfl
  by_cases c_1_116 : a1 = (116 : Int32)
  · replace h := (if_pos c_1_116).symm.trans h
    refine lv_lookup (tgt := 247) (off := 230) hx hb dX7_doLogic_17 (by decide) (by rw [c_1_116]; decide) (by decide) ?_
    refine lv_aload_n hx hb dX7_doLogic_247 rfl (lv_at hl 2 rfl) ?_
    refine lv_bipush (v := (16 : Int32)) hx hb dX7_doLogic_248 (by decide) ?_
    refine x_cVv (As := [.int (16 : Int32)]) F xG_ok hK hW hS um_X7_addToCrc k_4_78 (fun _ h1 => m_c7_addToCrc hN hI hn _ h1) rfl (cd_dX7 hn) (cd_eX7 hN hn) rfl rfl hl.1 rfl rfl ⟨Nat.le_of_ble_eq_true rfl, Nat.le_of_ble_eq_true rfl⟩ ⟨Nat.zero_le _, Nat.zero_le _⟩ (Nat.le_of_ble_eq_true rfl) dX7_doLogic_250 h (fun S15 H locs hW hS h => ?_)
    refine lv_goto (tgt := 324) hx hb dX7_doLogic_253 (by decide) ?_
    refine lv_iconst (v := (1 : Int32)) hx hb dX7_doLogic_324 (by decide) ?_
    exact x_zret F hr hlk hW hS rfl dX7_doLogic_325 h
  replace h := (if_neg c_1_116).symm.trans h
  have hn_1_116 := x_swN (z := 116) c_1_116 hn_1_75 rfl
  by_cases c_1_117 : a1 = (117 : Int32)
  · replace h := (if_pos c_1_117).symm.trans h
    refine lv_lookup (tgt := 256) (off := 239) hx hb dX7_doLogic_17 (by decide) (by rw [c_1_117]; decide) (by decide) ?_
    refine lv_aload_n hx hb dX7_doLogic_256 rfl (lv_at hl 2 rfl) ?_
    refine lv_bipush (v := (8 : Int32)) hx hb dX7_doLogic_257 (by decide) ?_
    refine x_cVv (As := [.int (8 : Int32)]) F xG_ok hK hW hS um_X7_addToCrc k_4_78 (fun _ h1 => m_c7_addToCrc hN hI hn _ h1) rfl (cd_dX7 hn) (cd_eX7 hN hn) rfl rfl hl.1 rfl rfl ⟨Nat.le_of_ble_eq_true rfl, Nat.le_of_ble_eq_true rfl⟩ ⟨Nat.zero_le _, Nat.zero_le _⟩ (Nat.le_of_ble_eq_true rfl) dX7_doLogic_259 h (fun S16 H locs hW hS h => ?_)
    refine lv_goto (tgt := 324) hx hb dX7_doLogic_262 (by decide) ?_
    refine lv_iconst (v := (1 : Int32)) hx hb dX7_doLogic_324 (by decide) ?_
    exact x_zret F hr hlk hW hS rfl dX7_doLogic_325 h
  replace h := (if_neg c_1_117).symm.trans h
  have hn_1_117 := x_swN (z := 117) c_1_117 hn_1_116 rfl
  by_cases c_1_118 : a1 = (118 : Int32)
  · replace h := (if_pos c_1_118).symm.trans h
    refine lv_lookup (tgt := 265) (off := 248) hx hb dX7_doLogic_17 (by decide) (by rw [c_1_118]; decide) (by decide) ?_
    refine lv_aload_n hx hb dX7_doLogic_265 rfl (lv_at hl 2 rfl) ?_
    refine x_get F hK hW xc_X7 (cd_dX7 hn) (cd_eX7 hN hn) 1 (by decide) k_2_90 (rfl) dX7_doLogic_266 ?_
    refine lv_iload_n hx hb dX7_doLogic_269 rfl (lv_at hl 0 rfl) ?_
    refine lv_iload_n hx hb dX7_doLogic_270 rfl (lv_at hl 1 rfl) ?_
    refine x_cSo (As := [.int (xI S n 4 0)]) F xG_ok hS um_J6_bitCount_0f7a4 k_4_83 (fun _ h1 => m_j6_bitCount_0f7a4 _ h1) rfl rfl hl.1 rfl rfl ⟨Nat.le_of_ble_eq_true rfl, Nat.le_of_ble_eq_true rfl⟩ ⟨Nat.zero_le _, Nat.zero_le _⟩ (Nat.le_of_ble_eq_true rfl) dX7_doLogic_271 h (fun r_17 locs hS h => ?_)
    refine lv_iadd hx hb dX7_doLogic_274 ?_
    refine x_cVv (As := [.int ((xI S n 4 1) + r_17)]) F xG_ok hK hW hS um_X9_replaceTwo k_4_62 (fun _ h1 => m_c9_replaceTwo hN hI ⟨hn, Or.inl rfl⟩ _ h1) rfl (cd_dX9 ⟨hn, Or.inl rfl⟩) (cd_eX9 hN ⟨hn, Or.inl rfl⟩) rfl rfl hl.1 rfl rfl ⟨Nat.le_of_ble_eq_true rfl, Nat.le_of_ble_eq_true rfl⟩ ⟨Nat.zero_le _, Nat.zero_le _⟩ (Nat.le_of_ble_eq_true rfl) dX7_doLogic_275 h (fun S18 H locs hW hS h => ?_)
    refine lv_goto (tgt := 324) hx hb dX7_doLogic_278 (by decide) ?_
    refine lv_iconst (v := (1 : Int32)) hx hb dX7_doLogic_324 (by decide) ?_
    exact x_zret F hr hlk hW hS rfl dX7_doLogic_325 h
  replace h := (if_neg c_1_118).symm.trans h
  have hn_1_118 := x_swN (z := 118) c_1_118 hn_1_117 rfl
  by_cases c_1_119 : a1 = (119 : Int32)
  · replace h := (if_pos c_1_119).symm.trans h
    refine lv_lookup (tgt := 281) (off := 264) hx hb dX7_doLogic_17 (by decide) (by rw [c_1_119]; decide) (by decide) ?_
    refine lv_aload_n hx hb dX7_doLogic_281 rfl (lv_at hl 2 rfl) ?_
    refine x_get F hK hW xc_X7 (cd_dX7 hn) (cd_eX7 hN hn) 1 (by decide) k_2_90 (rfl) dX7_doLogic_282 ?_
    refine lv_iload_n hx hb dX7_doLogic_285 rfl (lv_at hl 1 rfl) ?_
    refine lv_bipush (v := (16 : Int32)) hx hb dX7_doLogic_286 (by decide) ?_
    refine x_cSo (As := [.int (xI S n 4 0), .int (16 : Int32)]) F xG_ok hS um_X7_reversed k_4_89 (fun _ h1 => m_c7_reversed _ _ h1) rfl rfl hl.1 rfl rfl ⟨Nat.le_of_ble_eq_true rfl, Nat.le_of_ble_eq_true rfl⟩ ⟨Nat.zero_le _, Nat.zero_le _⟩ (Nat.le_of_ble_eq_true rfl) dX7_doLogic_288 h (fun r_19 locs hS h => ?_)
    refine x_putN F hK hI hW hS xc_X9 (cd_dX9 ⟨hn, Or.inl rfl⟩) (cd_eX9 hN ⟨hn, Or.inl rfl⟩) 0 (by decide) kn_2 rfl (v := r_19) rfl rfl (fun _ _ => rfl) (fun _ _ => Nat.le_of_ble_eq_true rfl) dX7_doLogic_291 h (fun S20 H locs hW hS h => ?_)
    refine lv_goto (tgt := 324) hx hb dX7_doLogic_294 (by decide) ?_
    refine lv_iconst (v := (1 : Int32)) hx hb dX7_doLogic_324 (by decide) ?_
    exact x_zret F hr hlk hW hS rfl dX7_doLogic_325 h
  replace h := (if_neg c_1_119).symm.trans h
  have hn_1_119 := x_swN (z := 119) c_1_119 hn_1_118 rfl
  by_cases c_1_120 : a1 = (120 : Int32)
  · replace h := (if_pos c_1_120).symm.trans h
    refine lv_lookup (tgt := 297) (off := 280) hx hb dX7_doLogic_17 (by decide) (by rw [c_1_120]; decide) (by decide) ?_
    refine lv_aload_n hx hb dX7_doLogic_297 rfl (lv_at hl 2 rfl) ?_
    refine x_get F hK hW xc_X7 (cd_dX7 hn) (cd_eX7 hN hn) 1 (by decide) k_2_90 (rfl) dX7_doLogic_298 ?_
    refine lv_iload_n hx hb dX7_doLogic_301 rfl (lv_at hl 1 rfl) ?_
    refine lv_bipush (v := (16 : Int32)) hx hb dX7_doLogic_302 (by decide) ?_
    refine lv_icmp_le (tgt := 311) hx hb dX7_doLogic_304 (by decide) (fun c_21 => ?_) (fun c_21 => ?_)
    · replace h := (if_pos c_21).symm.trans h
      refine lv_iload_n hx hb dX7_doLogic_311 rfl (lv_at hl 0 rfl) ?_
      refine lv_iload_n hx hb dX7_doLogic_312 rfl (lv_at hl 1 rfl) ?_
      refine x_cSo (As := [.int (xI S n 4 1), .int (xI S n 4 0)]) F xG_ok hS um_X7_reversed k_4_89 (fun _ h1 => m_c7_reversed _ _ h1) rfl rfl hl.1 rfl rfl ⟨Nat.le_of_ble_eq_true rfl, Nat.le_of_ble_eq_true rfl⟩ ⟨Nat.zero_le _, Nat.zero_le _⟩ (Nat.le_of_ble_eq_true rfl) dX7_doLogic_313 h (fun r_22 locs hS h => ?_)
      refine x_cVv (As := [.int r_22]) F xG_ok hK hW hS um_X9_replaceTwo k_4_62 (fun _ h1 => m_c9_replaceTwo hN hI ⟨hn, Or.inl rfl⟩ _ h1) rfl (cd_dX9 ⟨hn, Or.inl rfl⟩) (cd_eX9 hN ⟨hn, Or.inl rfl⟩) rfl rfl hl.1 rfl rfl ⟨Nat.le_of_ble_eq_true rfl, Nat.le_of_ble_eq_true rfl⟩ ⟨Nat.zero_le _, Nat.zero_le _⟩ (Nat.le_of_ble_eq_true rfl) dX7_doLogic_316 h (fun S23 H locs hW hS h => ?_)
      refine lv_goto (tgt := 324) hx hb dX7_doLogic_319 (by decide) ?_
      refine lv_iconst (v := (1 : Int32)) hx hb dX7_doLogic_324 (by decide) ?_
      exact x_zret F hr hlk hW hS rfl dX7_doLogic_325 h
    replace h := (if_neg c_21).symm.trans h
    refine lv_iconst (v := (0 : Int32)) hx hb dX7_doLogic_307 (by decide) ?_
    refine lv_goto (tgt := 316) hx hb dX7_doLogic_308 (by decide) ?_
    refine x_cVv (As := [.int (0 : Int32)]) F xG_ok hK hW hS um_X9_replaceTwo k_4_62 (fun _ h1 => m_c9_replaceTwo hN hI ⟨hn, Or.inl rfl⟩ _ h1) rfl (cd_dX9 ⟨hn, Or.inl rfl⟩) (cd_eX9 hN ⟨hn, Or.inl rfl⟩) rfl rfl hl.1 rfl rfl ⟨Nat.le_of_ble_eq_true rfl, Nat.le_of_ble_eq_true rfl⟩ ⟨Nat.zero_le _, Nat.zero_le _⟩ (Nat.le_of_ble_eq_true rfl) dX7_doLogic_316 h (fun S24 H locs hW hS h => ?_)
    refine lv_goto (tgt := 324) hx hb dX7_doLogic_319 (by decide) ?_
    refine lv_iconst (v := (1 : Int32)) hx hb dX7_doLogic_324 (by decide) ?_
    exact x_zret F hr hlk hW hS rfl dX7_doLogic_325 h
  replace h := (if_neg c_1_120).symm.trans h
  have hn_1_120 := x_swN (z := 120) c_1_120 hn_1_119 rfl
  refine x_lkpD (tgt := 322) hx hb dX7_doLogic_17 hn_1_120 (by decide) (by decide) (by decide) ?_
  refine lv_iconst (v := (0 : Int32)) hx hb dX7_doLogic_322 (by decide) ?_
  exact x_zret F hr hlk hW hS rfl dX7_doLogic_323 h
/-! X7_setDouble -/
def c7_setDouble (n : Nat) (S : xS) (a1 : Int32) : Option (xS) := xnm (sI S n 4 0 (a1 &&& (65535 : Int32))) (fun S1 => xnm (sI S1 n 4 1 (iush a1 (16 : Int32))) (fun S2 => some S2))
set_option maxHeartbeats 4000000 in
set_option maxRecDepth 100000 in
theorem m_c7_setDouble {l : Launch} {D : va_G} {cI cJ cL cN : ClassId} {ad : Nat → Nat → Nat} {N : Nat} (hN : N ≤ 8) (hI : xInj (cDom N) ad) {n : Nat} (hn : n < N) {S : xS} (a1 : Int32) {o : xS} (h : c7_setDouble n S a1 = some o) : Met l yX7_setDouble (Cond.code yX7_setDouble cX7_setDouble 2 none :: xG) { frames := 0, cells := 0, slots := 0, locals := 0 } (xPc D vwCl (cTy cI cJ cL cN) cNf cNm (cDom N) ad (cDe ad N cI cJ cL cN) [.ref (ad n 20), .int a1] S) (xQ D vwCl (cDom N) ad (cDe ad N cI cJ cL cN) none o) 0 0 (xA (cDom N) ad) := by
  unfold c7_setDouble at h
  refine x_enter (by decide) (Nat.le_of_ble_eq_true rfl) (fun p e s m below meth c F hr hlk hK hW hS ls hl => ?_)
  have hl : lv_has ls 2 [(0, .ref (ad n 20)), (1, .int a1)] := hl
  have hx := F.1
  have hb := F.2.1
  refine lv_aload_n hx hb dX7_setDouble_0 rfl (lv_at hl 0 rfl) ?_
  refine x_get F hK hW xc_X7 (cd_dX7 hn) (cd_eX7 hN hn) 1 (by decide) k_2_90 (rfl) dX7_setDouble_1 ?_
  refine lv_iload_n hx hb dX7_setDouble_4 rfl (lv_at hl 1 rfl) ?_
  refine lv_ldc (v := (65535 : Int32)) hx hb F.2.2.2.1 (x_hts F _ k_4_18) dX7_setDouble_5 ?_
  refine lv_iand hx hb dX7_setDouble_7 ?_
  refine x_putN F hK hI hW hS xc_X9 (cd_dX9 ⟨hn, Or.inl rfl⟩) (cd_eX9 hN ⟨hn, Or.inl rfl⟩) 0 (by decide) kn_2 rfl (v := (a1 &&& (65535 : Int32))) rfl rfl (fun _ _ => rfl) (fun _ _ => Nat.le_of_ble_eq_true rfl) dX7_setDouble_8 h (fun S1 H locs hW hS h => ?_)
  refine lv_aload_n hx hb dX7_setDouble_11 rfl (lv_at hl 0 rfl) ?_
  refine x_get F hK hW xc_X7 (cd_dX7 hn) (cd_eX7 hN hn) 1 (by decide) k_2_90 (rfl) dX7_setDouble_12 ?_
  refine lv_iload_n hx hb dX7_setDouble_15 rfl (lv_at hl 1 rfl) ?_
  refine lv_bipush (v := (16 : Int32)) hx hb dX7_setDouble_16 (by decide) ?_
  refine lv_iushr (v := (iush a1 (16 : Int32))) hx hb dX7_setDouble_18 rfl ?_
  refine x_putN F hK hI hW hS xc_X9 (cd_dX9 ⟨hn, Or.inl rfl⟩) (cd_eX9 hN ⟨hn, Or.inl rfl⟩) 1 (by decide) kn_5 rfl (v := (iush a1 (16 : Int32))) rfl rfl (fun _ _ => rfl) (fun _ _ => Nat.le_of_ble_eq_true rfl) dX7_setDouble_19 h (fun S2 H locs hW hS h => ?_)
  exact x_vret F hr hlk hW hS dX7_setDouble_22 h
/-! X7_normalise -/
def c7_normalise_b24 (n : Nat) (v2 : Int32) (v3 : Int32) (S : xS) : Option (xS) := (c7_setDouble n S v2).bind (fun S2 => xnm (sI S2 n 4 2 v3) (fun S3 => some S3))
set_option maxHeartbeats 4000000 in
set_option maxRecDepth 100000 in
theorem m_c7_normalise_b24 {l : Launch} {D : va_G} {cI cJ cL cN : ClassId} {ad : Nat → Nat → Nat} {N : Nat} (hN : N ≤ 8) (hI : xInj (cDom N) ad) {n : Nat} (hn : n < N) {p : Program} {e : Env} {s : State} {m : MethodId} {args : Array Value} {below : List Frame} {meth : Method} {c : Code} (F : CallFix p m c cX7_normalise 4 s args (Cond.code yX7_normalise cX7_normalise 4 none :: xG) (yX7_normalise).cls) (hr : meth.sig.returnType = none) (hlk : meth.locks = false) (hK : xK D vwCl (cTy cI cJ cL cN) cNf cNm s) {o : xS} (v2 : Int32) (v3 : Int32) (S : xS) {H : Heap} {locs : List Loc} {ls : Array Slot} (h : c7_normalise_b24 n v2 v3 S = some o) (hW : xW D vwCl (cDom N) ad (cDe ad N cI cJ cL cN) S H) (hS : va_S (xA (cDom N) ad) s.heap H locs) (hl : lv_has ls 4 [(0, .ref (ad n 20)), (2, .int v2), (3, .int v3)]) : W p l e { frames := 1, cells := 0, slots := 0, locals := 21 } s m args below meth c H locs 0 0 (MQ below (xQ D vwCl (cDom N) ad (cDe ad N cI cJ cL cN) none o) args s 0 0 (xA (cDom N) ad)) (F0 m 24 ls []) := by
  have hx := F.1
  have hb := F.2.1
  unfold c7_normalise_b24 at h
  refine lv_aload_n hx hb dX7_normalise_24 rfl (lv_at hl 0 rfl) ?_
  refine lv_iload_n hx hb dX7_normalise_25 rfl (lv_at hl 1 rfl) ?_
  refine x_cVv (As := [.int v2]) F xG_ok hK hW hS um_X7_setDouble k_4_100 (fun _ h1 => m_c7_setDouble hN hI hn _ h1) rfl (cd_dX7 hn) (cd_eX7 hN hn) rfl rfl hl.1 rfl rfl ⟨Nat.le_of_ble_eq_true rfl, Nat.le_of_ble_eq_true rfl⟩ ⟨Nat.zero_le _, Nat.zero_le _⟩ (Nat.le_of_ble_eq_true rfl) dX7_normalise_26 h (fun S2 H locs hW hS h => ?_)
  refine lv_aload_n hx hb dX7_normalise_29 rfl (lv_at hl 0 rfl) ?_
  refine x_get F hK hW xc_X7 (cd_dX7 hn) (cd_eX7 hN hn) 1 (by decide) k_2_90 (rfl) dX7_normalise_30 ?_
  refine lv_iload_n hx hb dX7_normalise_33 rfl (lv_at hl 2 rfl) ?_
  refine x_putN F hK hI hW hS xc_X9 (cd_dX9 ⟨hn, Or.inl rfl⟩) (cd_eX9 hN ⟨hn, Or.inl rfl⟩) 2 (by decide) kn_8 rfl (v := v3) rfl rfl (fun _ _ => rfl) (fun _ _ => Nat.le_of_ble_eq_true rfl) dX7_normalise_34 h (fun S3 H locs hW hS h => ?_)
  exact x_vret F hr hlk hW hS dX7_normalise_37 h
def c7_normalise_b4 (n : Nat) : Nat → Int32 → Int32 → xS → Option (xS)
  | 0, _, _, _ => none
  | fu + 1, v2, v3, S => if (32 : Int32) ≤ v3 then (c7_normalise_b24 n v2 v3 S) else (if v2 < 0 then (c7_normalise_b24 n v2 v3 S) else ((c7_normalise_b4 n fu) (v2 <<< ((1 : Int32) &&& 31)) (v3 + (1 : Int32)) S))
set_option maxHeartbeats 4000000 in
set_option maxRecDepth 100000 in
theorem m_c7_normalise_b4 {l : Launch} {D : va_G} {cI cJ cL cN : ClassId} {ad : Nat → Nat → Nat} {N : Nat} (hN : N ≤ 8) (hI : xInj (cDom N) ad) {n : Nat} (hn : n < N) {p : Program} {e : Env} {s : State} {m : MethodId} {args : Array Value} {below : List Frame} {meth : Method} {c : Code} (F : CallFix p m c cX7_normalise 4 s args (Cond.code yX7_normalise cX7_normalise 4 none :: xG) (yX7_normalise).cls) (hr : meth.sig.returnType = none) (hlk : meth.locks = false) (hK : xK D vwCl (cTy cI cJ cL cN) cNf cNm s) {o : xS} : ∀ (fu : Nat) (v2 : Int32) (v3 : Int32) (S : xS) {H : Heap} {locs : List Loc} {ls : Array Slot}, c7_normalise_b4 n fu v2 v3 S = some o → xW D vwCl (cDom N) ad (cDe ad N cI cJ cL cN) S H → va_S (xA (cDom N) ad) s.heap H locs → lv_has ls 4 [(0, .ref (ad n 20)), (2, .int v2), (3, .int v3)] → W p l e { frames := 1, cells := 0, slots := 0, locals := 21 } s m args below meth c H locs 0 0 (MQ below (xQ D vwCl (cDom N) ad (cDe ad N cI cJ cL cN) none o) args s 0 0 (xA (cDom N) ad)) (F0 m 4 ls []) := by
  have hx := F.1
  have hb := F.2.1
  intro fu
  induction fu with
  | zero =>
    intro v2 v3 S H locs ls h
    simp [c7_normalise_b4] at h
  | succ fu ih =>
    intro v2 v3 S H locs ls h hW hS hl
    have hk4 := fun v2 v3 S H locs ls (h : c7_normalise_b4 n fu v2 v3 S = some o) hW hS hl => ih v2 v3 S (H := H) (locs := locs) (ls := ls) h hW hS hl
    rw [c7_normalise_b4] at h
    refine lv_iload_n hx hb dX7_normalise_4 rfl (lv_at hl 2 rfl) ?_
    refine lv_bipush (v := (32 : Int32)) hx hb dX7_normalise_5 (by decide) ?_
    refine lv_icmp_ge (tgt := 24) hx hb dX7_normalise_7 (by decide) (fun c_1 => ?_) (fun c_1 => ?_)
    · replace h := (if_pos c_1).symm.trans h
      exact m_c7_normalise_b24 hN hI hn F hr hlk hK _ _ _ h hW hS (lv_sub hl [0, 1, 2] rfl)
    replace h := (if_neg c_1).symm.trans h
    refine lv_iload_n hx hb dX7_normalise_10 rfl (lv_at hl 1 rfl) ?_
    refine lv_if_lt (tgt := 24) hx hb dX7_normalise_11 (by decide) (fun c_4 => ?_) (fun c_4 => ?_)
    · replace h := (if_pos c_4).symm.trans h
      exact m_c7_normalise_b24 hN hI hn F hr hlk hK _ _ _ h hW hS (lv_sub hl [0, 1, 2] rfl)
    replace h := (if_neg c_4).symm.trans h
    refine lv_iload_n hx hb dX7_normalise_14 rfl (lv_at hl 1 rfl) ?_
    refine lv_iconst (v := (1 : Int32)) hx hb dX7_normalise_15 (by decide) ?_
    refine lv_ishl hx hb dX7_normalise_16 ?_
    refine lv_istore_n (lv' := [(2, .int (v2 <<< ((1 : Int32) &&& 31))), (0, .ref (ad n 20)), (3, .int v3)]) hx hb dX7_normalise_17 rfl hl (by decide) rfl (fun ls hl => ?_)
    refine lv_iinc (v := (v3 + (1 : Int32))) (lv' := [(3, .int (v3 + (1 : Int32))), (2, .int (v2 <<< ((1 : Int32) &&& 31))), (0, .ref (ad n 20))]) hx hb dX7_normalise_18 hl (k := 2) rfl rfl (by decide) rfl (fun ls hl => ?_)
    refine lv_goto (tgt := 4) hx hb dX7_normalise_21 (by decide) ?_
    exact hk4 _ _ _ _ _ _ h hW hS (lv_sub hl [2, 1, 0] rfl)
def c7_normalise (n : Nat) (S : xS) (a1 : Int32) : Option (xS) := c7_normalise_b4 n (100000) a1 (0 : Int32) S
set_option maxHeartbeats 4000000 in
set_option maxRecDepth 100000 in
theorem m_c7_normalise {l : Launch} {D : va_G} {cI cJ cL cN : ClassId} {ad : Nat → Nat → Nat} {N : Nat} (hN : N ≤ 8) (hI : xInj (cDom N) ad) {n : Nat} (hn : n < N) {S : xS} (a1 : Int32) {o : xS} (h : c7_normalise n S a1 = some o) : Met l yX7_normalise (Cond.code yX7_normalise cX7_normalise 4 none :: xG) { frames := 1, cells := 0, slots := 0, locals := 21 } (xPc D vwCl (cTy cI cJ cL cN) cNf cNm (cDom N) ad (cDe ad N cI cJ cL cN) [.ref (ad n 20), .int a1] S) (xQ D vwCl (cDom N) ad (cDe ad N cI cJ cL cN) none o) 0 0 (xA (cDom N) ad) := by
  unfold c7_normalise at h
  refine x_enter (by decide) (Nat.le_of_ble_eq_true rfl) (fun p e s m below meth c F hr hlk hK hW hS ls hl => ?_)
  have hl : lv_has ls 4 [(0, .ref (ad n 20)), (1, .int a1)] := hl
  have hx := F.1
  have hb := F.2.1
  refine lv_iload_n hx hb dX7_normalise_0 rfl (lv_at hl 1 rfl) ?_
  refine lv_istore_n (lv' := [(2, .int a1), (0, .ref (ad n 20)), (1, .int a1)]) hx hb dX7_normalise_1 rfl hl (by decide) rfl (fun ls hl => ?_)
  refine lv_iconst (v := (0 : Int32)) hx hb dX7_normalise_2 (by decide) ?_
  refine lv_istore_n (lv' := [(3, .int (0 : Int32)), (2, .int a1), (0, .ref (ad n 20)), (1, .int a1)]) hx hb dX7_normalise_3 rfl hl (by decide) rfl (fun ls hl => ?_)
  exact m_c7_normalise_b4 hN hI hn F hr hlk hK (100000) _ _ _ h hW hS (lv_sub hl [2, 1, 0] rfl)
/-! X7_divideLong -/
def c7_divideLong (n : Nat) (S : xS) (a1 : Int64) (a2 : Int32) : Option (xS) := if a2 ≤ (xI S n 4 2) then (xnm (sI S n 1 6 (1 : Int32)) (fun S2 => some S2)) else (if a2 = 0 then (xnm (sI S n 1 6 (1 : Int32)) (fun S8 => some S8)) else (gq (¬ (a2.toInt64) = 0) (xnm (sI S n 4 0 (((a1 / (a2.toInt64)).toInt32) &&& (65535 : Int32))) (fun S5 => gq (¬ (a2.toInt64) = 0) (xnm (sI S5 n 4 1 (((jlrem a1 (a2.toInt64)).toInt32) &&& (65535 : Int32))) (fun S7 => some S7))))))
set_option maxHeartbeats 4000000 in
set_option maxRecDepth 100000 in
theorem m_c7_divideLong {l : Launch} {D : va_G} {cI cJ cL cN : ClassId} {ad : Nat → Nat → Nat} {N : Nat} (hN : N ≤ 8) (hI : xInj (cDom N) ad) {n : Nat} (hn : n < N) {S : xS} (a1 : Int64) (a2 : Int32) {o : xS} (h : c7_divideLong n S a1 a2 = some o) : Met l yX7_divideLong (Cond.code yX7_divideLong cX7_divideLong 4 none :: xG) { frames := 0, cells := 0, slots := 0, locals := 0 } (xPc D vwCl (cTy cI cJ cL cN) cNf cNm (cDom N) ad (cDe ad N cI cJ cL cN) [.ref (ad n 20), .long a1, .int a2] S) (xQ D vwCl (cDom N) ad (cDe ad N cI cJ cL cN) none o) 0 0 (xA (cDom N) ad) := by
  unfold c7_divideLong at h
  refine x_enter (by decide) (Nat.le_of_ble_eq_true rfl) (fun p e s m below meth c F hr hlk hK hW hS ls hl => ?_)
  have hl : lv_has ls 4 [(0, .ref (ad n 20)), (1, .long a1), (3, .int a2)] := hl
  have hx := F.1
  have hb := F.2.1
  refine lv_aload_n hx hb dX7_divideLong_0 rfl (lv_at hl 0 rfl) ?_
  refine x_get F hK hW xc_X7 (cd_dX7 hn) (cd_eX7 hN hn) 1 (by decide) k_2_90 (rfl) dX7_divideLong_1 ?_
  refine x_getN F hK hW xc_X9 (cd_dX9 ⟨hn, Or.inl rfl⟩) (cd_eX9 hN ⟨hn, Or.inl rfl⟩) 2 (by decide) kn_8 (rfl) dX7_divideLong_4 ?_
  refine lv_iload_n hx hb dX7_divideLong_7 rfl (lv_at hl 2 rfl) ?_
  refine lv_icmp_ge (tgt := 15) hx hb dX7_divideLong_8 (by decide) (fun c_1 => ?_) (fun c_1 => ?_)
  · replace h := (if_pos c_1).symm.trans h
    refine lv_aload_n hx hb dX7_divideLong_15 rfl (lv_at hl 0 rfl) ?_
    refine x_get F hK hW xc_X7 (cd_dX7 hn) (cd_eX7 hN hn) 0 (by decide) k_2_89 (rfl) dX7_divideLong_16 ?_
    refine lv_iconst (v := (1 : Int32)) hx hb dX7_divideLong_19 (by decide) ?_
    refine x_putN F hK hI hW hS xc_X1 (cd_dX1 hn) (cd_eX1 hN hn) 6 (by decide) kn_36 rfl (v := (1 : Int32)) rfl rfl (fun _ _ => rfl) (fun _ _ => Nat.le_of_ble_eq_true rfl) dX7_divideLong_20 h (fun S2 H locs hW hS h => ?_)
    exact x_vret F hr hlk hW hS dX7_divideLong_23 h
  replace h := (if_neg c_1).symm.trans h
  refine lv_iload_n hx hb dX7_divideLong_11 rfl (lv_at hl 2 rfl) ?_
  refine lv_if_ne (tgt := 24) hx hb dX7_divideLong_12 (by decide) (fun c_3 => ?_) (fun c_3 => ?_)
  · replace h := (if_neg c_3).symm.trans h
    refine lv_aload_n hx hb dX7_divideLong_24 rfl (lv_at hl 0 rfl) ?_
    refine x_get F hK hW xc_X7 (cd_dX7 hn) (cd_eX7 hN hn) 1 (by decide) k_2_90 (rfl) dX7_divideLong_25 ?_
    refine lv_lload_n hx hb dX7_divideLong_28 rfl (lv_at hl 1 rfl) ?_
    refine lv_iload_n hx hb dX7_divideLong_29 rfl (lv_at hl 2 rfl) ?_
    refine lv_i2l (v := a2.toInt64) hx hb dX7_divideLong_30 rfl ?_
    obtain ⟨hq_4, h⟩ := gq_use h
    refine lv_ldiv hx hb dX7_divideLong_31 hq_4 ?_
    refine lv_l2i (v := (a1 / (a2.toInt64)).toInt32) hx hb dX7_divideLong_32 rfl ?_
    refine lv_ldc (v := (65535 : Int32)) hx hb F.2.2.2.1 (x_hts F _ k_4_18) dX7_divideLong_33 ?_
    refine lv_iand hx hb dX7_divideLong_35 ?_
    refine x_putN F hK hI hW hS xc_X9 (cd_dX9 ⟨hn, Or.inl rfl⟩) (cd_eX9 hN ⟨hn, Or.inl rfl⟩) 0 (by decide) kn_2 rfl (v := (((a1 / (a2.toInt64)).toInt32) &&& (65535 : Int32))) rfl rfl (fun _ _ => rfl) (fun _ _ => Nat.le_of_ble_eq_true rfl) dX7_divideLong_36 h (fun S5 H locs hW hS h => ?_)
    refine lv_aload_n hx hb dX7_divideLong_39 rfl (lv_at hl 0 rfl) ?_
    refine x_get F hK hW xc_X7 (cd_dX7 hn) (cd_eX7 hN hn) 1 (by decide) k_2_90 (rfl) dX7_divideLong_40 ?_
    refine lv_lload_n hx hb dX7_divideLong_43 rfl (lv_at hl 1 rfl) ?_
    refine lv_iload_n hx hb dX7_divideLong_44 rfl (lv_at hl 2 rfl) ?_
    refine lv_i2l (v := a2.toInt64) hx hb dX7_divideLong_45 rfl ?_
    obtain ⟨hq_6, h⟩ := gq_use h
    refine x_lrem hx hb dX7_divideLong_46 hq_6 ?_
    refine lv_l2i (v := (jlrem a1 (a2.toInt64)).toInt32) hx hb dX7_divideLong_47 rfl ?_
    refine lv_ldc (v := (65535 : Int32)) hx hb F.2.2.2.1 (x_hts F _ k_4_18) dX7_divideLong_48 ?_
    refine lv_iand hx hb dX7_divideLong_50 ?_
    refine x_putN F hK hI hW hS xc_X9 (cd_dX9 ⟨hn, Or.inl rfl⟩) (cd_eX9 hN ⟨hn, Or.inl rfl⟩) 1 (by decide) kn_5 rfl (v := (((jlrem a1 (a2.toInt64)).toInt32) &&& (65535 : Int32))) rfl rfl (fun _ _ => rfl) (fun _ _ => Nat.le_of_ble_eq_true rfl) dX7_divideLong_51 h (fun S7 H locs hW hS h => ?_)
    exact x_vret F hr hlk hW hS dX7_divideLong_54 h
  replace h := (if_pos c_3).symm.trans h
  refine lv_aload_n hx hb dX7_divideLong_15 rfl (lv_at hl 0 rfl) ?_
  refine x_get F hK hW xc_X7 (cd_dX7 hn) (cd_eX7 hN hn) 0 (by decide) k_2_89 (rfl) dX7_divideLong_16 ?_
  refine lv_iconst (v := (1 : Int32)) hx hb dX7_divideLong_19 (by decide) ?_
  refine x_putN F hK hI hW hS xc_X1 (cd_dX1 hn) (cd_eX1 hN hn) 6 (by decide) kn_36 rfl (v := (1 : Int32)) rfl rfl (fun _ _ => rfl) (fun _ _ => Nat.le_of_ble_eq_true rfl) dX7_divideLong_20 h (fun S8 H locs hW hS h => ?_)
  exact x_vret F hr hlk hW hS dX7_divideLong_23 h
/-! X7_doDoubleWords -/
def c7_doDoubleWords (n : Nat) (S : xS) (a1 : Int32) : Option (Int32 × xS) := if a1 = (25 : Int32) then ((c7_normalise n S (((xI S n 4 1) <<< ((16 : Int32) &&& 31)) ||| (xI S n 4 0))).bind (fun S2 => some ((1 : Int32), S2))) else (if a1 = (26 : Int32) then ((c7_divideLong n S ((jlshl ((xI S n 4 2).toInt64) (16 : Int32)) ||| ((xI S n 4 1).toInt64)) (xI S n 4 0)).bind (fun S3 => some ((1 : Int32), S3))) else (if a1 = (29 : Int32) then (xnm (sI S n 4 2 (xI S n 4 1)) (fun S4 => (c11_signed (xI S n 4 0)).bind (fun r_5 => if 0 ≤ r_5 then (xnm (sI S4 n 4 1 (0 : Int32)) (fun S7 => some ((1 : Int32), S7))) else (xnm (sI S4 n 4 1 (65535 : Int32)) (fun S8 => some ((1 : Int32), S8)))))) else (if a1 = (49 : Int32) then ((c7_setDouble n S (((xI S n 4 0) * (xI S n 4 1)) + (xI S n 4 2))).bind (fun S9 => some ((1 : Int32), S9))) else (if a1 = (53 : Int32) then (if (xI S n 4 0) < (32 : Int32) then ((c7_setDouble n S (iush (((xI S n 4 2) <<< ((16 : Int32) &&& 31)) ||| (xI S n 4 1)) (xI S n 4 0))).bind (fun S11 => some ((1 : Int32), S11))) else ((c7_setDouble n S (0 : Int32)).bind (fun S12 => some ((1 : Int32), S12)))) else (if a1 = (54 : Int32) then (if (xI S n 4 0) < (32 : Int32) then ((c7_setDouble n S ((((xI S n 4 2) <<< ((16 : Int32) &&& 31)) ||| (xI S n 4 1)) <<< ((xI S n 4 0) &&& 31))).bind (fun S14 => some ((1 : Int32), S14))) else ((c7_setDouble n S (0 : Int32)).bind (fun S15 => some ((1 : Int32), S15)))) else (if a1 = (55 : Int32) then ((c7_setDouble n S (((xI S n 4 0) + (xI S n 4 1)) + ((xI S n 4 2) &&& (1 : Int32)))).bind (fun S16 => some ((1 : Int32), S16))) else (if a1 = (63 : Int32) then (xnm (sI S n 4 2 (xI S n 4 1)) (fun S17 => xnm (sI S17 n 4 1 ((xI S n 4 0) &&& (1 : Int32))) (fun S18 => (c11_signed (xI S n 4 0)).bind (fun r_19 => xnm (sI S18 n 4 0 ((r_19 >>> ((1 : Int32) &&& 31)) &&& (65535 : Int32))) (fun S20 => some ((1 : Int32), S20)))))) else (if a1 = (79 : Int32) then (xnm (sI S n 4 0 ((((xI S n 4 1) - (xI S n 4 0)) - ((xI S n 4 2) &&& (1 : Int32))) &&& (65535 : Int32))) (fun S21 => if 0 ≤ (((xI S n 4 1) - (xI S n 4 0)) - ((xI S n 4 2) &&& (1 : Int32))) then (xnm (sI S21 n 4 1 (0 : Int32)) (fun S23 => some ((1 : Int32), S23))) else (xnm (sI S21 n 4 1 (1 : Int32)) (fun S24 => some ((1 : Int32), S24))))) else (some ((0 : Int32), S))))))))))
set_option maxHeartbeats 4000000 in
set_option maxRecDepth 100000 in
theorem m_c7_doDoubleWords {l : Launch} {D : va_G} {cI cJ cL cN : ClassId} {ad : Nat → Nat → Nat} {N : Nat} (hN : N ≤ 8) (hI : xInj (cDom N) ad) {n : Nat} (hn : n < N) {S : xS} (a1 : Int32) {o : Int32 × xS} (h : c7_doDoubleWords n S a1 = some o) : Met l yX7_doDoubleWords (Cond.code yX7_doDoubleWords cX7_doDoubleWords 6 (some .boolean) :: xG) { frames := 2, cells := 0, slots := 0, locals := 44 } (xPc D vwCl (cTy cI cJ cL cN) cNf cNm (cDom N) ad (cDe ad N cI cJ cL cN) [.ref (ad n 20), .int a1] S) (xQ D vwCl (cDom N) ad (cDe ad N cI cJ cL cN) (some (.int o.1)) o.2) 0 0 (xA (cDom N) ad) := by
  unfold c7_doDoubleWords at h
  refine x_enter (by decide) (Nat.le_of_ble_eq_true rfl) (fun p e s m below meth c F hr hlk hK hW hS ls hl => ?_)
  have hl : lv_has ls 6 [(0, .ref (ad n 20)), (1, .int a1)] := hl
  have hx := F.1
  have hb := F.2.1
  refine lv_aload_n hx hb dX7_doDoubleWords_0 rfl (lv_at hl 0 rfl) ?_
  refine x_get F hK hW xc_X7 (cd_dX7 hn) (cd_eX7 hN hn) 1 (by decide) k_2_90 (rfl) dX7_doDoubleWords_1 ?_
  refine x_getN F hK hW xc_X9 (cd_dX9 ⟨hn, Or.inl rfl⟩) (cd_eX9 hN ⟨hn, Or.inl rfl⟩) 0 (by decide) kn_2 (rfl) dX7_doDoubleWords_4 ?_
  refine lv_istore_n (lv' := [(2, .int (xI S n 4 0)), (0, .ref (ad n 20)), (1, .int a1)]) hx hb dX7_doDoubleWords_7 rfl hl (by decide) rfl (fun ls hl => ?_)
  refine lv_aload_n hx hb dX7_doDoubleWords_8 rfl (lv_at hl 1 rfl) ?_
  refine x_get F hK hW xc_X7 (cd_dX7 hn) (cd_eX7 hN hn) 1 (by decide) k_2_90 (rfl) dX7_doDoubleWords_9 ?_
  refine x_getN F hK hW xc_X9 (cd_dX9 ⟨hn, Or.inl rfl⟩) (cd_eX9 hN ⟨hn, Or.inl rfl⟩) 1 (by decide) kn_5 (rfl) dX7_doDoubleWords_12 ?_
  refine lv_istore_n (lv' := [(3, .int (xI S n 4 1)), (2, .int (xI S n 4 0)), (0, .ref (ad n 20)), (1, .int a1)]) hx hb dX7_doDoubleWords_15 rfl hl (by decide) rfl (fun ls hl => ?_)
  refine lv_aload_n hx hb dX7_doDoubleWords_16 rfl (lv_at hl 2 rfl) ?_
  refine x_get F hK hW xc_X7 (cd_dX7 hn) (cd_eX7 hN hn) 1 (by decide) k_2_90 (rfl) dX7_doDoubleWords_17 ?_
  refine x_getN F hK hW xc_X9 (cd_dX9 ⟨hn, Or.inl rfl⟩) (cd_eX9 hN ⟨hn, Or.inl rfl⟩) 2 (by decide) kn_8 (rfl) dX7_doDoubleWords_20 ?_
  refine lv_istore (lv' := [(4, .int (xI S n 4 2)), (3, .int (xI S n 4 1)), (2, .int (xI S n 4 0)), (0, .ref (ad n 20)), (1, .int a1)]) hx hb dX7_doDoubleWords_23 hl (by decide) rfl (fun ls hl => ?_)
  refine lv_iload hx hb dX7_doDoubleWords_25 (lv_at hl 0 rfl) ?_
  refine lv_iconst (v := (1 : Int32)) hx hb dX7_doDoubleWords_27 (by decide) ?_
  refine lv_iand hx hb dX7_doDoubleWords_28 ?_
  refine lv_istore (lv' := [(5, .int ((xI S n 4 2) &&& (1 : Int32))), (4, .int (xI S n 4 2)), (3, .int (xI S n 4 1)), (2, .int (xI S n 4 0)), (0, .ref (ad n 20)), (1, .int a1)]) hx hb dX7_doDoubleWords_29 hl (by decide) rfl (fun ls hl => ?_)
  refine lv_iload_n hx hb dX7_doDoubleWords_31 rfl (lv_at hl 5 rfl) ?_
  by_cases c_1_25 : a1 = (25 : Int32)
  · replace h := (if_pos c_1_25).symm.trans h
    refine lv_lookup (tgt := 116) (off := 84) hx hb dX7_doDoubleWords_32 (by decide) (by rw [c_1_25]; decide) (by decide) ?_
    refine lv_aload_n hx hb dX7_doDoubleWords_116 rfl (lv_at hl 4 rfl) ?_
    refine lv_iload_n hx hb dX7_doDoubleWords_117 rfl (lv_at hl 2 rfl) ?_
    refine lv_bipush (v := (16 : Int32)) hx hb dX7_doDoubleWords_118 (by decide) ?_
    refine lv_ishl hx hb dX7_doDoubleWords_120 ?_
    refine lv_iload_n hx hb dX7_doDoubleWords_121 rfl (lv_at hl 3 rfl) ?_
    refine lv_ior hx hb dX7_doDoubleWords_122 ?_
    refine x_cVv (As := [.int (((xI S n 4 1) <<< ((16 : Int32) &&& 31)) ||| (xI S n 4 0))]) F xG_ok hK hW hS um_X7_normalise k_4_96 (fun _ h1 => m_c7_normalise hN hI hn _ h1) rfl (cd_dX7 hn) (cd_eX7 hN hn) rfl rfl hl.1 rfl rfl ⟨Nat.le_of_ble_eq_true rfl, Nat.le_of_ble_eq_true rfl⟩ ⟨Nat.zero_le _, Nat.zero_le _⟩ (Nat.le_of_ble_eq_true rfl) dX7_doDoubleWords_123 h (fun S2 H locs hW hS h => ?_)
    refine lv_goto (tgt := 334) hx hb dX7_doDoubleWords_126 (by decide) ?_
    refine lv_iconst (v := (1 : Int32)) hx hb dX7_doDoubleWords_334 (by decide) ?_
    exact x_zret F hr hlk hW hS rfl dX7_doDoubleWords_335 h
  replace h := (if_neg c_1_25).symm.trans h
  have hn_1_25 := x_swN (z := 25) c_1_25 x_sw0 rfl
  by_cases c_1_26 : a1 = (26 : Int32)
  · replace h := (if_pos c_1_26).symm.trans h
    refine lv_lookup (tgt := 129) (off := 97) hx hb dX7_doDoubleWords_32 (by decide) (by rw [c_1_26]; decide) (by decide) ?_
    refine lv_aload_n hx hb dX7_doDoubleWords_129 rfl (lv_at hl 4 rfl) ?_
    refine lv_iload hx hb dX7_doDoubleWords_130 (lv_at hl 1 rfl) ?_
    refine lv_i2l (v := (xI S n 4 2).toInt64) hx hb dX7_doDoubleWords_132 rfl ?_
    refine lv_bipush (v := (16 : Int32)) hx hb dX7_doDoubleWords_133 (by decide) ?_
    refine lv_lshl (v := (jlshl ((xI S n 4 2).toInt64) (16 : Int32))) hx hb dX7_doDoubleWords_135 rfl ?_
    refine lv_iload_n hx hb dX7_doDoubleWords_136 rfl (lv_at hl 2 rfl) ?_
    refine lv_i2l (v := (xI S n 4 1).toInt64) hx hb dX7_doDoubleWords_137 rfl ?_
    refine lv_lor hx hb dX7_doDoubleWords_138 ?_
    refine lv_iload_n hx hb dX7_doDoubleWords_139 rfl (lv_at hl 3 rfl) ?_
    refine x_cVv (As := [.long ((jlshl ((xI S n 4 2).toInt64) (16 : Int32)) ||| ((xI S n 4 1).toInt64)), .int (xI S n 4 0)]) F xG_ok hK hW hS um_X7_divideLong k_4_104 (fun _ h1 => m_c7_divideLong hN hI hn _ _ h1) rfl (cd_dX7 hn) (cd_eX7 hN hn) rfl rfl hl.1 rfl rfl ⟨Nat.le_of_ble_eq_true rfl, Nat.le_of_ble_eq_true rfl⟩ ⟨Nat.zero_le _, Nat.zero_le _⟩ (Nat.le_of_ble_eq_true rfl) dX7_doDoubleWords_140 h (fun S3 H locs hW hS h => ?_)
    refine lv_goto (tgt := 334) hx hb dX7_doDoubleWords_143 (by decide) ?_
    refine lv_iconst (v := (1 : Int32)) hx hb dX7_doDoubleWords_334 (by decide) ?_
    exact x_zret F hr hlk hW hS rfl dX7_doDoubleWords_335 h
  replace h := (if_neg c_1_26).symm.trans h
  have hn_1_26 := x_swN (z := 26) c_1_26 hn_1_25 rfl
  by_cases c_1_29 : a1 = (29 : Int32)
  · replace h := (if_pos c_1_29).symm.trans h
    refine lv_lookup (tgt := 146) (off := 114) hx hb dX7_doDoubleWords_32 (by decide) (by rw [c_1_29]; decide) (by decide) ?_
    refine lv_aload_n hx hb dX7_doDoubleWords_146 rfl (lv_at hl 4 rfl) ?_
    refine x_get F hK hW xc_X7 (cd_dX7 hn) (cd_eX7 hN hn) 1 (by decide) k_2_90 (rfl) dX7_doDoubleWords_147 ?_
    refine lv_iload_n hx hb dX7_doDoubleWords_150 rfl (lv_at hl 2 rfl) ?_
    refine x_putN F hK hI hW hS xc_X9 (cd_dX9 ⟨hn, Or.inl rfl⟩) (cd_eX9 hN ⟨hn, Or.inl rfl⟩) 2 (by decide) kn_8 rfl (v := (xI S n 4 1)) rfl rfl (fun _ _ => rfl) (fun _ _ => Nat.le_of_ble_eq_true rfl) dX7_doDoubleWords_151 h (fun S4 H locs hW hS h => ?_)
    refine lv_aload_n hx hb dX7_doDoubleWords_154 rfl (lv_at hl 4 rfl) ?_
    refine x_get F hK hW xc_X7 (cd_dX7 hn) (cd_eX7 hN hn) 1 (by decide) k_2_90 (rfl) dX7_doDoubleWords_155 ?_
    refine lv_iload_n hx hb dX7_doDoubleWords_158 rfl (lv_at hl 3 rfl) ?_
    refine x_cSNi (As := [.int (xI S n 4 0)]) F xG_ok hS hK um_X11_signed km_10 (fun _ h1 => m_c11_signed _ h1) rfl rfl hl.1 rfl rfl ⟨Nat.le_of_ble_eq_true rfl, Nat.le_of_ble_eq_true rfl⟩ ⟨Nat.zero_le _, Nat.zero_le _⟩ (Nat.le_of_ble_eq_true rfl) dX7_doDoubleWords_159 h (fun r_5 locs hS h => ?_)
    refine lv_if_ge (tgt := 170) hx hb dX7_doDoubleWords_162 (by decide) (fun c_6 => ?_) (fun c_6 => ?_)
    · replace h := (if_pos c_6).symm.trans h
      refine lv_iconst (v := (0 : Int32)) hx hb dX7_doDoubleWords_170 (by decide) ?_
      refine x_putN F hK hI hW hS xc_X9 (cd_dX9 ⟨hn, Or.inl rfl⟩) (cd_eX9 hN ⟨hn, Or.inl rfl⟩) 1 (by decide) kn_5 rfl (v := (0 : Int32)) rfl rfl (fun _ _ => rfl) (fun _ _ => Nat.le_of_ble_eq_true rfl) dX7_doDoubleWords_171 h (fun S7 H locs hW hS h => ?_)
      refine lv_goto (tgt := 334) hx hb dX7_doDoubleWords_174 (by decide) ?_
      refine lv_iconst (v := (1 : Int32)) hx hb dX7_doDoubleWords_334 (by decide) ?_
      exact x_zret F hr hlk hW hS rfl dX7_doDoubleWords_335 h
    replace h := (if_neg c_6).symm.trans h
    refine lv_ldc (v := (65535 : Int32)) hx hb F.2.2.2.1 (x_hts F _ k_4_18) dX7_doDoubleWords_165 ?_
    refine lv_goto (tgt := 171) hx hb dX7_doDoubleWords_167 (by decide) ?_
    refine x_putN F hK hI hW hS xc_X9 (cd_dX9 ⟨hn, Or.inl rfl⟩) (cd_eX9 hN ⟨hn, Or.inl rfl⟩) 1 (by decide) kn_5 rfl (v := (65535 : Int32)) rfl rfl (fun _ _ => rfl) (fun _ _ => Nat.le_of_ble_eq_true rfl) dX7_doDoubleWords_171 h (fun S8 H locs hW hS h => ?_)
    refine lv_goto (tgt := 334) hx hb dX7_doDoubleWords_174 (by decide) ?_
    refine lv_iconst (v := (1 : Int32)) hx hb dX7_doDoubleWords_334 (by decide) ?_
    exact x_zret F hr hlk hW hS rfl dX7_doDoubleWords_335 h
  replace h := (if_neg c_1_29).symm.trans h
  have hn_1_29 := x_swN (z := 29) c_1_29 hn_1_26 rfl
  by_cases c_1_49 : a1 = (49 : Int32)
  · replace h := (if_pos c_1_49).symm.trans h
    refine lv_lookup (tgt := 177) (off := 145) hx hb dX7_doDoubleWords_32 (by decide) (by rw [c_1_49]; decide) (by decide) ?_
    refine lv_aload_n hx hb dX7_doDoubleWords_177 rfl (lv_at hl 4 rfl) ?_
    refine lv_iload_n hx hb dX7_doDoubleWords_178 rfl (lv_at hl 3 rfl) ?_
    refine lv_iload_n hx hb dX7_doDoubleWords_179 rfl (lv_at hl 2 rfl) ?_
    refine lv_imul hx hb dX7_doDoubleWords_180 ?_
    refine lv_iload hx hb dX7_doDoubleWords_181 (lv_at hl 1 rfl) ?_
    refine lv_iadd hx hb dX7_doDoubleWords_183 ?_
    refine x_cVv (As := [.int (((xI S n 4 0) * (xI S n 4 1)) + (xI S n 4 2))]) F xG_ok hK hW hS um_X7_setDouble k_4_100 (fun _ h1 => m_c7_setDouble hN hI hn _ h1) rfl (cd_dX7 hn) (cd_eX7 hN hn) rfl rfl hl.1 rfl rfl ⟨Nat.le_of_ble_eq_true rfl, Nat.le_of_ble_eq_true rfl⟩ ⟨Nat.zero_le _, Nat.zero_le _⟩ (Nat.le_of_ble_eq_true rfl) dX7_doDoubleWords_184 h (fun S9 H locs hW hS h => ?_)
    refine lv_goto (tgt := 334) hx hb dX7_doDoubleWords_187 (by decide) ?_
    refine lv_iconst (v := (1 : Int32)) hx hb dX7_doDoubleWords_334 (by decide) ?_
    exact x_zret F hr hlk hW hS rfl dX7_doDoubleWords_335 h
  replace h := (if_neg c_1_49).symm.trans h
  have hn_1_49 := x_swN (z := 49) c_1_49 hn_1_29 rfl
  by_cases c_1_53 : a1 = (53 : Int32)
  · replace h := (if_pos c_1_53).symm.trans h
    refine lv_lookup (tgt := 190) (off := 158) hx hb dX7_doDoubleWords_32 (by decide) (by rw [c_1_53]; decide) (by decide) ?_
    refine lv_aload_n hx hb dX7_doDoubleWords_190 rfl (lv_at hl 4 rfl) ?_
    refine lv_iload_n hx hb dX7_doDoubleWords_191 rfl (lv_at hl 3 rfl) ?_
    refine lv_bipush (v := (32 : Int32)) hx hb dX7_doDoubleWords_192 (by decide) ?_
    refine lv_icmp_lt (tgt := 201) hx hb dX7_doDoubleWords_194 (by decide) (fun c_10 => ?_) (fun c_10 => ?_)
    · replace h := (if_pos c_10).symm.trans h
      refine lv_iload hx hb dX7_doDoubleWords_201 (lv_at hl 1 rfl) ?_
      refine lv_bipush (v := (16 : Int32)) hx hb dX7_doDoubleWords_203 (by decide) ?_
      refine lv_ishl hx hb dX7_doDoubleWords_205 ?_
      refine lv_iload_n hx hb dX7_doDoubleWords_206 rfl (lv_at hl 2 rfl) ?_
      refine lv_ior hx hb dX7_doDoubleWords_207 ?_
      refine lv_iload_n hx hb dX7_doDoubleWords_208 rfl (lv_at hl 3 rfl) ?_
      refine lv_iushr (v := (iush (((xI S n 4 2) <<< ((16 : Int32) &&& 31)) ||| (xI S n 4 1)) (xI S n 4 0))) hx hb dX7_doDoubleWords_209 rfl ?_
      refine x_cVv (As := [.int (iush (((xI S n 4 2) <<< ((16 : Int32) &&& 31)) ||| (xI S n 4 1)) (xI S n 4 0))]) F xG_ok hK hW hS um_X7_setDouble k_4_100 (fun _ h1 => m_c7_setDouble hN hI hn _ h1) rfl (cd_dX7 hn) (cd_eX7 hN hn) rfl rfl hl.1 rfl rfl ⟨Nat.le_of_ble_eq_true rfl, Nat.le_of_ble_eq_true rfl⟩ ⟨Nat.zero_le _, Nat.zero_le _⟩ (Nat.le_of_ble_eq_true rfl) dX7_doDoubleWords_210 h (fun S11 H locs hW hS h => ?_)
      refine lv_goto (tgt := 334) hx hb dX7_doDoubleWords_213 (by decide) ?_
      refine lv_iconst (v := (1 : Int32)) hx hb dX7_doDoubleWords_334 (by decide) ?_
      exact x_zret F hr hlk hW hS rfl dX7_doDoubleWords_335 h
    replace h := (if_neg c_10).symm.trans h
    refine lv_iconst (v := (0 : Int32)) hx hb dX7_doDoubleWords_197 (by decide) ?_
    refine lv_goto (tgt := 210) hx hb dX7_doDoubleWords_198 (by decide) ?_
    refine x_cVv (As := [.int (0 : Int32)]) F xG_ok hK hW hS um_X7_setDouble k_4_100 (fun _ h1 => m_c7_setDouble hN hI hn _ h1) rfl (cd_dX7 hn) (cd_eX7 hN hn) rfl rfl hl.1 rfl rfl ⟨Nat.le_of_ble_eq_true rfl, Nat.le_of_ble_eq_true rfl⟩ ⟨Nat.zero_le _, Nat.zero_le _⟩ (Nat.le_of_ble_eq_true rfl) dX7_doDoubleWords_210 h (fun S12 H locs hW hS h => ?_)
    refine lv_goto (tgt := 334) hx hb dX7_doDoubleWords_213 (by decide) ?_
    refine lv_iconst (v := (1 : Int32)) hx hb dX7_doDoubleWords_334 (by decide) ?_
    exact x_zret F hr hlk hW hS rfl dX7_doDoubleWords_335 h
  replace h := (if_neg c_1_53).symm.trans h
  have hn_1_53 := x_swN (z := 53) c_1_53 hn_1_49 rfl
  by_cases c_1_54 : a1 = (54 : Int32)
  · replace h := (if_pos c_1_54).symm.trans h
    refine lv_lookup (tgt := 216) (off := 184) hx hb dX7_doDoubleWords_32 (by decide) (by rw [c_1_54]; decide) (by decide) ?_
    refine lv_aload_n hx hb dX7_doDoubleWords_216 rfl (lv_at hl 4 rfl) ?_
    refine lv_iload_n hx hb dX7_doDoubleWords_217 rfl (lv_at hl 3 rfl) ?_
    refine lv_bipush (v := (32 : Int32)) hx hb dX7_doDoubleWords_218 (by decide) ?_
    refine lv_icmp_lt (tgt := 227) hx hb dX7_doDoubleWords_220 (by decide) (fun c_13 => ?_) (fun c_13 => ?_)
    · replace h := (if_pos c_13).symm.trans h
      refine lv_iload hx hb dX7_doDoubleWords_227 (lv_at hl 1 rfl) ?_
      refine lv_bipush (v := (16 : Int32)) hx hb dX7_doDoubleWords_229 (by decide) ?_
      refine lv_ishl hx hb dX7_doDoubleWords_231 ?_
      refine lv_iload_n hx hb dX7_doDoubleWords_232 rfl (lv_at hl 2 rfl) ?_
      refine lv_ior hx hb dX7_doDoubleWords_233 ?_
      refine lv_iload_n hx hb dX7_doDoubleWords_234 rfl (lv_at hl 3 rfl) ?_
      refine lv_ishl hx hb dX7_doDoubleWords_235 ?_
      refine x_cVv (As := [.int ((((xI S n 4 2) <<< ((16 : Int32) &&& 31)) ||| (xI S n 4 1)) <<< ((xI S n 4 0) &&& 31))]) F xG_ok hK hW hS um_X7_setDouble k_4_100 (fun _ h1 => m_c7_setDouble hN hI hn _ h1) rfl (cd_dX7 hn) (cd_eX7 hN hn) rfl rfl hl.1 rfl rfl ⟨Nat.le_of_ble_eq_true rfl, Nat.le_of_ble_eq_true rfl⟩ ⟨Nat.zero_le _, Nat.zero_le _⟩ (Nat.le_of_ble_eq_true rfl) dX7_doDoubleWords_236 h (fun S14 H locs hW hS h => ?_)
      refine lv_goto (tgt := 334) hx hb dX7_doDoubleWords_239 (by decide) ?_
      refine lv_iconst (v := (1 : Int32)) hx hb dX7_doDoubleWords_334 (by decide) ?_
      exact x_zret F hr hlk hW hS rfl dX7_doDoubleWords_335 h
    replace h := (if_neg c_13).symm.trans h
    refine lv_iconst (v := (0 : Int32)) hx hb dX7_doDoubleWords_223 (by decide) ?_
    refine lv_goto (tgt := 236) hx hb dX7_doDoubleWords_224 (by decide) ?_
    refine x_cVv (As := [.int (0 : Int32)]) F xG_ok hK hW hS um_X7_setDouble k_4_100 (fun _ h1 => m_c7_setDouble hN hI hn _ h1) rfl (cd_dX7 hn) (cd_eX7 hN hn) rfl rfl hl.1 rfl rfl ⟨Nat.le_of_ble_eq_true rfl, Nat.le_of_ble_eq_true rfl⟩ ⟨Nat.zero_le _, Nat.zero_le _⟩ (Nat.le_of_ble_eq_true rfl) dX7_doDoubleWords_236 h (fun S15 H locs hW hS h => ?_)
    refine lv_goto (tgt := 334) hx hb dX7_doDoubleWords_239 (by decide) ?_
    refine lv_iconst (v := (1 : Int32)) hx hb dX7_doDoubleWords_334 (by decide) ?_
    exact x_zret F hr hlk hW hS rfl dX7_doDoubleWords_335 h
  replace h := (if_neg c_1_54).symm.trans h
  have hn_1_54 := x_swN (z := 54) c_1_54 hn_1_53 rfl
  by_cases c_1_55 : a1 = (55 : Int32)
  · replace h := (if_pos c_1_55).symm.trans h
    refine lv_lookup (tgt := 242) (off := 210) hx hb dX7_doDoubleWords_32 (by decide) (by rw [c_1_55]; decide) (by decide) ?_
    refine lv_aload_n hx hb dX7_doDoubleWords_242 rfl (lv_at hl 4 rfl) ?_
    refine lv_iload_n hx hb dX7_doDoubleWords_243 rfl (lv_at hl 3 rfl) ?_
    refine lv_iload_n hx hb dX7_doDoubleWords_244 rfl (lv_at hl 2 rfl) ?_
    refine lv_iadd hx hb dX7_doDoubleWords_245 ?_
    refine lv_iload hx hb dX7_doDoubleWords_246 (lv_at hl 0 rfl) ?_
    refine lv_iadd hx hb dX7_doDoubleWords_248 ?_
    refine x_cVv (As := [.int (((xI S n 4 0) + (xI S n 4 1)) + ((xI S n 4 2) &&& (1 : Int32)))]) F xG_ok hK hW hS um_X7_setDouble k_4_100 (fun _ h1 => m_c7_setDouble hN hI hn _ h1) rfl (cd_dX7 hn) (cd_eX7 hN hn) rfl rfl hl.1 rfl rfl ⟨Nat.le_of_ble_eq_true rfl, Nat.le_of_ble_eq_true rfl⟩ ⟨Nat.zero_le _, Nat.zero_le _⟩ (Nat.le_of_ble_eq_true rfl) dX7_doDoubleWords_249 h (fun S16 H locs hW hS h => ?_)
    refine lv_goto (tgt := 334) hx hb dX7_doDoubleWords_252 (by decide) ?_
    refine lv_iconst (v := (1 : Int32)) hx hb dX7_doDoubleWords_334 (by decide) ?_
    exact x_zret F hr hlk hW hS rfl dX7_doDoubleWords_335 h
  replace h := (if_neg c_1_55).symm.trans h
  have hn_1_55 := x_swN (z := 55) c_1_55 hn_1_54 rfl
  by_cases c_1_63 : a1 = (63 : Int32)
  · replace h := (if_pos c_1_63).symm.trans h
    refine lv_lookup (tgt := 255) (off := 223) hx hb dX7_doDoubleWords_32 (by decide) (by rw [c_1_63]; decide) (by decide) ?_
    refine lv_aload_n hx hb dX7_doDoubleWords_255 rfl (lv_at hl 4 rfl) ?_
    refine x_get F hK hW xc_X7 (cd_dX7 hn) (cd_eX7 hN hn) 1 (by decide) k_2_90 (rfl) dX7_doDoubleWords_256 ?_
    refine lv_iload_n hx hb dX7_doDoubleWords_259 rfl (lv_at hl 2 rfl) ?_
    refine x_putN F hK hI hW hS xc_X9 (cd_dX9 ⟨hn, Or.inl rfl⟩) (cd_eX9 hN ⟨hn, Or.inl rfl⟩) 2 (by decide) kn_8 rfl (v := (xI S n 4 1)) rfl rfl (fun _ _ => rfl) (fun _ _ => Nat.le_of_ble_eq_true rfl) dX7_doDoubleWords_260 h (fun S17 H locs hW hS h => ?_)
    refine lv_aload_n hx hb dX7_doDoubleWords_263 rfl (lv_at hl 4 rfl) ?_
    refine x_get F hK hW xc_X7 (cd_dX7 hn) (cd_eX7 hN hn) 1 (by decide) k_2_90 (rfl) dX7_doDoubleWords_264 ?_
    refine lv_iload_n hx hb dX7_doDoubleWords_267 rfl (lv_at hl 3 rfl) ?_
    refine lv_iconst (v := (1 : Int32)) hx hb dX7_doDoubleWords_268 (by decide) ?_
    refine lv_iand hx hb dX7_doDoubleWords_269 ?_
    refine x_putN F hK hI hW hS xc_X9 (cd_dX9 ⟨hn, Or.inl rfl⟩) (cd_eX9 hN ⟨hn, Or.inl rfl⟩) 1 (by decide) kn_5 rfl (v := ((xI S n 4 0) &&& (1 : Int32))) rfl rfl (fun _ _ => rfl) (fun _ _ => Nat.le_of_ble_eq_true rfl) dX7_doDoubleWords_270 h (fun S18 H locs hW hS h => ?_)
    refine lv_aload_n hx hb dX7_doDoubleWords_273 rfl (lv_at hl 4 rfl) ?_
    refine x_get F hK hW xc_X7 (cd_dX7 hn) (cd_eX7 hN hn) 1 (by decide) k_2_90 (rfl) dX7_doDoubleWords_274 ?_
    refine lv_iload_n hx hb dX7_doDoubleWords_277 rfl (lv_at hl 3 rfl) ?_
    refine x_cSNi (As := [.int (xI S n 4 0)]) F xG_ok hS hK um_X11_signed km_10 (fun _ h1 => m_c11_signed _ h1) rfl rfl hl.1 rfl rfl ⟨Nat.le_of_ble_eq_true rfl, Nat.le_of_ble_eq_true rfl⟩ ⟨Nat.zero_le _, Nat.zero_le _⟩ (Nat.le_of_ble_eq_true rfl) dX7_doDoubleWords_278 h (fun r_19 locs hS h => ?_)
    refine lv_iconst (v := (1 : Int32)) hx hb dX7_doDoubleWords_281 (by decide) ?_
    refine lv_ishr hx hb dX7_doDoubleWords_282 ?_
    refine lv_ldc (v := (65535 : Int32)) hx hb F.2.2.2.1 (x_hts F _ k_4_18) dX7_doDoubleWords_283 ?_
    refine lv_iand hx hb dX7_doDoubleWords_285 ?_
    refine x_putN F hK hI hW hS xc_X9 (cd_dX9 ⟨hn, Or.inl rfl⟩) (cd_eX9 hN ⟨hn, Or.inl rfl⟩) 0 (by decide) kn_2 rfl (v := ((r_19 >>> ((1 : Int32) &&& 31)) &&& (65535 : Int32))) rfl rfl (fun _ _ => rfl) (fun _ _ => Nat.le_of_ble_eq_true rfl) dX7_doDoubleWords_286 h (fun S20 H locs hW hS h => ?_)
    refine lv_goto (tgt := 334) hx hb dX7_doDoubleWords_289 (by decide) ?_
    refine lv_iconst (v := (1 : Int32)) hx hb dX7_doDoubleWords_334 (by decide) ?_
    exact x_zret F hr hlk hW hS rfl dX7_doDoubleWords_335 h
  replace h := (if_neg c_1_63).symm.trans h
  have hn_1_63 := x_swN (z := 63) c_1_63 hn_1_55 rfl
  by_cases c_1_79 : a1 = (79 : Int32)
  · replace h := (if_pos c_1_79).symm.trans h
    refine lv_lookup (tgt := 292) (off := 260) hx hb dX7_doDoubleWords_32 (by decide) (by rw [c_1_79]; decide) (by decide) ?_
    refine lv_aload_n hx hb dX7_doDoubleWords_292 rfl (lv_at hl 4 rfl) ?_
    refine x_get F hK hW xc_X7 (cd_dX7 hn) (cd_eX7 hN hn) 1 (by decide) k_2_90 (rfl) dX7_doDoubleWords_293 ?_
    refine lv_iload_n hx hb dX7_doDoubleWords_296 rfl (lv_at hl 2 rfl) ?_
    refine lv_iload_n hx hb dX7_doDoubleWords_297 rfl (lv_at hl 3 rfl) ?_
    refine lv_isub hx hb dX7_doDoubleWords_298 ?_
    refine lv_iload hx hb dX7_doDoubleWords_299 (lv_at hl 0 rfl) ?_
    refine lv_isub hx hb dX7_doDoubleWords_301 ?_
    refine lv_ldc (v := (65535 : Int32)) hx hb F.2.2.2.1 (x_hts F _ k_4_18) dX7_doDoubleWords_302 ?_
    refine lv_iand hx hb dX7_doDoubleWords_304 ?_
    refine x_putN F hK hI hW hS xc_X9 (cd_dX9 ⟨hn, Or.inl rfl⟩) (cd_eX9 hN ⟨hn, Or.inl rfl⟩) 0 (by decide) kn_2 rfl (v := ((((xI S n 4 1) - (xI S n 4 0)) - ((xI S n 4 2) &&& (1 : Int32))) &&& (65535 : Int32))) rfl rfl (fun _ _ => rfl) (fun _ _ => Nat.le_of_ble_eq_true rfl) dX7_doDoubleWords_305 h (fun S21 H locs hW hS h => ?_)
    refine lv_aload_n hx hb dX7_doDoubleWords_308 rfl (lv_at hl 4 rfl) ?_
    refine x_get F hK hW xc_X7 (cd_dX7 hn) (cd_eX7 hN hn) 1 (by decide) k_2_90 (rfl) dX7_doDoubleWords_309 ?_
    refine lv_iload_n hx hb dX7_doDoubleWords_312 rfl (lv_at hl 2 rfl) ?_
    refine lv_iload_n hx hb dX7_doDoubleWords_313 rfl (lv_at hl 3 rfl) ?_
    refine lv_isub hx hb dX7_doDoubleWords_314 ?_
    refine lv_iload hx hb dX7_doDoubleWords_315 (lv_at hl 0 rfl) ?_
    refine lv_isub hx hb dX7_doDoubleWords_317 ?_
    refine lv_if_ge (tgt := 325) hx hb dX7_doDoubleWords_318 (by decide) (fun c_22 => ?_) (fun c_22 => ?_)
    · replace h := (if_pos c_22).symm.trans h
      refine lv_iconst (v := (0 : Int32)) hx hb dX7_doDoubleWords_325 (by decide) ?_
      refine x_putN F hK hI hW hS xc_X9 (cd_dX9 ⟨hn, Or.inl rfl⟩) (cd_eX9 hN ⟨hn, Or.inl rfl⟩) 1 (by decide) kn_5 rfl (v := (0 : Int32)) rfl rfl (fun _ _ => rfl) (fun _ _ => Nat.le_of_ble_eq_true rfl) dX7_doDoubleWords_326 h (fun S23 H locs hW hS h => ?_)
      refine lv_goto (tgt := 334) hx hb dX7_doDoubleWords_329 (by decide) ?_
      refine lv_iconst (v := (1 : Int32)) hx hb dX7_doDoubleWords_334 (by decide) ?_
      exact x_zret F hr hlk hW hS rfl dX7_doDoubleWords_335 h
    replace h := (if_neg c_22).symm.trans h
    refine lv_iconst (v := (1 : Int32)) hx hb dX7_doDoubleWords_321 (by decide) ?_
    refine lv_goto (tgt := 326) hx hb dX7_doDoubleWords_322 (by decide) ?_
    refine x_putN F hK hI hW hS xc_X9 (cd_dX9 ⟨hn, Or.inl rfl⟩) (cd_eX9 hN ⟨hn, Or.inl rfl⟩) 1 (by decide) kn_5 rfl (v := (1 : Int32)) rfl rfl (fun _ _ => rfl) (fun _ _ => Nat.le_of_ble_eq_true rfl) dX7_doDoubleWords_326 h (fun S24 H locs hW hS h => ?_)
    refine lv_goto (tgt := 334) hx hb dX7_doDoubleWords_329 (by decide) ?_
    refine lv_iconst (v := (1 : Int32)) hx hb dX7_doDoubleWords_334 (by decide) ?_
    exact x_zret F hr hlk hW hS rfl dX7_doDoubleWords_335 h
  replace h := (if_neg c_1_79).symm.trans h
  have hn_1_79 := x_swN (z := 79) c_1_79 hn_1_63 rfl
  refine x_lkpD (tgt := 332) hx hb dX7_doDoubleWords_32 hn_1_79 (by decide) (by decide) (by decide) ?_
  refine lv_iconst (v := (0 : Int32)) hx hb dX7_doDoubleWords_332 (by decide) ?_
  exact x_zret F hr hlk hW hS rfl dX7_doDoubleWords_333 h
/-! X7_failIf -/
def c7_failIf (n : Nat) (S : xS) (a1 : Int32) : Option (xS) := if a1 = 0 then (some S) else (xnm (sI S n 1 6 (1 : Int32)) (fun S2 => some S2))
set_option maxHeartbeats 4000000 in
set_option maxRecDepth 100000 in
theorem m_c7_failIf {l : Launch} {D : va_G} {cI cJ cL cN : ClassId} {ad : Nat → Nat → Nat} {N : Nat} (hN : N ≤ 8) (hI : xInj (cDom N) ad) {n : Nat} (hn : n < N) {S : xS} (a1 : Int32) {o : xS} (h : c7_failIf n S a1 = some o) : Met l yX7_failIf (Cond.code yX7_failIf cX7_failIf 2 none :: xG) { frames := 0, cells := 0, slots := 0, locals := 0 } (xPc D vwCl (cTy cI cJ cL cN) cNf cNm (cDom N) ad (cDe ad N cI cJ cL cN) [.ref (ad n 20), .int a1] S) (xQ D vwCl (cDom N) ad (cDe ad N cI cJ cL cN) none o) 0 0 (xA (cDom N) ad) := by
  unfold c7_failIf at h
  refine x_enter (by decide) (Nat.le_of_ble_eq_true rfl) (fun p e s m below meth c F hr hlk hK hW hS ls hl => ?_)
  have hl : lv_has ls 2 [(0, .ref (ad n 20)), (1, .int a1)] := hl
  have hx := F.1
  have hb := F.2.1
  refine lv_iload_n hx hb dX7_failIf_0 rfl (lv_at hl 1 rfl) ?_
  refine lv_if_eq (tgt := 12) hx hb dX7_failIf_1 (by decide) (fun c_1 => ?_) (fun c_1 => ?_)
  · replace h := (if_pos c_1).symm.trans h
    exact x_vret F hr hlk hW hS dX7_failIf_12 h
  replace h := (if_neg c_1).symm.trans h
  refine lv_aload_n hx hb dX7_failIf_4 rfl (lv_at hl 0 rfl) ?_
  refine x_get F hK hW xc_X7 (cd_dX7 hn) (cd_eX7 hN hn) 0 (by decide) k_2_89 (rfl) dX7_failIf_5 ?_
  refine lv_iconst (v := (1 : Int32)) hx hb dX7_failIf_8 (by decide) ?_
  refine x_putN F hK hI hW hS xc_X1 (cd_dX1 hn) (cd_eX1 hN hn) 6 (by decide) kn_36 rfl (v := (1 : Int32)) rfl rfl (fun _ _ => rfl) (fun _ _ => Nat.le_of_ble_eq_true rfl) dX7_failIf_9 h (fun S2 H locs hW hS h => ?_)
  exact x_vret F hr hlk hW hS dX7_failIf_12 h
/-! X7_doChecks -/
def c7_doChecks_b158 (n : Nat) (t0 : Int32) (S : xS) : Option (Int32 × xS) := (c9_push n 4 S t0).bind (fun S9 => xnm (sI S9 n 1 6 (0 : Int32)) (fun S10 => some ((1 : Int32), S10)))
set_option maxHeartbeats 4000000 in
set_option maxRecDepth 100000 in
theorem m_c7_doChecks_b158 {l : Launch} {D : va_G} {cI cJ cL cN : ClassId} {ad : Nat → Nat → Nat} {N : Nat} (hN : N ≤ 8) (hI : xInj (cDom N) ad) {n : Nat} (hn : n < N) {p : Program} {e : Env} {s : State} {m : MethodId} {args : Array Value} {below : List Frame} {meth : Method} {c : Code} (F : CallFix p m c cX7_doChecks 2 s args (Cond.code yX7_doChecks cX7_doChecks 2 (some .boolean) :: xG) (yX7_doChecks).cls) (hr : meth.sig.returnType = (some .boolean)) (hlk : meth.locks = false) (hK : xK D vwCl (cTy cI cJ cL cN) cNf cNm s) {o : Int32 × xS} (t0 : Int32) (S : xS) {H : Heap} {locs : List Loc} {ls : Array Slot} (h : c7_doChecks_b158 n t0 S = some o) (hW : xW D vwCl (cDom N) ad (cDe ad N cI cJ cL cN) S H) (hS : va_S (xA (cDom N) ad) s.heap H locs) (hl : lv_has ls 2 [(0, .ref (ad n 20))]) : W p l e { frames := 2, cells := 0, slots := 0, locals := 46 } s m args below meth c H locs 0 0 (MQ below (xQ D vwCl (cDom N) ad (cDe ad N cI cJ cL cN) (some (.int o.1)) o.2) args s 0 0 (xA (cDom N) ad)) (F0 m 158 ls [.int t0, .ref (ad n 4)]) := by
  have hx := F.1
  have hb := F.2.1
  unfold c7_doChecks_b158 at h
  refine x_cVv (As := [.int t0]) F xG_ok hK hW hS um_X9_push k_4_14 (fun _ h1 => m_c9_push hN hI ⟨hn, Or.inl rfl⟩ _ h1) rfl (cd_dX9 ⟨hn, Or.inl rfl⟩) (cd_eX9 hN ⟨hn, Or.inl rfl⟩) rfl rfl hl.1 rfl rfl ⟨Nat.le_of_ble_eq_true rfl, Nat.le_of_ble_eq_true rfl⟩ ⟨Nat.zero_le _, Nat.zero_le _⟩ (Nat.le_of_ble_eq_true rfl) dX7_doChecks_158 h (fun S9 H locs hW hS h => ?_)
  refine lv_aload_n hx hb dX7_doChecks_161 rfl (lv_at hl 0 rfl) ?_
  refine x_get F hK hW xc_X7 (cd_dX7 hn) (cd_eX7 hN hn) 0 (by decide) k_2_89 (rfl) dX7_doChecks_162 ?_
  refine lv_iconst (v := (0 : Int32)) hx hb dX7_doChecks_165 (by decide) ?_
  refine x_putN F hK hI hW hS xc_X1 (cd_dX1 hn) (cd_eX1 hN hn) 6 (by decide) kn_36 rfl (v := (0 : Int32)) rfl rfl (fun _ _ => rfl) (fun _ _ => Nat.le_of_ble_eq_true rfl) dX7_doChecks_166 h (fun S10 H locs hW hS h => ?_)
  refine lv_goto (tgt := 410) hx hb dX7_doChecks_169 (by decide) ?_
  refine lv_iconst (v := (1 : Int32)) hx hb dX7_doChecks_410 (by decide) ?_
  exact x_zret F hr hlk hW hS rfl dX7_doChecks_411 h
def c7_doChecks_b207 (n : Nat) (t0 : Int32) (S : xS) : Option (Int32 × xS) := (c7_failIf n S t0).bind (fun S14 => xnm (sI S14 n 4 1 (xI S14 n 4 2)) (fun S15 => some ((1 : Int32), S15)))
set_option maxHeartbeats 4000000 in
set_option maxRecDepth 100000 in
theorem m_c7_doChecks_b207 {l : Launch} {D : va_G} {cI cJ cL cN : ClassId} {ad : Nat → Nat → Nat} {N : Nat} (hN : N ≤ 8) (hI : xInj (cDom N) ad) {n : Nat} (hn : n < N) {p : Program} {e : Env} {s : State} {m : MethodId} {args : Array Value} {below : List Frame} {meth : Method} {c : Code} (F : CallFix p m c cX7_doChecks 2 s args (Cond.code yX7_doChecks cX7_doChecks 2 (some .boolean) :: xG) (yX7_doChecks).cls) (hr : meth.sig.returnType = (some .boolean)) (hlk : meth.locks = false) (hK : xK D vwCl (cTy cI cJ cL cN) cNf cNm s) {o : Int32 × xS} (t0 : Int32) (S : xS) {H : Heap} {locs : List Loc} {ls : Array Slot} (h : c7_doChecks_b207 n t0 S = some o) (hW : xW D vwCl (cDom N) ad (cDe ad N cI cJ cL cN) S H) (hS : va_S (xA (cDom N) ad) s.heap H locs) (hl : lv_has ls 2 [(0, .ref (ad n 20))]) : W p l e { frames := 2, cells := 0, slots := 0, locals := 46 } s m args below meth c H locs 0 0 (MQ below (xQ D vwCl (cDom N) ad (cDe ad N cI cJ cL cN) (some (.int o.1)) o.2) args s 0 0 (xA (cDom N) ad)) (F0 m 207 ls [.int t0, .ref (ad n 20)]) := by
  have hx := F.1
  have hb := F.2.1
  unfold c7_doChecks_b207 at h
  refine x_cVv (As := [.int t0]) F xG_ok hK hW hS um_X7_failIf k_4_112 (fun _ h1 => m_c7_failIf hN hI hn _ h1) rfl (cd_dX7 hn) (cd_eX7 hN hn) rfl rfl hl.1 rfl rfl ⟨Nat.le_of_ble_eq_true rfl, Nat.le_of_ble_eq_true rfl⟩ ⟨Nat.zero_le _, Nat.zero_le _⟩ (Nat.le_of_ble_eq_true rfl) dX7_doChecks_207 h (fun S14 H locs hW hS h => ?_)
  refine lv_aload_n hx hb dX7_doChecks_210 rfl (lv_at hl 0 rfl) ?_
  refine x_get F hK hW xc_X7 (cd_dX7 hn) (cd_eX7 hN hn) 1 (by decide) k_2_90 (rfl) dX7_doChecks_211 ?_
  refine lv_aload_n hx hb dX7_doChecks_214 rfl (lv_at hl 0 rfl) ?_
  refine x_get F hK hW xc_X7 (cd_dX7 hn) (cd_eX7 hN hn) 1 (by decide) k_2_90 (rfl) dX7_doChecks_215 ?_
  refine x_getN F hK hW xc_X9 (cd_dX9 ⟨hn, Or.inl rfl⟩) (cd_eX9 hN ⟨hn, Or.inl rfl⟩) 2 (by decide) kn_8 (rfl) dX7_doChecks_218 ?_
  refine x_putN F hK hI hW hS xc_X9 (cd_dX9 ⟨hn, Or.inl rfl⟩) (cd_eX9 hN ⟨hn, Or.inl rfl⟩) 1 (by decide) kn_5 rfl (v := (xI S14 n 4 2)) rfl rfl (fun _ _ => rfl) (fun _ _ => Nat.le_of_ble_eq_true rfl) dX7_doChecks_221 h (fun S15 H locs hW hS h => ?_)
  refine lv_goto (tgt := 410) hx hb dX7_doChecks_224 (by decide) ?_
  refine lv_iconst (v := (1 : Int32)) hx hb dX7_doChecks_410 (by decide) ?_
  exact x_zret F hr hlk hW hS rfl dX7_doChecks_411 h
def c7_doChecks_b199 (n : Nat) (t0 : Int32) (t1 : Int32) (S : xS) : Option (Int32 × xS) := if t1 = t0 then (c7_doChecks_b207 n (0 : Int32) S) else (c7_doChecks_b207 n (1 : Int32) S)
set_option maxHeartbeats 4000000 in
set_option maxRecDepth 100000 in
theorem m_c7_doChecks_b199 {l : Launch} {D : va_G} {cI cJ cL cN : ClassId} {ad : Nat → Nat → Nat} {N : Nat} (hN : N ≤ 8) (hI : xInj (cDom N) ad) {n : Nat} (hn : n < N) {p : Program} {e : Env} {s : State} {m : MethodId} {args : Array Value} {below : List Frame} {meth : Method} {c : Code} (F : CallFix p m c cX7_doChecks 2 s args (Cond.code yX7_doChecks cX7_doChecks 2 (some .boolean) :: xG) (yX7_doChecks).cls) (hr : meth.sig.returnType = (some .boolean)) (hlk : meth.locks = false) (hK : xK D vwCl (cTy cI cJ cL cN) cNf cNm s) {o : Int32 × xS} (t0 : Int32) (t1 : Int32) (S : xS) {H : Heap} {locs : List Loc} {ls : Array Slot} (h : c7_doChecks_b199 n t0 t1 S = some o) (hW : xW D vwCl (cDom N) ad (cDe ad N cI cJ cL cN) S H) (hS : va_S (xA (cDom N) ad) s.heap H locs) (hl : lv_has ls 2 [(0, .ref (ad n 20))]) : W p l e { frames := 2, cells := 0, slots := 0, locals := 46 } s m args below meth c H locs 0 0 (MQ below (xQ D vwCl (cDom N) ad (cDe ad N cI cJ cL cN) (some (.int o.1)) o.2) args s 0 0 (xA (cDom N) ad)) (F0 m 199 ls [.int t0, .int t1, .ref (ad n 20)]) := by
  have hx := F.1
  have hb := F.2.1
  unfold c7_doChecks_b199 at h
  refine lv_icmp_eq (tgt := 206) hx hb dX7_doChecks_199 (by decide) (fun c_13 => ?_) (fun c_13 => ?_)
  · replace h := (if_pos c_13).symm.trans h
    refine lv_iconst (v := (0 : Int32)) hx hb dX7_doChecks_206 (by decide) ?_
    exact m_c7_doChecks_b207 hN hI hn F hr hlk hK _ _ h hW hS (lv_sub hl [0] rfl)
  replace h := (if_neg c_13).symm.trans h
  refine lv_iconst (v := (1 : Int32)) hx hb dX7_doChecks_202 (by decide) ?_
  refine lv_goto (tgt := 207) hx hb dX7_doChecks_203 (by decide) ?_
  exact m_c7_doChecks_b207 hN hI hn F hr hlk hK _ _ h hW hS (lv_sub hl [0] rfl)
def c7_doChecks_b255 (n : Nat)  (S : xS) : Option (Int32 × xS) := (c7_failIf n S (1 : Int32)).bind (fun S17 => (c9_pop n 4 S17 ).bind (fun S18 => some ((1 : Int32), S18)))
set_option maxHeartbeats 4000000 in
set_option maxRecDepth 100000 in
theorem m_c7_doChecks_b255 {l : Launch} {D : va_G} {cI cJ cL cN : ClassId} {ad : Nat → Nat → Nat} {N : Nat} (hN : N ≤ 8) (hI : xInj (cDom N) ad) {n : Nat} (hn : n < N) {p : Program} {e : Env} {s : State} {m : MethodId} {args : Array Value} {below : List Frame} {meth : Method} {c : Code} (F : CallFix p m c cX7_doChecks 2 s args (Cond.code yX7_doChecks cX7_doChecks 2 (some .boolean) :: xG) (yX7_doChecks).cls) (hr : meth.sig.returnType = (some .boolean)) (hlk : meth.locks = false) (hK : xK D vwCl (cTy cI cJ cL cN) cNf cNm s) {o : Int32 × xS}  (S : xS) {H : Heap} {locs : List Loc} {ls : Array Slot} (h : c7_doChecks_b255 n  S = some o) (hW : xW D vwCl (cDom N) ad (cDe ad N cI cJ cL cN) S H) (hS : va_S (xA (cDom N) ad) s.heap H locs) (hl : lv_has ls 2 [(0, .ref (ad n 20))]) : W p l e { frames := 2, cells := 0, slots := 0, locals := 46 } s m args below meth c H locs 0 0 (MQ below (xQ D vwCl (cDom N) ad (cDe ad N cI cJ cL cN) (some (.int o.1)) o.2) args s 0 0 (xA (cDom N) ad)) (F0 m 255 ls [.ref (ad n 20)]) := by
  have hx := F.1
  have hb := F.2.1
  unfold c7_doChecks_b255 at h
  refine lv_iconst (v := (1 : Int32)) hx hb dX7_doChecks_255 (by decide) ?_
  refine lv_goto (tgt := 260) hx hb dX7_doChecks_256 (by decide) ?_
  refine x_cVv (As := [.int (1 : Int32)]) F xG_ok hK hW hS um_X7_failIf k_4_112 (fun _ h1 => m_c7_failIf hN hI hn _ h1) rfl (cd_dX7 hn) (cd_eX7 hN hn) rfl rfl hl.1 rfl rfl ⟨Nat.le_of_ble_eq_true rfl, Nat.le_of_ble_eq_true rfl⟩ ⟨Nat.zero_le _, Nat.zero_le _⟩ (Nat.le_of_ble_eq_true rfl) dX7_doChecks_260 h (fun S17 H locs hW hS h => ?_)
  refine lv_aload_n hx hb dX7_doChecks_263 rfl (lv_at hl 0 rfl) ?_
  refine x_get F hK hW xc_X7 (cd_dX7 hn) (cd_eX7 hN hn) 1 (by decide) k_2_90 (rfl) dX7_doChecks_264 ?_
  refine x_cVv (As := []) F xG_ok hK hW hS um_X9_pop k_4_45 (fun _ h1 => m_c9_pop hN hI ⟨hn, Or.inl rfl⟩  h1) rfl (cd_dX9 ⟨hn, Or.inl rfl⟩) (cd_eX9 hN ⟨hn, Or.inl rfl⟩) rfl rfl hl.1 rfl rfl ⟨Nat.le_of_ble_eq_true rfl, Nat.le_of_ble_eq_true rfl⟩ ⟨Nat.zero_le _, Nat.zero_le _⟩ (Nat.le_of_ble_eq_true rfl) dX7_doChecks_267 h (fun S18 H locs hW hS h => ?_)
  refine lv_goto (tgt := 410) hx hb dX7_doChecks_270 (by decide) ?_
  refine lv_iconst (v := (1 : Int32)) hx hb dX7_doChecks_410 (by decide) ?_
  exact x_zret F hr hlk hW hS rfl dX7_doChecks_411 h
def c7_doChecks_b343 (n : Nat)  (S : xS) : Option (Int32 × xS) := (c7_failIf n S (1 : Int32)).bind (fun S27 => (c9_pop n 4 S27 ).bind (fun S28 => some ((1 : Int32), S28)))
set_option maxHeartbeats 4000000 in
set_option maxRecDepth 100000 in
theorem m_c7_doChecks_b343 {l : Launch} {D : va_G} {cI cJ cL cN : ClassId} {ad : Nat → Nat → Nat} {N : Nat} (hN : N ≤ 8) (hI : xInj (cDom N) ad) {n : Nat} (hn : n < N) {p : Program} {e : Env} {s : State} {m : MethodId} {args : Array Value} {below : List Frame} {meth : Method} {c : Code} (F : CallFix p m c cX7_doChecks 2 s args (Cond.code yX7_doChecks cX7_doChecks 2 (some .boolean) :: xG) (yX7_doChecks).cls) (hr : meth.sig.returnType = (some .boolean)) (hlk : meth.locks = false) (hK : xK D vwCl (cTy cI cJ cL cN) cNf cNm s) {o : Int32 × xS}  (S : xS) {H : Heap} {locs : List Loc} {ls : Array Slot} (h : c7_doChecks_b343 n  S = some o) (hW : xW D vwCl (cDom N) ad (cDe ad N cI cJ cL cN) S H) (hS : va_S (xA (cDom N) ad) s.heap H locs) (hl : lv_has ls 2 [(0, .ref (ad n 20))]) : W p l e { frames := 2, cells := 0, slots := 0, locals := 46 } s m args below meth c H locs 0 0 (MQ below (xQ D vwCl (cDom N) ad (cDe ad N cI cJ cL cN) (some (.int o.1)) o.2) args s 0 0 (xA (cDom N) ad)) (F0 m 343 ls [.ref (ad n 20)]) := by
  have hx := F.1
  have hb := F.2.1
  unfold c7_doChecks_b343 at h
  refine lv_iconst (v := (1 : Int32)) hx hb dX7_doChecks_343 (by decide) ?_
  refine lv_goto (tgt := 348) hx hb dX7_doChecks_344 (by decide) ?_
  refine x_cVv (As := [.int (1 : Int32)]) F xG_ok hK hW hS um_X7_failIf k_4_112 (fun _ h1 => m_c7_failIf hN hI hn _ h1) rfl (cd_dX7 hn) (cd_eX7 hN hn) rfl rfl hl.1 rfl rfl ⟨Nat.le_of_ble_eq_true rfl, Nat.le_of_ble_eq_true rfl⟩ ⟨Nat.zero_le _, Nat.zero_le _⟩ (Nat.le_of_ble_eq_true rfl) dX7_doChecks_348 h (fun S27 H locs hW hS h => ?_)
  refine lv_aload_n hx hb dX7_doChecks_351 rfl (lv_at hl 0 rfl) ?_
  refine x_get F hK hW xc_X7 (cd_dX7 hn) (cd_eX7 hN hn) 1 (by decide) k_2_90 (rfl) dX7_doChecks_352 ?_
  refine x_cVv (As := []) F xG_ok hK hW hS um_X9_pop k_4_45 (fun _ h1 => m_c9_pop hN hI ⟨hn, Or.inl rfl⟩  h1) rfl (cd_dX9 ⟨hn, Or.inl rfl⟩) (cd_eX9 hN ⟨hn, Or.inl rfl⟩) rfl rfl hl.1 rfl rfl ⟨Nat.le_of_ble_eq_true rfl, Nat.le_of_ble_eq_true rfl⟩ ⟨Nat.zero_le _, Nat.zero_le _⟩ (Nat.le_of_ble_eq_true rfl) dX7_doChecks_355 h (fun S28 H locs hW hS h => ?_)
  refine lv_goto (tgt := 410) hx hb dX7_doChecks_358 (by decide) ?_
  refine lv_iconst (v := (1 : Int32)) hx hb dX7_doChecks_410 (by decide) ?_
  exact x_zret F hr hlk hW hS rfl dX7_doChecks_411 h
def c7_doChecks (n : Nat) (S : xS) (a1 : Int32) : Option (Int32 × xS) := if a1 = (16 : Int32) then (xnm (sI S n 1 6 (1 : Int32)) (fun S2 => some ((1 : Int32), S2))) else (if a1 = (19 : Int32) then (if (xI S n 4 1) < (xI S n 4 0) then ((c7_failIf n S (0 : Int32)).bind (fun S4 => (c9_pop n 4 S4 ).bind (fun S5 => some ((1 : Int32), S5)))) else ((c7_failIf n S (1 : Int32)).bind (fun S6 => (c9_pop n 4 S6 ).bind (fun S7 => some ((1 : Int32), S7))))) else (if a1 = (41 : Int32) then (if (xI S n 1 6) = 0 then (c7_doChecks_b158 n (1 : Int32) S) else (c7_doChecks_b158 n (0 : Int32) S)) else (if a1 = (76 : Int32) then ((c11_signed (xI S n 4 0)).bind (fun r_11 => if 0 ≤ r_11 then (c7_doChecks_b199 n (0 : Int32) (xI S n 4 1) S) else (c7_doChecks_b199 n (65535 : Int32) (xI S n 4 1) S))) else (if a1 = (77 : Int32) then (if (xI S n 4 1) = 0 then (c7_doChecks_b255 n  S) else (if (xI S n 4 1) ≤ (xI S n 4 0) then ((c7_failIf n S (0 : Int32)).bind (fun S20 => (c9_pop n 4 S20 ).bind (fun S21 => some ((1 : Int32), S21)))) else (c7_doChecks_b255 n  S))) else (if a1 = (85 : Int32) then (if (xI S n 1 6) = 0 then (some ((1 : Int32), S)) else ((c1_leaveWaiting n S ).bind (fun S23 => some ((1 : Int32), S23)))) else (if a1 = (86 : Int32) then ((c11_signed (xI S n 4 1)).bind (fun r_24 => (c11_signed (xI S n 4 0)).bind (fun r_25 => if r_24 < (-r_25) then (c7_doChecks_b343 n  S) else ((c11_signed (xI S n 4 1)).bind (fun r_29 => (c11_signed (xI S n 4 0)).bind (fun r_30 => if r_29 ≤ (r_30 - (1 : Int32)) then ((c7_failIf n S (0 : Int32)).bind (fun S32 => (c9_pop n 4 S32 ).bind (fun S33 => some ((1 : Int32), S33)))) else (c7_doChecks_b343 n  S))))))) else (if a1 = (87 : Int32) then (xnm (sI S n 1 7 (0 : Int32)) (fun S34 => some ((1 : Int32), S34))) else (if a1 = (88 : Int32) then (xnm (sI S n 1 7 (1 : Int32)) (fun S35 => some ((1 : Int32), S35))) else (if a1 = (89 : Int32) then (if (xI S n 1 7) = 0 then ((c9_push n 4 S (0 : Int32)).bind (fun S37 => some ((1 : Int32), S37))) else ((c9_push n 4 S (1 : Int32)).bind (fun S38 => some ((1 : Int32), S38)))) else (some ((0 : Int32), S)))))))))))
set_option maxHeartbeats 4000000 in
set_option maxRecDepth 100000 in
theorem m_c7_doChecks {l : Launch} {D : va_G} {cI cJ cL cN : ClassId} {ad : Nat → Nat → Nat} {N : Nat} (hN : N ≤ 8) (hI : xInj (cDom N) ad) {n : Nat} (hn : n < N) {S : xS} (a1 : Int32) {o : Int32 × xS} (h : c7_doChecks n S a1 = some o) : Met l yX7_doChecks (Cond.code yX7_doChecks cX7_doChecks 2 (some .boolean) :: xG) { frames := 2, cells := 0, slots := 0, locals := 46 } (xPc D vwCl (cTy cI cJ cL cN) cNf cNm (cDom N) ad (cDe ad N cI cJ cL cN) [.ref (ad n 20), .int a1] S) (xQ D vwCl (cDom N) ad (cDe ad N cI cJ cL cN) (some (.int o.1)) o.2) 0 0 (xA (cDom N) ad) := by
  unfold c7_doChecks at h
  refine x_enter (by decide) (Nat.le_of_ble_eq_true rfl) (fun p e s m below meth c F hr hlk hK hW hS ls hl => ?_)
  have hl : lv_has ls 2 [(0, .ref (ad n 20)), (1, .int a1)] := hl
  have hx := F.1
  have hb := F.2.1
  refine lv_iload_n hx hb dX7_doChecks_0 rfl (lv_at hl 1 rfl) ?_
  by_cases c_1_16 : a1 = (16 : Int32)
  · replace h := (if_pos c_1_16).symm.trans h
    refine lv_lookup (tgt := 92) (off := 91) hx hb dX7_doChecks_1 (by decide) (by rw [c_1_16]; decide) (by decide) ?_
    refine lv_aload_n hx hb dX7_doChecks_92 rfl (lv_at hl 0 rfl) ?_
    refine x_get F hK hW xc_X7 (cd_dX7 hn) (cd_eX7 hN hn) 0 (by decide) k_2_89 (rfl) dX7_doChecks_93 ?_
    refine lv_iconst (v := (1 : Int32)) hx hb dX7_doChecks_96 (by decide) ?_
    refine x_putN F hK hI hW hS xc_X1 (cd_dX1 hn) (cd_eX1 hN hn) 6 (by decide) kn_36 rfl (v := (1 : Int32)) rfl rfl (fun _ _ => rfl) (fun _ _ => Nat.le_of_ble_eq_true rfl) dX7_doChecks_97 h (fun S2 H locs hW hS h => ?_)
    refine lv_goto (tgt := 410) hx hb dX7_doChecks_100 (by decide) ?_
    refine lv_iconst (v := (1 : Int32)) hx hb dX7_doChecks_410 (by decide) ?_
    exact x_zret F hr hlk hW hS rfl dX7_doChecks_411 h
  replace h := (if_neg c_1_16).symm.trans h
  have hn_1_16 := x_swN (z := 16) c_1_16 x_sw0 rfl
  by_cases c_1_19 : a1 = (19 : Int32)
  · replace h := (if_pos c_1_19).symm.trans h
    refine lv_lookup (tgt := 103) (off := 102) hx hb dX7_doChecks_1 (by decide) (by rw [c_1_19]; decide) (by decide) ?_
    refine lv_aload_n hx hb dX7_doChecks_103 rfl (lv_at hl 0 rfl) ?_
    refine lv_aload_n hx hb dX7_doChecks_104 rfl (lv_at hl 0 rfl) ?_
    refine x_get F hK hW xc_X7 (cd_dX7 hn) (cd_eX7 hN hn) 1 (by decide) k_2_90 (rfl) dX7_doChecks_105 ?_
    refine x_getN F hK hW xc_X9 (cd_dX9 ⟨hn, Or.inl rfl⟩) (cd_eX9 hN ⟨hn, Or.inl rfl⟩) 1 (by decide) kn_5 (rfl) dX7_doChecks_108 ?_
    refine lv_aload_n hx hb dX7_doChecks_111 rfl (lv_at hl 0 rfl) ?_
    refine x_get F hK hW xc_X7 (cd_dX7 hn) (cd_eX7 hN hn) 1 (by decide) k_2_90 (rfl) dX7_doChecks_112 ?_
    refine x_getN F hK hW xc_X9 (cd_dX9 ⟨hn, Or.inl rfl⟩) (cd_eX9 hN ⟨hn, Or.inl rfl⟩) 0 (by decide) kn_2 (rfl) dX7_doChecks_115 ?_
    refine lv_icmp_lt (tgt := 125) hx hb dX7_doChecks_118 (by decide) (fun c_3 => ?_) (fun c_3 => ?_)
    · replace h := (if_pos c_3).symm.trans h
      refine lv_iconst (v := (0 : Int32)) hx hb dX7_doChecks_125 (by decide) ?_
      refine x_cVv (As := [.int (0 : Int32)]) F xG_ok hK hW hS um_X7_failIf k_4_112 (fun _ h1 => m_c7_failIf hN hI hn _ h1) rfl (cd_dX7 hn) (cd_eX7 hN hn) rfl rfl hl.1 rfl rfl ⟨Nat.le_of_ble_eq_true rfl, Nat.le_of_ble_eq_true rfl⟩ ⟨Nat.zero_le _, Nat.zero_le _⟩ (Nat.le_of_ble_eq_true rfl) dX7_doChecks_126 h (fun S4 H locs hW hS h => ?_)
      refine lv_aload_n hx hb dX7_doChecks_129 rfl (lv_at hl 0 rfl) ?_
      refine x_get F hK hW xc_X7 (cd_dX7 hn) (cd_eX7 hN hn) 1 (by decide) k_2_90 (rfl) dX7_doChecks_130 ?_
      refine x_cVv (As := []) F xG_ok hK hW hS um_X9_pop k_4_45 (fun _ h1 => m_c9_pop hN hI ⟨hn, Or.inl rfl⟩  h1) rfl (cd_dX9 ⟨hn, Or.inl rfl⟩) (cd_eX9 hN ⟨hn, Or.inl rfl⟩) rfl rfl hl.1 rfl rfl ⟨Nat.le_of_ble_eq_true rfl, Nat.le_of_ble_eq_true rfl⟩ ⟨Nat.zero_le _, Nat.zero_le _⟩ (Nat.le_of_ble_eq_true rfl) dX7_doChecks_133 h (fun S5 H locs hW hS h => ?_)
      refine lv_goto (tgt := 410) hx hb dX7_doChecks_136 (by decide) ?_
      refine lv_iconst (v := (1 : Int32)) hx hb dX7_doChecks_410 (by decide) ?_
      exact x_zret F hr hlk hW hS rfl dX7_doChecks_411 h
    replace h := (if_neg c_3).symm.trans h
    refine lv_iconst (v := (1 : Int32)) hx hb dX7_doChecks_121 (by decide) ?_
    refine lv_goto (tgt := 126) hx hb dX7_doChecks_122 (by decide) ?_
    refine x_cVv (As := [.int (1 : Int32)]) F xG_ok hK hW hS um_X7_failIf k_4_112 (fun _ h1 => m_c7_failIf hN hI hn _ h1) rfl (cd_dX7 hn) (cd_eX7 hN hn) rfl rfl hl.1 rfl rfl ⟨Nat.le_of_ble_eq_true rfl, Nat.le_of_ble_eq_true rfl⟩ ⟨Nat.zero_le _, Nat.zero_le _⟩ (Nat.le_of_ble_eq_true rfl) dX7_doChecks_126 h (fun S6 H locs hW hS h => ?_)
    refine lv_aload_n hx hb dX7_doChecks_129 rfl (lv_at hl 0 rfl) ?_
    refine x_get F hK hW xc_X7 (cd_dX7 hn) (cd_eX7 hN hn) 1 (by decide) k_2_90 (rfl) dX7_doChecks_130 ?_
    refine x_cVv (As := []) F xG_ok hK hW hS um_X9_pop k_4_45 (fun _ h1 => m_c9_pop hN hI ⟨hn, Or.inl rfl⟩  h1) rfl (cd_dX9 ⟨hn, Or.inl rfl⟩) (cd_eX9 hN ⟨hn, Or.inl rfl⟩) rfl rfl hl.1 rfl rfl ⟨Nat.le_of_ble_eq_true rfl, Nat.le_of_ble_eq_true rfl⟩ ⟨Nat.zero_le _, Nat.zero_le _⟩ (Nat.le_of_ble_eq_true rfl) dX7_doChecks_133 h (fun S7 H locs hW hS h => ?_)
    refine lv_goto (tgt := 410) hx hb dX7_doChecks_136 (by decide) ?_
    refine lv_iconst (v := (1 : Int32)) hx hb dX7_doChecks_410 (by decide) ?_
    exact x_zret F hr hlk hW hS rfl dX7_doChecks_411 h
  replace h := (if_neg c_1_19).symm.trans h
  have hn_1_19 := x_swN (z := 19) c_1_19 hn_1_16 rfl
  by_cases c_1_41 : a1 = (41 : Int32)
  · replace h := (if_pos c_1_41).symm.trans h
    refine lv_lookup (tgt := 139) (off := 138) hx hb dX7_doChecks_1 (by decide) (by rw [c_1_41]; decide) (by decide) ?_
    refine lv_aload_n hx hb dX7_doChecks_139 rfl (lv_at hl 0 rfl) ?_
    refine x_get F hK hW xc_X7 (cd_dX7 hn) (cd_eX7 hN hn) 1 (by decide) k_2_90 (rfl) dX7_doChecks_140 ?_
    refine lv_aload_n hx hb dX7_doChecks_143 rfl (lv_at hl 0 rfl) ?_
    refine x_get F hK hW xc_X7 (cd_dX7 hn) (cd_eX7 hN hn) 0 (by decide) k_2_89 (rfl) dX7_doChecks_144 ?_
    refine x_getN F hK hW xc_X1 (cd_dX1 hn) (cd_eX1 hN hn) 6 (by decide) kn_36 (rfl) dX7_doChecks_147 ?_
    refine lv_if_eq (tgt := 157) hx hb dX7_doChecks_150 (by decide) (fun c_8 => ?_) (fun c_8 => ?_)
    · replace h := (if_pos c_8).symm.trans h
      refine lv_iconst (v := (1 : Int32)) hx hb dX7_doChecks_157 (by decide) ?_
      exact m_c7_doChecks_b158 hN hI hn F hr hlk hK _ _ h hW hS (lv_sub hl [0] rfl)
    replace h := (if_neg c_8).symm.trans h
    refine lv_iconst (v := (0 : Int32)) hx hb dX7_doChecks_153 (by decide) ?_
    refine lv_goto (tgt := 158) hx hb dX7_doChecks_154 (by decide) ?_
    exact m_c7_doChecks_b158 hN hI hn F hr hlk hK _ _ h hW hS (lv_sub hl [0] rfl)
  replace h := (if_neg c_1_41).symm.trans h
  have hn_1_41 := x_swN (z := 41) c_1_41 hn_1_19 rfl
  by_cases c_1_76 : a1 = (76 : Int32)
  · replace h := (if_pos c_1_76).symm.trans h
    refine lv_lookup (tgt := 172) (off := 171) hx hb dX7_doChecks_1 (by decide) (by rw [c_1_76]; decide) (by decide) ?_
    refine lv_aload_n hx hb dX7_doChecks_172 rfl (lv_at hl 0 rfl) ?_
    refine lv_aload_n hx hb dX7_doChecks_173 rfl (lv_at hl 0 rfl) ?_
    refine x_get F hK hW xc_X7 (cd_dX7 hn) (cd_eX7 hN hn) 1 (by decide) k_2_90 (rfl) dX7_doChecks_174 ?_
    refine x_getN F hK hW xc_X9 (cd_dX9 ⟨hn, Or.inl rfl⟩) (cd_eX9 hN ⟨hn, Or.inl rfl⟩) 1 (by decide) kn_5 (rfl) dX7_doChecks_177 ?_
    refine lv_aload_n hx hb dX7_doChecks_180 rfl (lv_at hl 0 rfl) ?_
    refine x_get F hK hW xc_X7 (cd_dX7 hn) (cd_eX7 hN hn) 1 (by decide) k_2_90 (rfl) dX7_doChecks_181 ?_
    refine x_getN F hK hW xc_X9 (cd_dX9 ⟨hn, Or.inl rfl⟩) (cd_eX9 hN ⟨hn, Or.inl rfl⟩) 0 (by decide) kn_2 (rfl) dX7_doChecks_184 ?_
    refine x_cSNi (As := [.int (xI S n 4 0)]) F xG_ok hS hK um_X11_signed km_10 (fun _ h1 => m_c11_signed _ h1) rfl rfl hl.1 rfl rfl ⟨Nat.le_of_ble_eq_true rfl, Nat.le_of_ble_eq_true rfl⟩ ⟨Nat.zero_le _, Nat.zero_le _⟩ (Nat.le_of_ble_eq_true rfl) dX7_doChecks_187 h (fun r_11 locs hS h => ?_)
    refine lv_if_ge (tgt := 198) hx hb dX7_doChecks_190 (by decide) (fun c_12 => ?_) (fun c_12 => ?_)
    · replace h := (if_pos c_12).symm.trans h
      refine lv_iconst (v := (0 : Int32)) hx hb dX7_doChecks_198 (by decide) ?_
      exact m_c7_doChecks_b199 hN hI hn F hr hlk hK _ _ _ h hW hS (lv_sub hl [0] rfl)
    replace h := (if_neg c_12).symm.trans h
    refine lv_ldc (v := (65535 : Int32)) hx hb F.2.2.2.1 (x_hts F _ k_4_18) dX7_doChecks_193 ?_
    refine lv_goto (tgt := 199) hx hb dX7_doChecks_195 (by decide) ?_
    exact m_c7_doChecks_b199 hN hI hn F hr hlk hK _ _ _ h hW hS (lv_sub hl [0] rfl)
  replace h := (if_neg c_1_76).symm.trans h
  have hn_1_76 := x_swN (z := 76) c_1_76 hn_1_41 rfl
  by_cases c_1_77 : a1 = (77 : Int32)
  · replace h := (if_pos c_1_77).symm.trans h
    refine lv_lookup (tgt := 227) (off := 226) hx hb dX7_doChecks_1 (by decide) (by rw [c_1_77]; decide) (by decide) ?_
    refine lv_aload_n hx hb dX7_doChecks_227 rfl (lv_at hl 0 rfl) ?_
    refine lv_aload_n hx hb dX7_doChecks_228 rfl (lv_at hl 0 rfl) ?_
    refine x_get F hK hW xc_X7 (cd_dX7 hn) (cd_eX7 hN hn) 1 (by decide) k_2_90 (rfl) dX7_doChecks_229 ?_
    refine x_getN F hK hW xc_X9 (cd_dX9 ⟨hn, Or.inl rfl⟩) (cd_eX9 hN ⟨hn, Or.inl rfl⟩) 1 (by decide) kn_5 (rfl) dX7_doChecks_232 ?_
    refine lv_if_eq (tgt := 255) hx hb dX7_doChecks_235 (by decide) (fun c_16 => ?_) (fun c_16 => ?_)
    · replace h := (if_pos c_16).symm.trans h
      exact m_c7_doChecks_b255 hN hI hn F hr hlk hK  _ h hW hS (lv_sub hl [0] rfl)
    replace h := (if_neg c_16).symm.trans h
    refine lv_aload_n hx hb dX7_doChecks_238 rfl (lv_at hl 0 rfl) ?_
    refine x_get F hK hW xc_X7 (cd_dX7 hn) (cd_eX7 hN hn) 1 (by decide) k_2_90 (rfl) dX7_doChecks_239 ?_
    refine x_getN F hK hW xc_X9 (cd_dX9 ⟨hn, Or.inl rfl⟩) (cd_eX9 hN ⟨hn, Or.inl rfl⟩) 1 (by decide) kn_5 (rfl) dX7_doChecks_242 ?_
    refine lv_aload_n hx hb dX7_doChecks_245 rfl (lv_at hl 0 rfl) ?_
    refine x_get F hK hW xc_X7 (cd_dX7 hn) (cd_eX7 hN hn) 1 (by decide) k_2_90 (rfl) dX7_doChecks_246 ?_
    refine x_getN F hK hW xc_X9 (cd_dX9 ⟨hn, Or.inl rfl⟩) (cd_eX9 hN ⟨hn, Or.inl rfl⟩) 0 (by decide) kn_2 (rfl) dX7_doChecks_249 ?_
    refine lv_icmp_le (tgt := 259) hx hb dX7_doChecks_252 (by decide) (fun c_19 => ?_) (fun c_19 => ?_)
    · replace h := (if_pos c_19).symm.trans h
      refine lv_iconst (v := (0 : Int32)) hx hb dX7_doChecks_259 (by decide) ?_
      refine x_cVv (As := [.int (0 : Int32)]) F xG_ok hK hW hS um_X7_failIf k_4_112 (fun _ h1 => m_c7_failIf hN hI hn _ h1) rfl (cd_dX7 hn) (cd_eX7 hN hn) rfl rfl hl.1 rfl rfl ⟨Nat.le_of_ble_eq_true rfl, Nat.le_of_ble_eq_true rfl⟩ ⟨Nat.zero_le _, Nat.zero_le _⟩ (Nat.le_of_ble_eq_true rfl) dX7_doChecks_260 h (fun S20 H locs hW hS h => ?_)
      refine lv_aload_n hx hb dX7_doChecks_263 rfl (lv_at hl 0 rfl) ?_
      refine x_get F hK hW xc_X7 (cd_dX7 hn) (cd_eX7 hN hn) 1 (by decide) k_2_90 (rfl) dX7_doChecks_264 ?_
      refine x_cVv (As := []) F xG_ok hK hW hS um_X9_pop k_4_45 (fun _ h1 => m_c9_pop hN hI ⟨hn, Or.inl rfl⟩  h1) rfl (cd_dX9 ⟨hn, Or.inl rfl⟩) (cd_eX9 hN ⟨hn, Or.inl rfl⟩) rfl rfl hl.1 rfl rfl ⟨Nat.le_of_ble_eq_true rfl, Nat.le_of_ble_eq_true rfl⟩ ⟨Nat.zero_le _, Nat.zero_le _⟩ (Nat.le_of_ble_eq_true rfl) dX7_doChecks_267 h (fun S21 H locs hW hS h => ?_)
      refine lv_goto (tgt := 410) hx hb dX7_doChecks_270 (by decide) ?_
      refine lv_iconst (v := (1 : Int32)) hx hb dX7_doChecks_410 (by decide) ?_
      exact x_zret F hr hlk hW hS rfl dX7_doChecks_411 h
    replace h := (if_neg c_19).symm.trans h
    exact m_c7_doChecks_b255 hN hI hn F hr hlk hK  _ h hW hS (lv_sub hl [0] rfl)
  replace h := (if_neg c_1_77).symm.trans h
  have hn_1_77 := x_swN (z := 77) c_1_77 hn_1_76 rfl
  by_cases c_1_85 : a1 = (85 : Int32)
  · replace h := (if_pos c_1_85).symm.trans h
    refine lv_lookup (tgt := 273) (off := 272) hx hb dX7_doChecks_1 (by decide) (by rw [c_1_85]; decide) (by decide) ?_
    refine lv_aload_n hx hb dX7_doChecks_273 rfl (lv_at hl 0 rfl) ?_
    refine x_get F hK hW xc_X7 (cd_dX7 hn) (cd_eX7 hN hn) 0 (by decide) k_2_89 (rfl) dX7_doChecks_274 ?_
    refine x_getN F hK hW xc_X1 (cd_dX1 hn) (cd_eX1 hN hn) 6 (by decide) kn_36 (rfl) dX7_doChecks_277 ?_
    refine lv_if_eq (tgt := 410) hx hb dX7_doChecks_280 (by decide) (fun c_22 => ?_) (fun c_22 => ?_)
    · replace h := (if_pos c_22).symm.trans h
      refine lv_iconst (v := (1 : Int32)) hx hb dX7_doChecks_410 (by decide) ?_
      exact x_zret F hr hlk hW hS rfl dX7_doChecks_411 h
    replace h := (if_neg c_22).symm.trans h
    refine lv_aload_n hx hb dX7_doChecks_283 rfl (lv_at hl 0 rfl) ?_
    refine x_get F hK hW xc_X7 (cd_dX7 hn) (cd_eX7 hN hn) 0 (by decide) k_2_89 (rfl) dX7_doChecks_284 ?_
    refine x_cVv (As := []) F xG_ok hK hW hS um_X1_leaveWaiting k_4_116 (fun _ h1 => m_c1_leaveWaiting hN hI hn  h1) rfl (cd_dX1 hn) (cd_eX1 hN hn) rfl rfl hl.1 rfl rfl ⟨Nat.le_of_ble_eq_true rfl, Nat.le_of_ble_eq_true rfl⟩ ⟨Nat.zero_le _, Nat.zero_le _⟩ (Nat.le_of_ble_eq_true rfl) dX7_doChecks_287 h (fun S23 H locs hW hS h => ?_)
    refine lv_goto (tgt := 410) hx hb dX7_doChecks_290 (by decide) ?_
    refine lv_iconst (v := (1 : Int32)) hx hb dX7_doChecks_410 (by decide) ?_
    exact x_zret F hr hlk hW hS rfl dX7_doChecks_411 h
  replace h := (if_neg c_1_85).symm.trans h
  have hn_1_85 := x_swN (z := 85) c_1_85 hn_1_77 rfl
  by_cases c_1_86 : a1 = (86 : Int32)
  · replace h := (if_pos c_1_86).symm.trans h
    refine lv_lookup (tgt := 293) (off := 292) hx hb dX7_doChecks_1 (by decide) (by rw [c_1_86]; decide) (by decide) ?_
    refine lv_aload_n hx hb dX7_doChecks_293 rfl (lv_at hl 0 rfl) ?_
    refine lv_aload_n hx hb dX7_doChecks_294 rfl (lv_at hl 0 rfl) ?_
    refine x_get F hK hW xc_X7 (cd_dX7 hn) (cd_eX7 hN hn) 1 (by decide) k_2_90 (rfl) dX7_doChecks_295 ?_
    refine x_getN F hK hW xc_X9 (cd_dX9 ⟨hn, Or.inl rfl⟩) (cd_eX9 hN ⟨hn, Or.inl rfl⟩) 1 (by decide) kn_5 (rfl) dX7_doChecks_298 ?_
    refine x_cSNi (As := [.int (xI S n 4 1)]) F xG_ok hS hK um_X11_signed km_10 (fun _ h1 => m_c11_signed _ h1) rfl rfl hl.1 rfl rfl ⟨Nat.le_of_ble_eq_true rfl, Nat.le_of_ble_eq_true rfl⟩ ⟨Nat.zero_le _, Nat.zero_le _⟩ (Nat.le_of_ble_eq_true rfl) dX7_doChecks_301 h (fun r_24 locs hS h => ?_)
    refine lv_aload_n hx hb dX7_doChecks_304 rfl (lv_at hl 0 rfl) ?_
    refine x_get F hK hW xc_X7 (cd_dX7 hn) (cd_eX7 hN hn) 1 (by decide) k_2_90 (rfl) dX7_doChecks_305 ?_
    refine x_getN F hK hW xc_X9 (cd_dX9 ⟨hn, Or.inl rfl⟩) (cd_eX9 hN ⟨hn, Or.inl rfl⟩) 0 (by decide) kn_2 (rfl) dX7_doChecks_308 ?_
    refine x_cSNi (As := [.int (xI S n 4 0)]) F xG_ok hS hK um_X11_signed km_10 (fun _ h1 => m_c11_signed _ h1) rfl rfl hl.1 rfl rfl ⟨Nat.le_of_ble_eq_true rfl, Nat.le_of_ble_eq_true rfl⟩ ⟨Nat.zero_le _, Nat.zero_le _⟩ (Nat.le_of_ble_eq_true rfl) dX7_doChecks_311 h (fun r_25 locs hS h => ?_)
    refine lv_ineg hx hb dX7_doChecks_314 ?_
    refine lv_icmp_lt (tgt := 343) hx hb dX7_doChecks_315 (by decide) (fun c_26 => ?_) (fun c_26 => ?_)
    · replace h := (if_pos c_26).symm.trans h
      exact m_c7_doChecks_b343 hN hI hn F hr hlk hK  _ h hW hS (lv_sub hl [0] rfl)
    replace h := (if_neg c_26).symm.trans h
    refine lv_aload_n hx hb dX7_doChecks_318 rfl (lv_at hl 0 rfl) ?_
    refine x_get F hK hW xc_X7 (cd_dX7 hn) (cd_eX7 hN hn) 1 (by decide) k_2_90 (rfl) dX7_doChecks_319 ?_
    refine x_getN F hK hW xc_X9 (cd_dX9 ⟨hn, Or.inl rfl⟩) (cd_eX9 hN ⟨hn, Or.inl rfl⟩) 1 (by decide) kn_5 (rfl) dX7_doChecks_322 ?_
    refine x_cSNi (As := [.int (xI S n 4 1)]) F xG_ok hS hK um_X11_signed km_10 (fun _ h1 => m_c11_signed _ h1) rfl rfl hl.1 rfl rfl ⟨Nat.le_of_ble_eq_true rfl, Nat.le_of_ble_eq_true rfl⟩ ⟨Nat.zero_le _, Nat.zero_le _⟩ (Nat.le_of_ble_eq_true rfl) dX7_doChecks_325 h (fun r_29 locs hS h => ?_)
    refine lv_aload_n hx hb dX7_doChecks_328 rfl (lv_at hl 0 rfl) ?_
    refine x_get F hK hW xc_X7 (cd_dX7 hn) (cd_eX7 hN hn) 1 (by decide) k_2_90 (rfl) dX7_doChecks_329 ?_
    refine x_getN F hK hW xc_X9 (cd_dX9 ⟨hn, Or.inl rfl⟩) (cd_eX9 hN ⟨hn, Or.inl rfl⟩) 0 (by decide) kn_2 (rfl) dX7_doChecks_332 ?_
    refine x_cSNi (As := [.int (xI S n 4 0)]) F xG_ok hS hK um_X11_signed km_10 (fun _ h1 => m_c11_signed _ h1) rfl rfl hl.1 rfl rfl ⟨Nat.le_of_ble_eq_true rfl, Nat.le_of_ble_eq_true rfl⟩ ⟨Nat.zero_le _, Nat.zero_le _⟩ (Nat.le_of_ble_eq_true rfl) dX7_doChecks_335 h (fun r_30 locs hS h => ?_)
    refine lv_iconst (v := (1 : Int32)) hx hb dX7_doChecks_338 (by decide) ?_
    refine lv_isub hx hb dX7_doChecks_339 ?_
    refine lv_icmp_le (tgt := 347) hx hb dX7_doChecks_340 (by decide) (fun c_31 => ?_) (fun c_31 => ?_)
    · replace h := (if_pos c_31).symm.trans h
      refine lv_iconst (v := (0 : Int32)) hx hb dX7_doChecks_347 (by decide) ?_
      refine x_cVv (As := [.int (0 : Int32)]) F xG_ok hK hW hS um_X7_failIf k_4_112 (fun _ h1 => m_c7_failIf hN hI hn _ h1) rfl (cd_dX7 hn) (cd_eX7 hN hn) rfl rfl hl.1 rfl rfl ⟨Nat.le_of_ble_eq_true rfl, Nat.le_of_ble_eq_true rfl⟩ ⟨Nat.zero_le _, Nat.zero_le _⟩ (Nat.le_of_ble_eq_true rfl) dX7_doChecks_348 h (fun S32 H locs hW hS h => ?_)
      refine lv_aload_n hx hb dX7_doChecks_351 rfl (lv_at hl 0 rfl) ?_
      refine x_get F hK hW xc_X7 (cd_dX7 hn) (cd_eX7 hN hn) 1 (by decide) k_2_90 (rfl) dX7_doChecks_352 ?_
      refine x_cVv (As := []) F xG_ok hK hW hS um_X9_pop k_4_45 (fun _ h1 => m_c9_pop hN hI ⟨hn, Or.inl rfl⟩  h1) rfl (cd_dX9 ⟨hn, Or.inl rfl⟩) (cd_eX9 hN ⟨hn, Or.inl rfl⟩) rfl rfl hl.1 rfl rfl ⟨Nat.le_of_ble_eq_true rfl, Nat.le_of_ble_eq_true rfl⟩ ⟨Nat.zero_le _, Nat.zero_le _⟩ (Nat.le_of_ble_eq_true rfl) dX7_doChecks_355 h (fun S33 H locs hW hS h => ?_)
      refine lv_goto (tgt := 410) hx hb dX7_doChecks_358 (by decide) ?_
      refine lv_iconst (v := (1 : Int32)) hx hb dX7_doChecks_410 (by decide) ?_
      exact x_zret F hr hlk hW hS rfl dX7_doChecks_411 h
    replace h := (if_neg c_31).symm.trans h
    exact m_c7_doChecks_b343 hN hI hn F hr hlk hK  _ h hW hS (lv_sub hl [0] rfl)
  replace h := (if_neg c_1_86).symm.trans h
  have hn_1_86 := x_swN (z := 86) c_1_86 hn_1_85 rfl
  by_cases c_1_87 : a1 = (87 : Int32)
  · replace h := (if_pos c_1_87).symm.trans h
    refine lv_lookup (tgt := 361) (off := 360) hx hb dX7_doChecks_1 (by decide) (by rw [c_1_87]; decide) (by decide) ?_
    refine lv_aload_n hx hb dX7_doChecks_361 rfl (lv_at hl 0 rfl) ?_
    refine x_get F hK hW xc_X7 (cd_dX7 hn) (cd_eX7 hN hn) 0 (by decide) k_2_89 (rfl) dX7_doChecks_362 ?_
    refine lv_iconst (v := (0 : Int32)) hx hb dX7_doChecks_365 (by decide) ?_
    refine x_putN F hK hI hW hS xc_X1 (cd_dX1 hn) (cd_eX1 hN hn) 7 (by decide) kn_37 rfl (v := (0 : Int32)) rfl rfl (fun _ _ => rfl) (fun _ _ => Nat.le_of_ble_eq_true rfl) dX7_doChecks_366 h (fun S34 H locs hW hS h => ?_)
    refine lv_goto (tgt := 410) hx hb dX7_doChecks_369 (by decide) ?_
    refine lv_iconst (v := (1 : Int32)) hx hb dX7_doChecks_410 (by decide) ?_
    exact x_zret F hr hlk hW hS rfl dX7_doChecks_411 h
  replace h := (if_neg c_1_87).symm.trans h
  have hn_1_87 := x_swN (z := 87) c_1_87 hn_1_86 rfl
  by_cases c_1_88 : a1 = (88 : Int32)
  · replace h := (if_pos c_1_88).symm.trans h
    refine lv_lookup (tgt := 372) (off := 371) hx hb dX7_doChecks_1 (by decide) (by rw [c_1_88]; decide) (by decide) ?_
    refine lv_aload_n hx hb dX7_doChecks_372 rfl (lv_at hl 0 rfl) ?_
    refine x_get F hK hW xc_X7 (cd_dX7 hn) (cd_eX7 hN hn) 0 (by decide) k_2_89 (rfl) dX7_doChecks_373 ?_
    refine lv_iconst (v := (1 : Int32)) hx hb dX7_doChecks_376 (by decide) ?_
    refine x_putN F hK hI hW hS xc_X1 (cd_dX1 hn) (cd_eX1 hN hn) 7 (by decide) kn_37 rfl (v := (1 : Int32)) rfl rfl (fun _ _ => rfl) (fun _ _ => Nat.le_of_ble_eq_true rfl) dX7_doChecks_377 h (fun S35 H locs hW hS h => ?_)
    refine lv_goto (tgt := 410) hx hb dX7_doChecks_380 (by decide) ?_
    refine lv_iconst (v := (1 : Int32)) hx hb dX7_doChecks_410 (by decide) ?_
    exact x_zret F hr hlk hW hS rfl dX7_doChecks_411 h
  replace h := (if_neg c_1_88).symm.trans h
  have hn_1_88 := x_swN (z := 88) c_1_88 hn_1_87 rfl
  by_cases c_1_89 : a1 = (89 : Int32)
  · replace h := (if_pos c_1_89).symm.trans h
    refine lv_lookup (tgt := 383) (off := 382) hx hb dX7_doChecks_1 (by decide) (by rw [c_1_89]; decide) (by decide) ?_
    refine lv_aload_n hx hb dX7_doChecks_383 rfl (lv_at hl 0 rfl) ?_
    refine x_get F hK hW xc_X7 (cd_dX7 hn) (cd_eX7 hN hn) 1 (by decide) k_2_90 (rfl) dX7_doChecks_384 ?_
    refine lv_aload_n hx hb dX7_doChecks_387 rfl (lv_at hl 0 rfl) ?_
    refine x_get F hK hW xc_X7 (cd_dX7 hn) (cd_eX7 hN hn) 0 (by decide) k_2_89 (rfl) dX7_doChecks_388 ?_
    refine x_getN F hK hW xc_X1 (cd_dX1 hn) (cd_eX1 hN hn) 7 (by decide) kn_37 (rfl) dX7_doChecks_391 ?_
    refine lv_if_eq (tgt := 401) hx hb dX7_doChecks_394 (by decide) (fun c_36 => ?_) (fun c_36 => ?_)
    · replace h := (if_pos c_36).symm.trans h
      refine lv_iconst (v := (0 : Int32)) hx hb dX7_doChecks_401 (by decide) ?_
      refine x_cVv (As := [.int (0 : Int32)]) F xG_ok hK hW hS um_X9_push k_4_14 (fun _ h1 => m_c9_push hN hI ⟨hn, Or.inl rfl⟩ _ h1) rfl (cd_dX9 ⟨hn, Or.inl rfl⟩) (cd_eX9 hN ⟨hn, Or.inl rfl⟩) rfl rfl hl.1 rfl rfl ⟨Nat.le_of_ble_eq_true rfl, Nat.le_of_ble_eq_true rfl⟩ ⟨Nat.zero_le _, Nat.zero_le _⟩ (Nat.le_of_ble_eq_true rfl) dX7_doChecks_402 h (fun S37 H locs hW hS h => ?_)
      refine lv_goto (tgt := 410) hx hb dX7_doChecks_405 (by decide) ?_
      refine lv_iconst (v := (1 : Int32)) hx hb dX7_doChecks_410 (by decide) ?_
      exact x_zret F hr hlk hW hS rfl dX7_doChecks_411 h
    replace h := (if_neg c_36).symm.trans h
    refine lv_iconst (v := (1 : Int32)) hx hb dX7_doChecks_397 (by decide) ?_
    refine lv_goto (tgt := 402) hx hb dX7_doChecks_398 (by decide) ?_
    refine x_cVv (As := [.int (1 : Int32)]) F xG_ok hK hW hS um_X9_push k_4_14 (fun _ h1 => m_c9_push hN hI ⟨hn, Or.inl rfl⟩ _ h1) rfl (cd_dX9 ⟨hn, Or.inl rfl⟩) (cd_eX9 hN ⟨hn, Or.inl rfl⟩) rfl rfl hl.1 rfl rfl ⟨Nat.le_of_ble_eq_true rfl, Nat.le_of_ble_eq_true rfl⟩ ⟨Nat.zero_le _, Nat.zero_le _⟩ (Nat.le_of_ble_eq_true rfl) dX7_doChecks_402 h (fun S38 H locs hW hS h => ?_)
    refine lv_goto (tgt := 410) hx hb dX7_doChecks_405 (by decide) ?_
    refine lv_iconst (v := (1 : Int32)) hx hb dX7_doChecks_410 (by decide) ?_
    exact x_zret F hr hlk hW hS rfl dX7_doChecks_411 h
  replace h := (if_neg c_1_89).symm.trans h
  have hn_1_89 := x_swN (z := 89) c_1_89 hn_1_88 rfl
  refine x_lkpD (tgt := 408) hx hb dX7_doChecks_1 hn_1_89 (by decide) (by decide) (by decide) ?_
  refine lv_iconst (v := (0 : Int32)) hx hb dX7_doChecks_408 (by decide) ?_
  exact x_zret F hr hlk hW hS rfl dX7_doChecks_409 h
/-! X7_exchangeWithI -/
def c7_exchangeWithI (n : Nat) (S : xS)  : Option (xS) := xnm (sI S n 4 0 (xI S n 4 4)) (fun S1 => xnm (sI S1 n 4 4 (xI S n 4 0)) (fun S2 => some S2))
set_option maxHeartbeats 4000000 in
set_option maxRecDepth 100000 in
theorem m_c7_exchangeWithI {l : Launch} {D : va_G} {cI cJ cL cN : ClassId} {ad : Nat → Nat → Nat} {N : Nat} (hN : N ≤ 8) (hI : xInj (cDom N) ad) {n : Nat} (hn : n < N) {S : xS}  {o : xS} (h : c7_exchangeWithI n S  = some o) : Met l yX7_exchangeWithI (Cond.code yX7_exchangeWithI cX7_exchangeWithI 2 none :: xG) { frames := 0, cells := 0, slots := 0, locals := 0 } (xPc D vwCl (cTy cI cJ cL cN) cNf cNm (cDom N) ad (cDe ad N cI cJ cL cN) [.ref (ad n 20)] S) (xQ D vwCl (cDom N) ad (cDe ad N cI cJ cL cN) none o) 0 0 (xA (cDom N) ad) := by
  unfold c7_exchangeWithI at h
  refine x_enter (by decide) (Nat.le_of_ble_eq_true rfl) (fun p e s m below meth c F hr hlk hK hW hS ls hl => ?_)
  have hl : lv_has ls 2 [(0, .ref (ad n 20))] := hl
  have hx := F.1
  have hb := F.2.1
  refine lv_aload_n hx hb dX7_exchangeWithI_0 rfl (lv_at hl 0 rfl) ?_
  refine x_get F hK hW xc_X7 (cd_dX7 hn) (cd_eX7 hN hn) 1 (by decide) k_2_90 (rfl) dX7_exchangeWithI_1 ?_
  refine x_getN F hK hW xc_X9 (cd_dX9 ⟨hn, Or.inl rfl⟩) (cd_eX9 hN ⟨hn, Or.inl rfl⟩) 0 (by decide) kn_2 (rfl) dX7_exchangeWithI_4 ?_
  refine lv_istore_n (lv' := [(1, .int (xI S n 4 0)), (0, .ref (ad n 20))]) hx hb dX7_exchangeWithI_7 rfl hl (by decide) rfl (fun ls hl => ?_)
  refine lv_aload_n hx hb dX7_exchangeWithI_8 rfl (lv_at hl 1 rfl) ?_
  refine x_get F hK hW xc_X7 (cd_dX7 hn) (cd_eX7 hN hn) 1 (by decide) k_2_90 (rfl) dX7_exchangeWithI_9 ?_
  refine lv_aload_n hx hb dX7_exchangeWithI_12 rfl (lv_at hl 1 rfl) ?_
  refine x_get F hK hW xc_X7 (cd_dX7 hn) (cd_eX7 hN hn) 1 (by decide) k_2_90 (rfl) dX7_exchangeWithI_13 ?_
  refine x_getN F hK hW xc_X9 (cd_dX9 ⟨hn, Or.inl rfl⟩) (cd_eX9 hN ⟨hn, Or.inl rfl⟩) 4 (by decide) kn_12 (rfl) dX7_exchangeWithI_16 ?_
  refine x_putN F hK hI hW hS xc_X9 (cd_dX9 ⟨hn, Or.inl rfl⟩) (cd_eX9 hN ⟨hn, Or.inl rfl⟩) 0 (by decide) kn_2 rfl (v := (xI S n 4 4)) rfl rfl (fun _ _ => rfl) (fun _ _ => Nat.le_of_ble_eq_true rfl) dX7_exchangeWithI_19 h (fun S1 H locs hW hS h => ?_)
  refine lv_aload_n hx hb dX7_exchangeWithI_22 rfl (lv_at hl 1 rfl) ?_
  refine x_get F hK hW xc_X7 (cd_dX7 hn) (cd_eX7 hN hn) 1 (by decide) k_2_90 (rfl) dX7_exchangeWithI_23 ?_
  refine lv_iload_n hx hb dX7_exchangeWithI_26 rfl (lv_at hl 0 rfl) ?_
  refine x_putN F hK hI hW hS xc_X9 (cd_dX9 ⟨hn, Or.inl rfl⟩) (cd_eX9 hN ⟨hn, Or.inl rfl⟩) 4 (by decide) kn_12 rfl (v := (xI S n 4 0)) rfl rfl (fun _ _ => rfl) (fun _ _ => Nat.le_of_ble_eq_true rfl) dX7_exchangeWithI_27 h (fun S2 H locs hW hS h => ?_)
  exact x_vret F hr hlk hW hS dX7_exchangeWithI_30 h
/-! X7_endLoop -/
def c7_endLoop (n : Nat) (S : xS)  : Option (xS) := (c5_wordAt n 2 S ((xI S n 4 1) + (2 : Int32))).bind (fun (r_1, S1) => (c5_setWord n 2 S1 ((xI S n 4 1) + (2 : Int32)) ((r_1 - (1 : Int32)) &&& (65535 : Int32))).bind (fun S2 => (c9_popAll n 4 S2 ).bind (fun S3 => (c11_signed ((r_1 - (1 : Int32)) &&& (65535 : Int32))).bind (fun r_4 => if r_4 ≤ 0 then (some S3) else ((c5_wordAt n 2 S3 (xI S n 4 1)).bind (fun (r_6, S6) => (c5_setWord n 2 S6 (xI S n 4 1) (r_6 + (1 : Int32))).bind (fun S7 => (c9_jump n 4 S7 (-(xI S n 4 0))).bind (fun S8 => (c1_yieldIfSliced n S8 ).bind (fun S9 => some S9)))))))))
set_option maxHeartbeats 4000000 in
set_option maxRecDepth 100000 in
theorem m_c7_endLoop {l : Launch} {D : va_G} {cI cJ cL cN : ClassId} {ad : Nat → Nat → Nat} {N : Nat} (hN : N ≤ 8) (hI : xInj (cDom N) ad) {n : Nat} (hn : n < N) {S : xS}  {o : xS} (h : c7_endLoop n S  = some o) : Met l yX7_endLoop (Cond.code yX7_endLoop cX7_endLoop 4 none :: xG) { frames := 3, cells := 0, slots := 0, locals := 70 } (xPc D vwCl (cTy cI cJ cL cN) cNf cNm (cDom N) ad (cDe ad N cI cJ cL cN) [.ref (ad n 20)] S) (xQ D vwCl (cDom N) ad (cDe ad N cI cJ cL cN) none o) 0 0 (xA (cDom N) ad) := by
  unfold c7_endLoop at h
  refine x_enter (by decide) (Nat.le_of_ble_eq_true rfl) (fun p e s m below meth c F hr hlk hK hW hS ls hl => ?_)
  have hl : lv_has ls 4 [(0, .ref (ad n 20))] := hl
  have hx := F.1
  have hb := F.2.1
  refine lv_aload_n hx hb dX7_endLoop_0 rfl (lv_at hl 0 rfl) ?_
  refine x_get F hK hW xc_X7 (cd_dX7 hn) (cd_eX7 hN hn) 1 (by decide) k_2_90 (rfl) dX7_endLoop_1 ?_
  refine x_getN F hK hW xc_X9 (cd_dX9 ⟨hn, Or.inl rfl⟩) (cd_eX9 hN ⟨hn, Or.inl rfl⟩) 1 (by decide) kn_5 (rfl) dX7_endLoop_4 ?_
  refine lv_istore_n (lv' := [(1, .int (xI S n 4 1)), (0, .ref (ad n 20))]) hx hb dX7_endLoop_7 rfl hl (by decide) rfl (fun ls hl => ?_)
  refine lv_aload_n hx hb dX7_endLoop_8 rfl (lv_at hl 1 rfl) ?_
  refine x_get F hK hW xc_X7 (cd_dX7 hn) (cd_eX7 hN hn) 1 (by decide) k_2_90 (rfl) dX7_endLoop_9 ?_
  refine x_getN F hK hW xc_X9 (cd_dX9 ⟨hn, Or.inl rfl⟩) (cd_eX9 hN ⟨hn, Or.inl rfl⟩) 0 (by decide) kn_2 (rfl) dX7_endLoop_12 ?_
  refine lv_istore_n (lv' := [(2, .int (xI S n 4 0)), (1, .int (xI S n 4 1)), (0, .ref (ad n 20))]) hx hb dX7_endLoop_15 rfl hl (by decide) rfl (fun ls hl => ?_)
  refine lv_aload_n hx hb dX7_endLoop_16 rfl (lv_at hl 2 rfl) ?_
  refine x_get F hK hW xc_X7 (cd_dX7 hn) (cd_eX7 hN hn) 2 (by decide) k_2_91 (rfl) dX7_endLoop_17 ?_
  refine lv_iload_n hx hb dX7_endLoop_20 rfl (lv_at hl 1 rfl) ?_
  refine lv_iconst (v := (2 : Int32)) hx hb dX7_endLoop_21 (by decide) ?_
  refine lv_iadd hx hb dX7_endLoop_22 ?_
  refine x_cVi (As := [.int ((xI S n 4 1) + (2 : Int32))]) F xG_ok hK hW hS um_X5_wordAt k_4_19 (fun _ h1 => m_c5_wordAt hN hI (is5n hn) _ h1) rfl (cd_dX5 (is5n hn)) (cd_eX5 hN (is5n hn)) rfl rfl hl.1 rfl rfl ⟨Nat.le_of_ble_eq_true rfl, Nat.le_of_ble_eq_true rfl⟩ ⟨Nat.zero_le _, Nat.zero_le _⟩ (Nat.le_of_ble_eq_true rfl) dX7_endLoop_23 h (fun r_1 S1 H locs hW hS h => ?_)
  refine lv_iconst (v := (1 : Int32)) hx hb dX7_endLoop_26 (by decide) ?_
  refine lv_isub hx hb dX7_endLoop_27 ?_
  refine lv_ldc (v := (65535 : Int32)) hx hb F.2.2.2.1 (x_hts F _ k_4_18) dX7_endLoop_28 ?_
  refine lv_iand hx hb dX7_endLoop_30 ?_
  refine lv_istore_n (lv' := [(3, .int ((r_1 - (1 : Int32)) &&& (65535 : Int32))), (2, .int (xI S n 4 0)), (1, .int (xI S n 4 1)), (0, .ref (ad n 20))]) hx hb dX7_endLoop_31 rfl hl (by decide) rfl (fun ls hl => ?_)
  refine lv_aload_n hx hb dX7_endLoop_32 rfl (lv_at hl 3 rfl) ?_
  refine x_get F hK hW xc_X7 (cd_dX7 hn) (cd_eX7 hN hn) 2 (by decide) k_2_91 (rfl) dX7_endLoop_33 ?_
  refine lv_iload_n hx hb dX7_endLoop_36 rfl (lv_at hl 2 rfl) ?_
  refine lv_iconst (v := (2 : Int32)) hx hb dX7_endLoop_37 (by decide) ?_
  refine lv_iadd hx hb dX7_endLoop_38 ?_
  refine lv_iload_n hx hb dX7_endLoop_39 rfl (lv_at hl 0 rfl) ?_
  refine x_cVv (As := [.int ((xI S n 4 1) + (2 : Int32)), .int ((r_1 - (1 : Int32)) &&& (65535 : Int32))]) F xG_ok hK hW hS um_X5_setWord k_4_49 (fun _ h1 => m_c5_setWord hN hI (is5n hn) _ _ h1) rfl (cd_dX5 (is5n hn)) (cd_eX5 hN (is5n hn)) rfl rfl hl.1 rfl rfl ⟨Nat.le_of_ble_eq_true rfl, Nat.le_of_ble_eq_true rfl⟩ ⟨Nat.zero_le _, Nat.zero_le _⟩ (Nat.le_of_ble_eq_true rfl) dX7_endLoop_40 h (fun S2 H locs hW hS h => ?_)
  refine lv_aload_n hx hb dX7_endLoop_43 rfl (lv_at hl 3 rfl) ?_
  refine x_get F hK hW xc_X7 (cd_dX7 hn) (cd_eX7 hN hn) 1 (by decide) k_2_90 (rfl) dX7_endLoop_44 ?_
  refine x_cVv (As := []) F xG_ok hK hW hS um_X9_popAll k_4_50 (fun _ h1 => m_c9_popAll hN hI ⟨hn, Or.inl rfl⟩  h1) rfl (cd_dX9 ⟨hn, Or.inl rfl⟩) (cd_eX9 hN ⟨hn, Or.inl rfl⟩) rfl rfl hl.1 rfl rfl ⟨Nat.le_of_ble_eq_true rfl, Nat.le_of_ble_eq_true rfl⟩ ⟨Nat.zero_le _, Nat.zero_le _⟩ (Nat.le_of_ble_eq_true rfl) dX7_endLoop_47 h (fun S3 H locs hW hS h => ?_)
  refine lv_iload_n hx hb dX7_endLoop_50 rfl (lv_at hl 0 rfl) ?_
  refine x_cSNi (As := [.int ((r_1 - (1 : Int32)) &&& (65535 : Int32))]) F xG_ok hS hK um_X11_signed km_10 (fun _ h1 => m_c11_signed _ h1) rfl rfl hl.1 rfl rfl ⟨Nat.le_of_ble_eq_true rfl, Nat.le_of_ble_eq_true rfl⟩ ⟨Nat.zero_le _, Nat.zero_le _⟩ (Nat.le_of_ble_eq_true rfl) dX7_endLoop_51 h (fun r_4 locs hS h => ?_)
  refine lv_if_le (tgt := 91) hx hb dX7_endLoop_54 (by decide) (fun c_5 => ?_) (fun c_5 => ?_)
  · replace h := (if_pos c_5).symm.trans h
    exact x_vret F hr hlk hW hS dX7_endLoop_91 h
  replace h := (if_neg c_5).symm.trans h
  refine lv_aload_n hx hb dX7_endLoop_57 rfl (lv_at hl 3 rfl) ?_
  refine x_get F hK hW xc_X7 (cd_dX7 hn) (cd_eX7 hN hn) 2 (by decide) k_2_91 (rfl) dX7_endLoop_58 ?_
  refine lv_iload_n hx hb dX7_endLoop_61 rfl (lv_at hl 2 rfl) ?_
  refine lv_aload_n hx hb dX7_endLoop_62 rfl (lv_at hl 3 rfl) ?_
  refine x_get F hK hW xc_X7 (cd_dX7 hn) (cd_eX7 hN hn) 2 (by decide) k_2_91 (rfl) dX7_endLoop_63 ?_
  refine lv_iload_n hx hb dX7_endLoop_66 rfl (lv_at hl 2 rfl) ?_
  refine x_cVi (As := [.int (xI S n 4 1)]) F xG_ok hK hW hS um_X5_wordAt k_4_19 (fun _ h1 => m_c5_wordAt hN hI (is5n hn) _ h1) rfl (cd_dX5 (is5n hn)) (cd_eX5 hN (is5n hn)) rfl rfl hl.1 rfl rfl ⟨Nat.le_of_ble_eq_true rfl, Nat.le_of_ble_eq_true rfl⟩ ⟨Nat.zero_le _, Nat.zero_le _⟩ (Nat.le_of_ble_eq_true rfl) dX7_endLoop_67 h (fun r_6 S6 H locs hW hS h => ?_)
  refine lv_iconst (v := (1 : Int32)) hx hb dX7_endLoop_70 (by decide) ?_
  refine lv_iadd hx hb dX7_endLoop_71 ?_
  refine x_cVv (As := [.int (xI S n 4 1), .int (r_6 + (1 : Int32))]) F xG_ok hK hW hS um_X5_setWord k_4_49 (fun _ h1 => m_c5_setWord hN hI (is5n hn) _ _ h1) rfl (cd_dX5 (is5n hn)) (cd_eX5 hN (is5n hn)) rfl rfl hl.1 rfl rfl ⟨Nat.le_of_ble_eq_true rfl, Nat.le_of_ble_eq_true rfl⟩ ⟨Nat.zero_le _, Nat.zero_le _⟩ (Nat.le_of_ble_eq_true rfl) dX7_endLoop_72 h (fun S7 H locs hW hS h => ?_)
  refine lv_aload_n hx hb dX7_endLoop_75 rfl (lv_at hl 3 rfl) ?_
  refine x_get F hK hW xc_X7 (cd_dX7 hn) (cd_eX7 hN hn) 1 (by decide) k_2_90 (rfl) dX7_endLoop_76 ?_
  refine lv_iload_n hx hb dX7_endLoop_79 rfl (lv_at hl 1 rfl) ?_
  refine lv_ineg hx hb dX7_endLoop_80 ?_
  refine x_cVv (As := [.int (-(xI S n 4 0))]) F xG_ok hK hW hS um_X9_jump k_3_233 (fun _ h1 => m_c9_jump hN hI ⟨hn, Or.inl rfl⟩ _ h1) rfl (cd_dX9 ⟨hn, Or.inl rfl⟩) (cd_eX9 hN ⟨hn, Or.inl rfl⟩) rfl rfl hl.1 rfl rfl ⟨Nat.le_of_ble_eq_true rfl, Nat.le_of_ble_eq_true rfl⟩ ⟨Nat.zero_le _, Nat.zero_le _⟩ (Nat.le_of_ble_eq_true rfl) dX7_endLoop_81 h (fun S8 H locs hW hS h => ?_)
  refine lv_aload_n hx hb dX7_endLoop_84 rfl (lv_at hl 3 rfl) ?_
  refine x_get F hK hW xc_X7 (cd_dX7 hn) (cd_eX7 hN hn) 0 (by decide) k_2_89 (rfl) dX7_endLoop_85 ?_
  refine x_cVv (As := []) F xG_ok hK hW hS um_X1_yieldIfSliced k_4_2 (fun _ h1 => m_c1_yieldIfSliced hN hI hn  h1) rfl (cd_dX1 hn) (cd_eX1 hN hn) rfl rfl hl.1 rfl rfl ⟨Nat.le_of_ble_eq_true rfl, Nat.le_of_ble_eq_true rfl⟩ ⟨Nat.zero_le _, Nat.zero_le _⟩ (Nat.le_of_ble_eq_true rfl) dX7_endLoop_88 h (fun S9 H locs hW hS h => ?_)
  exact x_vret F hr hlk hW hS dX7_endLoop_91 h
