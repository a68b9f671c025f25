/-! X12_popped -/
def r_popped_b2 : Nat → Int32 → Int32 → Int32 → xS → Option (Int32 × xS)
  | 0, _, _, _, _ => none
  | fu + 1, v1, v2, v3, S => if v2 ≤ v3 then (some ((1 : Int32), S)) else ((r_pop  S v1).bind (fun S2 => (r_popped_b2 fu) v1 v2 (v3 + (1 : Int32)) S2))
set_option maxHeartbeats 4000000 in
set_option maxRecDepth 100000 in
theorem m_r_popped_b2 {l : Launch} {D : va_G} {cI cZ cB : ClassId} {ad : Nat → Nat → Nat} (hI : xInj rDom ad) {p : Program} {e : Env} {s : State} {m : MethodId} {args : Array Value} {below : List Frame} {meth : Method} {c : Code} (F : CallFix p m c cX12_popped 4 s args (Cond.code yX12_popped cX12_popped 4 (some .boolean) :: xG) (yX12_popped).cls) (hr : meth.sig.returnType = (some .boolean)) (hlk : meth.locks = false) (hK : xK D vwCl (rTy cI cZ cB) [] [] s) {o : Int32 × xS} : ∀ (fu : Nat) (v1 : Int32) (v2 : Int32) (v3 : Int32) (S : xS) {H : Heap} {locs : List Loc} {ls : Array Slot}, r_popped_b2 fu v1 v2 v3 S = some o → xW D vwCl rDom ad (rDe ad cI cZ cB) S H → va_S (xA rDom ad) s.heap H locs → lv_has ls 4 [(0, .ref (ad 0 0)), (1, .int v1), (2, .int v2), (3, .int v3)] → W p l e { frames := 1, cells := 0, slots := 0, locals := 21 } s m args below meth c H locs 0 0 (MQ below (xQ D vwCl rDom ad (rDe ad cI cZ cB) (some (.int o.1)) o.2) args s 0 0 (xA rDom ad)) (F0 m 2 ls []) := by
  have hx := F.1
  have hb := F.2.1
  intro fu
  induction fu with
  | zero =>
    intro v1 v2 v3 S H locs ls h
    simp [r_popped_b2] at h
  | succ fu ih =>
    intro v1 v2 v3 S H locs ls h hW hS hl
    have hk2 := fun v1 v2 v3 S H locs ls (h : r_popped_b2 fu v1 v2 v3 S = some o) hW hS hl => ih v1 v2 v3 S (H := H) (locs := locs) (ls := ls) h hW hS hl
    rw [r_popped_b2] at h
    refine lv_iload_n hx hb dX12_popped_2 rfl (lv_at hl 3 rfl) ?_
    refine lv_iload_n hx hb dX12_popped_3 rfl (lv_at hl 2 rfl) ?_
    refine lv_icmp_ge (tgt := 18) hx hb dX12_popped_4 (by decide) (fun c_1 => ?_) (fun c_1 => ?_)
    · replace h := (if_pos c_1).symm.trans h
      refine lv_iconst (v := (1 : Int32)) hx hb dX12_popped_18 (by decide) ?_
      exact x_zret F hr hlk hW hS rfl dX12_popped_19 h
    replace h := (if_neg c_1).symm.trans h
    refine lv_aload_n hx hb dX12_popped_7 rfl (lv_at hl 0 rfl) ?_
    refine lv_iload_n hx hb dX12_popped_8 rfl (lv_at hl 1 rfl) ?_
    refine x_cVv (As := [.int v1]) F xG_ok hK hW hS um_X12_pop k_7_17 (fun _ h1 => m_r_pop hI _ h1) rfl rd_d0 rd_0 rfl rfl hl.1 rfl rfl ⟨Nat.le_of_ble_eq_true rfl, Nat.le_of_ble_eq_true rfl⟩ ⟨Nat.zero_le _, Nat.zero_le _⟩ (Nat.le_of_ble_eq_true rfl) dX12_popped_9 h (fun S2 H locs hW hS h => ?_)
    refine lv_iinc (v := (v3 + (1 : Int32))) (lv' := [(3, .int (v3 + (1 : Int32))), (0, .ref (ad 0 0)), (1, .int v1), (2, .int v2)]) hx hb dX12_popped_12 hl (k := 3) rfl rfl (by decide) rfl (fun ls hl => ?_)
    refine lv_goto (tgt := 2) hx hb dX12_popped_15 (by decide) ?_
    exact hk2 _ _ _ _ _ _ _ h hW hS (lv_sub hl [1, 2, 3, 0] rfl)
def r_popped  (S : xS) (a1 : Int32) (a2 : Int32) : Option (Int32 × xS) := r_popped_b2  (100000) a1 a2 (0 : Int32) S
set_option maxHeartbeats 4000000 in
set_option maxRecDepth 100000 in
theorem m_r_popped {l : Launch} {D : va_G} {cI cZ cB : ClassId} {ad : Nat → Nat → Nat} (hI : xInj rDom ad) {S : xS} (a1 : Int32) (a2 : Int32) {o : Int32 × xS} (h : r_popped  S a1 a2 = some o) : Met l yX12_popped (Cond.code yX12_popped cX12_popped 4 (some .boolean) :: xG) { frames := 1, cells := 0, slots := 0, locals := 21 } (xPc D vwCl (rTy cI cZ cB) [] [] rDom ad (rDe ad cI cZ cB) [.ref (ad 0 0), .int a1, .int a2] S) (xQ D vwCl rDom ad (rDe ad cI cZ cB) (some (.int o.1)) o.2) 0 0 (xA rDom ad) := by
  unfold r_popped at h
  refine x_enter (by decide) (Nat.le_of_ble_eq_true rfl) (fun p e s m below meth c F hr hlk hK hW hS ls hl => ?_)
  have hl : lv_has ls 4 [(0, .ref (ad 0 0)), (1, .int a1), (2, .int a2)] := hl
  have hx := F.1
  have hb := F.2.1
  refine lv_iconst (v := (0 : Int32)) hx hb dX12_popped_0 (by decide) ?_
  refine lv_istore_n (lv' := [(3, .int (0 : Int32)), (0, .ref (ad 0 0)), (1, .int a1), (2, .int a2)]) hx hb dX12_popped_1 rfl hl (by decide) rfl (fun ls hl => ?_)
  exact m_r_popped_b2 hI  F hr hlk hK (100000) _ _ _ _ h hW hS (lv_sub hl [1, 2, 3, 0] rfl)
/-! X12_linkOut -/
def r_linkOut  (S : xS) (a1 : Int32) (a2 : Int32) (a3 : Int32) (a4 : Int32) (a5 : Int32) : Option (xS) := (r_popped  S a1 a5).bind (fun (r_1, S1) => if a3 = 0 then (some S1) else (gd a2 33 (if (xI S1 0 44 (a2).toNatClampNeg) = (-1 : Int32) then ((r_own  S1 a1).bind (fun (r_4, S4) => gd a2 33 (xnm (sI S4 0 44 (a2).toNatClampNeg r_4) (fun S5 => gd a2 33 (xnm (sI S5 0 45 (a2).toNatClampNeg a3) (fun S6 => gd a2 33 (xnm (sI S6 0 46 (a2).toNatClampNeg a4) (fun S7 => (r_waits  S7 a1).bind (fun S8 => some S8))))))))) else ((r_stop  S1 a1 (3 : Int32)).bind (fun S9 => some S9)))))
set_option maxHeartbeats 4000000 in
set_option maxRecDepth 100000 in
theorem m_r_linkOut {l : Launch} {D : va_G} {cI cZ cB : ClassId} {ad : Nat → Nat → Nat} (hI : xInj rDom ad) {S : xS} (a1 : Int32) (a2 : Int32) (a3 : Int32) (a4 : Int32) (a5 : Int32) {o : xS} (h : r_linkOut  S a1 a2 a3 a4 a5 = some o) : Met l yX12_linkOut (Cond.code yX12_linkOut cX12_linkOut 6 none :: xG) { frames := 3, cells := 0, slots := 0, locals := 69 } (xPc D vwCl (rTy cI cZ cB) [] [] rDom ad (rDe ad cI cZ cB) [.ref (ad 0 0), .int a1, .int a2, .int a3, .int a4, .int a5] S) (xQ D vwCl rDom ad (rDe ad cI cZ cB) none o) 0 0 (xA rDom ad) := by
  unfold r_linkOut at h
  refine x_enter (by decide) (Nat.le_of_ble_eq_true rfl) (fun p e s m below meth c F hr hlk hK hW hS ls hl => ?_)
  have hl : lv_has ls 6 [(0, .ref (ad 0 0)), (1, .int a1), (2, .int a2), (3, .int a3), (4, .int a4), (5, .int a5)] := hl
  have hx := F.1
  have hb := F.2.1
  refine lv_aload_n hx hb dX12_linkOut_0 rfl (lv_at hl 0 rfl) ?_
  refine lv_iload_n hx hb dX12_linkOut_1 rfl (lv_at hl 1 rfl) ?_
  refine lv_iload hx hb dX12_linkOut_2 (lv_at hl 5 rfl) ?_
  refine x_cVi (As := [.int a1, .int a5]) F xG_ok hK hW hS um_X12_popped k_7_13 (fun _ h1 => m_r_popped hI _ _ h1) rfl rd_d0 rd_0 rfl rfl hl.1 rfl rfl ⟨Nat.le_of_ble_eq_true rfl, Nat.le_of_ble_eq_true rfl⟩ ⟨Nat.zero_le _, Nat.zero_le _⟩ (Nat.le_of_ble_eq_true rfl) dX12_linkOut_4 h (fun r_1 S1 H locs hW hS h => ?_)
  refine lv_pop hx hb dX12_linkOut_7 rfl ?_
  refine lv_iload_n hx hb dX12_linkOut_8 rfl (lv_at hl 3 rfl) ?_
  refine lv_if_ne (tgt := 13) hx hb dX12_linkOut_9 (by decide) (fun c_2 => ?_) (fun c_2 => ?_)
  · replace h := (if_neg c_2).symm.trans h
    refine lv_aload_n hx hb dX12_linkOut_13 rfl (lv_at hl 0 rfl) ?_
    refine x_get F hK hW xc_X12 rd_d0 rd_0 43 (by decide) k_5_171 (gf_X12_43 _ _) dX12_linkOut_14 ?_
    refine lv_iload_n hx hb dX12_linkOut_17 rfl (lv_at hl 2 rfl) ?_
    refine x_iald (t0 := 0) F hK hW rd_d44 rd_44 rfl dX12_linkOut_18 h (fun h => ?_)
    refine lv_iconst (v := (-1 : Int32)) hx hb dX12_linkOut_19 (by decide) ?_
    refine lv_icmp_eq (tgt := 30) hx hb dX12_linkOut_20 (by decide) (fun c_3 => ?_) (fun c_3 => ?_)
    · replace h := (if_pos c_3).symm.trans h
      refine lv_aload_n hx hb dX12_linkOut_30 rfl (lv_at hl 0 rfl) ?_
      refine x_get F hK hW xc_X12 rd_d0 rd_0 43 (by decide) k_5_171 (gf_X12_43 _ _) dX12_linkOut_31 ?_
      refine lv_iload_n hx hb dX12_linkOut_34 rfl (lv_at hl 2 rfl) ?_
      refine lv_aload_n hx hb dX12_linkOut_35 rfl (lv_at hl 0 rfl) ?_
      refine lv_iload_n hx hb dX12_linkOut_36 rfl (lv_at hl 1 rfl) ?_
      refine x_cVi (As := [.int a1]) F xG_ok hK hW hS um_X12_own k_7_21 (fun _ h1 => m_r_own hI _ h1) rfl rd_d0 rd_0 rfl rfl hl.1 rfl rfl ⟨Nat.le_of_ble_eq_true rfl, Nat.le_of_ble_eq_true rfl⟩ ⟨Nat.zero_le _, Nat.zero_le _⟩ (Nat.le_of_ble_eq_true rfl) dX12_linkOut_37 h (fun r_4 S4 H locs hW hS h => ?_)
      refine x_iast (t0 := 0) F hK hI hW hS rd_d44 rd_44 rfl dX12_linkOut_40 h (fun S5 H locs hW hS h => ?_)
      refine lv_aload_n hx hb dX12_linkOut_41 rfl (lv_at hl 0 rfl) ?_
      refine x_get F hK hW xc_X12 rd_d0 rd_0 44 (by decide) k_5_172 (gf_X12_44 _ _) dX12_linkOut_42 ?_
      refine lv_iload_n hx hb dX12_linkOut_45 rfl (lv_at hl 2 rfl) ?_
      refine lv_iload_n hx hb dX12_linkOut_46 rfl (lv_at hl 3 rfl) ?_
      refine x_iast (t0 := 0) F hK hI hW hS rd_d45 rd_45 rfl dX12_linkOut_47 h (fun S6 H locs hW hS h => ?_)
      refine lv_aload_n hx hb dX12_linkOut_48 rfl (lv_at hl 0 rfl) ?_
      refine x_get F hK hW xc_X12 rd_d0 rd_0 45 (by decide) k_5_173 (gf_X12_45 _ _) dX12_linkOut_49 ?_
      refine lv_iload_n hx hb dX12_linkOut_52 rfl (lv_at hl 2 rfl) ?_
      refine lv_iload hx hb dX12_linkOut_53 (lv_at hl 4 rfl) ?_
      refine x_iast (t0 := 0) F hK hI hW hS rd_d46 rd_46 rfl dX12_linkOut_55 h (fun S7 H locs hW hS h => ?_)
      refine lv_aload_n hx hb dX12_linkOut_56 rfl (lv_at hl 0 rfl) ?_
      refine lv_iload_n hx hb dX12_linkOut_57 rfl (lv_at hl 1 rfl) ?_
      refine x_cVv (As := [.int a1]) F xG_ok hK hW hS um_X12_waits k_7_25 (fun _ h1 => m_r_waits hI _ h1) rfl rd_d0 rd_0 rfl rfl hl.1 rfl rfl ⟨Nat.le_of_ble_eq_true rfl, Nat.le_of_ble_eq_true rfl⟩ ⟨Nat.zero_le _, Nat.zero_le _⟩ (Nat.le_of_ble_eq_true rfl) dX12_linkOut_58 h (fun S8 H locs hW hS h => ?_)
      exact x_vret F hr hlk hW hS dX12_linkOut_61 h
    replace h := (if_neg c_3).symm.trans h
    refine lv_aload_n hx hb dX12_linkOut_23 rfl (lv_at hl 0 rfl) ?_
    refine lv_iload_n hx hb dX12_linkOut_24 rfl (lv_at hl 1 rfl) ?_
    refine lv_iconst (v := (3 : Int32)) hx hb dX12_linkOut_25 (by decide) ?_
    refine x_cVv (As := [.int a1, .int (3 : Int32)]) F xG_ok hK hW hS um_X12_stop k_6_184 (fun _ h1 => m_r_stop hI _ _ h1) rfl rd_d0 rd_0 rfl rfl hl.1 rfl rfl ⟨Nat.le_of_ble_eq_true rfl, Nat.le_of_ble_eq_true rfl⟩ ⟨Nat.zero_le _, Nat.zero_le _⟩ (Nat.le_of_ble_eq_true rfl) dX12_linkOut_26 h (fun S9 H locs hW hS h => ?_)
    exact x_vret F hr hlk hW hS dX12_linkOut_29 h
  replace h := (if_pos c_2).symm.trans h
  exact x_vret F hr hlk hW hS dX12_linkOut_12 h
/-! X12_leaves -/
def r_leaves  (S : xS) (a1 : Int32) (a2 : Int32) (a3 : Int32) (a4 : Int32) : Option (xS) := (r_own  S a1).bind (fun (r_1, S1) => (r_wordTo  S1 a1 a2 r_1).bind (fun S2 => gd a1 8 ((r_wordTo  S2 a1 ((xI S2 0 10 (a1).toNatClampNeg) - (6 : Int32)) a3).bind (fun S3 => (r_popped  S3 a1 a4).bind (fun (r_4, S4) => (r_waits  S4 a1).bind (fun S5 => some S5))))))
set_option maxHeartbeats 4000000 in
set_option maxRecDepth 100000 in
theorem m_r_leaves {l : Launch} {D : va_G} {cI cZ cB : ClassId} {ad : Nat → Nat → Nat} (hI : xInj rDom ad) {S : xS} (a1 : Int32) (a2 : Int32) (a3 : Int32) (a4 : Int32) {o : xS} (h : r_leaves  S a1 a2 a3 a4 = some o) : Met l yX12_leaves (Cond.code yX12_leaves cX12_leaves 5 none :: xG) { frames := 3, cells := 0, slots := 0, locals := 69 } (xPc D vwCl (rTy cI cZ cB) [] [] rDom ad (rDe ad cI cZ cB) [.ref (ad 0 0), .int a1, .int a2, .int a3, .int a4] S) (xQ D vwCl rDom ad (rDe ad cI cZ cB) none o) 0 0 (xA rDom ad) := by
  unfold r_leaves at h
  refine x_enter (by decide) (Nat.le_of_ble_eq_true rfl) (fun p e s m below meth c F hr hlk hK hW hS ls hl => ?_)
  have hl : lv_has ls 5 [(0, .ref (ad 0 0)), (1, .int a1), (2, .int a2), (3, .int a3), (4, .int a4)] := hl
  have hx := F.1
  have hb := F.2.1
  refine lv_aload_n hx hb dX12_leaves_0 rfl (lv_at hl 0 rfl) ?_
  refine lv_iload_n hx hb dX12_leaves_1 rfl (lv_at hl 1 rfl) ?_
  refine lv_iload_n hx hb dX12_leaves_2 rfl (lv_at hl 2 rfl) ?_
  refine lv_aload_n hx hb dX12_leaves_3 rfl (lv_at hl 0 rfl) ?_
  refine lv_iload_n hx hb dX12_leaves_4 rfl (lv_at hl 1 rfl) ?_
  refine x_cVi (As := [.int a1]) F xG_ok hK hW hS um_X12_own k_7_21 (fun _ h1 => m_r_own hI _ h1) rfl rd_d0 rd_0 rfl rfl hl.1 rfl rfl ⟨Nat.le_of_ble_eq_true rfl, Nat.le_of_ble_eq_true rfl⟩ ⟨Nat.zero_le _, Nat.zero_le _⟩ (Nat.le_of_ble_eq_true rfl) dX12_leaves_5 h (fun r_1 S1 H locs hW hS h => ?_)
  refine x_cVv (As := [.int a1, .int a2, .int r_1]) F xG_ok hK hW hS um_X12_wordTo k_6_137 (fun _ h1 => m_r_wordTo hI _ _ _ h1) rfl rd_d0 rd_0 rfl rfl hl.1 rfl rfl ⟨Nat.le_of_ble_eq_true rfl, Nat.le_of_ble_eq_true rfl⟩ ⟨Nat.zero_le _, Nat.zero_le _⟩ (Nat.le_of_ble_eq_true rfl) dX12_leaves_8 h (fun S2 H locs hW hS h => ?_)
  refine lv_aload_n hx hb dX12_leaves_11 rfl (lv_at hl 0 rfl) ?_
  refine lv_iload_n hx hb dX12_leaves_12 rfl (lv_at hl 1 rfl) ?_
  refine lv_aload_n hx hb dX12_leaves_13 rfl (lv_at hl 0 rfl) ?_
  refine x_get F hK hW xc_X12 rd_d0 rd_0 9 (by decide) k_5_137 (gf_X12_9 _ _) dX12_leaves_14 ?_
  refine lv_iload_n hx hb dX12_leaves_17 rfl (lv_at hl 1 rfl) ?_
  refine x_iald (t0 := 0) F hK hW rd_d10 rd_10 rfl dX12_leaves_18 h (fun h => ?_)
  refine lv_bipush (v := (6 : Int32)) hx hb dX12_leaves_19 (by decide) ?_
  refine lv_isub hx hb dX12_leaves_21 ?_
  refine lv_iload_n hx hb dX12_leaves_22 rfl (lv_at hl 3 rfl) ?_
  refine x_cVv (As := [.int a1, .int ((xI S2 0 10 (a1).toNatClampNeg) - (6 : Int32)), .int a3]) F xG_ok hK hW hS um_X12_wordTo k_6_137 (fun _ h1 => m_r_wordTo hI _ _ _ h1) rfl rd_d0 rd_0 rfl rfl hl.1 rfl rfl ⟨Nat.le_of_ble_eq_true rfl, Nat.le_of_ble_eq_true rfl⟩ ⟨Nat.zero_le _, Nat.zero_le _⟩ (Nat.le_of_ble_eq_true rfl) dX12_leaves_23 h (fun S3 H locs hW hS h => ?_)
  refine lv_aload_n hx hb dX12_leaves_26 rfl (lv_at hl 0 rfl) ?_
  refine lv_iload_n hx hb dX12_leaves_27 rfl (lv_at hl 1 rfl) ?_
  refine lv_iload hx hb dX12_leaves_28 (lv_at hl 4 rfl) ?_
  refine x_cVi (As := [.int a1, .int a4]) F xG_ok hK hW hS um_X12_popped k_7_13 (fun _ h1 => m_r_popped hI _ _ h1) rfl rd_d0 rd_0 rfl rfl hl.1 rfl rfl ⟨Nat.le_of_ble_eq_true rfl, Nat.le_of_ble_eq_true rfl⟩ ⟨Nat.zero_le _, Nat.zero_le _⟩ (Nat.le_of_ble_eq_true rfl) dX12_leaves_30 h (fun r_4 S4 H locs hW hS h => ?_)
  refine lv_pop hx hb dX12_leaves_33 rfl ?_
  refine lv_aload_n hx hb dX12_leaves_34 rfl (lv_at hl 0 rfl) ?_
  refine lv_iload_n hx hb dX12_leaves_35 rfl (lv_at hl 1 rfl) ?_
  refine x_cVv (As := [.int a1]) F xG_ok hK hW hS um_X12_waits k_7_25 (fun _ h1 => m_r_waits hI _ h1) rfl rd_d0 rd_0 rfl rfl hl.1 rfl rfl ⟨Nat.le_of_ble_eq_true rfl, Nat.le_of_ble_eq_true rfl⟩ ⟨Nat.zero_le _, Nat.zero_le _⟩ (Nat.le_of_ble_eq_true rfl) dX12_leaves_36 h (fun S5 H locs hW hS h => ?_)
  exact x_vret F hr hlk hW hS dX12_leaves_39 h
/-! X12_forget -/
def r_forget_b77 (K8 : Int32 → Int32 → Int32 → Int32 → xS → Option (xS)) (v1 : Int32) (v2 : Int32) (v3 : Int32) (v4 : Int32) (S : xS) : Option (xS) := K8 v1 v2 v3 (v4 + (1 : Int32)) S
set_option maxHeartbeats 4000000 in
set_option maxRecDepth 100000 in
theorem m_r_forget_b77 {l : Launch} {D : va_G} {cI cZ cB : ClassId} {ad : Nat → Nat → Nat} (hI : xInj rDom ad) {p : Program} {e : Env} {s : State} {m : MethodId} {args : Array Value} {below : List Frame} {meth : Method} {c : Code} (F : CallFix p m c cX12_forget 5 s args (Cond.code yX12_forget cX12_forget 5 none :: xG) (yX12_forget).cls) (hr : meth.sig.returnType = none) (hlk : meth.locks = false) (hK : xK D vwCl (rTy cI cZ cB) [] [] s) {o : xS} {K8 : Int32 → Int32 → Int32 → Int32 → xS → Option (xS)} (hk8 : ∀ (v1 : Int32) (v2 : Int32) (v3 : Int32) (v4 : Int32) (S : xS) (H : Heap) (locs : List Loc) (ls : Array Slot), K8 v1 v2 v3 v4 S = some o → xW D vwCl rDom ad (rDe ad cI cZ cB) S H → va_S (xA rDom ad) s.heap H locs → lv_has ls 5 [(0, .ref (ad 0 0)), (1, .int v1), (2, .int v2), (3, .int v3), (4, .int v4)] → W p l e { frames := 0, cells := 0, slots := 0, locals := 0 } s m args below meth c H locs 0 0 (MQ below (xQ D vwCl rDom ad (rDe ad cI cZ cB) none o) args s 0 0 (xA rDom ad)) (F0 m 8 ls [])) (v1 : Int32) (v2 : Int32) (v3 : Int32) (v4 : Int32) (S : xS) {H : Heap} {locs : List Loc} {ls : Array Slot} (h : r_forget_b77 K8 v1 v2 v3 v4 S = some o) (hW : xW D vwCl rDom ad (rDe ad cI cZ cB) S H) (hS : va_S (xA rDom ad) s.heap H locs) (hl : lv_has ls 5 [(0, .ref (ad 0 0)), (1, .int v1), (2, .int v2), (3, .int v3), (4, .int v4)]) : W p l e { frames := 0, cells := 0, slots := 0, locals := 0 } s m args below meth c H locs 0 0 (MQ below (xQ D vwCl rDom ad (rDe ad cI cZ cB) none o) args s 0 0 (xA rDom ad)) (F0 m 77 ls []) := by
  have hx := F.1
  have hb := F.2.1
  unfold r_forget_b77 at h
  refine lv_iinc (v := (v4 + (1 : Int32))) (lv' := [(4, .int (v4 + (1 : Int32))), (0, .ref (ad 0 0)), (1, .int v1), (2, .int v2), (3, .int v3)]) hx hb dX12_forget_77 hl (k := 4) rfl rfl (by decide) rfl (fun ls hl => ?_)
  refine lv_goto (tgt := 8) hx hb dX12_forget_80 (by decide) ?_
  exact hk8 _ _ _ _ _ _ _ _ h hW hS (lv_sub hl [1, 2, 3, 4, 0] rfl)
def r_forget_b8 : Nat → Int32 → Int32 → Int32 → Int32 → xS → Option (xS)
  | 0, _, _, _, _, _ => none
  | fu + 1, v1, v2, v3, v4, S => gd v1 8 (if (((64 : Int32) * v1) + (xI S 0 30 (v1).toNatClampNeg)) ≤ v4 then (gd v1 8 (xnm (sI S 0 30 (v1).toNatClampNeg v3) (fun S2 => some S2))) else (gd v4 512 (if (xI S 0 31 (v4).toNatClampNeg) = v2 then (r_forget_b77  (r_forget_b8 fu) v1 v2 v3 v4 S) else (gd v4 512 (gd (((64 : Int32) * v1) + v3) 512 (xnm (sI S 0 31 ((((64 : Int32) * v1) + v3)).toNatClampNeg (xI S 0 31 (v4).toNatClampNeg)) (fun S4 => gd v4 512 (gd (((64 : Int32) * v1) + v3) 512 (xnm (sI S4 0 32 ((((64 : Int32) * v1) + v3)).toNatClampNeg (xI S4 0 32 (v4).toNatClampNeg)) (fun S5 => r_forget_b77  (r_forget_b8 fu) v1 v2 (v3 + (1 : Int32)) v4 S5))))))))))
set_option maxHeartbeats 4000000 in
set_option maxRecDepth 100000 in
theorem m_r_forget_b8 {l : Launch} {D : va_G} {cI cZ cB : ClassId} {ad : Nat → Nat → Nat} (hI : xInj rDom ad) {p : Program} {e : Env} {s : State} {m : MethodId} {args : Array Value} {below : List Frame} {meth : Method} {c : Code} (F : CallFix p m c cX12_forget 5 s args (Cond.code yX12_forget cX12_forget 5 none :: xG) (yX12_forget).cls) (hr : meth.sig.returnType = none) (hlk : meth.locks = false) (hK : xK D vwCl (rTy cI cZ cB) [] [] s) {o : xS} : ∀ (fu : Nat) (v1 : Int32) (v2 : Int32) (v3 : Int32) (v4 : Int32) (S : xS) {H : Heap} {locs : List Loc} {ls : Array Slot}, r_forget_b8 fu v1 v2 v3 v4 S = some o → xW D vwCl rDom ad (rDe ad cI cZ cB) S H → va_S (xA rDom ad) s.heap H locs → lv_has ls 5 [(0, .ref (ad 0 0)), (1, .int v1), (2, .int v2), (3, .int v3), (4, .int v4)] → W p l e { frames := 0, cells := 0, slots := 0, locals := 0 } s m args below meth c H locs 0 0 (MQ below (xQ D vwCl rDom ad (rDe ad cI cZ cB) none o) args s 0 0 (xA rDom ad)) (F0 m 8 ls []) := by
  have hx := F.1
  have hb := F.2.1
  intro fu
  induction fu with
  | zero =>
    intro v1 v2 v3 v4 S H locs ls h
    simp [r_forget_b8] at h
  | succ fu ih =>
    intro v1 v2 v3 v4 S H locs ls h hW hS hl
    have hk8 := fun v1 v2 v3 v4 S H locs ls (h : r_forget_b8 fu v1 v2 v3 v4 S = some o) hW hS hl => ih v1 v2 v3 v4 S (H := H) (locs := locs) (ls := ls) h hW hS hl
    rw [r_forget_b8] at h
    refine lv_iload hx hb dX12_forget_8 (lv_at hl 4 rfl) ?_
    refine lv_bipush (v := (64 : Int32)) hx hb dX12_forget_10 (by decide) ?_
    refine lv_iload_n hx hb dX12_forget_12 rfl (lv_at hl 1 rfl) ?_
    refine lv_imul hx hb dX12_forget_13 ?_
    refine lv_aload_n hx hb dX12_forget_14 rfl (lv_at hl 0 rfl) ?_
    refine x_get F hK hW xc_X12 rd_d0 rd_0 29 (by decide) k_5_157 (gf_X12_29 _ _) dX12_forget_15 ?_
    refine lv_iload_n hx hb dX12_forget_18 rfl (lv_at hl 1 rfl) ?_
    refine x_iald (t0 := 0) F hK hW rd_d30 rd_30 rfl dX12_forget_19 h (fun h => ?_)
    refine lv_iadd hx hb dX12_forget_20 ?_
    refine lv_icmp_ge (tgt := 83) hx hb dX12_forget_21 (by decide) (fun c_1 => ?_) (fun c_1 => ?_)
    · replace h := (if_pos c_1).symm.trans h
      refine lv_aload_n hx hb dX12_forget_83 rfl (lv_at hl 0 rfl) ?_
      refine x_get F hK hW xc_X12 rd_d0 rd_0 29 (by decide) k_5_157 (gf_X12_29 _ _) dX12_forget_84 ?_
      refine lv_iload_n hx hb dX12_forget_87 rfl (lv_at hl 1 rfl) ?_
      refine lv_iload_n hx hb dX12_forget_88 rfl (lv_at hl 3 rfl) ?_
      refine x_iast (t0 := 0) F hK hI hW hS rd_d30 rd_30 rfl dX12_forget_89 h (fun S2 H locs hW hS h => ?_)
      exact x_vret F hr hlk hW hS dX12_forget_90 h
    replace h := (if_neg c_1).symm.trans h
    refine lv_aload_n hx hb dX12_forget_24 rfl (lv_at hl 0 rfl) ?_
    refine x_get F hK hW xc_X12 rd_d0 rd_0 30 (by decide) k_5_158 (gf_X12_30 _ _) dX12_forget_25 ?_
    refine lv_iload hx hb dX12_forget_28 (lv_at hl 4 rfl) ?_
    refine x_iald (t0 := 0) F hK hW rd_d31 rd_31 rfl dX12_forget_30 h (fun h => ?_)
    refine lv_iload_n hx hb dX12_forget_31 rfl (lv_at hl 2 rfl) ?_
    refine lv_icmp_ne (tgt := 38) hx hb dX12_forget_32 (by decide) (fun c_3 => ?_) (fun c_3 => ?_)
    · replace h := (if_neg c_3).symm.trans h
      refine lv_aload_n hx hb dX12_forget_38 rfl (lv_at hl 0 rfl) ?_
      refine x_get F hK hW xc_X12 rd_d0 rd_0 30 (by decide) k_5_158 (gf_X12_30 _ _) dX12_forget_39 ?_
      refine lv_bipush (v := (64 : Int32)) hx hb dX12_forget_42 (by decide) ?_
      refine lv_iload_n hx hb dX12_forget_44 rfl (lv_at hl 1 rfl) ?_
      refine lv_imul hx hb dX12_forget_45 ?_
      refine lv_iload_n hx hb dX12_forget_46 rfl (lv_at hl 3 rfl) ?_
      refine lv_iadd hx hb dX12_forget_47 ?_
      refine lv_aload_n hx hb dX12_forget_48 rfl (lv_at hl 0 rfl) ?_
      refine x_get F hK hW xc_X12 rd_d0 rd_0 30 (by decide) k_5_158 (gf_X12_30 _ _) dX12_forget_49 ?_
      refine lv_iload hx hb dX12_forget_52 (lv_at hl 4 rfl) ?_
      refine x_iald (t0 := 0) F hK hW rd_d31 rd_31 rfl dX12_forget_54 h (fun h => ?_)
      refine x_iast (t0 := 0) F hK hI hW hS rd_d31 rd_31 rfl dX12_forget_55 h (fun S4 H locs hW hS h => ?_)
      refine lv_aload_n hx hb dX12_forget_56 rfl (lv_at hl 0 rfl) ?_
      refine x_get F hK hW xc_X12 rd_d0 rd_0 31 (by decide) k_5_159 (gf_X12_31 _ _) dX12_forget_57 ?_
      refine lv_bipush (v := (64 : Int32)) hx hb dX12_forget_60 (by decide) ?_
      refine lv_iload_n hx hb dX12_forget_62 rfl (lv_at hl 1 rfl) ?_
      refine lv_imul hx hb dX12_forget_63 ?_
      refine lv_iload_n hx hb dX12_forget_64 rfl (lv_at hl 3 rfl) ?_
      refine lv_iadd hx hb dX12_forget_65 ?_
      refine lv_aload_n hx hb dX12_forget_66 rfl (lv_at hl 0 rfl) ?_
      refine x_get F hK hW xc_X12 rd_d0 rd_0 31 (by decide) k_5_159 (gf_X12_31 _ _) dX12_forget_67 ?_
      refine lv_iload hx hb dX12_forget_70 (lv_at hl 4 rfl) ?_
      refine x_iald (t0 := 0) F hK hW rd_d32 rd_32 rfl dX12_forget_72 h (fun h => ?_)
      refine x_iast (t0 := 0) F hK hI hW hS rd_d32 rd_32 rfl dX12_forget_73 h (fun S5 H locs hW hS h => ?_)
      refine lv_iinc (v := (v3 + (1 : Int32))) (lv' := [(3, .int (v3 + (1 : Int32))), (0, .ref (ad 0 0)), (1, .int v1), (2, .int v2), (4, .int v4)]) hx hb dX12_forget_74 hl (k := 3) rfl rfl (by decide) rfl (fun ls hl => ?_)
      exact m_r_forget_b77 hI  F hr hlk hK hk8 _ _ _ _ _ h hW hS (lv_sub hl [1, 2, 3, 0, 4] rfl)
    replace h := (if_pos c_3).symm.trans h
    refine lv_goto (tgt := 77) hx hb dX12_forget_35 (by decide) ?_
    exact m_r_forget_b77 hI  F hr hlk hK hk8 _ _ _ _ _ h hW hS (lv_sub hl [0, 1, 2, 3, 4] rfl)
def r_forget  (S : xS) (a1 : Int32) (a2 : Int32) : Option (xS) := r_forget_b8  (100000) a1 a2 (0 : Int32) ((64 : Int32) * a1) S
set_option maxHeartbeats 4000000 in
set_option maxRecDepth 100000 in
theorem m_r_forget {l : Launch} {D : va_G} {cI cZ cB : ClassId} {ad : Nat → Nat → Nat} (hI : xInj rDom ad) {S : xS} (a1 : Int32) (a2 : Int32) {o : xS} (h : r_forget  S a1 a2 = some o) : Met l yX12_forget (Cond.code yX12_forget cX12_forget 5 none :: xG) { frames := 0, cells := 0, slots := 0, locals := 0 } (xPc D vwCl (rTy cI cZ cB) [] [] rDom ad (rDe ad cI cZ cB) [.ref (ad 0 0), .int a1, .int a2] S) (xQ D vwCl rDom ad (rDe ad cI cZ cB) none o) 0 0 (xA rDom ad) := by
  unfold r_forget at h
  refine x_enter (by decide) (Nat.le_of_ble_eq_true rfl) (fun p e s m below meth c F hr hlk hK hW hS ls hl => ?_)
  have hl : lv_has ls 5 [(0, .ref (ad 0 0)), (1, .int a1), (2, .int a2)] := hl
  have hx := F.1
  have hb := F.2.1
  refine lv_iconst (v := (0 : Int32)) hx hb dX12_forget_0 (by decide) ?_
  refine lv_istore_n (lv' := [(3, .int (0 : Int32)), (0, .ref (ad 0 0)), (1, .int a1), (2, .int a2)]) hx hb dX12_forget_1 rfl hl (by decide) rfl (fun ls hl => ?_)
  refine lv_bipush (v := (64 : Int32)) hx hb dX12_forget_2 (by decide) ?_
  refine lv_iload_n hx hb dX12_forget_4 rfl (lv_at hl 2 rfl) ?_
  refine lv_imul hx hb dX12_forget_5 ?_
  refine lv_istore (lv' := [(4, .int ((64 : Int32) * a1)), (3, .int (0 : Int32)), (0, .ref (ad 0 0)), (1, .int a1), (2, .int a2)]) hx hb dX12_forget_6 hl (by decide) rfl (fun ls hl => ?_)
  exact m_r_forget_b8 hI  F hr hlk hK (100000) _ _ _ _ _ h hW hS (lv_sub hl [2, 3, 4, 1, 0] rfl)
/-! X12_finds -/
def r_finds  (S : xS) (a1 : Int32) (a2 : Int32) (a3 : Int32) : Option (xS) := (r_wordTo  S a1 ((a2 &&& (65534 : Int32)) - (6 : Int32)) (32771 : Int32)).bind (fun S1 => (r_forget  S1 a1 a2).bind (fun S2 => if a3 = (32770 : Int32) then ((r_ready  S2 a1 a2).bind (fun S4 => some S4)) else (some S2)))
set_option maxHeartbeats 4000000 in
set_option maxRecDepth 100000 in
theorem m_r_finds {l : Launch} {D : va_G} {cI cZ cB : ClassId} {ad : Nat → Nat → Nat} (hI : xInj rDom ad) {S : xS} (a1 : Int32) (a2 : Int32) (a3 : Int32) {o : xS} (h : r_finds  S a1 a2 a3 = some o) : Met l yX12_finds (Cond.code yX12_finds cX12_finds 4 none :: xG) { frames := 3, cells := 0, slots := 0, locals := 72 } (xPc D vwCl (rTy cI cZ cB) [] [] rDom ad (rDe ad cI cZ cB) [.ref (ad 0 0), .int a1, .int a2, .int a3] S) (xQ D vwCl rDom ad (rDe ad cI cZ cB) none o) 0 0 (xA rDom ad) := by
  unfold r_finds at h
  refine x_enter (by decide) (Nat.le_of_ble_eq_true rfl) (fun p e s m below meth c F hr hlk hK hW hS ls hl => ?_)
  have hl : lv_has ls 4 [(0, .ref (ad 0 0)), (1, .int a1), (2, .int a2), (3, .int a3)] := hl
  have hx := F.1
  have hb := F.2.1
  refine lv_aload_n hx hb dX12_finds_0 rfl (lv_at hl 0 rfl) ?_
  refine lv_iload_n hx hb dX12_finds_1 rfl (lv_at hl 1 rfl) ?_
  refine lv_iload_n hx hb dX12_finds_2 rfl (lv_at hl 2 rfl) ?_
  refine lv_ldc (v := (65534 : Int32)) hx hb F.2.2.2.1 (x_hts F _ k_6_103) dX12_finds_3 ?_
  refine lv_iand hx hb dX12_finds_5 ?_
  refine lv_bipush (v := (6 : Int32)) hx hb dX12_finds_6 (by decide) ?_
  refine lv_isub hx hb dX12_finds_8 ?_
  refine lv_ldcw (v := (32771 : Int32)) hx hb F.2.2.2.1 (x_hts F _ k_6_159) dX12_finds_9 ?_
  refine x_cVv (As := [.int a1, .int ((a2 &&& (65534 : Int32)) - (6 : Int32)), .int (32771 : Int32)]) F xG_ok hK hW hS um_X12_wordTo k_6_137 (fun _ h1 => m_r_wordTo hI _ _ _ h1) rfl rd_d0 rd_0 rfl rfl hl.1 rfl rfl ⟨Nat.le_of_ble_eq_true rfl, Nat.le_of_ble_eq_true rfl⟩ ⟨Nat.zero_le _, Nat.zero_le _⟩ (Nat.le_of_ble_eq_true rfl) dX12_finds_12 h (fun S1 H locs hW hS h => ?_)
  refine lv_aload_n hx hb dX12_finds_15 rfl (lv_at hl 0 rfl) ?_
  refine lv_iload_n hx hb dX12_finds_16 rfl (lv_at hl 1 rfl) ?_
  refine lv_iload_n hx hb dX12_finds_17 rfl (lv_at hl 2 rfl) ?_
  refine x_cVv (As := [.int a1, .int a2]) F xG_ok hK hW hS um_X12_forget k_6_160 (fun _ h1 => m_r_forget hI _ _ h1) rfl rd_d0 rd_0 rfl rfl hl.1 rfl rfl ⟨Nat.le_of_ble_eq_true rfl, Nat.le_of_ble_eq_true rfl⟩ ⟨Nat.zero_le _, Nat.zero_le _⟩ (Nat.le_of_ble_eq_true rfl) dX12_finds_18 h (fun S2 H locs hW hS h => ?_)
  refine lv_iload_n hx hb dX12_finds_21 rfl (lv_at hl 3 rfl) ?_
  refine lv_ldcw (v := (32770 : Int32)) hx hb F.2.2.2.1 (x_hts F _ k_6_154) dX12_finds_22 ?_
  refine lv_icmp_ne (tgt := 34) hx hb dX12_finds_25 (by decide) (fun c_3 => ?_) (fun c_3 => ?_)
  · replace h := (if_neg c_3).symm.trans h
    exact x_vret F hr hlk hW hS dX12_finds_34 h
  replace h := (if_pos c_3).symm.trans h
  refine lv_aload_n hx hb dX12_finds_28 rfl (lv_at hl 0 rfl) ?_
  refine lv_iload_n hx hb dX12_finds_29 rfl (lv_at hl 1 rfl) ?_
  refine lv_iload_n hx hb dX12_finds_30 rfl (lv_at hl 2 rfl) ?_
  refine x_cVv (As := [.int a1, .int a2]) F xG_ok hK hW hS um_X12_ready k_6_133 (fun _ h1 => m_r_ready hI _ _ h1) rfl rd_d0 rd_0 rfl rfl hl.1 rfl rfl ⟨Nat.le_of_ble_eq_true rfl, Nat.le_of_ble_eq_true rfl⟩ ⟨Nat.zero_le _, Nat.zero_le _⟩ (Nat.le_of_ble_eq_true rfl) dX12_finds_31 h (fun S4 H locs hW hS h => ?_)
  exact x_vret F hr hlk hW hS dX12_finds_34 h
/-! X12_copies -/
def r_copies_b3 : Nat → Int32 → Int32 → Int32 → Int32 → Int32 → xS → Option (xS)
  | 0, _, _, _, _, _, _ => none
  | fu + 1, v1, v2, v3, v4, v5, S => if v4 ≤ v5 then (gd v1 8 (xnm (sI S 0 14 (v1).toNatClampNeg (v4 / (4 : Int32))) (fun S2 => some S2))) else ((r_byteAt  S v1 (v2 + v5)).bind (fun (r_3, S3) => (r_byteTo  S3 v1 (v3 + v5) r_3).bind (fun S4 => (r_copies_b3 fu) v1 v2 v3 v4 (v5 + (1 : Int32)) S4)))
set_option maxHeartbeats 4000000 in
set_option maxRecDepth 100000 in
theorem m_r_copies_b3 {l : Launch} {D : va_G} {cI cZ cB : ClassId} {ad : Nat → Nat → Nat} (hI : xInj rDom ad) {p : Program} {e : Env} {s : State} {m : MethodId} {args : Array Value} {below : List Frame} {meth : Method} {c : Code} (F : CallFix p m c cX12_copies 6 s args (Cond.code yX12_copies cX12_copies 6 none :: xG) (yX12_copies).cls) (hr : meth.sig.returnType = none) (hlk : meth.locks = false) (hK : xK D vwCl (rTy cI cZ cB) [] [] s) {o : xS} : ∀ (fu : Nat) (v1 : Int32) (v2 : Int32) (v3 : Int32) (v4 : Int32) (v5 : Int32) (S : xS) {H : Heap} {locs : List Loc} {ls : Array Slot}, r_copies_b3 fu v1 v2 v3 v4 v5 S = some o → xW D vwCl rDom ad (rDe ad cI cZ cB) S H → va_S (xA rDom ad) s.heap H locs → lv_has ls 6 [(0, .ref (ad 0 0)), (1, .int v1), (2, .int v2), (3, .int v3), (4, .int v4), (5, .int v5)] → W p l e { frames := 1, cells := 0, slots := 0, locals := 24 } s m args below meth c H locs 0 0 (MQ below (xQ D vwCl rDom ad (rDe ad cI cZ cB) none o) args s 0 0 (xA rDom ad)) (F0 m 3 ls []) := by
  have hx := F.1
  have hb := F.2.1
  intro fu
  induction fu with
  | zero =>
    intro v1 v2 v3 v4 v5 S H locs ls h
    simp [r_copies_b3] at h
  | succ fu ih =>
    intro v1 v2 v3 v4 v5 S H locs ls h hW hS hl
    have hk3 := fun v1 v2 v3 v4 v5 S H locs ls (h : r_copies_b3 fu v1 v2 v3 v4 v5 S = some o) hW hS hl => ih v1 v2 v3 v4 v5 S (H := H) (locs := locs) (ls := ls) h hW hS hl
    rw [r_copies_b3] at h
    refine lv_iload hx hb dX12_copies_3 (lv_at hl 5 rfl) ?_
    refine lv_iload hx hb dX12_copies_5 (lv_at hl 4 rfl) ?_
    refine lv_icmp_ge (tgt := 34) hx hb dX12_copies_7 (by decide) (fun c_1 => ?_) (fun c_1 => ?_)
    · replace h := (if_pos c_1).symm.trans h
      refine lv_aload_n hx hb dX12_copies_34 rfl (lv_at hl 0 rfl) ?_
      refine x_get F hK hW xc_X12 rd_d0 rd_0 13 (by decide) k_5_141 (gf_X12_13 _ _) dX12_copies_35 ?_
      refine lv_iload_n hx hb dX12_copies_38 rfl (lv_at hl 1 rfl) ?_
      refine lv_iload hx hb dX12_copies_39 (lv_at hl 4 rfl) ?_
      refine lv_iconst (v := (4 : Int32)) hx hb dX12_copies_41 (by decide) ?_
      refine lv_idiv hx hb dX12_copies_42 (by decide) ?_
      refine x_iast (t0 := 0) F hK hI hW hS rd_d14 rd_14 rfl dX12_copies_43 h (fun S2 H locs hW hS h => ?_)
      exact x_vret F hr hlk hW hS dX12_copies_44 h
    replace h := (if_neg c_1).symm.trans h
    refine lv_aload_n hx hb dX12_copies_10 rfl (lv_at hl 0 rfl) ?_
    refine lv_iload_n hx hb dX12_copies_11 rfl (lv_at hl 1 rfl) ?_
    refine lv_iload_n hx hb dX12_copies_12 rfl (lv_at hl 3 rfl) ?_
    refine lv_iload hx hb dX12_copies_13 (lv_at hl 5 rfl) ?_
    refine lv_iadd hx hb dX12_copies_15 ?_
    refine lv_aload_n hx hb dX12_copies_16 rfl (lv_at hl 0 rfl) ?_
    refine lv_iload_n hx hb dX12_copies_17 rfl (lv_at hl 1 rfl) ?_
    refine lv_iload_n hx hb dX12_copies_18 rfl (lv_at hl 2 rfl) ?_
    refine lv_iload hx hb dX12_copies_19 (lv_at hl 5 rfl) ?_
    refine lv_iadd hx hb dX12_copies_21 ?_
    refine x_cVi (As := [.int v1, .int (v2 + v5)]) F xG_ok hK hW hS um_X12_byteAt k_6_120 (fun _ h1 => m_r_byteAt hI _ _ h1) rfl rd_d0 rd_0 rfl rfl hl.1 rfl rfl ⟨Nat.le_of_ble_eq_true rfl, Nat.le_of_ble_eq_true rfl⟩ ⟨Nat.zero_le _, Nat.zero_le _⟩ (Nat.le_of_ble_eq_true rfl) dX12_copies_22 h (fun r_3 S3 H locs hW hS h => ?_)
    refine x_cVv (As := [.int v1, .int (v3 + v5), .int r_3]) F xG_ok hK hW hS um_X12_byteTo k_6_141 (fun _ h1 => m_r_byteTo hI _ _ _ h1) rfl rd_d0 rd_0 rfl rfl hl.1 rfl rfl ⟨Nat.le_of_ble_eq_true rfl, Nat.le_of_ble_eq_true rfl⟩ ⟨Nat.zero_le _, Nat.zero_le _⟩ (Nat.le_of_ble_eq_true rfl) dX12_copies_25 h (fun S4 H locs hW hS h => ?_)
    refine lv_iinc (v := (v5 + (1 : Int32))) (lv' := [(5, .int (v5 + (1 : Int32))), (0, .ref (ad 0 0)), (1, .int v1), (2, .int v2), (3, .int v3), (4, .int v4)]) hx hb dX12_copies_28 hl (k := 5) rfl rfl (by decide) rfl (fun ls hl => ?_)
    refine lv_goto (tgt := 3) hx hb dX12_copies_31 (by decide) ?_
    exact hk3 _ _ _ _ _ _ _ _ _ h hW hS (lv_sub hl [1, 2, 3, 4, 5, 0] rfl)
def r_copies  (S : xS) (a1 : Int32) (a2 : Int32) (a3 : Int32) (a4 : Int32) : Option (xS) := r_copies_b3  (100000) a1 a2 a3 a4 (0 : Int32) S
set_option maxHeartbeats 4000000 in
set_option maxRecDepth 100000 in
theorem m_r_copies {l : Launch} {D : va_G} {cI cZ cB : ClassId} {ad : Nat → Nat → Nat} (hI : xInj rDom ad) {S : xS} (a1 : Int32) (a2 : Int32) (a3 : Int32) (a4 : Int32) {o : xS} (h : r_copies  S a1 a2 a3 a4 = some o) : Met l yX12_copies (Cond.code yX12_copies cX12_copies 6 none :: xG) { frames := 1, cells := 0, slots := 0, locals := 24 } (xPc D vwCl (rTy cI cZ cB) [] [] rDom ad (rDe ad cI cZ cB) [.ref (ad 0 0), .int a1, .int a2, .int a3, .int a4] S) (xQ D vwCl rDom ad (rDe ad cI cZ cB) none o) 0 0 (xA rDom ad) := by
  unfold r_copies at h
  refine x_enter (by decide) (Nat.le_of_ble_eq_true rfl) (fun p e s m below meth c F hr hlk hK hW hS ls hl => ?_)
  have hl : lv_has ls 6 [(0, .ref (ad 0 0)), (1, .int a1), (2, .int a2), (3, .int a3), (4, .int a4)] := hl
  have hx := F.1
  have hb := F.2.1
  refine lv_iconst (v := (0 : Int32)) hx hb dX12_copies_0 (by decide) ?_
  refine lv_istore (lv' := [(5, .int (0 : Int32)), (0, .ref (ad 0 0)), (1, .int a1), (2, .int a2), (3, .int a3), (4, .int a4)]) hx hb dX12_copies_1 hl (by decide) rfl (fun ls hl => ?_)
  exact m_r_copies_b3 hI  F hr hlk hK (100000) _ _ _ _ _ _ h hW hS (lv_sub hl [1, 2, 3, 4, 5, 0] rfl)
/-! X12_out -/
def r_out_b92 (v1 : Int32) (v3 : Int32) (v4 : Int32) (v5 : Int32) (v6 : Int32) (v8 : Int32) (S : xS) : Option (xS) := if v8 = (32771 : Int32) then ((r_leaves  S v1 v3 v4 v5).bind (fun S8 => some S8)) else ((r_finds  S v1 v6 v8).bind (fun S9 => (r_leaves  S9 v1 v3 v4 v5).bind (fun S10 => some S10)))
set_option maxHeartbeats 4000000 in
set_option maxRecDepth 100000 in
theorem m_r_out_b92 {l : Launch} {D : va_G} {cI cZ cB : ClassId} {ad : Nat → Nat → Nat} (hI : xInj rDom ad) {p : Program} {e : Env} {s : State} {m : MethodId} {args : Array Value} {below : List Frame} {meth : Method} {c : Code} (F : CallFix p m c cX12_out 9 s args (Cond.code yX12_out cX12_out 9 none :: xG) (yX12_out).cls) (hr : meth.sig.returnType = none) (hlk : meth.locks = false) (hK : xK D vwCl (rTy cI cZ cB) [] [] s) {o : xS} (v1 : Int32) (v3 : Int32) (v4 : Int32) (v5 : Int32) (v6 : Int32) (v8 : Int32) (S : xS) {H : Heap} {locs : List Loc} {ls : Array Slot} (h : r_out_b92 v1 v3 v4 v5 v6 v8 S = some o) (hW : xW D vwCl rDom ad (rDe ad cI cZ cB) S H) (hS : va_S (xA rDom ad) s.heap H locs) (hl : lv_has ls 9 [(0, .ref (ad 0 0)), (1, .int v1), (3, .int v3), (4, .int v4), (5, .int v5), (6, .int v6), (8, .int v8)]) : W p l e { frames := 4, cells := 0, slots := 0, locals := 95 } s m args below meth c H locs 0 0 (MQ below (xQ D vwCl rDom ad (rDe ad cI cZ cB) none o) args s 0 0 (xA rDom ad)) (F0 m 92 ls []) := by
  have hx := F.1
  have hb := F.2.1
  unfold r_out_b92 at h
  refine lv_iload hx hb dX12_out_92 (lv_at hl 6 rfl) ?_
  refine lv_ldcw (v := (32771 : Int32)) hx hb F.2.2.2.1 (x_hts F _ k_6_159) dX12_out_94 ?_
  refine lv_icmp_eq (tgt := 109) hx hb dX12_out_97 (by decide) (fun c_7 => ?_) (fun c_7 => ?_)
  · replace h := (if_pos c_7).symm.trans h
    refine lv_aload_n hx hb dX12_out_109 rfl (lv_at hl 0 rfl) ?_
    refine lv_iload_n hx hb dX12_out_110 rfl (lv_at hl 1 rfl) ?_
    refine lv_iload_n hx hb dX12_out_111 rfl (lv_at hl 2 rfl) ?_
    refine lv_iload hx hb dX12_out_112 (lv_at hl 3 rfl) ?_
    refine lv_iload hx hb dX12_out_114 (lv_at hl 4 rfl) ?_
    refine x_cVv (As := [.int v1, .int v3, .int v4, .int v5]) F xG_ok hK hW hS um_X12_leaves k_7_29 (fun _ h1 => m_r_leaves hI _ _ _ _ h1) rfl rd_d0 rd_0 rfl rfl hl.1 rfl rfl ⟨Nat.le_of_ble_eq_true rfl, Nat.le_of_ble_eq_true rfl⟩ ⟨Nat.zero_le _, Nat.zero_le _⟩ (Nat.le_of_ble_eq_true rfl) dX12_out_116 h (fun S8 H locs hW hS h => ?_)
    exact x_vret F hr hlk hW hS dX12_out_119 h
  replace h := (if_neg c_7).symm.trans h
  refine lv_aload_n hx hb dX12_out_100 rfl (lv_at hl 0 rfl) ?_
  refine lv_iload_n hx hb dX12_out_101 rfl (lv_at hl 1 rfl) ?_
  refine lv_iload hx hb dX12_out_102 (lv_at hl 5 rfl) ?_
  refine lv_iload hx hb dX12_out_104 (lv_at hl 6 rfl) ?_
  refine x_cVv (As := [.int v1, .int v6, .int v8]) F xG_ok hK hW hS um_X12_finds k_6_155 (fun _ h1 => m_r_finds hI _ _ _ h1) rfl rd_d0 rd_0 rfl rfl hl.1 rfl rfl ⟨Nat.le_of_ble_eq_true rfl, Nat.le_of_ble_eq_true rfl⟩ ⟨Nat.zero_le _, Nat.zero_le _⟩ (Nat.le_of_ble_eq_true rfl) dX12_out_106 h (fun S9 H locs hW hS h => ?_)
  refine lv_aload_n hx hb dX12_out_109 rfl (lv_at hl 0 rfl) ?_
  refine lv_iload_n hx hb dX12_out_110 rfl (lv_at hl 1 rfl) ?_
  refine lv_iload_n hx hb dX12_out_111 rfl (lv_at hl 2 rfl) ?_
  refine lv_iload hx hb dX12_out_112 (lv_at hl 3 rfl) ?_
  refine lv_iload hx hb dX12_out_114 (lv_at hl 4 rfl) ?_
  refine x_cVv (As := [.int v1, .int v3, .int v4, .int v5]) F xG_ok hK hW hS um_X12_leaves k_7_29 (fun _ h1 => m_r_leaves hI _ _ _ _ h1) rfl rd_d0 rd_0 rfl rfl hl.1 rfl rfl ⟨Nat.le_of_ble_eq_true rfl, Nat.le_of_ble_eq_true rfl⟩ ⟨Nat.zero_le _, Nat.zero_le _⟩ (Nat.le_of_ble_eq_true rfl) dX12_out_116 h (fun S10 H locs hW hS h => ?_)
  exact x_vret F hr hlk hW hS dX12_out_119 h
def r_out  (S : xS) (a1 : Int32) (a2 : Int32) (a3 : Int32) (a4 : Int32) (a5 : Int32) : Option (xS) := (r_isLink a3).bind (fun r_1 => if r_1 = 0 then ((r_word  S a1 a3).bind (fun (r_3, S3) => if r_3 = (32768 : Int32) then ((r_leaves  S3 a1 a3 a4 a5).bind (fun S17 => some S17)) else ((r_word  S3 a1 ((r_3 &&& (65534 : Int32)) - (6 : Int32))).bind (fun (r_5, S5) => if r_5 = (32769 : Int32) then (r_out_b92  a1 a3 a4 a5 r_3 r_5 S5) else (if r_5 = (32770 : Int32) then (r_out_b92  a1 a3 a4 a5 r_3 r_5 S5) else (if r_5 = (32771 : Int32) then (r_out_b92  a1 a3 a4 a5 r_3 r_5 S5) else ((r_copies  S5 a1 a4 r_5 a2).bind (fun S13 => (r_wordTo  S13 a1 a3 (32768 : Int32)).bind (fun S14 => (r_ready  S14 a1 r_3).bind (fun S15 => (r_popped  S15 a1 a5).bind (fun (r_16, S16) => some S16))))))))))) else ((r_linkOf a1 a3).bind (fun r_18 => (r_linkOut  S a1 r_18 a2 a4 a5).bind (fun S19 => some S19))))
set_option maxHeartbeats 4000000 in
set_option maxRecDepth 100000 in
theorem m_r_out {l : Launch} {D : va_G} {cI cZ cB : ClassId} {ad : Nat → Nat → Nat} (hI : xInj rDom ad) {S : xS} (a1 : Int32) (a2 : Int32) (a3 : Int32) (a4 : Int32) (a5 : Int32) {o : xS} (h : r_out  S a1 a2 a3 a4 a5 = some o) : Met l yX12_out (Cond.code yX12_out cX12_out 9 none :: xG) { frames := 4, cells := 0, slots := 0, locals := 95 } (xPc D vwCl (rTy cI cZ cB) [] [] rDom ad (rDe ad cI cZ cB) [.ref (ad 0 0), .int a1, .int a2, .int a3, .int a4, .int a5] S) (xQ D vwCl rDom ad (rDe ad cI cZ cB) none o) 0 0 (xA rDom ad) := by
  unfold r_out at h
  refine x_enter (by decide) (Nat.le_of_ble_eq_true rfl) (fun p e s m below meth c F hr hlk hK hW hS ls hl => ?_)
  have hl : lv_has ls 9 [(0, .ref (ad 0 0)), (1, .int a1), (2, .int a2), (3, .int a3), (4, .int a4), (5, .int a5)] := hl
  have hx := F.1
  have hb := F.2.1
  refine lv_iload_n hx hb dX12_out_0 rfl (lv_at hl 3 rfl) ?_
  refine x_cSo (As := [.int a3]) F xG_ok hS um_X12_isLink k_6_238 (fun _ h1 => m_r_isLink _ h1) rfl rfl hl.1 rfl rfl ⟨Nat.le_of_ble_eq_true rfl, Nat.le_of_ble_eq_true rfl⟩ ⟨Nat.zero_le _, Nat.zero_le _⟩ (Nat.le_of_ble_eq_true rfl) dX12_out_1 h (fun r_1 locs hS h => ?_)
  refine lv_if_eq (tgt := 23) hx hb dX12_out_4 (by decide) (fun c_2 => ?_) (fun c_2 => ?_)
  · replace h := (if_pos c_2).symm.trans h
    refine lv_aload_n hx hb dX12_out_23 rfl (lv_at hl 0 rfl) ?_
    refine lv_iload_n hx hb dX12_out_24 rfl (lv_at hl 1 rfl) ?_
    refine lv_iload_n hx hb dX12_out_25 rfl (lv_at hl 3 rfl) ?_
    refine x_cVi (As := [.int a1, .int a3]) F xG_ok hK hW hS um_X12_word k_6_149 (fun _ h1 => m_r_word hI _ _ h1) rfl rd_d0 rd_0 rfl rfl hl.1 rfl rfl ⟨Nat.le_of_ble_eq_true rfl, Nat.le_of_ble_eq_true rfl⟩ ⟨Nat.zero_le _, Nat.zero_le _⟩ (Nat.le_of_ble_eq_true rfl) dX12_out_26 h (fun r_3 S3 H locs hW hS h => ?_)
    refine lv_istore (lv' := [(6, .int r_3), (0, .ref (ad 0 0)), (1, .int a1), (2, .int a2), (3, .int a3), (4, .int a4), (5, .int a5)]) hx hb dX12_out_29 hl (by decide) rfl (fun ls hl => ?_)
    refine lv_iload hx hb dX12_out_31 (lv_at hl 0 rfl) ?_
    refine lv_ldc (v := (32768 : Int32)) hx hb F.2.2.2.1 (x_hts F _ k_5_126) dX12_out_33 ?_
    refine lv_icmp_ne (tgt := 49) hx hb dX12_out_35 (by decide) (fun c_4 => ?_) (fun c_4 => ?_)
    · replace h := (if_neg c_4).symm.trans h
      refine lv_iload hx hb dX12_out_49 (lv_at hl 0 rfl) ?_
      refine lv_ldc (v := (65534 : Int32)) hx hb F.2.2.2.1 (x_hts F _ k_6_103) dX12_out_51 ?_
      refine lv_iand hx hb dX12_out_53 ?_
      refine lv_istore (lv' := [(7, .int (r_3 &&& (65534 : Int32))), (6, .int r_3), (0, .ref (ad 0 0)), (1, .int a1), (2, .int a2), (3, .int a3), (4, .int a4), (5, .int a5)]) hx hb dX12_out_54 hl (by decide) rfl (fun ls hl => ?_)
      refine lv_aload_n hx hb dX12_out_56 rfl (lv_at hl 2 rfl) ?_
      refine lv_iload_n hx hb dX12_out_57 rfl (lv_at hl 3 rfl) ?_
      refine lv_iload hx hb dX12_out_58 (lv_at hl 0 rfl) ?_
      refine lv_bipush (v := (6 : Int32)) hx hb dX12_out_60 (by decide) ?_
      refine lv_isub hx hb dX12_out_62 ?_
      refine x_cVi (As := [.int a1, .int ((r_3 &&& (65534 : Int32)) - (6 : Int32))]) F xG_ok hK hW hS um_X12_word k_6_149 (fun _ h1 => m_r_word hI _ _ h1) rfl rd_d0 rd_0 rfl rfl hl.1 rfl rfl ⟨Nat.le_of_ble_eq_true rfl, Nat.le_of_ble_eq_true rfl⟩ ⟨Nat.zero_le _, Nat.zero_le _⟩ (Nat.le_of_ble_eq_true rfl) dX12_out_63 h (fun r_5 S5 H locs hW hS h => ?_)
      refine lv_istore (lv' := [(8, .int r_5), (7, .int (r_3 &&& (65534 : Int32))), (6, .int r_3), (0, .ref (ad 0 0)), (1, .int a1), (2, .int a2), (3, .int a3), (4, .int a4), (5, .int a5)]) hx hb dX12_out_66 hl (by decide) rfl (fun ls hl => ?_)
      refine lv_iload hx hb dX12_out_68 (lv_at hl 0 rfl) ?_
      refine lv_ldcw (v := (32769 : Int32)) hx hb F.2.2.2.1 (x_hts F _ k_6_153) dX12_out_70 ?_
      refine lv_icmp_eq (tgt := 92) hx hb dX12_out_73 (by decide) (fun c_6 => ?_) (fun c_6 => ?_)
      · replace h := (if_pos c_6).symm.trans h
        exact m_r_out_b92 hI  F hr hlk hK _ _ _ _ _ _ _ h hW hS (lv_sub hl [3, 4, 6, 7, 8, 2, 0] rfl)
      replace h := (if_neg c_6).symm.trans h
      refine lv_iload hx hb dX12_out_76 (lv_at hl 0 rfl) ?_
      refine lv_ldcw (v := (32770 : Int32)) hx hb F.2.2.2.1 (x_hts F _ k_6_154) dX12_out_78 ?_
      refine lv_icmp_eq (tgt := 92) hx hb dX12_out_81 (by decide) (fun c_11 => ?_) (fun c_11 => ?_)
      · replace h := (if_pos c_11).symm.trans h
        exact m_r_out_b92 hI  F hr hlk hK _ _ _ _ _ _ _ h hW hS (lv_sub hl [3, 4, 6, 7, 8, 2, 0] rfl)
      replace h := (if_neg c_11).symm.trans h
      refine lv_iload hx hb dX12_out_84 (lv_at hl 0 rfl) ?_
      refine lv_ldcw (v := (32771 : Int32)) hx hb F.2.2.2.1 (x_hts F _ k_6_159) dX12_out_86 ?_
      refine lv_icmp_ne (tgt := 120) hx hb dX12_out_89 (by decide) (fun c_12 => ?_) (fun c_12 => ?_)
      · replace h := (if_neg c_12).symm.trans h
        refine lv_aload_n hx hb dX12_out_120 rfl (lv_at hl 3 rfl) ?_
        refine lv_iload_n hx hb dX12_out_121 rfl (lv_at hl 4 rfl) ?_
        refine lv_iload hx hb dX12_out_122 (lv_at hl 7 rfl) ?_
        refine lv_iload hx hb dX12_out_124 (lv_at hl 0 rfl) ?_
        refine lv_iload_n hx hb dX12_out_126 rfl (lv_at hl 5 rfl) ?_
        refine x_cVv (As := [.int a1, .int a4, .int r_5, .int a2]) F xG_ok hK hW hS um_X12_copies k_7_33 (fun _ h1 => m_r_copies hI _ _ _ _ h1) rfl rd_d0 rd_0 rfl rfl hl.1 rfl rfl ⟨Nat.le_of_ble_eq_true rfl, Nat.le_of_ble_eq_true rfl⟩ ⟨Nat.zero_le _, Nat.zero_le _⟩ (Nat.le_of_ble_eq_true rfl) dX12_out_127 h (fun S13 H locs hW hS h => ?_)
        refine lv_aload_n hx hb dX12_out_130 rfl (lv_at hl 3 rfl) ?_
        refine lv_iload_n hx hb dX12_out_131 rfl (lv_at hl 4 rfl) ?_
        refine lv_iload_n hx hb dX12_out_132 rfl (lv_at hl 6 rfl) ?_
        refine lv_ldc (v := (32768 : Int32)) hx hb F.2.2.2.1 (x_hts F _ k_5_126) dX12_out_133 ?_
        refine x_cVv (As := [.int a1, .int a3, .int (32768 : Int32)]) F xG_ok hK hW hS um_X12_wordTo k_6_137 (fun _ h1 => m_r_wordTo hI _ _ _ h1) rfl rd_d0 rd_0 rfl rfl hl.1 rfl rfl ⟨Nat.le_of_ble_eq_true rfl, Nat.le_of_ble_eq_true rfl⟩ ⟨Nat.zero_le _, Nat.zero_le _⟩ (Nat.le_of_ble_eq_true rfl) dX12_out_135 h (fun S14 H locs hW hS h => ?_)
        refine lv_aload_n hx hb dX12_out_138 rfl (lv_at hl 3 rfl) ?_
        refine lv_iload_n hx hb dX12_out_139 rfl (lv_at hl 4 rfl) ?_
        refine lv_iload hx hb dX12_out_140 (lv_at hl 2 rfl) ?_
        refine x_cVv (As := [.int a1, .int r_3]) F xG_ok hK hW hS um_X12_ready k_6_133 (fun _ h1 => m_r_ready hI _ _ h1) rfl rd_d0 rd_0 rfl rfl hl.1 rfl rfl ⟨Nat.le_of_ble_eq_true rfl, Nat.le_of_ble_eq_true rfl⟩ ⟨Nat.zero_le _, Nat.zero_le _⟩ (Nat.le_of_ble_eq_true rfl) dX12_out_142 h (fun S15 H locs hW hS h => ?_)
        refine lv_aload_n hx hb dX12_out_145 rfl (lv_at hl 3 rfl) ?_
        refine lv_iload_n hx hb dX12_out_146 rfl (lv_at hl 4 rfl) ?_
        refine lv_iload hx hb dX12_out_147 (lv_at hl 8 rfl) ?_
        refine x_cVi (As := [.int a1, .int a5]) F xG_ok hK hW hS um_X12_popped k_7_13 (fun _ h1 => m_r_popped hI _ _ h1) rfl rd_d0 rd_0 rfl rfl hl.1 rfl rfl ⟨Nat.le_of_ble_eq_true rfl, Nat.le_of_ble_eq_true rfl⟩ ⟨Nat.zero_le _, Nat.zero_le _⟩ (Nat.le_of_ble_eq_true rfl) dX12_out_149 h (fun r_16 S16 H locs hW hS h => ?_)
        refine lv_pop hx hb dX12_out_152 rfl ?_
        exact x_vret F hr hlk hW hS dX12_out_153 h
      replace h := (if_pos c_12).symm.trans h
      exact m_r_out_b92 hI  F hr hlk hK _ _ _ _ _ _ _ h hW hS (lv_sub hl [3, 4, 6, 7, 8, 2, 0] rfl)
    replace h := (if_pos c_4).symm.trans h
    refine lv_aload_n hx hb dX12_out_38 rfl (lv_at hl 1 rfl) ?_
    refine lv_iload_n hx hb dX12_out_39 rfl (lv_at hl 2 rfl) ?_
    refine lv_iload_n hx hb dX12_out_40 rfl (lv_at hl 4 rfl) ?_
    refine lv_iload hx hb dX12_out_41 (lv_at hl 5 rfl) ?_
    refine lv_iload hx hb dX12_out_43 (lv_at hl 6 rfl) ?_
    refine x_cVv (As := [.int a1, .int a3, .int a4, .int a5]) F xG_ok hK hW hS um_X12_leaves k_7_29 (fun _ h1 => m_r_leaves hI _ _ _ _ h1) rfl rd_d0 rd_0 rfl rfl hl.1 rfl rfl ⟨Nat.le_of_ble_eq_true rfl, Nat.le_of_ble_eq_true rfl⟩ ⟨Nat.zero_le _, Nat.zero_le _⟩ (Nat.le_of_ble_eq_true rfl) dX12_out_45 h (fun S17 H locs hW hS h => ?_)
    exact x_vret F hr hlk hW hS dX12_out_48 h
  replace h := (if_neg c_2).symm.trans h
  refine lv_aload_n hx hb dX12_out_7 rfl (lv_at hl 0 rfl) ?_
  refine lv_iload_n hx hb dX12_out_8 rfl (lv_at hl 1 rfl) ?_
  refine lv_iload_n hx hb dX12_out_9 rfl (lv_at hl 1 rfl) ?_
  refine lv_iload_n hx hb dX12_out_10 rfl (lv_at hl 3 rfl) ?_
  refine x_cSo (As := [.int a1, .int a3]) F xG_ok hS um_X12_linkOf k_7_2 (fun _ h1 => m_r_linkOf _ _ h1) rfl rfl hl.1 rfl rfl ⟨Nat.le_of_ble_eq_true rfl, Nat.le_of_ble_eq_true rfl⟩ ⟨Nat.zero_le _, Nat.zero_le _⟩ (Nat.le_of_ble_eq_true rfl) dX12_out_11 h (fun r_18 locs hS h => ?_)
  refine lv_iload_n hx hb dX12_out_14 rfl (lv_at hl 2 rfl) ?_
  refine lv_iload hx hb dX12_out_15 (lv_at hl 4 rfl) ?_
  refine lv_iload hx hb dX12_out_17 (lv_at hl 5 rfl) ?_
  refine x_cVv (As := [.int a1, .int r_18, .int a2, .int a4, .int a5]) F xG_ok hK hW hS um_X12_linkOut k_7_9 (fun _ h1 => m_r_linkOut hI _ _ _ _ _ h1) rfl rd_d0 rd_0 rfl rfl hl.1 rfl rfl ⟨Nat.le_of_ble_eq_true rfl, Nat.le_of_ble_eq_true rfl⟩ ⟨Nat.zero_le _, Nat.zero_le _⟩ (Nat.le_of_ble_eq_true rfl) dX12_out_19 h (fun S19 H locs hW hS h => ?_)
  exact x_vret F hr hlk hW hS dX12_out_22 h
/-! X12_linkIn -/
def r_linkIn_b88 (v1 : Int32) (v2 : Int32) (v5 : Int32) (v6 : Int32) (S : xS) : Option (xS) := if v5 = 0 then (some S) else ((r_own  S v1).bind (fun (r_6, S6) => gd v2 33 (xnm (sI S6 0 47 (v2).toNatClampNeg r_6) (fun S7 => gd v2 33 (xnm (sI S7 0 48 (v2).toNatClampNeg v5) (fun S8 => gd v2 33 (xnm (sI S8 0 49 (v2).toNatClampNeg v6) (fun S9 => (r_waits  S9 v1).bind (fun S10 => some S10)))))))))
set_option maxHeartbeats 4000000 in
set_option maxRecDepth 100000 in
theorem m_r_linkIn_b88 {l : Launch} {D : va_G} {cI cZ cB : ClassId} {ad : Nat → Nat → Nat} (hI : xInj rDom ad) {p : Program} {e : Env} {s : State} {m : MethodId} {args : Array Value} {below : List Frame} {meth : Method} {c : Code} (F : CallFix p m c cX12_linkIn 7 s args (Cond.code yX12_linkIn cX12_linkIn 7 none :: xG) (yX12_linkIn).cls) (hr : meth.sig.returnType = none) (hlk : meth.locks = false) (hK : xK D vwCl (rTy cI cZ cB) [] [] s) {o : xS} (v1 : Int32) (v2 : Int32) (v5 : Int32) (v6 : Int32) (S : xS) {H : Heap} {locs : List Loc} {ls : Array Slot} (h : r_linkIn_b88 v1 v2 v5 v6 S = some o) (hW : xW D vwCl rDom ad (rDe ad cI cZ cB) S H) (hS : va_S (xA rDom ad) s.heap H locs) (hl : lv_has ls 7 [(0, .ref (ad 0 0)), (1, .int v1), (2, .int v2), (5, .int v5), (6, .int v6)]) : W p l e { frames := 3, cells := 0, slots := 0, locals := 69 } s m args below meth c H locs 0 0 (MQ below (xQ D vwCl rDom ad (rDe ad cI cZ cB) none o) args s 0 0 (xA rDom ad)) (F0 m 88 ls []) := by
  have hx := F.1
  have hb := F.2.1
  unfold r_linkIn_b88 at h
  refine lv_iload hx hb dX12_linkIn_88 (lv_at hl 3 rfl) ?_
  refine lv_if_ne (tgt := 94) hx hb dX12_linkIn_90 (by decide) (fun c_5 => ?_) (fun c_5 => ?_)
  · replace h := (if_neg c_5).symm.trans h
    refine lv_aload_n hx hb dX12_linkIn_94 rfl (lv_at hl 0 rfl) ?_
    refine x_get F hK hW xc_X12 rd_d0 rd_0 46 (by decide) k_5_174 (gf_X12_46 _ _) dX12_linkIn_95 ?_
    refine lv_iload_n hx hb dX12_linkIn_98 rfl (lv_at hl 2 rfl) ?_
    refine lv_aload_n hx hb dX12_linkIn_99 rfl (lv_at hl 0 rfl) ?_
    refine lv_iload_n hx hb dX12_linkIn_100 rfl (lv_at hl 1 rfl) ?_
    refine x_cVi (As := [.int v1]) F xG_ok hK hW hS um_X12_own k_7_21 (fun _ h1 => m_r_own hI _ h1) rfl rd_d0 rd_0 rfl rfl hl.1 rfl rfl ⟨Nat.le_of_ble_eq_true rfl, Nat.le_of_ble_eq_true rfl⟩ ⟨Nat.zero_le _, Nat.zero_le _⟩ (Nat.le_of_ble_eq_true rfl) dX12_linkIn_101 h (fun r_6 S6 H locs hW hS h => ?_)
    refine x_iast (t0 := 0) F hK hI hW hS rd_d47 rd_47 rfl dX12_linkIn_104 h (fun S7 H locs hW hS h => ?_)
    refine lv_aload_n hx hb dX12_linkIn_105 rfl (lv_at hl 0 rfl) ?_
    refine x_get F hK hW xc_X12 rd_d0 rd_0 47 (by decide) k_5_175 (gf_X12_47 _ _) dX12_linkIn_106 ?_
    refine lv_iload_n hx hb dX12_linkIn_109 rfl (lv_at hl 2 rfl) ?_
    refine lv_iload hx hb dX12_linkIn_110 (lv_at hl 3 rfl) ?_
    refine x_iast (t0 := 0) F hK hI hW hS rd_d48 rd_48 rfl dX12_linkIn_112 h (fun S8 H locs hW hS h => ?_)
    refine lv_aload_n hx hb dX12_linkIn_113 rfl (lv_at hl 0 rfl) ?_
    refine x_get F hK hW xc_X12 rd_d0 rd_0 48 (by decide) k_5_176 (gf_X12_48 _ _) dX12_linkIn_114 ?_
    refine lv_iload_n hx hb dX12_linkIn_117 rfl (lv_at hl 2 rfl) ?_
    refine lv_iload hx hb dX12_linkIn_118 (lv_at hl 4 rfl) ?_
    refine x_iast (t0 := 0) F hK hI hW hS rd_d49 rd_49 rfl dX12_linkIn_120 h (fun S9 H locs hW hS h => ?_)
    refine lv_aload_n hx hb dX12_linkIn_121 rfl (lv_at hl 0 rfl) ?_
    refine lv_iload_n hx hb dX12_linkIn_122 rfl (lv_at hl 1 rfl) ?_
    refine x_cVv (As := [.int v1]) F xG_ok hK hW hS um_X12_waits k_7_25 (fun _ h1 => m_r_waits hI _ h1) rfl rd_d0 rd_0 rfl rfl hl.1 rfl rfl ⟨Nat.le_of_ble_eq_true rfl, Nat.le_of_ble_eq_true rfl⟩ ⟨Nat.zero_le _, Nat.zero_le _⟩ (Nat.le_of_ble_eq_true rfl) dX12_linkIn_123 h (fun S10 H locs hW hS h => ?_)
    exact x_vret F hr hlk hW hS dX12_linkIn_126 h
  replace h := (if_pos c_5).symm.trans h
  exact x_vret F hr hlk hW hS dX12_linkIn_93 h
def r_linkIn  (S : xS) (a1 : Int32) (a2 : Int32) (a3 : Int32) (a4 : Int32) : Option (xS) := (r_popped  S a1 (3 : Int32)).bind (fun (r_1, S1) => if a3 = 0 then (some S1) else (gd a2 33 (if (xI S1 0 47 (a2).toNatClampNeg) = (-1 : Int32) then (gd a2 33 (if (xI S1 0 50 (a2).toNatClampNeg) = (-1 : Int32) then (r_linkIn_b88  a1 a2 a3 a4 S1) else (gd a2 33 ((r_byteTo  S1 a1 a4 (xI S1 0 50 (a2).toNatClampNeg)).bind (fun S11 => gd a2 33 (xnm (sI S11 0 50 (a2).toNatClampNeg (-1 : Int32)) (fun S12 => gd a2 33 (gd a2 33 (xnm (sI S12 0 40 (a2).toNatClampNeg ((xI S12 0 40 (a2).toNatClampNeg) + (1 : Int32))) (fun S13 => r_linkIn_b88  a1 a2 (a3 + (-1 : Int32)) ((a4 + (1 : Int32)) &&& (65535 : Int32)) S13)))))))))) else ((r_stop  S1 a1 (3 : Int32)).bind (fun S14 => some S14)))))
set_option maxHeartbeats 4000000 in
set_option maxRecDepth 100000 in
theorem m_r_linkIn {l : Launch} {D : va_G} {cI cZ cB : ClassId} {ad : Nat → Nat → Nat} (hI : xInj rDom ad) {S : xS} (a1 : Int32) (a2 : Int32) (a3 : Int32) (a4 : Int32) {o : xS} (h : r_linkIn  S a1 a2 a3 a4 = some o) : Met l yX12_linkIn (Cond.code yX12_linkIn cX12_linkIn 7 none :: xG) { frames := 3, cells := 0, slots := 0, locals := 69 } (xPc D vwCl (rTy cI cZ cB) [] [] rDom ad (rDe ad cI cZ cB) [.ref (ad 0 0), .int a1, .int a2, .int a3, .int a4] S) (xQ D vwCl rDom ad (rDe ad cI cZ cB) none o) 0 0 (xA rDom ad) := by
  unfold r_linkIn at h
  refine x_enter (by decide) (Nat.le_of_ble_eq_true rfl) (fun p e s m below meth c F hr hlk hK hW hS ls hl => ?_)
  have hl : lv_has ls 7 [(0, .ref (ad 0 0)), (1, .int a1), (2, .int a2), (3, .int a3), (4, .int a4)] := hl
  have hx := F.1
  have hb := F.2.1
  refine lv_aload_n hx hb dX12_linkIn_0 rfl (lv_at hl 0 rfl) ?_
  refine lv_iload_n hx hb dX12_linkIn_1 rfl (lv_at hl 1 rfl) ?_
  refine lv_iconst (v := (3 : Int32)) hx hb dX12_linkIn_2 (by decide) ?_
  refine x_cVi (As := [.int a1, .int (3 : Int32)]) F xG_ok hK hW hS um_X12_popped k_7_13 (fun _ h1 => m_r_popped hI _ _ h1) rfl rd_d0 rd_0 rfl rfl hl.1 rfl rfl ⟨Nat.le_of_ble_eq_true rfl, Nat.le_of_ble_eq_true rfl⟩ ⟨Nat.zero_le _, Nat.zero_le _⟩ (Nat.le_of_ble_eq_true rfl) dX12_linkIn_3 h (fun r_1 S1 H locs hW hS h => ?_)
  refine lv_pop hx hb dX12_linkIn_6 rfl ?_
  refine lv_iload_n hx hb dX12_linkIn_7 rfl (lv_at hl 3 rfl) ?_
  refine lv_if_ne (tgt := 12) hx hb dX12_linkIn_8 (by decide) (fun c_2 => ?_) (fun c_2 => ?_)
  · replace h := (if_neg c_2).symm.trans h
    refine lv_aload_n hx hb dX12_linkIn_12 rfl (lv_at hl 0 rfl) ?_
    refine x_get F hK hW xc_X12 rd_d0 rd_0 46 (by decide) k_5_174 (gf_X12_46 _ _) dX12_linkIn_13 ?_
    refine lv_iload_n hx hb dX12_linkIn_16 rfl (lv_at hl 2 rfl) ?_
    refine x_iald (t0 := 0) F hK hW rd_d47 rd_47 rfl dX12_linkIn_17 h (fun h => ?_)
    refine lv_iconst (v := (-1 : Int32)) hx hb dX12_linkIn_18 (by decide) ?_
    refine lv_icmp_eq (tgt := 29) hx hb dX12_linkIn_19 (by decide) (fun c_3 => ?_) (fun c_3 => ?_)
    · replace h := (if_pos c_3).symm.trans h
      refine lv_iload_n hx hb dX12_linkIn_29 rfl (lv_at hl 3 rfl) ?_
      refine lv_istore (lv' := [(5, .int a3), (0, .ref (ad 0 0)), (1, .int a1), (2, .int a2), (3, .int a3), (4, .int a4)]) hx hb dX12_linkIn_30 hl (by decide) rfl (fun ls hl => ?_)
      refine lv_iload hx hb dX12_linkIn_32 (lv_at hl 5 rfl) ?_
      refine lv_istore (lv' := [(6, .int a4), (5, .int a3), (0, .ref (ad 0 0)), (1, .int a1), (2, .int a2), (3, .int a3), (4, .int a4)]) hx hb dX12_linkIn_34 hl (by decide) rfl (fun ls hl => ?_)
      refine lv_aload_n hx hb dX12_linkIn_36 rfl (lv_at hl 2 rfl) ?_
      refine x_get F hK hW xc_X12 rd_d0 rd_0 49 (by decide) k_5_177 (gf_X12_49 _ _) dX12_linkIn_37 ?_
      refine lv_iload_n hx hb dX12_linkIn_40 rfl (lv_at hl 4 rfl) ?_
      refine x_iald (t0 := 0) F hK hW rd_d50 rd_50 rfl dX12_linkIn_41 h (fun h => ?_)
      refine lv_iconst (v := (-1 : Int32)) hx hb dX12_linkIn_42 (by decide) ?_
      refine lv_icmp_eq (tgt := 88) hx hb dX12_linkIn_43 (by decide) (fun c_4 => ?_) (fun c_4 => ?_)
      · replace h := (if_pos c_4).symm.trans h
        exact m_r_linkIn_b88 hI  F hr hlk hK _ _ _ _ _ h hW hS (lv_sub hl [2, 3, 4, 1, 0] rfl)
      replace h := (if_neg c_4).symm.trans h
      refine lv_aload_n hx hb dX12_linkIn_46 rfl (lv_at hl 2 rfl) ?_
      refine lv_iload_n hx hb dX12_linkIn_47 rfl (lv_at hl 3 rfl) ?_
      refine lv_iload hx hb dX12_linkIn_48 (lv_at hl 0 rfl) ?_
      refine lv_aload_n hx hb dX12_linkIn_50 rfl (lv_at hl 2 rfl) ?_
      refine x_get F hK hW xc_X12 rd_d0 rd_0 49 (by decide) k_5_177 (gf_X12_49 _ _) dX12_linkIn_51 ?_
      refine lv_iload_n hx hb dX12_linkIn_54 rfl (lv_at hl 4 rfl) ?_
      refine x_iald (t0 := 0) F hK hW rd_d50 rd_50 rfl dX12_linkIn_55 h (fun h => ?_)
      refine x_cVv (As := [.int a1, .int a4, .int (xI S1 0 50 (a2).toNatClampNeg)]) F xG_ok hK hW hS um_X12_byteTo k_6_141 (fun _ h1 => m_r_byteTo hI _ _ _ h1) rfl rd_d0 rd_0 rfl rfl hl.1 rfl rfl ⟨Nat.le_of_ble_eq_true rfl, Nat.le_of_ble_eq_true rfl⟩ ⟨Nat.zero_le _, Nat.zero_le _⟩ (Nat.le_of_ble_eq_true rfl) dX12_linkIn_56 h (fun S11 H locs hW hS h => ?_)
      refine lv_aload_n hx hb dX12_linkIn_59 rfl (lv_at hl 2 rfl) ?_
      refine x_get F hK hW xc_X12 rd_d0 rd_0 49 (by decide) k_5_177 (gf_X12_49 _ _) dX12_linkIn_60 ?_
      refine lv_iload_n hx hb dX12_linkIn_63 rfl (lv_at hl 4 rfl) ?_
      refine lv_iconst (v := (-1 : Int32)) hx hb dX12_linkIn_64 (by decide) ?_
      refine x_iast (t0 := 0) F hK hI hW hS rd_d50 rd_50 rfl dX12_linkIn_65 h (fun S12 H locs hW hS h => ?_)
      refine lv_aload_n hx hb dX12_linkIn_66 rfl (lv_at hl 2 rfl) ?_
      refine x_get F hK hW xc_X12 rd_d0 rd_0 39 (by decide) k_5_167 (gf_X12_39 _ _) dX12_linkIn_67 ?_
      refine lv_iload_n hx hb dX12_linkIn_70 rfl (lv_at hl 4 rfl) ?_
      refine lv_dup2_11 hx hb dX12_linkIn_71 rfl rfl ?_
      refine x_iald (t0 := 0) F hK hW rd_d40 rd_40 rfl dX12_linkIn_72 h (fun h => ?_)
      refine lv_iconst (v := (1 : Int32)) hx hb dX12_linkIn_73 (by decide) ?_
      refine lv_iadd hx hb dX12_linkIn_74 ?_
      refine x_iast (t0 := 0) F hK hI hW hS rd_d40 rd_40 rfl dX12_linkIn_75 h (fun S13 H locs hW hS h => ?_)
      refine lv_iload hx hb dX12_linkIn_76 (lv_at hl 0 rfl) ?_
      refine lv_iconst (v := (1 : Int32)) hx hb dX12_linkIn_78 (by decide) ?_
      refine lv_iadd hx hb dX12_linkIn_79 ?_
      refine lv_ldc (v := (65535 : Int32)) hx hb F.2.2.2.1 (x_hts F _ k_6_102) dX12_linkIn_80 ?_
      refine lv_iand hx hb dX12_linkIn_82 ?_
      refine lv_istore (lv' := [(6, .int ((a4 + (1 : Int32)) &&& (65535 : Int32))), (5, .int a3), (0, .ref (ad 0 0)), (1, .int a1), (2, .int a2), (3, .int a3), (4, .int a4)]) hx hb dX12_linkIn_83 hl (by decide) rfl (fun ls hl => ?_)
      refine lv_iinc (v := (a3 + (-1 : Int32))) (lv' := [(5, .int (a3 + (-1 : Int32))), (6, .int ((a4 + (1 : Int32)) &&& (65535 : Int32))), (0, .ref (ad 0 0)), (1, .int a1), (2, .int a2), (3, .int a3), (4, .int a4)]) hx hb dX12_linkIn_85 hl (k := 1) rfl rfl (by decide) rfl (fun ls hl => ?_)
      exact m_r_linkIn_b88 hI  F hr hlk hK _ _ _ _ _ h hW hS (lv_sub hl [2, 3, 4, 0, 1] rfl)
    replace h := (if_neg c_3).symm.trans h
    refine lv_aload_n hx hb dX12_linkIn_22 rfl (lv_at hl 0 rfl) ?_
    refine lv_iload_n hx hb dX12_linkIn_23 rfl (lv_at hl 1 rfl) ?_
    refine lv_iconst (v := (3 : Int32)) hx hb dX12_linkIn_24 (by decide) ?_
    refine x_cVv (As := [.int a1, .int (3 : Int32)]) F xG_ok hK hW hS um_X12_stop k_6_184 (fun _ h1 => m_r_stop hI _ _ h1) rfl rd_d0 rd_0 rfl rfl hl.1 rfl rfl ⟨Nat.le_of_ble_eq_true rfl, Nat.le_of_ble_eq_true rfl⟩ ⟨Nat.zero_le _, Nat.zero_le _⟩ (Nat.le_of_ble_eq_true rfl) dX12_linkIn_25 h (fun S14 H locs hW hS h => ?_)
    exact x_vret F hr hlk hW hS dX12_linkIn_28 h
  replace h := (if_pos c_2).symm.trans h
  exact x_vret F hr hlk hW hS dX12_linkIn_11 h
/-! X12_in -/
def r_in  (S : xS) (a1 : Int32) (a2 : Int32) (a3 : Int32) (a4 : Int32) : Option (xS) := (r_isLink a3).bind (fun r_1 => if r_1 = 0 then ((r_word  S a1 a3).bind (fun (r_3, S3) => if r_3 = (32768 : Int32) then ((r_leaves  S3 a1 a3 a4 (3 : Int32)).bind (fun S10 => some S10)) else ((r_word  S3 a1 ((r_3 &&& (65534 : Int32)) - (6 : Int32))).bind (fun (r_5, S5) => (r_copies  S5 a1 r_5 a4 a2).bind (fun S6 => (r_wordTo  S6 a1 a3 (32768 : Int32)).bind (fun S7 => (r_ready  S7 a1 r_3).bind (fun S8 => (r_popped  S8 a1 (3 : Int32)).bind (fun (r_9, S9) => some S9)))))))) else ((r_linkOf a1 a3).bind (fun r_11 => (r_linkIn  S a1 r_11 a2 a4).bind (fun S12 => some S12))))
set_option maxHeartbeats 4000000 in
set_option maxRecDepth 100000 in
theorem m_r_in {l : Launch} {D : va_G} {cI cZ cB : ClassId} {ad : Nat → Nat → Nat} (hI : xInj rDom ad) {S : xS} (a1 : Int32) (a2 : Int32) (a3 : Int32) (a4 : Int32) {o : xS} (h : r_in  S a1 a2 a3 a4 = some o) : Met l yX12_in (Cond.code yX12_in cX12_in 7 none :: xG) { frames := 4, cells := 0, slots := 0, locals := 95 } (xPc D vwCl (rTy cI cZ cB) [] [] rDom ad (rDe ad cI cZ cB) [.ref (ad 0 0), .int a1, .int a2, .int a3, .int a4] S) (xQ D vwCl rDom ad (rDe ad cI cZ cB) none o) 0 0 (xA rDom ad) := by
  unfold r_in at h
  refine x_enter (by decide) (Nat.le_of_ble_eq_true rfl) (fun p e s m below meth c F hr hlk hK hW hS ls hl => ?_)
  have hl : lv_has ls 7 [(0, .ref (ad 0 0)), (1, .int a1), (2, .int a2), (3, .int a3), (4, .int a4)] := hl
  have hx := F.1
  have hb := F.2.1
  refine lv_iload_n hx hb dX12_in_0 rfl (lv_at hl 3 rfl) ?_
  refine x_cSo (As := [.int a3]) F xG_ok hS um_X12_isLink k_6_238 (fun _ h1 => m_r_isLink _ h1) rfl rfl hl.1 rfl rfl ⟨Nat.le_of_ble_eq_true rfl, Nat.le_of_ble_eq_true rfl⟩ ⟨Nat.zero_le _, Nat.zero_le _⟩ (Nat.le_of_ble_eq_true rfl) dX12_in_1 h (fun r_1 locs hS h => ?_)
  refine lv_if_eq (tgt := 21) hx hb dX12_in_4 (by decide) (fun c_2 => ?_) (fun c_2 => ?_)
  · replace h := (if_pos c_2).symm.trans h
    refine lv_aload_n hx hb dX12_in_21 rfl (lv_at hl 0 rfl) ?_
    refine lv_iload_n hx hb dX12_in_22 rfl (lv_at hl 1 rfl) ?_
    refine lv_iload_n hx hb dX12_in_23 rfl (lv_at hl 3 rfl) ?_
    refine x_cVi (As := [.int a1, .int a3]) F xG_ok hK hW hS um_X12_word k_6_149 (fun _ h1 => m_r_word hI _ _ h1) rfl rd_d0 rd_0 rfl rfl hl.1 rfl rfl ⟨Nat.le_of_ble_eq_true rfl, Nat.le_of_ble_eq_true rfl⟩ ⟨Nat.zero_le _, Nat.zero_le _⟩ (Nat.le_of_ble_eq_true rfl) dX12_in_24 h (fun r_3 S3 H locs hW hS h => ?_)
    refine lv_istore (lv' := [(5, .int r_3), (0, .ref (ad 0 0)), (1, .int a1), (2, .int a2), (3, .int a3), (4, .int a4)]) hx hb dX12_in_27 hl (by decide) rfl (fun ls hl => ?_)
    refine lv_iload hx hb dX12_in_29 (lv_at hl 0 rfl) ?_
    refine lv_ldc (v := (32768 : Int32)) hx hb F.2.2.2.1 (x_hts F _ k_5_126) dX12_in_31 ?_
    refine lv_icmp_ne (tgt := 46) hx hb dX12_in_33 (by decide) (fun c_4 => ?_) (fun c_4 => ?_)
    · replace h := (if_neg c_4).symm.trans h
      refine lv_iload hx hb dX12_in_46 (lv_at hl 0 rfl) ?_
      refine lv_ldc (v := (65534 : Int32)) hx hb F.2.2.2.1 (x_hts F _ k_6_103) dX12_in_48 ?_
      refine lv_iand hx hb dX12_in_50 ?_
      refine lv_istore (lv' := [(6, .int (r_3 &&& (65534 : Int32))), (5, .int r_3), (0, .ref (ad 0 0)), (1, .int a1), (2, .int a2), (3, .int a3), (4, .int a4)]) hx hb dX12_in_51 hl (by decide) rfl (fun ls hl => ?_)
      refine lv_aload_n hx hb dX12_in_53 rfl (lv_at hl 2 rfl) ?_
      refine lv_iload_n hx hb dX12_in_54 rfl (lv_at hl 3 rfl) ?_
      refine lv_aload_n hx hb dX12_in_55 rfl (lv_at hl 2 rfl) ?_
      refine lv_iload_n hx hb dX12_in_56 rfl (lv_at hl 3 rfl) ?_
      refine lv_iload hx hb dX12_in_57 (lv_at hl 0 rfl) ?_
      refine lv_bipush (v := (6 : Int32)) hx hb dX12_in_59 (by decide) ?_
      refine lv_isub hx hb dX12_in_61 ?_
      refine x_cVi (As := [.int a1, .int ((r_3 &&& (65534 : Int32)) - (6 : Int32))]) F xG_ok hK hW hS um_X12_word k_6_149 (fun _ h1 => m_r_word hI _ _ h1) rfl rd_d0 rd_0 rfl rfl hl.1 rfl rfl ⟨Nat.le_of_ble_eq_true rfl, Nat.le_of_ble_eq_true rfl⟩ ⟨Nat.zero_le _, Nat.zero_le _⟩ (Nat.le_of_ble_eq_true rfl) dX12_in_62 h (fun r_5 S5 H locs hW hS h => ?_)
      refine lv_iload hx hb dX12_in_65 (lv_at hl 6 rfl) ?_
      refine lv_iload_n hx hb dX12_in_67 rfl (lv_at hl 4 rfl) ?_
      refine x_cVv (As := [.int a1, .int r_5, .int a4, .int a2]) F xG_ok hK hW hS um_X12_copies k_7_33 (fun _ h1 => m_r_copies hI _ _ _ _ h1) rfl rd_d0 rd_0 rfl rfl hl.1 rfl rfl ⟨Nat.le_of_ble_eq_true rfl, Nat.le_of_ble_eq_true rfl⟩ ⟨Nat.zero_le _, Nat.zero_le _⟩ (Nat.le_of_ble_eq_true rfl) dX12_in_68 h (fun S6 H locs hW hS h => ?_)
      refine lv_aload_n hx hb dX12_in_71 rfl (lv_at hl 2 rfl) ?_
      refine lv_iload_n hx hb dX12_in_72 rfl (lv_at hl 3 rfl) ?_
      refine lv_iload_n hx hb dX12_in_73 rfl (lv_at hl 5 rfl) ?_
      refine lv_ldc (v := (32768 : Int32)) hx hb F.2.2.2.1 (x_hts F _ k_5_126) dX12_in_74 ?_
      refine x_cVv (As := [.int a1, .int a3, .int (32768 : Int32)]) F xG_ok hK hW hS um_X12_wordTo k_6_137 (fun _ h1 => m_r_wordTo hI _ _ _ h1) rfl rd_d0 rd_0 rfl rfl hl.1 rfl rfl ⟨Nat.le_of_ble_eq_true rfl, Nat.le_of_ble_eq_true rfl⟩ ⟨Nat.zero_le _, Nat.zero_le _⟩ (Nat.le_of_ble_eq_true rfl) dX12_in_76 h (fun S7 H locs hW hS h => ?_)
      refine lv_aload_n hx hb dX12_in_79 rfl (lv_at hl 2 rfl) ?_
      refine lv_iload_n hx hb dX12_in_80 rfl (lv_at hl 3 rfl) ?_
      refine lv_iload hx hb dX12_in_81 (lv_at hl 1 rfl) ?_
      refine x_cVv (As := [.int a1, .int r_3]) F xG_ok hK hW hS um_X12_ready k_6_133 (fun _ h1 => m_r_ready hI _ _ h1) rfl rd_d0 rd_0 rfl rfl hl.1 rfl rfl ⟨Nat.le_of_ble_eq_true rfl, Nat.le_of_ble_eq_true rfl⟩ ⟨Nat.zero_le _, Nat.zero_le _⟩ (Nat.le_of_ble_eq_true rfl) dX12_in_83 h (fun S8 H locs hW hS h => ?_)
      refine lv_aload_n hx hb dX12_in_86 rfl (lv_at hl 2 rfl) ?_
      refine lv_iload_n hx hb dX12_in_87 rfl (lv_at hl 3 rfl) ?_
      refine lv_iconst (v := (3 : Int32)) hx hb dX12_in_88 (by decide) ?_
      refine x_cVi (As := [.int a1, .int (3 : Int32)]) F xG_ok hK hW hS um_X12_popped k_7_13 (fun _ h1 => m_r_popped hI _ _ h1) rfl rd_d0 rd_0 rfl rfl hl.1 rfl rfl ⟨Nat.le_of_ble_eq_true rfl, Nat.le_of_ble_eq_true rfl⟩ ⟨Nat.zero_le _, Nat.zero_le _⟩ (Nat.le_of_ble_eq_true rfl) dX12_in_89 h (fun r_9 S9 H locs hW hS h => ?_)
      refine lv_pop hx hb dX12_in_92 rfl ?_
      exact x_vret F hr hlk hW hS dX12_in_93 h
    replace h := (if_pos c_4).symm.trans h
    refine lv_aload_n hx hb dX12_in_36 rfl (lv_at hl 1 rfl) ?_
    refine lv_iload_n hx hb dX12_in_37 rfl (lv_at hl 2 rfl) ?_
    refine lv_iload_n hx hb dX12_in_38 rfl (lv_at hl 4 rfl) ?_
    refine lv_iload hx hb dX12_in_39 (lv_at hl 5 rfl) ?_
    refine lv_iconst (v := (3 : Int32)) hx hb dX12_in_41 (by decide) ?_
    refine x_cVv (As := [.int a1, .int a3, .int a4, .int (3 : Int32)]) F xG_ok hK hW hS um_X12_leaves k_7_29 (fun _ h1 => m_r_leaves hI _ _ _ _ h1) rfl rd_d0 rd_0 rfl rfl hl.1 rfl rfl ⟨Nat.le_of_ble_eq_true rfl, Nat.le_of_ble_eq_true rfl⟩ ⟨Nat.zero_le _, Nat.zero_le _⟩ (Nat.le_of_ble_eq_true rfl) dX12_in_42 h (fun S10 H locs hW hS h => ?_)
    exact x_vret F hr hlk hW hS dX12_in_45 h
  replace h := (if_neg c_2).symm.trans h
  refine lv_aload_n hx hb dX12_in_7 rfl (lv_at hl 0 rfl) ?_
  refine lv_iload_n hx hb dX12_in_8 rfl (lv_at hl 1 rfl) ?_
  refine lv_iload_n hx hb dX12_in_9 rfl (lv_at hl 1 rfl) ?_
  refine lv_iload_n hx hb dX12_in_10 rfl (lv_at hl 3 rfl) ?_
  refine x_cSo (As := [.int a1, .int a3]) F xG_ok hS um_X12_linkOf k_7_2 (fun _ h1 => m_r_linkOf _ _ h1) rfl rfl hl.1 rfl rfl ⟨Nat.le_of_ble_eq_true rfl, Nat.le_of_ble_eq_true rfl⟩ ⟨Nat.zero_le _, Nat.zero_le _⟩ (Nat.le_of_ble_eq_true rfl) dX12_in_11 h (fun r_11 locs hS h => ?_)
  refine lv_iload_n hx hb dX12_in_14 rfl (lv_at hl 2 rfl) ?_
  refine lv_iload hx hb dX12_in_15 (lv_at hl 4 rfl) ?_
  refine x_cVv (As := [.int a1, .int r_11, .int a2, .int a4]) F xG_ok hK hW hS um_X12_linkIn k_7_41 (fun _ h1 => m_r_linkIn hI _ _ _ _ h1) rfl rd_d0 rd_0 rfl rfl hl.1 rfl rfl ⟨Nat.le_of_ble_eq_true rfl, Nat.le_of_ble_eq_true rfl⟩ ⟨Nat.zero_le _, Nat.zero_le _⟩ (Nat.le_of_ble_eq_true rfl) dX12_in_17 h (fun S12 H locs hW hS h => ?_)
  exact x_vret F hr hlk hW hS dX12_in_20 h
/-! X12_channels -/
def r_channels_b66 (v1 : Int32) (v4 : Int32) (t0 : Int32) (t1 : Int32) (S : xS) : Option (Int32 × xS) := gd v1 8 ((r_out  S t1 t0 v4 (xI S 0 10 (v1).toNatClampNeg) (2 : Int32)).bind (fun S5 => some ((1 : Int32), S5)))
set_option maxHeartbeats 4000000 in
set_option maxRecDepth 100000 in
theorem m_r_channels_b66 {l : Launch} {D : va_G} {cI cZ cB : ClassId} {ad : Nat → Nat → Nat} (hI : xInj rDom ad) {p : Program} {e : Env} {s : State} {m : MethodId} {args : Array Value} {below : List Frame} {meth : Method} {c : Code} (F : CallFix p m c cX12_channels 5 s args (Cond.code yX12_channels cX12_channels 5 (some .boolean) :: xG) (yX12_channels).cls) (hr : meth.sig.returnType = (some .boolean)) (hlk : meth.locks = false) (hK : xK D vwCl (rTy cI cZ cB) [] [] s) {o : Int32 × xS} (v1 : Int32) (v4 : Int32) (t0 : Int32) (t1 : Int32) (S : xS) {H : Heap} {locs : List Loc} {ls : Array Slot} (h : r_channels_b66 v1 v4 t0 t1 S = some o) (hW : xW D vwCl rDom ad (rDe ad cI cZ cB) S H) (hS : va_S (xA rDom ad) s.heap H locs) (hl : lv_has ls 5 [(0, .ref (ad 0 0)), (1, .int v1), (4, .int v4)]) : W p l e { frames := 5, cells := 0, slots := 0, locals := 123 } s m args below meth c H locs 0 0 (MQ below (xQ D vwCl rDom ad (rDe ad cI cZ cB) (some (.int o.1)) o.2) args s 0 0 (xA rDom ad)) (F0 m 66 ls [.int t0, .int t1, .ref (ad 0 0)]) := by
  have hx := F.1
  have hb := F.2.1
  unfold r_channels_b66 at h
  refine lv_iload hx hb dX12_channels_66 (lv_at hl 2 rfl) ?_
  refine lv_aload_n hx hb dX12_channels_68 rfl (lv_at hl 0 rfl) ?_
  refine x_get F hK hW xc_X12 rd_d0 rd_0 9 (by decide) k_5_137 (gf_X12_9 _ _) dX12_channels_69 ?_
  refine lv_iload_n hx hb dX12_channels_72 rfl (lv_at hl 1 rfl) ?_
  refine x_iald (t0 := 0) F hK hW rd_d10 rd_10 rfl dX12_channels_73 h (fun h => ?_)
  refine lv_iconst (v := (2 : Int32)) hx hb dX12_channels_74 (by decide) ?_
  refine x_cVv (As := [.int t1, .int t0, .int v4, .int (xI S 0 10 (v1).toNatClampNeg), .int (2 : Int32)]) F xG_ok hK hW hS um_X12_out k_7_5 (fun _ h1 => m_r_out hI _ _ _ _ _ h1) rfl rd_d0 rd_0 rfl rfl hl.1 rfl rfl ⟨Nat.le_of_ble_eq_true rfl, Nat.le_of_ble_eq_true rfl⟩ ⟨Nat.zero_le _, Nat.zero_le _⟩ (Nat.le_of_ble_eq_true rfl) dX12_channels_75 h (fun S5 H locs hW hS h => ?_)
  refine lv_iconst (v := (1 : Int32)) hx hb dX12_channels_78 (by decide) ?_
  exact x_zret F hr hlk hW hS rfl dX12_channels_79 h
def r_channels_b41 (v1 : Int32) (v2 : Int32) (v3 : Int32) (v4 : Int32) (S : xS) : Option (Int32 × xS) := gd v1 8 ((r_wordTo  S v1 (xI S 0 10 (v1).toNatClampNeg) v3).bind (fun S3 => if v2 = (14 : Int32) then (r_channels_b66  v1 v4 (1 : Int32) v1 S3) else (r_channels_b66  v1 v4 (2 : Int32) v1 S3)))
set_option maxHeartbeats 4000000 in
set_option maxRecDepth 100000 in
theorem m_r_channels_b41 {l : Launch} {D : va_G} {cI cZ cB : ClassId} {ad : Nat → Nat → Nat} (hI : xInj rDom ad) {p : Program} {e : Env} {s : State} {m : MethodId} {args : Array Value} {below : List Frame} {meth : Method} {c : Code} (F : CallFix p m c cX12_channels 5 s args (Cond.code yX12_channels cX12_channels 5 (some .boolean) :: xG) (yX12_channels).cls) (hr : meth.sig.returnType = (some .boolean)) (hlk : meth.locks = false) (hK : xK D vwCl (rTy cI cZ cB) [] [] s) {o : Int32 × xS} (v1 : Int32) (v2 : Int32) (v3 : Int32) (v4 : Int32) (S : xS) {H : Heap} {locs : List Loc} {ls : Array Slot} (h : r_channels_b41 v1 v2 v3 v4 S = some o) (hW : xW D vwCl rDom ad (rDe ad cI cZ cB) S H) (hS : va_S (xA rDom ad) s.heap H locs) (hl : lv_has ls 5 [(0, .ref (ad 0 0)), (1, .int v1), (2, .int v2), (3, .int v3), (4, .int v4)]) : W p l e { frames := 5, cells := 0, slots := 0, locals := 123 } s m args below meth c H locs 0 0 (MQ below (xQ D vwCl rDom ad (rDe ad cI cZ cB) (some (.int o.1)) o.2) args s 0 0 (xA rDom ad)) (F0 m 41 ls []) := by
  have hx := F.1
  have hb := F.2.1
  unfold r_channels_b41 at h
  refine lv_aload_n hx hb dX12_channels_41 rfl (lv_at hl 0 rfl) ?_
  refine lv_iload_n hx hb dX12_channels_42 rfl (lv_at hl 1 rfl) ?_
  refine lv_aload_n hx hb dX12_channels_43 rfl (lv_at hl 0 rfl) ?_
  refine x_get F hK hW xc_X12 rd_d0 rd_0 9 (by decide) k_5_137 (gf_X12_9 _ _) dX12_channels_44 ?_
  refine lv_iload_n hx hb dX12_channels_47 rfl (lv_at hl 1 rfl) ?_
  refine x_iald (t0 := 0) F hK hW rd_d10 rd_10 rfl dX12_channels_48 h (fun h => ?_)
  refine lv_iload_n hx hb dX12_channels_49 rfl (lv_at hl 3 rfl) ?_
  refine x_cVv (As := [.int v1, .int (xI S 0 10 (v1).toNatClampNeg), .int v3]) F xG_ok hK hW hS um_X12_wordTo k_6_137 (fun _ h1 => m_r_wordTo hI _ _ _ h1) rfl rd_d0 rd_0 rfl rfl hl.1 rfl rfl ⟨Nat.le_of_ble_eq_true rfl, Nat.le_of_ble_eq_true rfl⟩ ⟨Nat.zero_le _, Nat.zero_le _⟩ (Nat.le_of_ble_eq_true rfl) dX12_channels_50 h (fun S3 H locs hW hS h => ?_)
  refine lv_aload_n hx hb dX12_channels_53 rfl (lv_at hl 0 rfl) ?_
  refine lv_iload_n hx hb dX12_channels_54 rfl (lv_at hl 1 rfl) ?_
  refine lv_iload_n hx hb dX12_channels_55 rfl (lv_at hl 2 rfl) ?_
  refine lv_bipush (v := (14 : Int32)) hx hb dX12_channels_56 (by decide) ?_
  refine lv_icmp_ne (tgt := 65) hx hb dX12_channels_58 (by decide) (fun c_4 => ?_) (fun c_4 => ?_)
  · replace h := (if_neg c_4).symm.trans h
    refine lv_iconst (v := (2 : Int32)) hx hb dX12_channels_65 (by decide) ?_
    exact m_r_channels_b66 hI  F hr hlk hK _ _ _ _ _ h hW hS (lv_sub hl [0, 1, 4] rfl)
  replace h := (if_pos c_4).symm.trans h
  refine lv_iconst (v := (1 : Int32)) hx hb dX12_channels_61 (by decide) ?_
  refine lv_goto (tgt := 66) hx hb dX12_channels_62 (by decide) ?_
  exact m_r_channels_b66 hI  F hr hlk hK _ _ _ _ _ h hW hS (lv_sub hl [0, 1, 4] rfl)
def r_channels  (S : xS) (a1 : Int32) (a2 : Int32) : Option (Int32 × xS) := gd a1 8 (gd a1 8 (if a2 = (18 : Int32) then ((r_resets  S a1 (xI S 0 5 (a1).toNatClampNeg)).bind (fun S12 => some ((1 : Int32), S12))) else (if a2 = (14 : Int32) then (r_channels_b41  a1 a2 (xI S 0 5 (a1).toNatClampNeg) (xI S 0 6 (a1).toNatClampNeg) S) else (if a2 = (15 : Int32) then (r_channels_b41  a1 a2 (xI S 0 5 (a1).toNatClampNeg) (xI S 0 6 (a1).toNatClampNeg) S) else (if (xI S 0 5 (a1).toNatClampNeg) ≤ (4096 : Int32) then (if a2 = (7 : Int32) then (gd a1 8 ((r_in  S a1 (xI S 0 5 (a1).toNatClampNeg) (xI S 0 6 (a1).toNatClampNeg) (xI S 0 7 (a1).toNatClampNeg)).bind (fun S10 => some ((1 : Int32), S10)))) else (gd a1 8 ((r_out  S a1 (xI S 0 5 (a1).toNatClampNeg) (xI S 0 6 (a1).toNatClampNeg) (xI S 0 7 (a1).toNatClampNeg) (3 : Int32)).bind (fun S9 => some ((1 : Int32), S9))))) else ((r_stop  S a1 (5 : Int32)).bind (fun S11 => some ((1 : Int32), S11))))))))
set_option maxHeartbeats 4000000 in
set_option maxRecDepth 100000 in
theorem m_r_channels {l : Launch} {D : va_G} {cI cZ cB : ClassId} {ad : Nat → Nat → Nat} (hI : xInj rDom ad) {S : xS} (a1 : Int32) (a2 : Int32) {o : Int32 × xS} (h : r_channels  S a1 a2 = some o) : Met l yX12_channels (Cond.code yX12_channels cX12_channels 5 (some .boolean) :: xG) { frames := 5, cells := 0, slots := 0, locals := 123 } (xPc D vwCl (rTy cI cZ cB) [] [] rDom ad (rDe ad cI cZ cB) [.ref (ad 0 0), .int a1, .int a2] S) (xQ D vwCl rDom ad (rDe ad cI cZ cB) (some (.int o.1)) o.2) 0 0 (xA rDom ad) := by
  unfold r_channels at h
  refine x_enter (by decide) (Nat.le_of_ble_eq_true rfl) (fun p e s m below meth c F hr hlk hK hW hS ls hl => ?_)
  have hl : lv_has ls 5 [(0, .ref (ad 0 0)), (1, .int a1), (2, .int a2)] := hl
  have hx := F.1
  have hb := F.2.1
  refine lv_aload_n hx hb dX12_channels_0 rfl (lv_at hl 0 rfl) ?_
  refine x_get F hK hW xc_X12 rd_d0 rd_0 4 (by decide) k_5_132 (gf_X12_4 _ _) dX12_channels_1 ?_
  refine lv_iload_n hx hb dX12_channels_4 rfl (lv_at hl 1 rfl) ?_
  refine x_iald (t0 := 0) F hK hW rd_d5 rd_5 rfl dX12_channels_5 h (fun h => ?_)
  refine lv_istore_n (lv' := [(3, .int (xI S 0 5 (a1).toNatClampNeg)), (0, .ref (ad 0 0)), (1, .int a1), (2, .int a2)]) hx hb dX12_channels_6 rfl hl (by decide) rfl (fun ls hl => ?_)
  refine lv_aload_n hx hb dX12_channels_7 rfl (lv_at hl 1 rfl) ?_
  refine x_get F hK hW xc_X12 rd_d0 rd_0 5 (by decide) k_5_133 (gf_X12_5 _ _) dX12_channels_8 ?_
  refine lv_iload_n hx hb dX12_channels_11 rfl (lv_at hl 2 rfl) ?_
  refine x_iald (t0 := 0) F hK hW rd_d6 rd_6 rfl dX12_channels_12 h (fun h => ?_)
  refine lv_istore (lv' := [(4, .int (xI S 0 6 (a1).toNatClampNeg)), (3, .int (xI S 0 5 (a1).toNatClampNeg)), (0, .ref (ad 0 0)), (1, .int a1), (2, .int a2)]) hx hb dX12_channels_13 hl (by decide) rfl (fun ls hl => ?_)
  refine lv_iload_n hx hb dX12_channels_15 rfl (lv_at hl 4 rfl) ?_
  refine lv_bipush (v := (18 : Int32)) hx hb dX12_channels_16 (by decide) ?_
  refine lv_icmp_ne (tgt := 29) hx hb dX12_channels_18 (by decide) (fun c_1 => ?_) (fun c_1 => ?_)
  · replace h := (if_neg c_1).symm.trans h
    refine lv_iload_n hx hb dX12_channels_29 rfl (lv_at hl 4 rfl) ?_
    refine lv_bipush (v := (14 : Int32)) hx hb dX12_channels_30 (by decide) ?_
    refine lv_icmp_eq (tgt := 41) hx hb dX12_channels_32 (by decide) (fun c_2 => ?_) (fun c_2 => ?_)
    · replace h := (if_pos c_2).symm.trans h
      exact m_r_channels_b41 hI  F hr hlk hK _ _ _ _ _ h hW hS (lv_sub hl [2, 3, 4, 1, 0] rfl)
    replace h := (if_neg c_2).symm.trans h
    refine lv_iload_n hx hb dX12_channels_35 rfl (lv_at hl 4 rfl) ?_
    refine lv_bipush (v := (15 : Int32)) hx hb dX12_channels_36 (by decide) ?_
    refine lv_icmp_ne (tgt := 80) hx hb dX12_channels_38 (by decide) (fun c_6 => ?_) (fun c_6 => ?_)
    · replace h := (if_neg c_6).symm.trans h
      refine lv_iload_n hx hb dX12_channels_80 rfl (lv_at hl 1 rfl) ?_
      refine lv_sipush (v := (4096 : Int32)) hx hb dX12_channels_81 (by decide) ?_
      refine lv_icmp_le (tgt := 95) hx hb dX12_channels_84 (by decide) (fun c_7 => ?_) (fun c_7 => ?_)
      · replace h := (if_pos c_7).symm.trans h
        refine lv_iload_n hx hb dX12_channels_95 rfl (lv_at hl 4 rfl) ?_
        refine lv_bipush (v := (7 : Int32)) hx hb dX12_channels_96 (by decide) ?_
        refine lv_icmp_ne (tgt := 118) hx hb dX12_channels_98 (by decide) (fun c_8 => ?_) (fun c_8 => ?_)
        · replace h := (if_neg c_8).symm.trans h
          refine lv_aload_n hx hb dX12_channels_118 rfl (lv_at hl 2 rfl) ?_
          refine lv_iload_n hx hb dX12_channels_119 rfl (lv_at hl 3 rfl) ?_
          refine lv_iload_n hx hb dX12_channels_120 rfl (lv_at hl 1 rfl) ?_
          refine lv_iload hx hb dX12_channels_121 (lv_at hl 0 rfl) ?_
          refine lv_aload_n hx hb dX12_channels_123 rfl (lv_at hl 2 rfl) ?_
          refine x_get F hK hW xc_X12 rd_d0 rd_0 6 (by decide) k_5_134 (gf_X12_6 _ _) dX12_channels_124 ?_
          refine lv_iload_n hx hb dX12_channels_127 rfl (lv_at hl 3 rfl) ?_
          refine x_iald (t0 := 0) F hK hW rd_d7 rd_7 rfl dX12_channels_128 h (fun h => ?_)
          refine lv_iconst (v := (3 : Int32)) hx hb dX12_channels_129 (by decide) ?_
          refine x_cVv (As := [.int a1, .int (xI S 0 5 (a1).toNatClampNeg), .int (xI S 0 6 (a1).toNatClampNeg), .int (xI S 0 7 (a1).toNatClampNeg), .int (3 : Int32)]) F xG_ok hK hW hS um_X12_out k_7_5 (fun _ h1 => m_r_out hI _ _ _ _ _ h1) rfl rd_d0 rd_0 rfl rfl hl.1 rfl rfl ⟨Nat.le_of_ble_eq_true rfl, Nat.le_of_ble_eq_true rfl⟩ ⟨Nat.zero_le _, Nat.zero_le _⟩ (Nat.le_of_ble_eq_true rfl) dX12_channels_130 h (fun S9 H locs hW hS h => ?_)
          refine lv_iconst (v := (1 : Int32)) hx hb dX12_channels_133 (by decide) ?_
          exact x_zret F hr hlk hW hS rfl dX12_channels_134 h
        replace h := (if_pos c_8).symm.trans h
        refine lv_aload_n hx hb dX12_channels_101 rfl (lv_at hl 2 rfl) ?_
        refine lv_iload_n hx hb dX12_channels_102 rfl (lv_at hl 3 rfl) ?_
        refine lv_iload_n hx hb dX12_channels_103 rfl (lv_at hl 1 rfl) ?_
        refine lv_iload hx hb dX12_channels_104 (lv_at hl 0 rfl) ?_
        refine lv_aload_n hx hb dX12_channels_106 rfl (lv_at hl 2 rfl) ?_
        refine x_get F hK hW xc_X12 rd_d0 rd_0 6 (by decide) k_5_134 (gf_X12_6 _ _) dX12_channels_107 ?_
        refine lv_iload_n hx hb dX12_channels_110 rfl (lv_at hl 3 rfl) ?_
        refine x_iald (t0 := 0) F hK hW rd_d7 rd_7 rfl dX12_channels_111 h (fun h => ?_)
        refine x_cVv (As := [.int a1, .int (xI S 0 5 (a1).toNatClampNeg), .int (xI S 0 6 (a1).toNatClampNeg), .int (xI S 0 7 (a1).toNatClampNeg)]) F xG_ok hK hW hS um_X12_in k_7_37 (fun _ h1 => m_r_in hI _ _ _ _ h1) rfl rd_d0 rd_0 rfl rfl hl.1 rfl rfl ⟨Nat.le_of_ble_eq_true rfl, Nat.le_of_ble_eq_true rfl⟩ ⟨Nat.zero_le _, Nat.zero_le _⟩ (Nat.le_of_ble_eq_true rfl) dX12_channels_112 h (fun S10 H locs hW hS h => ?_)
        refine lv_goto (tgt := 133) hx hb dX12_channels_115 (by decide) ?_
        refine lv_iconst (v := (1 : Int32)) hx hb dX12_channels_133 (by decide) ?_
        exact x_zret F hr hlk hW hS rfl dX12_channels_134 h
      replace h := (if_neg c_7).symm.trans h
      refine lv_aload_n hx hb dX12_channels_87 rfl (lv_at hl 2 rfl) ?_
      refine lv_iload_n hx hb dX12_channels_88 rfl (lv_at hl 3 rfl) ?_
      refine lv_iconst (v := (5 : Int32)) hx hb dX12_channels_89 (by decide) ?_
      refine x_cVv (As := [.int a1, .int (5 : Int32)]) F xG_ok hK hW hS um_X12_stop k_6_184 (fun _ h1 => m_r_stop hI _ _ h1) rfl rd_d0 rd_0 rfl rfl hl.1 rfl rfl ⟨Nat.le_of_ble_eq_true rfl, Nat.le_of_ble_eq_true rfl⟩ ⟨Nat.zero_le _, Nat.zero_le _⟩ (Nat.le_of_ble_eq_true rfl) dX12_channels_90 h (fun S11 H locs hW hS h => ?_)
      refine lv_iconst (v := (1 : Int32)) hx hb dX12_channels_93 (by decide) ?_
      exact x_zret F hr hlk hW hS rfl dX12_channels_94 h
    replace h := (if_pos c_6).symm.trans h
    exact m_r_channels_b41 hI  F hr hlk hK _ _ _ _ _ h hW hS (lv_sub hl [2, 3, 4, 1, 0] rfl)
  replace h := (if_pos c_1).symm.trans h
  refine lv_aload_n hx hb dX12_channels_21 rfl (lv_at hl 2 rfl) ?_
  refine lv_iload_n hx hb dX12_channels_22 rfl (lv_at hl 3 rfl) ?_
  refine lv_iload_n hx hb dX12_channels_23 rfl (lv_at hl 1 rfl) ?_
  refine x_cVv (As := [.int a1, .int (xI S 0 5 (a1).toNatClampNeg)]) F xG_ok hK hW hS um_X12_resets k_6_234 (fun _ h1 => m_r_resets hI _ _ h1) rfl rd_d0 rd_0 rfl rfl hl.1 rfl rfl ⟨Nat.le_of_ble_eq_true rfl, Nat.le_of_ble_eq_true rfl⟩ ⟨Nat.zero_le _, Nat.zero_le _⟩ (Nat.le_of_ble_eq_true rfl) dX12_channels_24 h (fun S12 H locs hW hS h => ?_)
  refine lv_iconst (v := (1 : Int32)) hx hb dX12_channels_27 (by decide) ?_
  exact x_zret F hr hlk hW hS rfl dX12_channels_28 h
/-! X12_mineTo -/
def r_mineTo  (S : xS) (a1 : Int32) (a2 : Int32) (a3 : Int32) : Option (xS) := gd a1 8 ((r_wordTo  S a1 ((xI S 0 10 (a1).toNatClampNeg) + ((2 : Int32) * a2)) a3).bind (fun S1 => some S1))
set_option maxHeartbeats 4000000 in
set_option maxRecDepth 100000 in
theorem m_r_mineTo {l : Launch} {D : va_G} {cI cZ cB : ClassId} {ad : Nat → Nat → Nat} (hI : xInj rDom ad) {S : xS} (a1 : Int32) (a2 : Int32) (a3 : Int32) {o : xS} (h : r_mineTo  S a1 a2 a3 = some o) : Met l yX12_mineTo (Cond.code yX12_mineTo cX12_mineTo 4 none :: xG) { frames := 2, cells := 0, slots := 0, locals := 48 } (xPc D vwCl (rTy cI cZ cB) [] [] rDom ad (rDe ad cI cZ cB) [.ref (ad 0 0), .int a1, .int a2, .int a3] S) (xQ D vwCl rDom ad (rDe ad cI cZ cB) none o) 0 0 (xA rDom ad) := by
  unfold r_mineTo at h
  refine x_enter (by decide) (Nat.le_of_ble_eq_true rfl) (fun p e s m below meth c F hr hlk hK hW hS ls hl => ?_)
  have hl : lv_has ls 4 [(0, .ref (ad 0 0)), (1, .int a1), (2, .int a2), (3, .int a3)] := hl
  have hx := F.1
  have hb := F.2.1
  refine lv_aload_n hx hb dX12_mineTo_0 rfl (lv_at hl 0 rfl) ?_
  refine lv_iload_n hx hb dX12_mineTo_1 rfl (lv_at hl 1 rfl) ?_
  refine lv_aload_n hx hb dX12_mineTo_2 rfl (lv_at hl 0 rfl) ?_
  refine x_get F hK hW xc_X12 rd_d0 rd_0 9 (by decide) k_5_137 (gf_X12_9 _ _) dX12_mineTo_3 ?_
  refine lv_iload_n hx hb dX12_mineTo_6 rfl (lv_at hl 1 rfl) ?_
  refine x_iald (t0 := 0) F hK hW rd_d10 rd_10 rfl dX12_mineTo_7 h (fun h => ?_)
  refine lv_iconst (v := (2 : Int32)) hx hb dX12_mineTo_8 (by decide) ?_
  refine lv_iload_n hx hb dX12_mineTo_9 rfl (lv_at hl 2 rfl) ?_
  refine lv_imul hx hb dX12_mineTo_10 ?_
  refine lv_iadd hx hb dX12_mineTo_11 ?_
  refine lv_iload_n hx hb dX12_mineTo_12 rfl (lv_at hl 3 rfl) ?_
  refine x_cVv (As := [.int a1, .int ((xI S 0 10 (a1).toNatClampNeg) + ((2 : Int32) * a2)), .int a3]) F xG_ok hK hW hS um_X12_wordTo k_6_137 (fun _ h1 => m_r_wordTo hI _ _ _ h1) rfl rd_d0 rd_0 rfl rfl hl.1 rfl rfl ⟨Nat.le_of_ble_eq_true rfl, Nat.le_of_ble_eq_true rfl⟩ ⟨Nat.zero_le _, Nat.zero_le _⟩ (Nat.le_of_ble_eq_true rfl) dX12_mineTo_13 h (fun S1 H locs hW hS h => ?_)
  exact x_vret F hr hlk hW hS dX12_mineTo_16 h
/-! X12_enables -/
def r_enables  (S : xS) (a1 : Int32) (a2 : Int32) : Option (xS) := (r_isLink a2).bind (fun r_1 => if r_1 = 0 then ((r_word  S a1 a2).bind (fun (r_3, S3) => if r_3 = (32768 : Int32) then ((r_own  S3 a1).bind (fun (r_8, S8) => (r_wordTo  S8 a1 a2 r_8).bind (fun S9 => some S9))) else ((r_own  S3 a1).bind (fun (r_5, S5) => if r_3 = r_5 then (some S5) else ((r_mineTo  S5 a1 (-3 : Int32) (32771 : Int32)).bind (fun S7 => some S7)))))) else ((r_linkOf a1 a2).bind (fun r_10 => gd r_10 33 (if (xI S 0 50 (r_10).toNatClampNeg) = (-1 : Int32) then ((r_own  S a1).bind (fun (r_12, S12) => gd r_10 33 (xnm (sI S12 0 51 (r_10).toNatClampNeg r_12) (fun S13 => some S13)))) else ((r_mineTo  S a1 (-3 : Int32) (32771 : Int32)).bind (fun S14 => some S14))))))
set_option maxHeartbeats 4000000 in
set_option maxRecDepth 100000 in
theorem m_r_enables {l : Launch} {D : va_G} {cI cZ cB : ClassId} {ad : Nat → Nat → Nat} (hI : xInj rDom ad) {S : xS} (a1 : Int32) (a2 : Int32) {o : xS} (h : r_enables  S a1 a2 = some o) : Met l yX12_enables (Cond.code yX12_enables cX12_enables 4 none :: xG) { frames := 3, cells := 0, slots := 0, locals := 71 } (xPc D vwCl (rTy cI cZ cB) [] [] rDom ad (rDe ad cI cZ cB) [.ref (ad 0 0), .int a1, .int a2] S) (xQ D vwCl rDom ad (rDe ad cI cZ cB) none o) 0 0 (xA rDom ad) := by
  unfold r_enables at h
  refine x_enter (by decide) (Nat.le_of_ble_eq_true rfl) (fun p e s m below meth c F hr hlk hK hW hS ls hl => ?_)
  have hl : lv_has ls 4 [(0, .ref (ad 0 0)), (1, .int a1), (2, .int a2)] := hl
  have hx := F.1
  have hb := F.2.1
  refine lv_iload_n hx hb dX12_enables_0 rfl (lv_at hl 2 rfl) ?_
  refine x_cSo (As := [.int a2]) F xG_ok hS um_X12_isLink k_6_238 (fun _ h1 => m_r_isLink _ h1) rfl rfl hl.1 rfl rfl ⟨Nat.le_of_ble_eq_true rfl, Nat.le_of_ble_eq_true rfl⟩ ⟨Nat.zero_le _, Nat.zero_le _⟩ (Nat.le_of_ble_eq_true rfl) dX12_enables_1 h (fun r_1 locs hS h => ?_)
  refine lv_if_eq (tgt := 48) hx hb dX12_enables_4 (by decide) (fun c_2 => ?_) (fun c_2 => ?_)
  · replace h := (if_pos c_2).symm.trans h
    refine lv_aload_n hx hb dX12_enables_48 rfl (lv_at hl 0 rfl) ?_
    refine lv_iload_n hx hb dX12_enables_49 rfl (lv_at hl 1 rfl) ?_
    refine lv_iload_n hx hb dX12_enables_50 rfl (lv_at hl 2 rfl) ?_
    refine x_cVi (As := [.int a1, .int a2]) F xG_ok hK hW hS um_X12_word k_6_149 (fun _ h1 => m_r_word hI _ _ h1) rfl rd_d0 rd_0 rfl rfl hl.1 rfl rfl ⟨Nat.le_of_ble_eq_true rfl, Nat.le_of_ble_eq_true rfl⟩ ⟨Nat.zero_le _, Nat.zero_le _⟩ (Nat.le_of_ble_eq_true rfl) dX12_enables_51 h (fun r_3 S3 H locs hW hS h => ?_)
    refine lv_istore_n (lv' := [(3, .int r_3), (0, .ref (ad 0 0)), (1, .int a1), (2, .int a2)]) hx hb dX12_enables_54 rfl hl (by decide) rfl (fun ls hl => ?_)
    refine lv_iload_n hx hb dX12_enables_55 rfl (lv_at hl 0 rfl) ?_
    refine lv_ldc (v := (32768 : Int32)) hx hb F.2.2.2.1 (x_hts F _ k_5_126) dX12_enables_56 ?_
    refine lv_icmp_ne (tgt := 75) hx hb dX12_enables_58 (by decide) (fun c_4 => ?_) (fun c_4 => ?_)
    · replace h := (if_neg c_4).symm.trans h
      refine lv_iload_n hx hb dX12_enables_75 rfl (lv_at hl 0 rfl) ?_
      refine lv_aload_n hx hb dX12_enables_76 rfl (lv_at hl 1 rfl) ?_
      refine lv_iload_n hx hb dX12_enables_77 rfl (lv_at hl 2 rfl) ?_
      refine x_cVi (As := [.int a1]) F xG_ok hK hW hS um_X12_own k_7_21 (fun _ h1 => m_r_own hI _ h1) rfl rd_d0 rd_0 rfl rfl hl.1 rfl rfl ⟨Nat.le_of_ble_eq_true rfl, Nat.le_of_ble_eq_true rfl⟩ ⟨Nat.zero_le _, Nat.zero_le _⟩ (Nat.le_of_ble_eq_true rfl) dX12_enables_78 h (fun r_5 S5 H locs hW hS h => ?_)
      refine lv_icmp_eq (tgt := 94) hx hb dX12_enables_81 (by decide) (fun c_6 => ?_) (fun c_6 => ?_)
      · replace h := (if_pos c_6).symm.trans h
        exact x_vret F hr hlk hW hS dX12_enables_94 h
      replace h := (if_neg c_6).symm.trans h
      refine lv_aload_n hx hb dX12_enables_84 rfl (lv_at hl 1 rfl) ?_
      refine lv_iload_n hx hb dX12_enables_85 rfl (lv_at hl 2 rfl) ?_
      refine lv_bipush (v := (-3 : Int32)) hx hb dX12_enables_86 (by decide) ?_
      refine lv_ldcw (v := (32771 : Int32)) hx hb F.2.2.2.1 (x_hts F _ k_6_159) dX12_enables_88 ?_
      refine x_cVv (As := [.int a1, .int (-3 : Int32), .int (32771 : Int32)]) F xG_ok hK hW hS um_X12_mineTo k_7_49 (fun _ h1 => m_r_mineTo hI _ _ _ h1) rfl rd_d0 rd_0 rfl rfl hl.1 rfl rfl ⟨Nat.le_of_ble_eq_true rfl, Nat.le_of_ble_eq_true rfl⟩ ⟨Nat.zero_le _, Nat.zero_le _⟩ (Nat.le_of_ble_eq_true rfl) dX12_enables_91 h (fun S7 H locs hW hS h => ?_)
      exact x_vret F hr hlk hW hS dX12_enables_94 h
    replace h := (if_pos c_4).symm.trans h
    refine lv_aload_n hx hb dX12_enables_61 rfl (lv_at hl 1 rfl) ?_
    refine lv_iload_n hx hb dX12_enables_62 rfl (lv_at hl 2 rfl) ?_
    refine lv_iload_n hx hb dX12_enables_63 rfl (lv_at hl 3 rfl) ?_
    refine lv_aload_n hx hb dX12_enables_64 rfl (lv_at hl 1 rfl) ?_
    refine lv_iload_n hx hb dX12_enables_65 rfl (lv_at hl 2 rfl) ?_
    refine x_cVi (As := [.int a1]) F xG_ok hK hW hS um_X12_own k_7_21 (fun _ h1 => m_r_own hI _ h1) rfl rd_d0 rd_0 rfl rfl hl.1 rfl rfl ⟨Nat.le_of_ble_eq_true rfl, Nat.le_of_ble_eq_true rfl⟩ ⟨Nat.zero_le _, Nat.zero_le _⟩ (Nat.le_of_ble_eq_true rfl) dX12_enables_66 h (fun r_8 S8 H locs hW hS h => ?_)
    refine x_cVv (As := [.int a1, .int a2, .int r_8]) F xG_ok hK hW hS um_X12_wordTo k_6_137 (fun _ h1 => m_r_wordTo hI _ _ _ h1) rfl rd_d0 rd_0 rfl rfl hl.1 rfl rfl ⟨Nat.le_of_ble_eq_true rfl, Nat.le_of_ble_eq_true rfl⟩ ⟨Nat.zero_le _, Nat.zero_le _⟩ (Nat.le_of_ble_eq_true rfl) dX12_enables_69 h (fun S9 H locs hW hS h => ?_)
    refine lv_goto (tgt := 94) hx hb dX12_enables_72 (by decide) ?_
    exact x_vret F hr hlk hW hS dX12_enables_94 h
  replace h := (if_neg c_2).symm.trans h
  refine lv_iload_n hx hb dX12_enables_7 rfl (lv_at hl 1 rfl) ?_
  refine lv_iload_n hx hb dX12_enables_8 rfl (lv_at hl 2 rfl) ?_
  refine x_cSo (As := [.int a1, .int a2]) F xG_ok hS um_X12_linkOf k_7_2 (fun _ h1 => m_r_linkOf _ _ h1) rfl rfl hl.1 rfl rfl ⟨Nat.le_of_ble_eq_true rfl, Nat.le_of_ble_eq_true rfl⟩ ⟨Nat.zero_le _, Nat.zero_le _⟩ (Nat.le_of_ble_eq_true rfl) dX12_enables_9 h (fun r_10 locs hS h => ?_)
  refine lv_istore_n (lv' := [(3, .int r_10), (0, .ref (ad 0 0)), (1, .int a1), (2, .int a2)]) hx hb dX12_enables_12 rfl hl (by decide) rfl (fun ls hl => ?_)
  refine lv_aload_n hx hb dX12_enables_13 rfl (lv_at hl 1 rfl) ?_
  refine x_get F hK hW xc_X12 rd_d0 rd_0 49 (by decide) k_5_177 (gf_X12_49 _ _) dX12_enables_14 ?_
  refine lv_iload_n hx hb dX12_enables_17 rfl (lv_at hl 0 rfl) ?_
  refine x_iald (t0 := 0) F hK hW rd_d50 rd_50 rfl dX12_enables_18 h (fun h => ?_)
  refine lv_iconst (v := (-1 : Int32)) hx hb dX12_enables_19 (by decide) ?_
  refine lv_icmp_eq (tgt := 36) hx hb dX12_enables_20 (by decide) (fun c_11 => ?_) (fun c_11 => ?_)
  · replace h := (if_pos c_11).symm.trans h
    refine lv_aload_n hx hb dX12_enables_36 rfl (lv_at hl 1 rfl) ?_
    refine x_get F hK hW xc_X12 rd_d0 rd_0 50 (by decide) k_5_178 (gf_X12_50 _ _) dX12_enables_37 ?_
    refine lv_iload_n hx hb dX12_enables_40 rfl (lv_at hl 0 rfl) ?_
    refine lv_aload_n hx hb dX12_enables_41 rfl (lv_at hl 1 rfl) ?_
    refine lv_iload_n hx hb dX12_enables_42 rfl (lv_at hl 2 rfl) ?_
    refine x_cVi (As := [.int a1]) F xG_ok hK hW hS um_X12_own k_7_21 (fun _ h1 => m_r_own hI _ h1) rfl rd_d0 rd_0 rfl rfl hl.1 rfl rfl ⟨Nat.le_of_ble_eq_true rfl, Nat.le_of_ble_eq_true rfl⟩ ⟨Nat.zero_le _, Nat.zero_le _⟩ (Nat.le_of_ble_eq_true rfl) dX12_enables_43 h (fun r_12 S12 H locs hW hS h => ?_)
    refine x_iast (t0 := 0) F hK hI hW hS rd_d51 rd_51 rfl dX12_enables_46 h (fun S13 H locs hW hS h => ?_)
    exact x_vret F hr hlk hW hS dX12_enables_47 h
  replace h := (if_neg c_11).symm.trans h
  refine lv_aload_n hx hb dX12_enables_23 rfl (lv_at hl 1 rfl) ?_
  refine lv_iload_n hx hb dX12_enables_24 rfl (lv_at hl 2 rfl) ?_
  refine lv_bipush (v := (-3 : Int32)) hx hb dX12_enables_25 (by decide) ?_
  refine lv_ldcw (v := (32771 : Int32)) hx hb F.2.2.2.1 (x_hts F _ k_6_159) dX12_enables_27 ?_
  refine x_cVv (As := [.int a1, .int (-3 : Int32), .int (32771 : Int32)]) F xG_ok hK hW hS um_X12_mineTo k_7_49 (fun _ h1 => m_r_mineTo hI _ _ _ h1) rfl rd_d0 rd_0 rfl rfl hl.1 rfl rfl ⟨Nat.le_of_ble_eq_true rfl, Nat.le_of_ble_eq_true rfl⟩ ⟨Nat.zero_le _, Nat.zero_le _⟩ (Nat.le_of_ble_eq_true rfl) dX12_enables_30 h (fun S14 H locs hW hS h => ?_)
  refine lv_goto (tgt := 47) hx hb dX12_enables_33 (by decide) ?_
  exact x_vret F hr hlk hW hS dX12_enables_47 h
/-! X12_mine -/
def r_mine  (S : xS) (a1 : Int32) (a2 : Int32) : Option (Int32 × xS) := gd a1 8 ((r_word  S a1 ((xI S 0 10 (a1).toNatClampNeg) + ((2 : Int32) * a2))).bind (fun (r_1, S1) => some (r_1, S1)))
set_option maxHeartbeats 4000000 in
set_option maxRecDepth 100000 in
theorem m_r_mine {l : Launch} {D : va_G} {cI cZ cB : ClassId} {ad : Nat → Nat → Nat} (hI : xInj rDom ad) {S : xS} (a1 : Int32) (a2 : Int32) {o : Int32 × xS} (h : r_mine  S a1 a2 = some o) : Met l yX12_mine (Cond.code yX12_mine cX12_mine 3 (some .int) :: xG) { frames := 2, cells := 0, slots := 0, locals := 47 } (xPc D vwCl (rTy cI cZ cB) [] [] rDom ad (rDe ad cI cZ cB) [.ref (ad 0 0), .int a1, .int a2] S) (xQ D vwCl rDom ad (rDe ad cI cZ cB) (some (.int o.1)) o.2) 0 0 (xA rDom ad) := by
  unfold r_mine at h
  refine x_enter (by decide) (Nat.le_of_ble_eq_true rfl) (fun p e s m below meth c F hr hlk hK hW hS ls hl => ?_)
  have hl : lv_has ls 3 [(0, .ref (ad 0 0)), (1, .int a1), (2, .int a2)] := hl
  have hx := F.1
  have hb := F.2.1
  refine lv_aload_n hx hb dX12_mine_0 rfl (lv_at hl 0 rfl) ?_
  refine lv_iload_n hx hb dX12_mine_1 rfl (lv_at hl 1 rfl) ?_
  refine lv_aload_n hx hb dX12_mine_2 rfl (lv_at hl 0 rfl) ?_
  refine x_get F hK hW xc_X12 rd_d0 rd_0 9 (by decide) k_5_137 (gf_X12_9 _ _) dX12_mine_3 ?_
  refine lv_iload_n hx hb dX12_mine_6 rfl (lv_at hl 1 rfl) ?_
  refine x_iald (t0 := 0) F hK hW rd_d10 rd_10 rfl dX12_mine_7 h (fun h => ?_)
  refine lv_iconst (v := (2 : Int32)) hx hb dX12_mine_8 (by decide) ?_
  refine lv_iload_n hx hb dX12_mine_9 rfl (lv_at hl 2 rfl) ?_
  refine lv_imul hx hb dX12_mine_10 ?_
  refine lv_iadd hx hb dX12_mine_11 ?_
  refine x_cVi (As := [.int a1, .int ((xI S 0 10 (a1).toNatClampNeg) + ((2 : Int32) * a2))]) F xG_ok hK hW hS um_X12_word k_6_149 (fun _ h1 => m_r_word hI _ _ h1) rfl rd_d0 rd_0 rfl rfl hl.1 rfl rfl ⟨Nat.le_of_ble_eq_true rfl, Nat.le_of_ble_eq_true rfl⟩ ⟨Nat.zero_le _, Nat.zero_le _⟩ (Nat.le_of_ble_eq_true rfl) dX12_mine_12 h (fun r_1 S1 H locs hW hS h => ?_)
  exact x_iret F hr hlk hW hS dX12_mine_15 h
/-! X12_waitsFor -/
def r_waitsFor  (S : xS) (a1 : Int32) (a2 : Int32) (a3 : Int32) : Option (xS) := gd a1 8 (if (xI S 0 30 (a1).toNatClampNeg) = (64 : Int32) then ((r_stop  S a1 (4 : Int32)).bind (fun S5 => some S5)) else (gd a1 8 (gd (((64 : Int32) * a1) + (xI S 0 30 (a1).toNatClampNeg)) 512 (xnm (sI S 0 31 ((((64 : Int32) * a1) + (xI S 0 30 (a1).toNatClampNeg))).toNatClampNeg a2) (fun S2 => gd a1 8 (gd (((64 : Int32) * a1) + (xI S2 0 30 (a1).toNatClampNeg)) 512 (xnm (sI S2 0 32 ((((64 : Int32) * a1) + (xI S2 0 30 (a1).toNatClampNeg))).toNatClampNeg a3) (fun S3 => gd a1 8 (gd a1 8 (xnm (sI S3 0 30 (a1).toNatClampNeg ((xI S3 0 30 (a1).toNatClampNeg) + (1 : Int32))) (fun S4 => some S4)))))))))))
set_option maxHeartbeats 4000000 in
set_option maxRecDepth 100000 in
theorem m_r_waitsFor {l : Launch} {D : va_G} {cI cZ cB : ClassId} {ad : Nat → Nat → Nat} (hI : xInj rDom ad) {S : xS} (a1 : Int32) (a2 : Int32) (a3 : Int32) {o : xS} (h : r_waitsFor  S a1 a2 a3 = some o) : Met l yX12_waitsFor (Cond.code yX12_waitsFor cX12_waitsFor 4 none :: xG) { frames := 1, cells := 0, slots := 0, locals := 22 } (xPc D vwCl (rTy cI cZ cB) [] [] rDom ad (rDe ad cI cZ cB) [.ref (ad 0 0), .int a1, .int a2, .int a3] S) (xQ D vwCl rDom ad (rDe ad cI cZ cB) none o) 0 0 (xA rDom ad) := by
  unfold r_waitsFor at h
  refine x_enter (by decide) (Nat.le_of_ble_eq_true rfl) (fun p e s m below meth c F hr hlk hK hW hS ls hl => ?_)
  have hl : lv_has ls 4 [(0, .ref (ad 0 0)), (1, .int a1), (2, .int a2), (3, .int a3)] := hl
  have hx := F.1
  have hb := F.2.1
  refine lv_aload_n hx hb dX12_waitsFor_0 rfl (lv_at hl 0 rfl) ?_
  refine x_get F hK hW xc_X12 rd_d0 rd_0 29 (by decide) k_5_157 (gf_X12_29 _ _) dX12_waitsFor_1 ?_
  refine lv_iload_n hx hb dX12_waitsFor_4 rfl (lv_at hl 1 rfl) ?_
  refine x_iald (t0 := 0) F hK hW rd_d30 rd_30 rfl dX12_waitsFor_5 h (fun h => ?_)
  refine lv_bipush (v := (64 : Int32)) hx hb dX12_waitsFor_6 (by decide) ?_
  refine lv_icmp_ne (tgt := 18) hx hb dX12_waitsFor_8 (by decide) (fun c_1 => ?_) (fun c_1 => ?_)
  · replace h := (if_neg c_1).symm.trans h
    refine lv_aload_n hx hb dX12_waitsFor_18 rfl (lv_at hl 0 rfl) ?_
    refine x_get F hK hW xc_X12 rd_d0 rd_0 30 (by decide) k_5_158 (gf_X12_30 _ _) dX12_waitsFor_19 ?_
    refine lv_bipush (v := (64 : Int32)) hx hb dX12_waitsFor_22 (by decide) ?_
    refine lv_iload_n hx hb dX12_waitsFor_24 rfl (lv_at hl 1 rfl) ?_
    refine lv_imul hx hb dX12_waitsFor_25 ?_
    refine lv_aload_n hx hb dX12_waitsFor_26 rfl (lv_at hl 0 rfl) ?_
    refine x_get F hK hW xc_X12 rd_d0 rd_0 29 (by decide) k_5_157 (gf_X12_29 _ _) dX12_waitsFor_27 ?_
    refine lv_iload_n hx hb dX12_waitsFor_30 rfl (lv_at hl 1 rfl) ?_
    refine x_iald (t0 := 0) F hK hW rd_d30 rd_30 rfl dX12_waitsFor_31 h (fun h => ?_)
    refine lv_iadd hx hb dX12_waitsFor_32 ?_
    refine lv_iload_n hx hb dX12_waitsFor_33 rfl (lv_at hl 2 rfl) ?_
    refine x_iast (t0 := 0) F hK hI hW hS rd_d31 rd_31 rfl dX12_waitsFor_34 h (fun S2 H locs hW hS h => ?_)
    refine lv_aload_n hx hb dX12_waitsFor_35 rfl (lv_at hl 0 rfl) ?_
    refine x_get F hK hW xc_X12 rd_d0 rd_0 31 (by decide) k_5_159 (gf_X12_31 _ _) dX12_waitsFor_36 ?_
    refine lv_bipush (v := (64 : Int32)) hx hb dX12_waitsFor_39 (by decide) ?_
    refine lv_iload_n hx hb dX12_waitsFor_41 rfl (lv_at hl 1 rfl) ?_
    refine lv_imul hx hb dX12_waitsFor_42 ?_
    refine lv_aload_n hx hb dX12_waitsFor_43 rfl (lv_at hl 0 rfl) ?_
    refine x_get F hK hW xc_X12 rd_d0 rd_0 29 (by decide) k_5_157 (gf_X12_29 _ _) dX12_waitsFor_44 ?_
    refine lv_iload_n hx hb dX12_waitsFor_47 rfl (lv_at hl 1 rfl) ?_
    refine x_iald (t0 := 0) F hK hW rd_d30 rd_30 rfl dX12_waitsFor_48 h (fun h => ?_)
    refine lv_iadd hx hb dX12_waitsFor_49 ?_
    refine lv_iload_n hx hb dX12_waitsFor_50 rfl (lv_at hl 3 rfl) ?_
    refine x_iast (t0 := 0) F hK hI hW hS rd_d32 rd_32 rfl dX12_waitsFor_51 h (fun S3 H locs hW hS h => ?_)
    refine lv_aload_n hx hb dX12_waitsFor_52 rfl (lv_at hl 0 rfl) ?_
    refine x_get F hK hW xc_X12 rd_d0 rd_0 29 (by decide) k_5_157 (gf_X12_29 _ _) dX12_waitsFor_53 ?_
    refine lv_iload_n hx hb dX12_waitsFor_56 rfl (lv_at hl 1 rfl) ?_
    refine lv_dup2_11 hx hb dX12_waitsFor_57 rfl rfl ?_
    refine x_iald (t0 := 0) F hK hW rd_d30 rd_30 rfl dX12_waitsFor_58 h (fun h => ?_)
    refine lv_iconst (v := (1 : Int32)) hx hb dX12_waitsFor_59 (by decide) ?_
    refine lv_iadd hx hb dX12_waitsFor_60 ?_
    refine x_iast (t0 := 0) F hK hI hW hS rd_d30 rd_30 rfl dX12_waitsFor_61 h (fun S4 H locs hW hS h => ?_)
    exact x_vret F hr hlk hW hS dX12_waitsFor_62 h
  replace h := (if_pos c_1).symm.trans h
  refine lv_aload_n hx hb dX12_waitsFor_11 rfl (lv_at hl 0 rfl) ?_
  refine lv_iload_n hx hb dX12_waitsFor_12 rfl (lv_at hl 1 rfl) ?_
  refine lv_iconst (v := (4 : Int32)) hx hb dX12_waitsFor_13 (by decide) ?_
  refine x_cVv (As := [.int a1, .int (4 : Int32)]) F xG_ok hK hW hS um_X12_stop k_6_184 (fun _ h1 => m_r_stop hI _ _ h1) rfl rd_d0 rd_0 rfl rfl hl.1 rfl rfl ⟨Nat.le_of_ble_eq_true rfl, Nat.le_of_ble_eq_true rfl⟩ ⟨Nat.zero_le _, Nat.zero_le _⟩ (Nat.le_of_ble_eq_true rfl) dX12_waitsFor_14 h (fun S5 H locs hW hS h => ?_)
  exact x_vret F hr hlk hW hS dX12_waitsFor_17 h
/-! X12_timedWait -/
def r_timedWait_b120 (v1 : Int32) (v3 : Int32) (v4 : Int32) (t0 : Int32) (S : xS) : Option (Int32 × xS) := (r_waits  S v1).bind (fun S10 => if v3 = 0 then (some ((1 : Int32), S10)) else ((r_waitsFor  S10 v1 v4 t0).bind (fun S12 => some ((1 : Int32), S12))))
set_option maxHeartbeats 4000000 in
set_option maxRecDepth 100000 in
theorem m_r_timedWait_b120 {l : Launch} {D : va_G} {cI cZ cB : ClassId} {ad : Nat → Nat → Nat} (hI : xInj rDom ad) {p : Program} {e : Env} {s : State} {m : MethodId} {args : Array Value} {below : List Frame} {meth : Method} {c : Code} (F : CallFix p m c cX12_timedWait 6 s args (Cond.code yX12_timedWait cX12_timedWait 6 (some .boolean) :: xG) (yX12_timedWait).cls) (hr : meth.sig.returnType = (some .boolean)) (hlk : meth.locks = false) (hK : xK D vwCl (rTy cI cZ cB) [] [] s) {o : Int32 × xS} (v1 : Int32) (v3 : Int32) (v4 : Int32) (t0 : Int32) (S : xS) {H : Heap} {locs : List Loc} {ls : Array Slot} (h : r_timedWait_b120 v1 v3 v4 t0 S = some o) (hW : xW D vwCl rDom ad (rDe ad cI cZ cB) S H) (hS : va_S (xA rDom ad) s.heap H locs) (hl : lv_has ls 6 [(0, .ref (ad 0 0)), (1, .int v1), (3, .int v3), (4, .int v4)]) : W p l e { frames := 3, cells := 0, slots := 0, locals := 71 } s m args below meth c H locs 0 0 (MQ below (xQ D vwCl rDom ad (rDe ad cI cZ cB) (some (.int o.1)) o.2) args s 0 0 (xA rDom ad)) (F0 m 120 ls [.int t0]) := by
  have hx := F.1
  have hb := F.2.1
  unfold r_timedWait_b120 at h
  refine lv_istore (lv' := [(5, .int t0), (0, .ref (ad 0 0)), (1, .int v1), (3, .int v3), (4, .int v4)]) hx hb dX12_timedWait_120 hl (by decide) rfl (fun ls hl => ?_)
  refine lv_aload_n hx hb dX12_timedWait_122 rfl (lv_at hl 1 rfl) ?_
  refine lv_iload_n hx hb dX12_timedWait_123 rfl (lv_at hl 2 rfl) ?_
  refine x_cVv (As := [.int v1]) F xG_ok hK hW hS um_X12_waits k_7_25 (fun _ h1 => m_r_waits hI _ h1) rfl rd_d0 rd_0 rfl rfl hl.1 rfl rfl ⟨Nat.le_of_ble_eq_true rfl, Nat.le_of_ble_eq_true rfl⟩ ⟨Nat.zero_le _, Nat.zero_le _⟩ (Nat.le_of_ble_eq_true rfl) dX12_timedWait_124 h (fun S10 H locs hW hS h => ?_)
  refine lv_iload_n hx hb dX12_timedWait_127 rfl (lv_at hl 3 rfl) ?_
  refine lv_if_eq (tgt := 140) hx hb dX12_timedWait_128 (by decide) (fun c_11 => ?_) (fun c_11 => ?_)
  · replace h := (if_pos c_11).symm.trans h
    refine lv_iconst (v := (1 : Int32)) hx hb dX12_timedWait_140 (by decide) ?_
    exact x_zret F hr hlk hW hS rfl dX12_timedWait_141 h
  replace h := (if_neg c_11).symm.trans h
  refine lv_aload_n hx hb dX12_timedWait_131 rfl (lv_at hl 1 rfl) ?_
  refine lv_iload_n hx hb dX12_timedWait_132 rfl (lv_at hl 2 rfl) ?_
  refine lv_iload hx hb dX12_timedWait_133 (lv_at hl 4 rfl) ?_
  refine lv_iload hx hb dX12_timedWait_135 (lv_at hl 0 rfl) ?_
  refine x_cVv (As := [.int v1, .int v4, .int t0]) F xG_ok hK hW hS um_X12_waitsFor k_7_65 (fun _ h1 => m_r_waitsFor hI _ _ _ h1) rfl rd_d0 rd_0 rfl rfl hl.1 rfl rfl ⟨Nat.le_of_ble_eq_true rfl, Nat.le_of_ble_eq_true rfl⟩ ⟨Nat.zero_le _, Nat.zero_le _⟩ (Nat.le_of_ble_eq_true rfl) dX12_timedWait_137 h (fun S12 H locs hW hS h => ?_)
  refine lv_iconst (v := (1 : Int32)) hx hb dX12_timedWait_140 (by decide) ?_
  exact x_zret F hr hlk hW hS rfl dX12_timedWait_141 h
def r_timedWait_b88 (v1 : Int32) (v3 : Int32) (S : xS) : Option (Int32 × xS) := (r_mineTo  S v1 (-3 : Int32) (32770 : Int32)).bind (fun S7 => (r_own  S7 v1).bind (fun (r_8, S8) => if v3 = 0 then (r_timedWait_b120  v1 v3 r_8 (0 : Int32) S8) else ((r_mine  S8 v1 (-5 : Int32)).bind (fun (r_13, S13) => r_timedWait_b120  v1 v3 r_8 r_13 S13))))
set_option maxHeartbeats 4000000 in
set_option maxRecDepth 100000 in
theorem m_r_timedWait_b88 {l : Launch} {D : va_G} {cI cZ cB : ClassId} {ad : Nat → Nat → Nat} (hI : xInj rDom ad) {p : Program} {e : Env} {s : State} {m : MethodId} {args : Array Value} {below : List Frame} {meth : Method} {c : Code} (F : CallFix p m c cX12_timedWait 6 s args (Cond.code yX12_timedWait cX12_timedWait 6 (some .boolean) :: xG) (yX12_timedWait).cls) (hr : meth.sig.returnType = (some .boolean)) (hlk : meth.locks = false) (hK : xK D vwCl (rTy cI cZ cB) [] [] s) {o : Int32 × xS} (v1 : Int32) (v3 : Int32) (S : xS) {H : Heap} {locs : List Loc} {ls : Array Slot} (h : r_timedWait_b88 v1 v3 S = some o) (hW : xW D vwCl rDom ad (rDe ad cI cZ cB) S H) (hS : va_S (xA rDom ad) s.heap H locs) (hl : lv_has ls 6 [(0, .ref (ad 0 0)), (1, .int v1), (3, .int v3)]) : W p l e { frames := 3, cells := 0, slots := 0, locals := 71 } s m args below meth c H locs 0 0 (MQ below (xQ D vwCl rDom ad (rDe ad cI cZ cB) (some (.int o.1)) o.2) args s 0 0 (xA rDom ad)) (F0 m 88 ls []) := by
  have hx := F.1
  have hb := F.2.1
  unfold r_timedWait_b88 at h
  refine lv_aload_n hx hb dX12_timedWait_88 rfl (lv_at hl 0 rfl) ?_
  refine lv_iload_n hx hb dX12_timedWait_89 rfl (lv_at hl 1 rfl) ?_
  refine lv_bipush (v := (-3 : Int32)) hx hb dX12_timedWait_90 (by decide) ?_
  refine lv_ldcw (v := (32770 : Int32)) hx hb F.2.2.2.1 (x_hts F _ k_6_154) dX12_timedWait_92 ?_
  refine x_cVv (As := [.int v1, .int (-3 : Int32), .int (32770 : Int32)]) F xG_ok hK hW hS um_X12_mineTo k_7_49 (fun _ h1 => m_r_mineTo hI _ _ _ h1) rfl rd_d0 rd_0 rfl rfl hl.1 rfl rfl ⟨Nat.le_of_ble_eq_true rfl, Nat.le_of_ble_eq_true rfl⟩ ⟨Nat.zero_le _, Nat.zero_le _⟩ (Nat.le_of_ble_eq_true rfl) dX12_timedWait_95 h (fun S7 H locs hW hS h => ?_)
  refine lv_aload_n hx hb dX12_timedWait_98 rfl (lv_at hl 0 rfl) ?_
  refine lv_iload_n hx hb dX12_timedWait_99 rfl (lv_at hl 1 rfl) ?_
  refine x_cVi (As := [.int v1]) F xG_ok hK hW hS um_X12_own k_7_21 (fun _ h1 => m_r_own hI _ h1) rfl rd_d0 rd_0 rfl rfl hl.1 rfl rfl ⟨Nat.le_of_ble_eq_true rfl, Nat.le_of_ble_eq_true rfl⟩ ⟨Nat.zero_le _, Nat.zero_le _⟩ (Nat.le_of_ble_eq_true rfl) dX12_timedWait_100 h (fun r_8 S8 H locs hW hS h => ?_)
  refine lv_istore (lv' := [(4, .int r_8), (0, .ref (ad 0 0)), (1, .int v1), (3, .int v3)]) hx hb dX12_timedWait_103 hl (by decide) rfl (fun ls hl => ?_)
  refine lv_iload_n hx hb dX12_timedWait_105 rfl (lv_at hl 3 rfl) ?_
  refine lv_if_eq (tgt := 119) hx hb dX12_timedWait_106 (by decide) (fun c_9 => ?_) (fun c_9 => ?_)
  · replace h := (if_pos c_9).symm.trans h
    refine lv_iconst (v := (0 : Int32)) hx hb dX12_timedWait_119 (by decide) ?_
    exact m_r_timedWait_b120 hI  F hr hlk hK _ _ _ _ _ h hW hS (lv_sub hl [1, 2, 3, 0] rfl)
  replace h := (if_neg c_9).symm.trans h
  refine lv_aload_n hx hb dX12_timedWait_109 rfl (lv_at hl 1 rfl) ?_
  refine lv_iload_n hx hb dX12_timedWait_110 rfl (lv_at hl 2 rfl) ?_
  refine lv_bipush (v := (-5 : Int32)) hx hb dX12_timedWait_111 (by decide) ?_
  refine x_cVi (As := [.int v1, .int (-5 : Int32)]) F xG_ok hK hW hS um_X12_mine k_7_57 (fun _ h1 => m_r_mine hI _ _ h1) rfl rd_d0 rd_0 rfl rfl hl.1 rfl rfl ⟨Nat.le_of_ble_eq_true rfl, Nat.le_of_ble_eq_true rfl⟩ ⟨Nat.zero_le _, Nat.zero_le _⟩ (Nat.le_of_ble_eq_true rfl) dX12_timedWait_113 h (fun r_13 S13 H locs hW hS h => ?_)
  refine lv_goto (tgt := 120) hx hb dX12_timedWait_116 (by decide) ?_
  exact m_r_timedWait_b120 hI  F hr hlk hK _ _ _ _ _ h hW hS (lv_sub hl [1, 2, 3, 0] rfl)
def r_timedWait_b49 (v1 : Int32) (v2 : Int32) (t0 : Int32) (S : xS) : Option (Int32 × xS) := if t0 = 0 then (r_timedWait_b88  v1 t0 S) else ((r_mine  S v1 (-5 : Int32)).bind (fun (r_14, S14) => (r_isLater v2 r_14).bind (fun r_15 => if r_15 = 0 then (r_timedWait_b88  v1 t0 S14) else ((r_mineTo  S14 v1 (-3 : Int32) (32771 : Int32)).bind (fun S17 => (r_mineTo  S17 v1 (-5 : Int32) v2).bind (fun S18 => some ((1 : Int32), S18)))))))
set_option maxHeartbeats 4000000 in
set_option maxRecDepth 100000 in
theorem m_r_timedWait_b49 {l : Launch} {D : va_G} {cI cZ cB : ClassId} {ad : Nat → Nat → Nat} (hI : xInj rDom ad) {p : Program} {e : Env} {s : State} {m : MethodId} {args : Array Value} {below : List Frame} {meth : Method} {c : Code} (F : CallFix p m c cX12_timedWait 6 s args (Cond.code yX12_timedWait cX12_timedWait 6 (some .boolean) :: xG) (yX12_timedWait).cls) (hr : meth.sig.returnType = (some .boolean)) (hlk : meth.locks = false) (hK : xK D vwCl (rTy cI cZ cB) [] [] s) {o : Int32 × xS} (v1 : Int32) (v2 : Int32) (t0 : Int32) (S : xS) {H : Heap} {locs : List Loc} {ls : Array Slot} (h : r_timedWait_b49 v1 v2 t0 S = some o) (hW : xW D vwCl rDom ad (rDe ad cI cZ cB) S H) (hS : va_S (xA rDom ad) s.heap H locs) (hl : lv_has ls 6 [(0, .ref (ad 0 0)), (1, .int v1), (2, .int v2)]) : W p l e { frames := 3, cells := 0, slots := 0, locals := 71 } s m args below meth c H locs 0 0 (MQ below (xQ D vwCl rDom ad (rDe ad cI cZ cB) (some (.int o.1)) o.2) args s 0 0 (xA rDom ad)) (F0 m 49 ls [.int t0]) := by
  have hx := F.1
  have hb := F.2.1
  unfold r_timedWait_b49 at h
  refine lv_istore_n (lv' := [(3, .int t0), (0, .ref (ad 0 0)), (1, .int v1), (2, .int v2)]) hx hb dX12_timedWait_49 rfl hl (by decide) rfl (fun ls hl => ?_)
  refine lv_iload_n hx hb dX12_timedWait_50 rfl (lv_at hl 0 rfl) ?_
  refine lv_if_eq (tgt := 88) hx hb dX12_timedWait_51 (by decide) (fun c_6 => ?_) (fun c_6 => ?_)
  · replace h := (if_pos c_6).symm.trans h
    exact m_r_timedWait_b88 hI  F hr hlk hK _ _ _ h hW hS (lv_sub hl [1, 2, 0] rfl)
  replace h := (if_neg c_6).symm.trans h
  refine lv_iload_n hx hb dX12_timedWait_54 rfl (lv_at hl 3 rfl) ?_
  refine lv_aload_n hx hb dX12_timedWait_55 rfl (lv_at hl 1 rfl) ?_
  refine lv_iload_n hx hb dX12_timedWait_56 rfl (lv_at hl 2 rfl) ?_
  refine lv_bipush (v := (-5 : Int32)) hx hb dX12_timedWait_57 (by decide) ?_
  refine x_cVi (As := [.int v1, .int (-5 : Int32)]) F xG_ok hK hW hS um_X12_mine k_7_57 (fun _ h1 => m_r_mine hI _ _ h1) rfl rd_d0 rd_0 rfl rfl hl.1 rfl rfl ⟨Nat.le_of_ble_eq_true rfl, Nat.le_of_ble_eq_true rfl⟩ ⟨Nat.zero_le _, Nat.zero_le _⟩ (Nat.le_of_ble_eq_true rfl) dX12_timedWait_59 h (fun r_14 S14 H locs hW hS h => ?_)
  refine x_cSo (As := [.int v2, .int r_14]) F xG_ok hS um_X12_isLater k_6_177 (fun _ h1 => m_r_isLater _ _ h1) rfl rfl hl.1 rfl rfl ⟨Nat.le_of_ble_eq_true rfl, Nat.le_of_ble_eq_true rfl⟩ ⟨Nat.zero_le _, Nat.zero_le _⟩ (Nat.le_of_ble_eq_true rfl) dX12_timedWait_62 h (fun r_15 locs hS h => ?_)
  refine lv_if_eq (tgt := 88) hx hb dX12_timedWait_65 (by decide) (fun c_16 => ?_) (fun c_16 => ?_)
  · replace h := (if_pos c_16).symm.trans h
    exact m_r_timedWait_b88 hI  F hr hlk hK _ _ _ h hW hS (lv_sub hl [1, 2, 0] rfl)
  replace h := (if_neg c_16).symm.trans h
  refine lv_aload_n hx hb dX12_timedWait_68 rfl (lv_at hl 1 rfl) ?_
  refine lv_iload_n hx hb dX12_timedWait_69 rfl (lv_at hl 2 rfl) ?_
  refine lv_bipush (v := (-3 : Int32)) hx hb dX12_timedWait_70 (by decide) ?_
  refine lv_ldcw (v := (32771 : Int32)) hx hb F.2.2.2.1 (x_hts F _ k_6_159) dX12_timedWait_72 ?_
  refine x_cVv (As := [.int v1, .int (-3 : Int32), .int (32771 : Int32)]) F xG_ok hK hW hS um_X12_mineTo k_7_49 (fun _ h1 => m_r_mineTo hI _ _ _ h1) rfl rd_d0 rd_0 rfl rfl hl.1 rfl rfl ⟨Nat.le_of_ble_eq_true rfl, Nat.le_of_ble_eq_true rfl⟩ ⟨Nat.zero_le _, Nat.zero_le _⟩ (Nat.le_of_ble_eq_true rfl) dX12_timedWait_75 h (fun S17 H locs hW hS h => ?_)
  refine lv_aload_n hx hb dX12_timedWait_78 rfl (lv_at hl 1 rfl) ?_
  refine lv_iload_n hx hb dX12_timedWait_79 rfl (lv_at hl 2 rfl) ?_
  refine lv_bipush (v := (-5 : Int32)) hx hb dX12_timedWait_80 (by decide) ?_
  refine lv_iload_n hx hb dX12_timedWait_82 rfl (lv_at hl 3 rfl) ?_
  refine x_cVv (As := [.int v1, .int (-5 : Int32), .int v2]) F xG_ok hK hW hS um_X12_mineTo k_7_49 (fun _ h1 => m_r_mineTo hI _ _ _ h1) rfl rd_d0 rd_0 rfl rfl hl.1 rfl rfl ⟨Nat.le_of_ble_eq_true rfl, Nat.le_of_ble_eq_true rfl⟩ ⟨Nat.zero_le _, Nat.zero_le _⟩ (Nat.le_of_ble_eq_true rfl) dX12_timedWait_83 h (fun S18 H locs hW hS h => ?_)
  refine lv_iconst (v := (1 : Int32)) hx hb dX12_timedWait_86 (by decide) ?_
  exact x_zret F hr hlk hW hS rfl dX12_timedWait_87 h
def r_timedWait  (S : xS) (a1 : Int32) (a2 : Int32) : Option (Int32 × xS) := (r_mineTo  S a1 (0 : Int32) (65535 : Int32)).bind (fun S1 => (r_mine  S1 a1 (-3 : Int32)).bind (fun (r_2, S2) => if r_2 = (32771 : Int32) then ((r_mineTo  S2 a1 (-5 : Int32) a2).bind (fun S19 => some ((1 : Int32), S19))) else ((r_mine  S2 a1 (-4 : Int32)).bind (fun (r_4, S4) => if r_4 = (32769 : Int32) then (r_timedWait_b49  a1 a2 (1 : Int32) S4) else (r_timedWait_b49  a1 a2 (0 : Int32) S4)))))
set_option maxHeartbeats 4000000 in
set_option maxRecDepth 100000 in
theorem m_r_timedWait {l : Launch} {D : va_G} {cI cZ cB : ClassId} {ad : Nat → Nat → Nat} (hI : xInj rDom ad) {S : xS} (a1 : Int32) (a2 : Int32) {o : Int32 × xS} (h : r_timedWait  S a1 a2 = some o) : Met l yX12_timedWait (Cond.code yX12_timedWait cX12_timedWait 6 (some .boolean) :: xG) { frames := 3, cells := 0, slots := 0, locals := 71 } (xPc D vwCl (rTy cI cZ cB) [] [] rDom ad (rDe ad cI cZ cB) [.ref (ad 0 0), .int a1, .int a2] S) (xQ D vwCl rDom ad (rDe ad cI cZ cB) (some (.int o.1)) o.2) 0 0 (xA rDom ad) := by
  unfold r_timedWait at h
  refine x_enter (by decide) (Nat.le_of_ble_eq_true rfl) (fun p e s m below meth c F hr hlk hK hW hS ls hl => ?_)
  have hl : lv_has ls 6 [(0, .ref (ad 0 0)), (1, .int a1), (2, .int a2)] := hl
  have hx := F.1
  have hb := F.2.1
  refine lv_aload_n hx hb dX12_timedWait_0 rfl (lv_at hl 0 rfl) ?_
  refine lv_iload_n hx hb dX12_timedWait_1 rfl (lv_at hl 1 rfl) ?_
  refine lv_iconst (v := (0 : Int32)) hx hb dX12_timedWait_2 (by decide) ?_
  refine lv_ldc (v := (65535 : Int32)) hx hb F.2.2.2.1 (x_hts F _ k_6_102) dX12_timedWait_3 ?_
  refine x_cVv (As := [.int a1, .int (0 : Int32), .int (65535 : Int32)]) F xG_ok hK hW hS um_X12_mineTo k_7_49 (fun _ h1 => m_r_mineTo hI _ _ _ h1) rfl rd_d0 rd_0 rfl rfl hl.1 rfl rfl ⟨Nat.le_of_ble_eq_true rfl, Nat.le_of_ble_eq_true rfl⟩ ⟨Nat.zero_le _, Nat.zero_le _⟩ (Nat.le_of_ble_eq_true rfl) dX12_timedWait_5 h (fun S1 H locs hW hS h => ?_)
  refine lv_aload_n hx hb dX12_timedWait_8 rfl (lv_at hl 0 rfl) ?_
  refine lv_iload_n hx hb dX12_timedWait_9 rfl (lv_at hl 1 rfl) ?_
  refine lv_bipush (v := (-3 : Int32)) hx hb dX12_timedWait_10 (by decide) ?_
  refine x_cVi (As := [.int a1, .int (-3 : Int32)]) F xG_ok hK hW hS um_X12_mine k_7_57 (fun _ h1 => m_r_mine hI _ _ h1) rfl rd_d0 rd_0 rfl rfl hl.1 rfl rfl ⟨Nat.le_of_ble_eq_true rfl, Nat.le_of_ble_eq_true rfl⟩ ⟨Nat.zero_le _, Nat.zero_le _⟩ (Nat.le_of_ble_eq_true rfl) dX12_timedWait_12 h (fun r_2 S2 H locs hW hS h => ?_)
  refine lv_ldcw (v := (32771 : Int32)) hx hb F.2.2.2.1 (x_hts F _ k_6_159) dX12_timedWait_15 ?_
  refine lv_icmp_ne (tgt := 31) hx hb dX12_timedWait_18 (by decide) (fun c_3 => ?_) (fun c_3 => ?_)
  · replace h := (if_neg c_3).symm.trans h
    refine lv_aload_n hx hb dX12_timedWait_31 rfl (lv_at hl 0 rfl) ?_
    refine lv_iload_n hx hb dX12_timedWait_32 rfl (lv_at hl 1 rfl) ?_
    refine lv_bipush (v := (-4 : Int32)) hx hb dX12_timedWait_33 (by decide) ?_
    refine x_cVi (As := [.int a1, .int (-4 : Int32)]) F xG_ok hK hW hS um_X12_mine k_7_57 (fun _ h1 => m_r_mine hI _ _ h1) rfl rd_d0 rd_0 rfl rfl hl.1 rfl rfl ⟨Nat.le_of_ble_eq_true rfl, Nat.le_of_ble_eq_true rfl⟩ ⟨Nat.zero_le _, Nat.zero_le _⟩ (Nat.le_of_ble_eq_true rfl) dX12_timedWait_35 h (fun r_4 S4 H locs hW hS h => ?_)
    refine lv_ldcw (v := (32769 : Int32)) hx hb F.2.2.2.1 (x_hts F _ k_6_153) dX12_timedWait_38 ?_
    refine lv_icmp_ne (tgt := 48) hx hb dX12_timedWait_41 (by decide) (fun c_5 => ?_) (fun c_5 => ?_)
    · replace h := (if_neg c_5).symm.trans h
      refine lv_iconst (v := (0 : Int32)) hx hb dX12_timedWait_48 (by decide) ?_
      exact m_r_timedWait_b49 hI  F hr hlk hK _ _ _ _ h hW hS (lv_sub hl [0, 1, 2] rfl)
    replace h := (if_pos c_5).symm.trans h
    refine lv_iconst (v := (1 : Int32)) hx hb dX12_timedWait_44 (by decide) ?_
    refine lv_goto (tgt := 49) hx hb dX12_timedWait_45 (by decide) ?_
    exact m_r_timedWait_b49 hI  F hr hlk hK _ _ _ _ h hW hS (lv_sub hl [0, 1, 2] rfl)
  replace h := (if_pos c_3).symm.trans h
  refine lv_aload_n hx hb dX12_timedWait_21 rfl (lv_at hl 0 rfl) ?_
  refine lv_iload_n hx hb dX12_timedWait_22 rfl (lv_at hl 1 rfl) ?_
  refine lv_bipush (v := (-5 : Int32)) hx hb dX12_timedWait_23 (by decide) ?_
  refine lv_iload_n hx hb dX12_timedWait_25 rfl (lv_at hl 2 rfl) ?_
  refine x_cVv (As := [.int a1, .int (-5 : Int32), .int a2]) F xG_ok hK hW hS um_X12_mineTo k_7_49 (fun _ h1 => m_r_mineTo hI _ _ _ h1) rfl rd_d0 rd_0 rfl rfl hl.1 rfl rfl ⟨Nat.le_of_ble_eq_true rfl, Nat.le_of_ble_eq_true rfl⟩ ⟨Nat.zero_le _, Nat.zero_le _⟩ (Nat.le_of_ble_eq_true rfl) dX12_timedWait_26 h (fun S19 H locs hW hS h => ?_)
  refine lv_iconst (v := (1 : Int32)) hx hb dX12_timedWait_29 (by decide) ?_
  exact x_zret F hr hlk hW hS rfl dX12_timedWait_30 h
/-! X12_chooses -/
def r_chooses_b51 (v1 : Int32) (t0 : Int32) (t1 : Int32) (S : xS) : Option (Int32 × xS) := gd t1 8 (xnm (sI S 0 5 (t1).toNatClampNeg t0) (fun S4 => gd v1 8 (gd v1 8 (xnm (sI S4 0 6 (v1).toNatClampNeg (xI S4 0 7 (v1).toNatClampNeg)) (fun S5 => some ((1 : Int32), S5))))))
set_option maxHeartbeats 4000000 in
set_option maxRecDepth 100000 in
theorem m_r_chooses_b51 {l : Launch} {D : va_G} {cI cZ cB : ClassId} {ad : Nat → Nat → Nat} (hI : xInj rDom ad) {p : Program} {e : Env} {s : State} {m : MethodId} {args : Array Value} {below : List Frame} {meth : Method} {c : Code} (F : CallFix p m c cX12_chooses 4 s args (Cond.code yX12_chooses cX12_chooses 4 (some .boolean) :: xG) (yX12_chooses).cls) (hr : meth.sig.returnType = (some .boolean)) (hlk : meth.locks = false) (hK : xK D vwCl (rTy cI cZ cB) [] [] s) {o : Int32 × xS} (v1 : Int32) (t0 : Int32) (t1 : Int32) (S : xS) {H : Heap} {locs : List Loc} {ls : Array Slot} (h : r_chooses_b51 v1 t0 t1 S = some o) (hW : xW D vwCl rDom ad (rDe ad cI cZ cB) S H) (hS : va_S (xA rDom ad) s.heap H locs) (hl : lv_has ls 4 [(0, .ref (ad 0 0)), (1, .int v1)]) : W p l e { frames := 3, cells := 0, slots := 0, locals := 71 } s m args below meth c H locs 0 0 (MQ below (xQ D vwCl rDom ad (rDe ad cI cZ cB) (some (.int o.1)) o.2) args s 0 0 (xA rDom ad)) (F0 m 51 ls [.int t0, .int t1, .ref (ad 0 5)]) := by
  have hx := F.1
  have hb := F.2.1
  unfold r_chooses_b51 at h
  refine x_iast (t0 := 0) F hK hI hW hS rd_d5 rd_5 rfl dX12_chooses_51 h (fun S4 H locs hW hS h => ?_)
  refine lv_aload_n hx hb dX12_chooses_52 rfl (lv_at hl 0 rfl) ?_
  refine x_get F hK hW xc_X12 rd_d0 rd_0 5 (by decide) k_5_133 (gf_X12_5 _ _) dX12_chooses_53 ?_
  refine lv_iload_n hx hb dX12_chooses_56 rfl (lv_at hl 1 rfl) ?_
  refine lv_aload_n hx hb dX12_chooses_57 rfl (lv_at hl 0 rfl) ?_
  refine x_get F hK hW xc_X12 rd_d0 rd_0 6 (by decide) k_5_134 (gf_X12_6 _ _) dX12_chooses_58 ?_
  refine lv_iload_n hx hb dX12_chooses_61 rfl (lv_at hl 1 rfl) ?_
  refine x_iald (t0 := 0) F hK hW rd_d7 rd_7 rfl dX12_chooses_62 h (fun h => ?_)
  refine x_iast (t0 := 0) F hK hI hW hS rd_d6 rd_6 rfl dX12_chooses_63 h (fun S5 H locs hW hS h => ?_)
  refine lv_iconst (v := (1 : Int32)) hx hb dX12_chooses_64 (by decide) ?_
  exact x_zret F hr hlk hW hS rfl dX12_chooses_65 h
def r_chooses_b37 (v1 : Int32) (v3 : Int32) (S : xS) : Option (Int32 × xS) := if v3 = 0 then (r_chooses_b51  v1 (0 : Int32) v1 S) else (r_chooses_b51  v1 (1 : Int32) v1 S)
set_option maxHeartbeats 4000000 in
set_option maxRecDepth 100000 in
theorem m_r_chooses_b37 {l : Launch} {D : va_G} {cI cZ cB : ClassId} {ad : Nat → Nat → Nat} (hI : xInj rDom ad) {p : Program} {e : Env} {s : State} {m : MethodId} {args : Array Value} {below : List Frame} {meth : Method} {c : Code} (F : CallFix p m c cX12_chooses 4 s args (Cond.code yX12_chooses cX12_chooses 4 (some .boolean) :: xG) (yX12_chooses).cls) (hr : meth.sig.returnType = (some .boolean)) (hlk : meth.locks = false) (hK : xK D vwCl (rTy cI cZ cB) [] [] s) {o : Int32 × xS} (v1 : Int32) (v3 : Int32) (S : xS) {H : Heap} {locs : List Loc} {ls : Array Slot} (h : r_chooses_b37 v1 v3 S = some o) (hW : xW D vwCl rDom ad (rDe ad cI cZ cB) S H) (hS : va_S (xA rDom ad) s.heap H locs) (hl : lv_has ls 4 [(0, .ref (ad 0 0)), (1, .int v1), (3, .int v3)]) : W p l e { frames := 3, cells := 0, slots := 0, locals := 71 } s m args below meth c H locs 0 0 (MQ below (xQ D vwCl rDom ad (rDe ad cI cZ cB) (some (.int o.1)) o.2) args s 0 0 (xA rDom ad)) (F0 m 37 ls []) := by
  have hx := F.1
  have hb := F.2.1
  unfold r_chooses_b37 at h
  refine lv_aload_n hx hb dX12_chooses_37 rfl (lv_at hl 0 rfl) ?_
  refine x_get F hK hW xc_X12 rd_d0 rd_0 4 (by decide) k_5_132 (gf_X12_4 _ _) dX12_chooses_38 ?_
  refine lv_iload_n hx hb dX12_chooses_41 rfl (lv_at hl 1 rfl) ?_
  refine lv_iload_n hx hb dX12_chooses_42 rfl (lv_at hl 2 rfl) ?_
  refine lv_if_eq (tgt := 50) hx hb dX12_chooses_43 (by decide) (fun c_3 => ?_) (fun c_3 => ?_)
  · replace h := (if_pos c_3).symm.trans h
    refine lv_iconst (v := (0 : Int32)) hx hb dX12_chooses_50 (by decide) ?_
    exact m_r_chooses_b51 hI  F hr hlk hK _ _ _ _ h hW hS (lv_sub hl [0, 1] rfl)
  replace h := (if_neg c_3).symm.trans h
  refine lv_iconst (v := (1 : Int32)) hx hb dX12_chooses_46 (by decide) ?_
  refine lv_goto (tgt := 51) hx hb dX12_chooses_47 (by decide) ?_
  exact m_r_chooses_b51 hI  F hr hlk hK _ _ _ _ h hW hS (lv_sub hl [0, 1] rfl)
def r_chooses_b20 (v1 : Int32) (t0 : Int32) (S : xS) : Option (Int32 × xS) := if t0 = 0 then (r_chooses_b37  v1 t0 S) else (gd v1 8 ((r_mineTo  S v1 (0 : Int32) (xI S 0 5 (v1).toNatClampNeg)).bind (fun S6 => r_chooses_b37  v1 t0 S6)))
set_option maxHeartbeats 4000000 in
set_option maxRecDepth 100000 in
theorem m_r_chooses_b20 {l : Launch} {D : va_G} {cI cZ cB : ClassId} {ad : Nat → Nat → Nat} (hI : xInj rDom ad) {p : Program} {e : Env} {s : State} {m : MethodId} {args : Array Value} {below : List Frame} {meth : Method} {c : Code} (F : CallFix p m c cX12_chooses 4 s args (Cond.code yX12_chooses cX12_chooses 4 (some .boolean) :: xG) (yX12_chooses).cls) (hr : meth.sig.returnType = (some .boolean)) (hlk : meth.locks = false) (hK : xK D vwCl (rTy cI cZ cB) [] [] s) {o : Int32 × xS} (v1 : Int32) (t0 : Int32) (S : xS) {H : Heap} {locs : List Loc} {ls : Array Slot} (h : r_chooses_b20 v1 t0 S = some o) (hW : xW D vwCl rDom ad (rDe ad cI cZ cB) S H) (hS : va_S (xA rDom ad) s.heap H locs) (hl : lv_has ls 4 [(0, .ref (ad 0 0)), (1, .int v1)]) : W p l e { frames := 3, cells := 0, slots := 0, locals := 71 } s m args below meth c H locs 0 0 (MQ below (xQ D vwCl rDom ad (rDe ad cI cZ cB) (some (.int o.1)) o.2) args s 0 0 (xA rDom ad)) (F0 m 20 ls [.int t0]) := by
  have hx := F.1
  have hb := F.2.1
  unfold r_chooses_b20 at h
  refine lv_istore_n (lv' := [(3, .int t0), (0, .ref (ad 0 0)), (1, .int v1)]) hx hb dX12_chooses_20 rfl hl (by decide) rfl (fun ls hl => ?_)
  refine lv_iload_n hx hb dX12_chooses_21 rfl (lv_at hl 0 rfl) ?_
  refine lv_if_eq (tgt := 37) hx hb dX12_chooses_22 (by decide) (fun c_2 => ?_) (fun c_2 => ?_)
  · replace h := (if_pos c_2).symm.trans h
    exact m_r_chooses_b37 hI  F hr hlk hK _ _ _ h hW hS (lv_sub hl [1, 2, 0] rfl)
  replace h := (if_neg c_2).symm.trans h
  refine lv_aload_n hx hb dX12_chooses_25 rfl (lv_at hl 1 rfl) ?_
  refine lv_iload_n hx hb dX12_chooses_26 rfl (lv_at hl 2 rfl) ?_
  refine lv_iconst (v := (0 : Int32)) hx hb dX12_chooses_27 (by decide) ?_
  refine lv_aload_n hx hb dX12_chooses_28 rfl (lv_at hl 1 rfl) ?_
  refine x_get F hK hW xc_X12 rd_d0 rd_0 4 (by decide) k_5_132 (gf_X12_4 _ _) dX12_chooses_29 ?_
  refine lv_iload_n hx hb dX12_chooses_32 rfl (lv_at hl 2 rfl) ?_
  refine x_iald (t0 := 0) F hK hW rd_d5 rd_5 rfl dX12_chooses_33 h (fun h => ?_)
  refine x_cVv (As := [.int v1, .int (0 : Int32), .int (xI S 0 5 (v1).toNatClampNeg)]) F xG_ok hK hW hS um_X12_mineTo k_7_49 (fun _ h1 => m_r_mineTo hI _ _ _ h1) rfl rd_d0 rd_0 rfl rfl hl.1 rfl rfl ⟨Nat.le_of_ble_eq_true rfl, Nat.le_of_ble_eq_true rfl⟩ ⟨Nat.zero_le _, Nat.zero_le _⟩ (Nat.le_of_ble_eq_true rfl) dX12_chooses_34 h (fun S6 H locs hW hS h => ?_)
  exact m_r_chooses_b37 hI  F hr hlk hK _ _ _ h hW hS (lv_sub hl [1, 2, 0] rfl)
def r_chooses_b19 (v1 : Int32) (S : xS) : Option (Int32 × xS) := r_chooses_b20  v1 (0 : Int32) S
set_option maxHeartbeats 4000000 in
set_option maxRecDepth 100000 in
theorem m_r_chooses_b19 {l : Launch} {D : va_G} {cI cZ cB : ClassId} {ad : Nat → Nat → Nat} (hI : xInj rDom ad) {p : Program} {e : Env} {s : State} {m : MethodId} {args : Array Value} {below : List Frame} {meth : Method} {c : Code} (F : CallFix p m c cX12_chooses 4 s args (Cond.code yX12_chooses cX12_chooses 4 (some .boolean) :: xG) (yX12_chooses).cls) (hr : meth.sig.returnType = (some .boolean)) (hlk : meth.locks = false) (hK : xK D vwCl (rTy cI cZ cB) [] [] s) {o : Int32 × xS} (v1 : Int32) (S : xS) {H : Heap} {locs : List Loc} {ls : Array Slot} (h : r_chooses_b19 v1 S = some o) (hW : xW D vwCl rDom ad (rDe ad cI cZ cB) S H) (hS : va_S (xA rDom ad) s.heap H locs) (hl : lv_has ls 4 [(0, .ref (ad 0 0)), (1, .int v1)]) : W p l e { frames := 3, cells := 0, slots := 0, locals := 71 } s m args below meth c H locs 0 0 (MQ below (xQ D vwCl rDom ad (rDe ad cI cZ cB) (some (.int o.1)) o.2) args s 0 0 (xA rDom ad)) (F0 m 19 ls []) := by
  have hx := F.1
  have hb := F.2.1
  unfold r_chooses_b19 at h
  refine lv_iconst (v := (0 : Int32)) hx hb dX12_chooses_19 (by decide) ?_
  exact m_r_chooses_b20 hI  F hr hlk hK _ _ _ h hW hS (lv_sub hl [0, 1] rfl)
def r_chooses  (S : xS) (a1 : Int32) (a2 : Int32) : Option (Int32 × xS) := if a2 = 0 then (r_chooses_b19  a1 S) else ((r_mine  S a1 (0 : Int32)).bind (fun (r_7, S7) => if r_7 = (65535 : Int32) then (r_chooses_b20  a1 (1 : Int32) S7) else (r_chooses_b19  a1 S7)))
set_option maxHeartbeats 4000000 in
set_option maxRecDepth 100000 in
theorem m_r_chooses {l : Launch} {D : va_G} {cI cZ cB : ClassId} {ad : Nat → Nat → Nat} (hI : xInj rDom ad) {S : xS} (a1 : Int32) (a2 : Int32) {o : Int32 × xS} (h : r_chooses  S a1 a2 = some o) : Met l yX12_chooses (Cond.code yX12_chooses cX12_chooses 4 (some .boolean) :: xG) { frames := 3, cells := 0, slots := 0, locals := 71 } (xPc D vwCl (rTy cI cZ cB) [] [] rDom ad (rDe ad cI cZ cB) [.ref (ad 0 0), .int a1, .int a2] S) (xQ D vwCl rDom ad (rDe ad cI cZ cB) (some (.int o.1)) o.2) 0 0 (xA rDom ad) := by
  unfold r_chooses at h
  refine x_enter (by decide) (Nat.le_of_ble_eq_true rfl) (fun p e s m below meth c F hr hlk hK hW hS ls hl => ?_)
  have hl : lv_has ls 4 [(0, .ref (ad 0 0)), (1, .int a1), (2, .int a2)] := hl
  have hx := F.1
  have hb := F.2.1
  refine lv_iload_n hx hb dX12_chooses_0 rfl (lv_at hl 2 rfl) ?_
  refine lv_if_eq (tgt := 19) hx hb dX12_chooses_1 (by decide) (fun c_1 => ?_) (fun c_1 => ?_)
  · replace h := (if_pos c_1).symm.trans h
    exact m_r_chooses_b19 hI  F hr hlk hK _ _ h hW hS (lv_sub hl [0, 1] rfl)
  replace h := (if_neg c_1).symm.trans h
  refine lv_aload_n hx hb dX12_chooses_4 rfl (lv_at hl 0 rfl) ?_
  refine lv_iload_n hx hb dX12_chooses_5 rfl (lv_at hl 1 rfl) ?_
  refine lv_iconst (v := (0 : Int32)) hx hb dX12_chooses_6 (by decide) ?_
  refine x_cVi (As := [.int a1, .int (0 : Int32)]) F xG_ok hK hW hS um_X12_mine k_7_57 (fun _ h1 => m_r_mine hI _ _ h1) rfl rd_d0 rd_0 rfl rfl hl.1 rfl rfl ⟨Nat.le_of_ble_eq_true rfl, Nat.le_of_ble_eq_true rfl⟩ ⟨Nat.zero_le _, Nat.zero_le _⟩ (Nat.le_of_ble_eq_true rfl) dX12_chooses_7 h (fun r_7 S7 H locs hW hS h => ?_)
  refine lv_ldc (v := (65535 : Int32)) hx hb F.2.2.2.1 (x_hts F _ k_6_102) dX12_chooses_10 ?_
  refine lv_icmp_ne (tgt := 19) hx hb dX12_chooses_12 (by decide) (fun c_8 => ?_) (fun c_8 => ?_)
  · replace h := (if_neg c_8).symm.trans h
    exact m_r_chooses_b19 hI  F hr hlk hK _ _ h hW hS (lv_sub hl [0, 1] rfl)
  replace h := (if_pos c_8).symm.trans h
  refine lv_iconst (v := (1 : Int32)) hx hb dX12_chooses_15 (by decide) ?_
  refine lv_goto (tgt := 20) hx hb dX12_chooses_16 (by decide) ?_
  exact m_r_chooses_b20 hI  F hr hlk hK _ _ _ h hW hS (lv_sub hl [0, 1] rfl)
/-! X12_disables -/
def r_disables_b34 (v3 : Int32) (S : xS) : Option (Int32 × xS) := gd v3 33 (if (xI S 0 50 (v3).toNatClampNeg) = (-1 : Int32) then (some ((0 : Int32), S)) else (some ((1 : Int32), S)))
set_option maxHeartbeats 4000000 in
set_option maxRecDepth 100000 in
theorem m_r_disables_b34 {l : Launch} {D : va_G} {cI cZ cB : ClassId} {ad : Nat → Nat → Nat} (hI : xInj rDom ad) {p : Program} {e : Env} {s : State} {m : MethodId} {args : Array Value} {below : List Frame} {meth : Method} {c : Code} (F : CallFix p m c cX12_disables 4 s args (Cond.code yX12_disables cX12_disables 4 (some .boolean) :: xG) (yX12_disables).cls) (hr : meth.sig.returnType = (some .boolean)) (hlk : meth.locks = false) (hK : xK D vwCl (rTy cI cZ cB) [] [] s) {o : Int32 × xS} (v3 : Int32) (S : xS) {H : Heap} {locs : List Loc} {ls : Array Slot} (h : r_disables_b34 v3 S = some o) (hW : xW D vwCl rDom ad (rDe ad cI cZ cB) S H) (hS : va_S (xA rDom ad) s.heap H locs) (hl : lv_has ls 4 [(0, .ref (ad 0 0)), (3, .int v3)]) : W p l e { frames := 2, cells := 0, slots := 0, locals := 48 } s m args below meth c H locs 0 0 (MQ below (xQ D vwCl rDom ad (rDe ad cI cZ cB) (some (.int o.1)) o.2) args s 0 0 (xA rDom ad)) (F0 m 34 ls []) := by
  have hx := F.1
  have hb := F.2.1
  unfold r_disables_b34 at h
  refine lv_aload_n hx hb dX12_disables_34 rfl (lv_at hl 0 rfl) ?_
  refine x_get F hK hW xc_X12 rd_d0 rd_0 49 (by decide) k_5_177 (gf_X12_49 _ _) dX12_disables_35 ?_
  refine lv_iload_n hx hb dX12_disables_38 rfl (lv_at hl 1 rfl) ?_
  refine x_iald (t0 := 0) F hK hW rd_d50 rd_50 rfl dX12_disables_39 h (fun h => ?_)
  refine lv_iconst (v := (-1 : Int32)) hx hb dX12_disables_40 (by decide) ?_
  refine lv_icmp_eq (tgt := 48) hx hb dX12_disables_41 (by decide) (fun c_11 => ?_) (fun c_11 => ?_)
  · replace h := (if_pos c_11).symm.trans h
    refine lv_iconst (v := (0 : Int32)) hx hb dX12_disables_48 (by decide) ?_
    exact x_zret F hr hlk hW hS rfl dX12_disables_49 h
  replace h := (if_neg c_11).symm.trans h
  refine lv_iconst (v := (1 : Int32)) hx hb dX12_disables_44 (by decide) ?_
  refine lv_goto (tgt := 49) hx hb dX12_disables_45 (by decide) ?_
  exact x_zret F hr hlk hW hS rfl dX12_disables_49 h
def r_disables  (S : xS) (a1 : Int32) (a2 : Int32) : Option (Int32 × xS) := (r_isLink a2).bind (fun r_1 => if r_1 = 0 then ((r_word  S a1 a2).bind (fun (r_3, S3) => (r_own  S3 a1).bind (fun (r_4, S4) => if r_3 = r_4 then ((r_wordTo  S4 a1 a2 (32768 : Int32)).bind (fun S7 => some ((0 : Int32), S7))) else (if r_3 = (32768 : Int32) then (some ((0 : Int32), S4)) else (some ((1 : Int32), S4)))))) else ((r_linkOf a1 a2).bind (fun r_8 => gd r_8 33 ((r_own  S a1).bind (fun (r_9, S9) => if (xI S 0 51 (r_8).toNatClampNeg) = r_9 then (gd r_8 33 (xnm (sI S9 0 51 (r_8).toNatClampNeg (-1 : Int32)) (fun S12 => r_disables_b34  r_8 S12))) else (r_disables_b34  r_8 S9))))))
set_option maxHeartbeats 4000000 in
set_option maxRecDepth 100000 in
theorem m_r_disables {l : Launch} {D : va_G} {cI cZ cB : ClassId} {ad : Nat → Nat → Nat} (hI : xInj rDom ad) {S : xS} (a1 : Int32) (a2 : Int32) {o : Int32 × xS} (h : r_disables  S a1 a2 = some o) : Met l yX12_disables (Cond.code yX12_disables cX12_disables 4 (some .boolean) :: xG) { frames := 2, cells := 0, slots := 0, locals := 48 } (xPc D vwCl (rTy cI cZ cB) [] [] rDom ad (rDe ad cI cZ cB) [.ref (ad 0 0), .int a1, .int a2] S) (xQ D vwCl rDom ad (rDe ad cI cZ cB) (some (.int o.1)) o.2) 0 0 (xA rDom ad) := by
  unfold r_disables at h
  refine x_enter (by decide) (Nat.le_of_ble_eq_true rfl) (fun p e s m below meth c F hr hlk hK hW hS ls hl => ?_)
  have hl : lv_has ls 4 [(0, .ref (ad 0 0)), (1, .int a1), (2, .int a2)] := hl
  have hx := F.1
  have hb := F.2.1
  refine lv_iload_n hx hb dX12_disables_0 rfl (lv_at hl 2 rfl) ?_
  refine x_cSo (As := [.int a2]) F xG_ok hS um_X12_isLink k_6_238 (fun _ h1 => m_r_isLink _ h1) rfl rfl hl.1 rfl rfl ⟨Nat.le_of_ble_eq_true rfl, Nat.le_of_ble_eq_true rfl⟩ ⟨Nat.zero_le _, Nat.zero_le _⟩ (Nat.le_of_ble_eq_true rfl) dX12_disables_1 h (fun r_1 locs hS h => ?_)
  refine lv_if_eq (tgt := 50) hx hb dX12_disables_4 (by decide) (fun c_2 => ?_) (fun c_2 => ?_)
  · replace h := (if_pos c_2).symm.trans h
    refine lv_aload_n hx hb dX12_disables_50 rfl (lv_at hl 0 rfl) ?_
    refine lv_iload_n hx hb dX12_disables_51 rfl (lv_at hl 1 rfl) ?_
    refine lv_iload_n hx hb dX12_disables_52 rfl (lv_at hl 2 rfl) ?_
    refine x_cVi (As := [.int a1, .int a2]) F xG_ok hK hW hS um_X12_word k_6_149 (fun _ h1 => m_r_word hI _ _ h1) rfl rd_d0 rd_0 rfl rfl hl.1 rfl rfl ⟨Nat.le_of_ble_eq_true rfl, Nat.le_of_ble_eq_true rfl⟩ ⟨Nat.zero_le _, Nat.zero_le _⟩ (Nat.le_of_ble_eq_true rfl) dX12_disables_53 h (fun r_3 S3 H locs hW hS h => ?_)
    refine lv_istore_n (lv' := [(3, .int r_3), (0, .ref (ad 0 0)), (1, .int a1), (2, .int a2)]) hx hb dX12_disables_56 rfl hl (by decide) rfl (fun ls hl => ?_)
    refine lv_iload_n hx hb dX12_disables_57 rfl (lv_at hl 0 rfl) ?_
    refine lv_aload_n hx hb dX12_disables_58 rfl (lv_at hl 1 rfl) ?_
    refine lv_iload_n hx hb dX12_disables_59 rfl (lv_at hl 2 rfl) ?_
    refine x_cVi (As := [.int a1]) F xG_ok hK hW hS um_X12_own k_7_21 (fun _ h1 => m_r_own hI _ h1) rfl rd_d0 rd_0 rfl rfl hl.1 rfl rfl ⟨Nat.le_of_ble_eq_true rfl, Nat.le_of_ble_eq_true rfl⟩ ⟨Nat.zero_le _, Nat.zero_le _⟩ (Nat.le_of_ble_eq_true rfl) dX12_disables_60 h (fun r_4 S4 H locs hW hS h => ?_)
    refine lv_icmp_ne (tgt := 76) hx hb dX12_disables_63 (by decide) (fun c_5 => ?_) (fun c_5 => ?_)
    · replace h := (if_neg c_5).symm.trans h
      refine lv_iload_n hx hb dX12_disables_76 rfl (lv_at hl 0 rfl) ?_
      refine lv_ldc (v := (32768 : Int32)) hx hb F.2.2.2.1 (x_hts F _ k_5_126) dX12_disables_77 ?_
      refine lv_icmp_eq (tgt := 86) hx hb dX12_disables_79 (by decide) (fun c_6 => ?_) (fun c_6 => ?_)
      · replace h := (if_pos c_6).symm.trans h
        refine lv_iconst (v := (0 : Int32)) hx hb dX12_disables_86 (by decide) ?_
        exact x_zret F hr hlk hW hS rfl dX12_disables_87 h
      replace h := (if_neg c_6).symm.trans h
      refine lv_iconst (v := (1 : Int32)) hx hb dX12_disables_82 (by decide) ?_
      refine lv_goto (tgt := 87) hx hb dX12_disables_83 (by decide) ?_
      exact x_zret F hr hlk hW hS rfl dX12_disables_87 h
    replace h := (if_pos c_5).symm.trans h
    refine lv_aload_n hx hb dX12_disables_66 rfl (lv_at hl 1 rfl) ?_
    refine lv_iload_n hx hb dX12_disables_67 rfl (lv_at hl 2 rfl) ?_
    refine lv_iload_n hx hb dX12_disables_68 rfl (lv_at hl 3 rfl) ?_
    refine lv_ldc (v := (32768 : Int32)) hx hb F.2.2.2.1 (x_hts F _ k_5_126) dX12_disables_69 ?_
    refine x_cVv (As := [.int a1, .int a2, .int (32768 : Int32)]) F xG_ok hK hW hS um_X12_wordTo k_6_137 (fun _ h1 => m_r_wordTo hI _ _ _ h1) rfl rd_d0 rd_0 rfl rfl hl.1 rfl rfl ⟨Nat.le_of_ble_eq_true rfl, Nat.le_of_ble_eq_true rfl⟩ ⟨Nat.zero_le _, Nat.zero_le _⟩ (Nat.le_of_ble_eq_true rfl) dX12_disables_71 h (fun S7 H locs hW hS h => ?_)
    refine lv_iconst (v := (0 : Int32)) hx hb dX12_disables_74 (by decide) ?_
    exact x_zret F hr hlk hW hS rfl dX12_disables_75 h
  replace h := (if_neg c_2).symm.trans h
  refine lv_iload_n hx hb dX12_disables_7 rfl (lv_at hl 1 rfl) ?_
  refine lv_iload_n hx hb dX12_disables_8 rfl (lv_at hl 2 rfl) ?_
  refine x_cSo (As := [.int a1, .int a2]) F xG_ok hS um_X12_linkOf k_7_2 (fun _ h1 => m_r_linkOf _ _ h1) rfl rfl hl.1 rfl rfl ⟨Nat.le_of_ble_eq_true rfl, Nat.le_of_ble_eq_true rfl⟩ ⟨Nat.zero_le _, Nat.zero_le _⟩ (Nat.le_of_ble_eq_true rfl) dX12_disables_9 h (fun r_8 locs hS h => ?_)
  refine lv_istore_n (lv' := [(3, .int r_8), (0, .ref (ad 0 0)), (1, .int a1), (2, .int a2)]) hx hb dX12_disables_12 rfl hl (by decide) rfl (fun ls hl => ?_)
  refine lv_aload_n hx hb dX12_disables_13 rfl (lv_at hl 1 rfl) ?_
  refine x_get F hK hW xc_X12 rd_d0 rd_0 50 (by decide) k_5_178 (gf_X12_50 _ _) dX12_disables_14 ?_
  refine lv_iload_n hx hb dX12_disables_17 rfl (lv_at hl 0 rfl) ?_
  refine x_iald (t0 := 0) F hK hW rd_d51 rd_51 rfl dX12_disables_18 h (fun h => ?_)
  refine lv_aload_n hx hb dX12_disables_19 rfl (lv_at hl 1 rfl) ?_
  refine lv_iload_n hx hb dX12_disables_20 rfl (lv_at hl 2 rfl) ?_
  refine x_cVi (As := [.int a1]) F xG_ok hK hW hS um_X12_own k_7_21 (fun _ h1 => m_r_own hI _ h1) rfl rd_d0 rd_0 rfl rfl hl.1 rfl rfl ⟨Nat.le_of_ble_eq_true rfl, Nat.le_of_ble_eq_true rfl⟩ ⟨Nat.zero_le _, Nat.zero_le _⟩ (Nat.le_of_ble_eq_true rfl) dX12_disables_21 h (fun r_9 S9 H locs hW hS h => ?_)
  refine lv_icmp_ne (tgt := 34) hx hb dX12_disables_24 (by decide) (fun c_10 => ?_) (fun c_10 => ?_)
  · replace h := (if_neg c_10).symm.trans h
    exact m_r_disables_b34 hI  F hr hlk hK _ _ h hW hS (lv_sub hl [1, 0] rfl)
  replace h := (if_pos c_10).symm.trans h
  refine lv_aload_n hx hb dX12_disables_27 rfl (lv_at hl 1 rfl) ?_
  refine x_get F hK hW xc_X12 rd_d0 rd_0 50 (by decide) k_5_178 (gf_X12_50 _ _) dX12_disables_28 ?_
  refine lv_iload_n hx hb dX12_disables_31 rfl (lv_at hl 0 rfl) ?_
  refine lv_iconst (v := (-1 : Int32)) hx hb dX12_disables_32 (by decide) ?_
  refine x_iast (t0 := 0) F hK hI hW hS rd_d51 rd_51 rfl dX12_disables_33 h (fun S12 H locs hW hS h => ?_)
  exact m_r_disables_b34 hI  F hr hlk hK _ _ h hW hS (lv_sub hl [1, 0] rfl)
