def d5_setWord  (S : xS) (a1 : Int32) (a2 : Int32) : Option (xS) := if ((a1 &&& (65534 : Int32)) - (32768 : Int32)) < 0 then (xnm (sI S 0 0 1 (1 : Int32)) (fun S2 => some S2)) else (if ((a1 &&& (65534 : Int32)) - (32768 : Int32)) < (4096 : Int32) then (gd (((a1 &&& (65534 : Int32)) - (32768 : Int32)) >>> ((3 : Int32) &&& 31)) 512 (gd (((a1 &&& (65534 : Int32)) - (32768 : Int32)) >>> ((3 : Int32) &&& 31)) 512 (xnm (sJ S 0 1 ((((a1 &&& (65534 : Int32)) - (32768 : Int32)) >>> ((3 : Int32) &&& 31))).toNatClampNeg (((xJ S 0 1 ((((a1 &&& (65534 : Int32)) - (32768 : Int32)) >>> ((3 : Int32) &&& 31))).toNatClampNeg) &&& ((jlshl (65535 : Int64) ((((a1 &&& (65534 : Int32)) - (32768 : Int32)) &&& (7 : Int32)) <<< ((3 : Int32) &&& 31))) ^^^ (-1 : Int64))) ||| (jlshl ((a2.toInt64) &&& (65535 : Int64)) ((((a1 &&& (65534 : Int32)) - (32768 : Int32)) &&& (7 : Int32)) <<< ((3 : Int32) &&& 31))))) (fun S4 => some S4)))) else (xnm (sI S 0 0 1 (1 : Int32)) (fun S5 => some S5)))
set_option maxHeartbeats 4000000 in
set_option maxRecDepth 100000 in
theorem m_d5_setWord {l : Launch} {D : va_G} {cI cJ cL cN : ClassId} {ad : Nat → Nat → Nat} (hI : xInj mDom ad) {S : xS} (a1 : Int32) (a2 : Int32) {o : xS} (h : d5_setWord  S a1 a2 = some o) : Met l yX5_setWord (Cond.code yX5_setWord cX5_setWord 7 none :: xG) { frames := 0, cells := 0, slots := 0, locals := 0 } (xPc D vwCl (cTy cI cJ cL cN) cNf cNm mDom ad (mDe ad cJ) [.ref (ad 0 0), .int a1, .int a2] S) (xQ D vwCl mDom ad (mDe ad cJ) none o) 0 0 (xA mDom ad) := by
  unfold d5_setWord at h
  refine x_enter (by decide) (Nat.le_of_ble_eq_true rfl) (fun p e s m below meth c F hr hlk hK hW hS ls hl => ?_)
  have hl : lv_has ls 7 [(0, .ref (ad 0 0)), (1, .int a1), (2, .int a2)] := hl
  have hx := F.1
  have hb := F.2.1
  refine lv_iload_n hx hb dX5_setWord_0 rfl (lv_at hl 1 rfl) ?_
  refine lv_ldc (v := (65534 : Int32)) hx hb F.2.2.2.1 (x_hts F _ k_1_203) dX5_setWord_1 ?_
  refine lv_iand hx hb dX5_setWord_3 ?_
  refine lv_ldc (v := (32768 : Int32)) hx hb F.2.2.2.1 (x_hts F _ k_1_204) dX5_setWord_4 ?_
  refine lv_isub hx hb dX5_setWord_6 ?_
  refine lv_istore_n (lv' := [(3, .int ((a1 &&& (65534 : Int32)) - (32768 : Int32))), (0, .ref (ad 0 0)), (1, .int a1), (2, .int a2)]) hx hb dX5_setWord_7 rfl hl (by decide) rfl (fun ls hl => ?_)
  refine lv_iload_n hx hb dX5_setWord_8 rfl (lv_at hl 0 rfl) ?_
  refine lv_if_lt (tgt := 19) hx hb dX5_setWord_9 (by decide) (fun c_1 => ?_) (fun c_1 => ?_)
  · replace h := (if_pos c_1).symm.trans h
    refine lv_aload_n hx hb dX5_setWord_19 rfl (lv_at hl 1 rfl) ?_
    refine lv_iconst (v := (1 : Int32)) hx hb dX5_setWord_20 (by decide) ?_
    refine x_put F hK hI hW hS xc_X5 md_d0 md_0 1 (by decide) k_1_48 rfl (v := (1 : Int32)) rfl rfl (fun _ _ => rfl) (fun _ _ => Nat.le_of_ble_eq_true rfl) dX5_setWord_21 h (fun S2 H locs hW hS h => ?_)
    exact x_vret F hr hlk hW hS dX5_setWord_24 h
  replace h := (if_neg c_1).symm.trans h
  refine lv_iload_n hx hb dX5_setWord_12 rfl (lv_at hl 0 rfl) ?_
  refine lv_sipush (v := (4096 : Int32)) hx hb dX5_setWord_13 (by decide) ?_
  refine lv_icmp_lt (tgt := 25) hx hb dX5_setWord_16 (by decide) (fun c_3 => ?_) (fun c_3 => ?_)
  · replace h := (if_pos c_3).symm.trans h
    refine lv_iload_n hx hb dX5_setWord_25 rfl (lv_at hl 0 rfl) ?_
    refine lv_bipush (v := (7 : Int32)) hx hb dX5_setWord_26 (by decide) ?_
    refine lv_iand hx hb dX5_setWord_28 ?_
    refine lv_iconst (v := (3 : Int32)) hx hb dX5_setWord_29 (by decide) ?_
    refine lv_ishl hx hb dX5_setWord_30 ?_
    refine lv_istore (lv' := [(4, .int ((((a1 &&& (65534 : Int32)) - (32768 : Int32)) &&& (7 : Int32)) <<< ((3 : Int32) &&& 31))), (3, .int ((a1 &&& (65534 : Int32)) - (32768 : Int32))), (0, .ref (ad 0 0)), (1, .int a1), (2, .int a2)]) hx hb dX5_setWord_31 hl (by decide) rfl (fun ls hl => ?_)
    refine lv_aload_n hx hb dX5_setWord_33 rfl (lv_at hl 2 rfl) ?_
    refine x_get F hK hW xc_X5 md_d0 md_0 0 (by decide) k_1_47 (rfl) dX5_setWord_34 ?_
    refine lv_iload_n hx hb dX5_setWord_37 rfl (lv_at hl 1 rfl) ?_
    refine lv_iconst (v := (3 : Int32)) hx hb dX5_setWord_38 (by decide) ?_
    refine lv_ishr hx hb dX5_setWord_39 ?_
    refine x_lald (t0 := 1) F hK hW md_d1 md_1 rfl dX5_setWord_40 h (fun h => ?_)
    refine lv_ldc2 (v := (65535 : Int64)) hx hb F.2.2.2.1 (x_hts F _ k_1_205) dX5_setWord_41 ?_
    refine lv_iload hx hb dX5_setWord_44 (lv_at hl 0 rfl) ?_
    refine lv_lshl (v := (jlshl (65535 : Int64) ((((a1 &&& (65534 : Int32)) - (32768 : Int32)) &&& (7 : Int32)) <<< ((3 : Int32) &&& 31)))) hx hb dX5_setWord_46 rfl ?_
    refine lv_ldc2 (v := (-1 : Int64)) hx hb F.2.2.2.1 (x_hts F _ k_1_206) dX5_setWord_47 ?_
    refine lv_lxor hx hb dX5_setWord_50 ?_
    refine lv_land hx hb dX5_setWord_51 ?_
    refine lv_lstore (lv' := [(5, .long ((xJ S 0 1 ((((a1 &&& (65534 : Int32)) - (32768 : Int32)) >>> ((3 : Int32) &&& 31))).toNatClampNeg) &&& ((jlshl (65535 : Int64) ((((a1 &&& (65534 : Int32)) - (32768 : Int32)) &&& (7 : Int32)) <<< ((3 : Int32) &&& 31))) ^^^ (-1 : Int64)))), (4, .int ((((a1 &&& (65534 : Int32)) - (32768 : Int32)) &&& (7 : Int32)) <<< ((3 : Int32) &&& 31))), (3, .int ((a1 &&& (65534 : Int32)) - (32768 : Int32))), (0, .ref (ad 0 0)), (1, .int a1), (2, .int a2)]) hx hb dX5_setWord_52 hl (by decide) rfl (fun ls hl => ?_)
    refine lv_aload_n hx hb dX5_setWord_54 rfl (lv_at hl 3 rfl) ?_
    refine x_get F hK hW xc_X5 md_d0 md_0 0 (by decide) k_1_47 (rfl) dX5_setWord_55 ?_
    refine lv_iload_n hx hb dX5_setWord_58 rfl (lv_at hl 2 rfl) ?_
    refine lv_iconst (v := (3 : Int32)) hx hb dX5_setWord_59 (by decide) ?_
    refine lv_ishr hx hb dX5_setWord_60 ?_
    refine lv_lload hx hb dX5_setWord_61 (lv_at hl 0 rfl) ?_
    refine lv_iload_n hx hb dX5_setWord_63 rfl (lv_at hl 5 rfl) ?_
    refine lv_i2l (v := a2.toInt64) hx hb dX5_setWord_64 rfl ?_
    refine lv_ldc2 (v := (65535 : Int64)) hx hb F.2.2.2.1 (x_hts F _ k_1_205) dX5_setWord_65 ?_
    refine lv_land hx hb dX5_setWord_68 ?_
    refine lv_iload hx hb dX5_setWord_69 (lv_at hl 1 rfl) ?_
    refine lv_lshl (v := (jlshl ((a2.toInt64) &&& (65535 : Int64)) ((((a1 &&& (65534 : Int32)) - (32768 : Int32)) &&& (7 : Int32)) <<< ((3 : Int32) &&& 31)))) hx hb dX5_setWord_71 rfl ?_
    refine lv_lor hx hb dX5_setWord_72 ?_
    refine x_last (t0 := 1) F hK hI hW hS md_d1 md_1 rfl dX5_setWord_73 h (fun S4 H locs hW hS h => ?_)
    exact x_vret F hr hlk hW hS dX5_setWord_74 h
  replace h := (if_neg c_3).symm.trans h
  refine lv_aload_n hx hb dX5_setWord_19 rfl (lv_at hl 1 rfl) ?_
  refine lv_iconst (v := (1 : Int32)) hx hb dX5_setWord_20 (by decide) ?_
  refine x_put F hK hI hW hS xc_X5 md_d0 md_0 1 (by decide) k_1_48 rfl (v := (1 : Int32)) rfl rfl (fun _ _ => rfl) (fun _ _ => Nat.le_of_ble_eq_true rfl) dX5_setWord_21 h (fun S5 H locs hW hS h => ?_)
  exact x_vret F hr hlk hW hS dX5_setWord_24 h
theorem m_inj {a1 a2 : Nat} (h : a1 ≠ a2) : xInj mDom (mAd a1 a2) := by
  intro a b n j ⟨h1, h2⟩ ⟨h3, h4⟩ he
  refine ⟨h1.trans h3.symm, ?_⟩
  unfold mAd at he
  split at he <;> split at he
  · omega
  · exact absurd he h
  · exact absurd he.symm h
  · omega
/-- Memory.setWord in a list's world: the object and its row are at the places i1, i2 -/
theorem k_setWord {p : Program} {l : Launch} {e : Env} {R : Room} {s : State} {m : MethodId} {args : Array Value} {below : List Frame} {meth : Method} {c : Code} {H : Heap} {locs : List Loc} {cells slots : Nat} {Q : State → Prop} {cc : ByteArray} {nL : Nat} {w0 : Cond} {own : String} {pc : Nat} {ls : Array Slot} {rest : List Value} {D : va_G} {cI cJ cL cN : ClassId} {ws : va_W} {H0 : Heap} {A : Nat → Prop}
    (F : CallFix p m c cc nL s args (w0 :: xG) own) (hK : xK D vwCl (cTy cI cJ cL cN) cNf cNm s) (hP : va_P D vwCl ws H) (hD : va_D A ws) (hS : va_S A H0 H locs) (i1 i2 : Nat) {a1 a2 : Nat} {S S1 : xS} {a v : Int32} (h1 : ws[i1]? = some (a1, .inr (5, [.ref a2, .int (xI S 0 0 1)]))) (h2 : ws[i2]? = some (a2, .inl (cJ, 512, .inr (.inl (xJ S 0 1))))) (hd : d5_setWord S a v = some S1) {index : Nat} (hl : Cond.methodLink own index yX5_setWord ∈ xG) (hsz : ls.size = nL) (hR : 1 ≤ R.frames ∧ 26 ≤ R.locals) (hcs : cells ≤ R.cells ∧ slots ≤ R.slots) (hrest : (rest.map fun v => v.category).sum ≤ 8) (hdg : decode cc pc = .ok (.invokevirtual index, 3))
    (kk : ∀ (H1 : Heap) (locs1 : List Loc), va_P D vwCl ((ws.set i1 (a1, .inr (5, [.ref a2, .int (xI S1 0 0 1)]))).set i2 (a2, .inl (cJ, 512, .inr (.inl (xJ S1 0 1))))) H1 → va_D A ((ws.set i1 (a1, .inr (5, [.ref a2, .int (xI S1 0 0 1)]))).set i2 (a2, .inl (cJ, 512, .inr (.inl (xJ S1 0 1))))) → va_S A H0 H1 locs1 → W p l e R s m args below meth c H1 locs1 cells slots Q (F0 m (pc + 3) ls rest)) : W p l e R s m args below meth c H locs cells slots Q (F0 m pc ls (.int v :: .int a :: .ref a1 :: rest)) := by
  have hne : i1 ≠ i2 := fun h => by subst h; rw [h1] at h2; cases h2
  have hna : a1 ≠ a2 := fun h => hne (hD.1 i1 i2 _ _ h1 h2 h)
  have hI := m_inj hna
  have hW : xW D vwCl mDom (mAd a1 a2) (mDe (mAd a1 a2) cJ) S H := by
    intro n j ⟨e1, e2⟩
    subst e1
    rcases (show j = 0 ∨ j = 1 by omega) with rfl | rfl
    · exact hP i1 _ h1
    · exact hP i2 _ h2
  have hsub : ∀ q, xA mDom (mAd a1 a2) q → A q := by
    rintro q ⟨n, j, ⟨e1, e2⟩, rfl⟩
    rcases (show j = 0 ∨ j = 1 by omega) with rfl | rfl
    · exact hD.2 i1 _ h1
    · exact hD.2 i2 _ h2
  refine x_run0 (r := none) (rest := rest) (va_runV (As := [.int a, .int v]) (rest := rest) (n := 2) (b := mAd a1 a2 0 0) F (m_d5_setWord (cI := cI) (cL := cL) (cN := cN) hI a v hd) (x_cw xG_ok F.2.2.2.2 um_X5_setWord hl rfl rfl ⟨hR.1, hR.2⟩) ⟨xPc_blind, va_recv hK.1 (hW.one md_d0 (md_0 _ _ _)) (ci := 5) (q0 := 0) rfl rfl, fun U hU hw => ⟨rfl, xK.warm hw hK, by rw [hU]; exact hW⟩⟩ rfl rfl hsz rfl (lv_room hrest) hdg hcs) hS hsub (fun H1 locs1 hW1 hz hk hS1 => ?_)
  refine kk H1 locs1 ?_ ((hD.set h1).set (e0 := .inl (cJ, 512, .inr (.inl (xJ S 0 1)))) (by rw [List.getElem?_set_ne hne]; exact h2)) hS1
  have l1 := (List.getElem?_eq_some_iff.mp h1).1
  have l2 := (List.getElem?_eq_some_iff.mp h2).1
  intro k q hkq
  by_cases hk2 : k = i2
  · subst hk2
    rw [List.getElem?_set_self (by rw [List.length_set]; exact l2)] at hkq
    cases hkq
    exact hW1 0 1 md_d1
  · rw [List.getElem?_set_ne (Ne.symm hk2)] at hkq
    by_cases hk1 : k = i1
    · subst hk1
      rw [List.getElem?_set_self l1] at hkq
      cases hkq
      exact hW1 0 0 md_d0
    · rw [List.getElem?_set_ne (Ne.symm hk1)] at hkq
      refine (hP k q hkq).kept (hk q.1 (hP k q hkq).lt ?_)
      rintro ⟨n, j, ⟨e1, e2⟩, e3⟩
      rcases (show j = 0 ∨ j = 1 by omega) with rfl | rfl
      · exact hk1 (hD.1 k i1 _ _ hkq h1 e3)
      · exact hk2 (hD.1 k i2 _ _ hkq h2 e3)
