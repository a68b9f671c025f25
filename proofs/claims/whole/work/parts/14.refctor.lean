theorem k_5_125 : Cond.methodLink "TransputerNetModel" 1 Lib.objectInit ∈ xG := xG_t5 (List.mem_of_getElem? (i := 125) (by decide +kernel)) (by decide +kernel)
theorem k_6_75 : Cond.arrayClass FieldType.byte ∈ xG := xG_t6 (List.mem_of_getElem? (i := 75) (by decide +kernel)) (by decide +kernel)
theorem k_6_76 : Cond.arrayClass FieldType.boolean ∈ xG := xG_t6 (List.mem_of_getElem? (i := 76) (by decide +kernel)) (by decide +kernel)
def rSl : List (Option Nat) := [none, none, none, some 0, some 1, some 2, some 3, some 4, some 5, some 6, some 7, some 8, some 9, some 10, some 11, some 12, some 13, some 14, some 15, some 16, some 17, some 18, some 19, some 20, some 21, some 22, some 23, some 24, some 25, some 26, some 27, some 28, some 29, some 30, some 31, some 32, some 33, some 34, some 35, some 36, some 37, some 38, some 39, some 40, some 41, some 42, some 43, some 44, some 45, some 46, some 47, some 48, some 49, some 50, some 51, some 52, some 53, some 54, some 55, none, none, none]
def rFT (z t : Nat) : List Value := rSl.map fun x => match x with | none => .int 0 | some r => if r < t then .ref (z + r) else .null
def rTb : List (Nat × Nat) := [(2, 32768), (0, 8), (0, 8), (0, 8), (0, 8), (0, 8), (0, 8), (0, 8), (0, 8), (0, 8), (0, 8), (0, 8), (1, 8), (1, 8), (1, 8), (0, 16), (0, 16), (0, 16), (1, 8), (0, 8), (0, 8), (0, 8), (0, 8), (0, 8), (0, 8), (0, 8), (0, 8), (0, 512), (0, 512), (0, 33), (0, 33), (0, 33), (0, 33), (0, 33), (0, 33), (0, 33), (0, 33), (1, 33), (1, 33), (1, 33), (0, 33), (0, 33), (0, 33), (0, 33), (0, 33), (0, 33), (0, 33), (0, 33), (1, 8), (0, 8), (0, 8), (0, 8), (0, 8), (0, 8), (2, 4096), (2, 4096)]
def rCl (cI cZ cB : ClassId) (k : Nat) : ClassId := if k = 0 then cI else if k = 1 then cZ else cB
def rInv (D : va_G) (cI cZ cB : ClassId) (q z t : Nat) (H : Heap) : Prop := va_at D vwCl (q, .inr (12, rFT z t)) H ∧ (∀ i x, i < t → rTb[i]? = some x → va_at D vwCl (z + i, .inl (rCl cI cZ cB x.1, x.2, .inl (fun _ => 0))) H) ∧ H.size = z + t ∧ q < z
def rAd (q z : Nat) : Nat → Nat → Nat := fun _ j => if j = 0 then q else z + ((rSl.getD (j - 1) none).getD 0)
theorem rA0 (q z : Nat) : xA rDom (rAd q z) q := ⟨0, 0, rd_d0, rfl⟩
theorem r_alloc {p : Program} {l : Launch} {e : Env} {R : Room} {s : State} {m : MethodId} {args : Array Value} {below : List Frame} {meth : Method} {c : Code} {H : Heap} {locs : List Loc} {cells slots : Nat} {Q : State → Prop} {cc : ByteArray} {nL : Nat} {w0 : Cond} {pc : Nat} {ls : Array Slot} {D : va_G} {nf : List xNf} {nm : List xNm} {cI cZ cB : ClassId} {q z t k index : Nat} {atype : ArrayType} {kd N' : Nat} {n : Int32} {cA : ClassId} {t0 : Nat} {ty : FieldType}
    (F : CallFix p m c cc nL s args (w0 :: xG) "TransputerNetModel") (hK : xK D vwCl (rTy cI cZ cB) nf nm s) (hty : newarray.typeOf atype = ty) (ht : (rTy cI cZ cB)[t0]? = some (cA, ty)) (hcA : cA = rCl cI cZ cB kd) (hprim : va_RA s cA ty = (s.vm.findClass ("[" ++ ty.toString) = some cA)) (hdef : defaultValue ty = .int 0) (harr : Cond.arrayClass ty ∈ xG) (hi : rInv D cI cZ cB q z t H) (hz : s.heap.size = z) (hS : va_S (xA rDom (rAd q z)) s.heap H locs) (hn : ¬ n < 0) (hN : n.toNatClampNeg = N') (hbytes : N' * componentBytes ty ≤ 536870912) (hcells : cells + 1 ≤ R.cells) (hslots : slots + N' ≤ R.slots) (hd1 : decode cc pc = .ok (.newarray atype, 2)) (htb : rTb[t]? = some (kd, N'))
    (hk : k < 62) (hl : Cond.fieldLink "TransputerNetModel" index (TX12 k).1 (TX12 k).2.1 (TX12 k).2.2.1 ∈ xG) (hfin : (TX12 k).2.2.2 = true) (hnm : meth.name = "<init>") (hdecl : (TX12 k).1 = "TransputerNetModel") (hn2 : ∀ a, narrow (tyX12 k) (.ref a) = .ref a) (hfit : ∀ a, fits (tyX12 k) (.ref a) = true) (hset : (rFT z t).set k (.ref (z + t)) = rFT z (t + 1)) (hlen : k < (rFT z t).length) (hd2 : decode cc (pc + 2) = .ok (.putfield index, 3))
    (kk : ∀ (H1 : Heap) (locs1 : List Loc), rInv D cI cZ cB q z (t + 1) H1 → va_S (xA rDom (rAd q z)) s.heap H1 locs1 → W p l e R s m args below meth c H1 locs1 (cells + 1) (slots + N') Q (F0 m (pc + 2 + 3) ls [])) : W p l e R s m args below meth c H locs cells slots Q (F0 m pc ls [.int n, .ref q]) := by
  obtain ⟨i1, i2, i3, i4⟩ := hi
  subst hty
  refine va_newaK F.1 F.2.1 (x_hts F _ harr) rfl hd1 rfl hn hN hbytes hcells hslots (h := z + t) i3 (fun H1 cB' e1 e2 e3 e4 e5 => ?_)
  have e6 : cB' = cA := by
    have e7 : s.vm.findClass ("[" ++ (newarray.typeOf atype).toString) = some cA := by rw [← hprim]; exact (hK.1.2 t0 _ ht).2
    exact Option.some.inj (e5.symm.trans e7)
  subst e6
  have hS1 : va_S (xA rDom (rAd q z)) s.heap H1 locs := ⟨by rw [e2, hz]; omega, fun x h1 h2 => by rw [e3 x (by omega)]; exact hS.2.1 x h1 h2, hS.2.2⟩
  refine k_putF0 F hK xc_X12 (i1.kept (e3 q (by omega))) k hk hl hfin hnm hdecl (hn2 _) (hfit _) hlen hS1 (rA0 q z) hd2 (fun H2 locs2 j1 z2 o2 hS2 => ?_)
  refine kk H2 locs2 ⟨by rw [← hset]; exact j1, fun i x hi hx => ?_, by rw [z2, e2]; omega, i4⟩ hS2
  by_cases h : i = t
  · subst h
    rw [htb] at hx
    cases hx
    have h3 : va_at D vwCl (z + i, .inl (cB', N', .inl (fun _ => 0))) H1 := by
      show H1[z + i]? = some (vp_cell _ _)
      rw [e1, vp_cell_i, hdef]
    rw [← hcA]
    exact h3.kept (o2 _ (by show z + i ≠ q; omega))
  · have h3 := i2 i x (by omega) hx
    have h4 := h3.lt
    dsimp only at h4
    exact (h3.kept (e3 _ (by show z + i < z + t; omega))).kept (o2 _ (by show z + i ≠ q; omega))
theorem r_world {D : va_G} {cI cZ cB : ClassId} {q z : Nat} {H : Heap} (hi : rInv D cI cZ cB q z 56 H) : xW D vwCl rDom (rAd q z) (rDe (rAd q z) cI cZ cB) xS0 H := by
  obtain ⟨i1, i2, i3, i4⟩ := hi
  intro n j ⟨h1, h2⟩
  subst h1
  have hj : j < 63 := by
    rcases h2 with rfl | h2
    · omega
    · rcases Nat.lt_or_ge j 63 with h | h
      · exact h
      · rw [List.getD_eq_getElem?_getD, List.getElem?_eq_none (by show 63 ≤ j; exact h)] at h2
        exact absurd h2 (by decide)
  match j, hj, h2 with
  | 0, _, _ => exact i1
  | 1, _, h2 => exact absurd h2 (by decide)
  | 2, _, h2 => exact absurd h2 (by decide)
  | 3, _, h2 => exact absurd h2 (by decide)
  | 4, _, _ => exact i2 0 _ (by decide) rfl
  | 5, _, _ => exact i2 1 _ (by decide) rfl
  | 6, _, _ => exact i2 2 _ (by decide) rfl
  | 7, _, _ => exact i2 3 _ (by decide) rfl
  | 8, _, _ => exact i2 4 _ (by decide) rfl
  | 9, _, _ => exact i2 5 _ (by decide) rfl
  | 10, _, _ => exact i2 6 _ (by decide) rfl
  | 11, _, _ => exact i2 7 _ (by decide) rfl
  | 12, _, _ => exact i2 8 _ (by decide) rfl
  | 13, _, _ => exact i2 9 _ (by decide) rfl
  | 14, _, _ => exact i2 10 _ (by decide) rfl
  | 15, _, _ => exact i2 11 _ (by decide) rfl
  | 16, _, _ => exact i2 12 _ (by decide) rfl
  | 17, _, _ => exact i2 13 _ (by decide) rfl
  | 18, _, _ => exact i2 14 _ (by decide) rfl
  | 19, _, _ => exact i2 15 _ (by decide) rfl
  | 20, _, _ => exact i2 16 _ (by decide) rfl
  | 21, _, _ => exact i2 17 _ (by decide) rfl
  | 22, _, _ => exact i2 18 _ (by decide) rfl
  | 23, _, _ => exact i2 19 _ (by decide) rfl
  | 24, _, _ => exact i2 20 _ (by decide) rfl
  | 25, _, _ => exact i2 21 _ (by decide) rfl
  | 26, _, _ => exact i2 22 _ (by decide) rfl
  | 27, _, _ => exact i2 23 _ (by decide) rfl
  | 28, _, _ => exact i2 24 _ (by decide) rfl
  | 29, _, _ => exact i2 25 _ (by decide) rfl
  | 30, _, _ => exact i2 26 _ (by decide) rfl
  | 31, _, _ => exact i2 27 _ (by decide) rfl
  | 32, _, _ => exact i2 28 _ (by decide) rfl
  | 33, _, _ => exact i2 29 _ (by decide) rfl
  | 34, _, _ => exact i2 30 _ (by decide) rfl
  | 35, _, _ => exact i2 31 _ (by decide) rfl
  | 36, _, _ => exact i2 32 _ (by decide) rfl
  | 37, _, _ => exact i2 33 _ (by decide) rfl
  | 38, _, _ => exact i2 34 _ (by decide) rfl
  | 39, _, _ => exact i2 35 _ (by decide) rfl
  | 40, _, _ => exact i2 36 _ (by decide) rfl
  | 41, _, _ => exact i2 37 _ (by decide) rfl
  | 42, _, _ => exact i2 38 _ (by decide) rfl
  | 43, _, _ => exact i2 39 _ (by decide) rfl
  | 44, _, _ => exact i2 40 _ (by decide) rfl
  | 45, _, _ => exact i2 41 _ (by decide) rfl
  | 46, _, _ => exact i2 42 _ (by decide) rfl
  | 47, _, _ => exact i2 43 _ (by decide) rfl
  | 48, _, _ => exact i2 44 _ (by decide) rfl
  | 49, _, _ => exact i2 45 _ (by decide) rfl
  | 50, _, _ => exact i2 46 _ (by decide) rfl
  | 51, _, _ => exact i2 47 _ (by decide) rfl
  | 52, _, _ => exact i2 48 _ (by decide) rfl
  | 53, _, _ => exact i2 49 _ (by decide) rfl
  | 54, _, _ => exact i2 50 _ (by decide) rfl
  | 55, _, _ => exact i2 51 _ (by decide) rfl
  | 56, _, _ => exact i2 52 _ (by decide) rfl
  | 57, _, _ => exact i2 53 _ (by decide) rfl
  | 58, _, _ => exact i2 54 _ (by decide) rfl
  | 59, _, _ => exact i2 55 _ (by decide) rfl
  | 60, _, h2 => exact absurd h2 (by decide)
  | 61, _, h2 => exact absurd h2 (by decide)
  | 62, _, h2 => exact absurd h2 (by decide)
  | j + 63, h, _ => exact absurd h (by omega)
theorem r_rkB : ((List.range 63).all fun j => (List.range 63).all fun k => decide ((j = 0 ∨ ¬ (rTab.getD j (9, 0)).1 < 3) ∨ (k = 0 ∨ ¬ (rTab.getD k (9, 0)).1 < 3) ∨ ¬ (rSl.getD (j - 1) none).getD 0 = (rSl.getD (k - 1) none).getD 0 ∨ j = k)) = true := by decide +kernel
theorem r_rk : ∀ j, j < 63 → ∀ k, k < 63 → (j = 0 ∨ (rTab.getD j (9, 0)).1 < 3) → (k = 0 ∨ (rTab.getD k (9, 0)).1 < 3) → j ≠ 0 → k ≠ 0 → (rSl.getD (j - 1) none).getD 0 = (rSl.getD (k - 1) none).getD 0 → j = k := by
  intro j hj k hk h1 h2 h3 h4 h5
  have h6 := List.all_eq_true.mp (List.all_eq_true.mp r_rkB j (List.mem_range.mpr hj)) k (List.mem_range.mpr hk)
  simp only [decide_eq_true_eq] at h6
  rcases h6 with (h | h) | (h | h) | h | h
  · exact absurd h h3
  · exact absurd (h1.resolve_left h3) h
  · exact absurd h h4
  · exact absurd (h2.resolve_left h4) h
  · exact absurd h5 h
  · exact h
theorem r_dom63 {n j : Nat} (h : rDom n j) : j < 63 := by
  rcases h.2 with rfl | h2
  · omega
  · rcases Nat.lt_or_ge j 63 with h | h
    · exact h
    · rw [List.getD_eq_getElem?_getD, List.getElem?_eq_none (by show 63 ≤ j; exact h)] at h2
      exact absurd h2 (by decide)
theorem r_inj {q z : Nat} (hq : q < z) : xInj rDom (rAd q z) := by
  intro a b n j h1 h2 he
  refine ⟨h1.1.trans h2.1.symm, ?_⟩
  unfold rAd at he
  by_cases e1 : b = 0 <;> by_cases e2 : j = 0
  · omega
  · rw [if_pos e1, if_neg e2] at he; omega
  · rw [if_neg e1, if_pos e2] at he; omega
  · rw [if_neg e1, if_neg e2] at he
    exact r_rk b (r_dom63 h1) j (r_dom63 h2) h1.2 h2.2 e1 e2 (by omega)
theorem x_putFi {p : Program} {l : Launch} {e : Env} {R : Room} {s : State} {m : MethodId} {args : Array Value} {below : List Frame} {meth : Method} {c : Code} {H : Heap} {locs : List Loc} {cells slots : Nat} {Q : State → Prop} {cc : ByteArray} {nL : Nat} {w0 : Cond} {G : List Cond} {own : String} {pc : Nat} {ls : Array Slot} {rest : List Value} {D : va_G} {cl : List vw_C} {tys : List (ClassId × FieldType)} {nf : List xNf} {nm : List xNm} {dom : Nat → Nat → Prop} {ad : Nat → Nat → Nat} {de : xDe} {S : xS} {H0 : Heap}
    (F : CallFix p m c cc nL s args (w0 :: G) own) {C : String} {T : u_T} {ty : Nat → FieldType} {N ci index n j : Nat} {fs : (Nat → Int32) → Option (Nat × Nat) → List Value} (hK : xK D cl tys nf nm s) (hI : xInj dom ad) (hW : xW D cl dom ad de S H) (hS : va_S (xA dom ad) H0 H locs) (B : xCls G cl ci C T ty N) (hd : dom n j) (he : ∀ i q e, de i q e n j = .inr (ci, fs i e)) (k : Nat) (hk : k < N) (hl : Cond.fieldLink own index (T k).1 (T k).2.1 (T k).2.2.1 ∈ G) (hfin : (T k).2.2.2 = true) (hnm : meth.name = "<init>") (hdecl : (T k).1 = own) {v : Int32} (hn : narrow (ty k) (.int v) = .int v) (hfit : fits (ty k) (.int v) = true) (hset : ∀ i e, fs (upd i k v) e = (fs i e).set k (.int v)) (hlen : ∀ i e, k < (fs i e).length) (hdg : decode cc pc = .ok (.putfield index, 3))
    {α : Type} {body : xS → Option α} {o : α} (h : xnm (sI S n j k v) body = some o)
    (kk : ∀ (S1 : xS) (H1 : Heap) (locs1 : List Loc), xW D cl dom ad de S1 H1 → va_S (xA dom ad) H0 H1 locs1 → body S1 = some o → W p l e R s m args below meth c H1 locs1 cells slots Q (F0 m (pc + 3) ls rest)) : W p l e R s m args below meth c H locs cells slots Q (F0 m pc ls (.int v :: .ref (ad n j) :: rest)) := by
  have hat := hW n j hd
  rw [he] at hat
  refine k_putF0 F hK B hat k hk hl hfin hnm hdecl hn hfit (hlen _ _) hS ⟨n, j, hd, rfl⟩ hdg (fun H1 locs1 j1 z1 o1 hS1 => ?_)
  refine kk _ H1 locs1 (hW.set (S' := sI S n j k v) hI hd (fun a b h => ⟨sI_off S n j k v h, rfl, rfl⟩) ?_ o1) hS1 h
  rw [sI_at, he, hset]
  exact j1
def r_init_b589 : Nat → Int32 → xS → Option (xS)
  | 0, _, _ => none
  | fu + 1, v2, S => if (33 : Int32) ≤ v2 then (some S) else (gd v2 33 (xnm (sI S 0 33 (v2).toNatClampNeg (-1 : Int32)) (fun S7 => gd v2 33 (xnm (sI S7 0 44 (v2).toNatClampNeg (-1 : Int32)) (fun S8 => gd v2 33 (xnm (sI S8 0 47 (v2).toNatClampNeg (-1 : Int32)) (fun S9 => gd v2 33 (xnm (sI S9 0 50 (v2).toNatClampNeg (-1 : Int32)) (fun S10 => gd v2 33 (xnm (sI S10 0 51 (v2).toNatClampNeg (-1 : Int32)) (fun S11 => (r_init_b589 fu) (v2 + (1 : Int32)) S11)))))))))))
set_option maxHeartbeats 4000000 in
set_option maxRecDepth 100000 in
theorem m_r_init_b589 {l : Launch} {D : va_G} {cI cZ cB : ClassId} {ad : Nat → Nat → Nat} (hI : xInj rDom ad) {p : Program} {e : Env} {s : State} {m : MethodId} {args : Array Value} {below : List Frame} {meth : Method} {c : Code} (F : CallFix p m c cX12_init 4 s args (Cond.code yX12_init cX12_init 4 none :: xG) (yX12_init).cls) (hr : meth.sig.returnType = none) (hlk : meth.locks = false) (hK : xK D vwCl (rTy cI cZ cB) [] [] s) (hnm : meth.name = "<init>") {o : xS} : ∀ (fu : Nat) (v2 : Int32) (S : xS) {H : Heap} {locs : List Loc} {ls : Array Slot}, r_init_b589 fu v2 S = some o → xW D vwCl rDom ad (rDe ad cI cZ cB) S H → va_S (xA rDom ad) s.heap H locs → lv_has ls 4 [(0, .ref (ad 0 0)), (2, .int v2)] → W p l e { frames := 1, cells := 56, slots := 42891, locals := 20 } s m args below meth c H locs 56 42891 (MQ below (xQ D vwCl rDom ad (rDe ad cI cZ cB) none o) args s 56 42891 (xA rDom ad)) (F0 m 589 ls []) := by
  have hx := F.1
  have hb := F.2.1
  intro fu
  induction fu with
  | zero =>
    intro v2 S H locs ls h
    simp [r_init_b589] at h
  | succ fu ih =>
    intro v2 S H locs ls h hW hS hl
    have hk589 := fun v2 S H locs ls (h : r_init_b589 fu v2 S = some o) hW hS hl => ih v2 S (H := H) (locs := locs) (ls := ls) h hW hS hl
    rw [r_init_b589] at h
    refine lv_iload_n hx hb dX12_init_589 rfl (lv_at hl 1 rfl) ?_
    refine lv_bipush (v := (33 : Int32)) hx hb dX12_init_590 (by decide) ?_
    refine lv_icmp_ge (tgt := 636) hx hb dX12_init_592 (by decide) (fun c_6 => ?_) (fun c_6 => ?_)
    · replace h := (if_pos c_6).symm.trans h
      exact x_vret F hr hlk hW hS dX12_init_636 h
    replace h := (if_neg c_6).symm.trans h
    refine lv_aload_n hx hb dX12_init_595 rfl (lv_at hl 0 rfl) ?_
    refine x_get F hK hW xc_X12 rd_d0 rd_0 32 (by decide) k_5_160 (gf_X12_32 _ _) dX12_init_596 ?_
    refine lv_iload_n hx hb dX12_init_599 rfl (lv_at hl 1 rfl) ?_
    refine lv_iconst (v := (-1 : Int32)) hx hb dX12_init_600 (by decide) ?_
    refine x_iast (t0 := 0) F hK hI hW hS rd_d33 rd_33 rfl dX12_init_601 h (fun S7 H locs hW hS h => ?_)
    refine lv_aload_n hx hb dX12_init_602 rfl (lv_at hl 0 rfl) ?_
    refine x_get F hK hW xc_X12 rd_d0 rd_0 43 (by decide) k_5_171 (gf_X12_43 _ _) dX12_init_603 ?_
    refine lv_iload_n hx hb dX12_init_606 rfl (lv_at hl 1 rfl) ?_
    refine lv_iconst (v := (-1 : Int32)) hx hb dX12_init_607 (by decide) ?_
    refine x_iast (t0 := 0) F hK hI hW hS rd_d44 rd_44 rfl dX12_init_608 h (fun S8 H locs hW hS h => ?_)
    refine lv_aload_n hx hb dX12_init_609 rfl (lv_at hl 0 rfl) ?_
    refine x_get F hK hW xc_X12 rd_d0 rd_0 46 (by decide) k_5_174 (gf_X12_46 _ _) dX12_init_610 ?_
    refine lv_iload_n hx hb dX12_init_613 rfl (lv_at hl 1 rfl) ?_
    refine lv_iconst (v := (-1 : Int32)) hx hb dX12_init_614 (by decide) ?_
    refine x_iast (t0 := 0) F hK hI hW hS rd_d47 rd_47 rfl dX12_init_615 h (fun S9 H locs hW hS h => ?_)
    refine lv_aload_n hx hb dX12_init_616 rfl (lv_at hl 0 rfl) ?_
    refine x_get F hK hW xc_X12 rd_d0 rd_0 49 (by decide) k_5_177 (gf_X12_49 _ _) dX12_init_617 ?_
    refine lv_iload_n hx hb dX12_init_620 rfl (lv_at hl 1 rfl) ?_
    refine lv_iconst (v := (-1 : Int32)) hx hb dX12_init_621 (by decide) ?_
    refine x_iast (t0 := 0) F hK hI hW hS rd_d50 rd_50 rfl dX12_init_622 h (fun S10 H locs hW hS h => ?_)
    refine lv_aload_n hx hb dX12_init_623 rfl (lv_at hl 0 rfl) ?_
    refine x_get F hK hW xc_X12 rd_d0 rd_0 50 (by decide) k_5_178 (gf_X12_50 _ _) dX12_init_624 ?_
    refine lv_iload_n hx hb dX12_init_627 rfl (lv_at hl 1 rfl) ?_
    refine lv_iconst (v := (-1 : Int32)) hx hb dX12_init_628 (by decide) ?_
    refine x_iast (t0 := 0) F hK hI hW hS rd_d51 rd_51 rfl dX12_init_629 h (fun S11 H locs hW hS h => ?_)
    refine lv_iinc (v := (v2 + (1 : Int32))) (lv' := [(2, .int (v2 + (1 : Int32))), (0, .ref (ad 0 0))]) hx hb dX12_init_630 hl (k := 1) rfl rfl (by decide) rfl (fun ls hl => ?_)
    refine lv_goto (tgt := 589) hx hb dX12_init_633 (by decide) ?_
    exact hk589 _ _ _ _ _ h hW hS (lv_sub hl [1, 0] rfl)
def r_init_b559 : Nat → Int32 → xS → Option (xS)
  | 0, _, _ => none
  | fu + 1, v2, S => if (16 : Int32) ≤ v2 then (r_init_b589  (100000) (0 : Int32) S) else (gd v2 16 (xnm (sI S 0 19 (v2).toNatClampNeg (32768 : Int32)) (fun S12 => gd v2 16 (xnm (sI S12 0 20 (v2).toNatClampNeg (32768 : Int32)) (fun S13 => (r_init_b559 fu) (v2 + (1 : Int32)) S13)))))
set_option maxHeartbeats 4000000 in
set_option maxRecDepth 100000 in
theorem m_r_init_b559 {l : Launch} {D : va_G} {cI cZ cB : ClassId} {ad : Nat → Nat → Nat} (hI : xInj rDom ad) {p : Program} {e : Env} {s : State} {m : MethodId} {args : Array Value} {below : List Frame} {meth : Method} {c : Code} (F : CallFix p m c cX12_init 4 s args (Cond.code yX12_init cX12_init 4 none :: xG) (yX12_init).cls) (hr : meth.sig.returnType = none) (hlk : meth.locks = false) (hK : xK D vwCl (rTy cI cZ cB) [] [] s) (hnm : meth.name = "<init>") {o : xS} : ∀ (fu : Nat) (v2 : Int32) (S : xS) {H : Heap} {locs : List Loc} {ls : Array Slot}, r_init_b559 fu v2 S = some o → xW D vwCl rDom ad (rDe ad cI cZ cB) S H → va_S (xA rDom ad) s.heap H locs → lv_has ls 4 [(0, .ref (ad 0 0)), (2, .int v2)] → W p l e { frames := 1, cells := 56, slots := 42891, locals := 20 } s m args below meth c H locs 56 42891 (MQ below (xQ D vwCl rDom ad (rDe ad cI cZ cB) none o) args s 56 42891 (xA rDom ad)) (F0 m 559 ls []) := by
  have hx := F.1
  have hb := F.2.1
  intro fu
  induction fu with
  | zero =>
    intro v2 S H locs ls h
    simp [r_init_b559] at h
  | succ fu ih =>
    intro v2 S H locs ls h hW hS hl
    have hk559 := fun v2 S H locs ls (h : r_init_b559 fu v2 S = some o) hW hS hl => ih v2 S (H := H) (locs := locs) (ls := ls) h hW hS hl
    rw [r_init_b559] at h
    refine lv_iload_n hx hb dX12_init_559 rfl (lv_at hl 1 rfl) ?_
    refine lv_bipush (v := (16 : Int32)) hx hb dX12_init_560 (by decide) ?_
    refine lv_icmp_ge (tgt := 587) hx hb dX12_init_562 (by decide) (fun c_5 => ?_) (fun c_5 => ?_)
    · replace h := (if_pos c_5).symm.trans h
      refine lv_iconst (v := (0 : Int32)) hx hb dX12_init_587 (by decide) ?_
      refine lv_istore_n (lv' := [(2, .int (0 : Int32)), (0, .ref (ad 0 0))]) hx hb dX12_init_588 rfl hl (by decide) rfl (fun ls hl => ?_)
      exact m_r_init_b589 hI  F hr hlk hK hnm (100000) _ _ h hW hS (lv_sub hl [1, 0] rfl)
    replace h := (if_neg c_5).symm.trans h
    refine lv_aload_n hx hb dX12_init_565 rfl (lv_at hl 0 rfl) ?_
    refine x_get F hK hW xc_X12 rd_d0 rd_0 18 (by decide) k_5_146 (gf_X12_18 _ _) dX12_init_566 ?_
    refine lv_iload_n hx hb dX12_init_569 rfl (lv_at hl 1 rfl) ?_
    refine lv_ldc (v := (32768 : Int32)) hx hb F.2.2.2.1 (x_hts F _ k_5_126) dX12_init_570 ?_
    refine x_iast (t0 := 0) F hK hI hW hS rd_d19 rd_19 rfl dX12_init_572 h (fun S12 H locs hW hS h => ?_)
    refine lv_aload_n hx hb dX12_init_573 rfl (lv_at hl 0 rfl) ?_
    refine x_get F hK hW xc_X12 rd_d0 rd_0 19 (by decide) k_5_147 (gf_X12_19 _ _) dX12_init_574 ?_
    refine lv_iload_n hx hb dX12_init_577 rfl (lv_at hl 1 rfl) ?_
    refine lv_ldc (v := (32768 : Int32)) hx hb F.2.2.2.1 (x_hts F _ k_5_126) dX12_init_578 ?_
    refine x_iast (t0 := 0) F hK hI hW hS rd_d20 rd_20 rfl dX12_init_580 h (fun S13 H locs hW hS h => ?_)
    refine lv_iinc (v := (v2 + (1 : Int32))) (lv' := [(2, .int (v2 + (1 : Int32))), (0, .ref (ad 0 0))]) hx hb dX12_init_581 hl (k := 1) rfl rfl (by decide) rfl (fun ls hl => ?_)
    refine lv_goto (tgt := 559) hx hb dX12_init_584 (by decide) ?_
    exact hk559 _ _ _ _ _ h hW hS (lv_sub hl [1, 0] rfl)
def r_init_b520 (K483 : Int32 → xS → Option (xS)) : Nat → Int32 → Int32 → xS → Option (xS)
  | 0, _, _, _ => none
  | fu + 1, v2, v3, S => if (32804 : Int32) ≤ v3 then (K483 (v2 + (1 : Int32)) S) else (gd (((((4096 : Int32) * v2) + v3) - (32768 : Int32)) + (1 : Int32)) 32768 (xnm (sI S 0 4 ((((((4096 : Int32) * v2) + v3) - (32768 : Int32)) + (1 : Int32))).toNatClampNeg (vp_nar .byte (-128 : Int32))) (fun S19 => (r_init_b520 K483 fu) v2 (v3 + (2 : Int32)) S19)))
set_option maxHeartbeats 4000000 in
set_option maxRecDepth 100000 in
theorem m_r_init_b520 {l : Launch} {D : va_G} {cI cZ cB : ClassId} {ad : Nat → Nat → Nat} (hI : xInj rDom ad) {p : Program} {e : Env} {s : State} {m : MethodId} {args : Array Value} {below : List Frame} {meth : Method} {c : Code} (F : CallFix p m c cX12_init 4 s args (Cond.code yX12_init cX12_init 4 none :: xG) (yX12_init).cls) (hr : meth.sig.returnType = none) (hlk : meth.locks = false) (hK : xK D vwCl (rTy cI cZ cB) [] [] s) (hnm : meth.name = "<init>") {o : xS} {K483 : Int32 → xS → Option (xS)} (hk483 : ∀ (v2 : Int32) (S : xS) (H : Heap) (locs : List Loc) (ls : Array Slot), K483 v2 S = some o → xW D vwCl rDom ad (rDe ad cI cZ cB) S H → va_S (xA rDom ad) s.heap H locs → lv_has ls 4 [(0, .ref (ad 0 0)), (2, .int v2)] → W p l e { frames := 1, cells := 56, slots := 42891, locals := 20 } s m args below meth c H locs 56 42891 (MQ below (xQ D vwCl rDom ad (rDe ad cI cZ cB) none o) args s 56 42891 (xA rDom ad)) (F0 m 483 ls [])) : ∀ (fu : Nat) (v2 : Int32) (v3 : Int32) (S : xS) {H : Heap} {locs : List Loc} {ls : Array Slot}, r_init_b520 K483 fu v2 v3 S = some o → xW D vwCl rDom ad (rDe ad cI cZ cB) S H → va_S (xA rDom ad) s.heap H locs → lv_has ls 4 [(0, .ref (ad 0 0)), (2, .int v2), (3, .int v3)] → W p l e { frames := 1, cells := 56, slots := 42891, locals := 20 } s m args below meth c H locs 56 42891 (MQ below (xQ D vwCl rDom ad (rDe ad cI cZ cB) none o) args s 56 42891 (xA rDom ad)) (F0 m 520 ls []) := by
  have hx := F.1
  have hb := F.2.1
  intro fu
  induction fu with
  | zero =>
    intro v2 v3 S H locs ls h
    simp [r_init_b520] at h
  | succ fu ih =>
    intro v2 v3 S H locs ls h hW hS hl
    have hk520 := fun v2 v3 S H locs ls (h : r_init_b520 K483 fu v2 v3 S = some o) hW hS hl => ih v2 v3 S (H := H) (locs := locs) (ls := ls) h hW hS hl
    rw [r_init_b520] at h
    refine lv_iload_n hx hb dX12_init_520 rfl (lv_at hl 2 rfl) ?_
    refine lv_ldc (v := (32804 : Int32)) hx hb F.2.2.2.1 (x_hts F _ k_5_127) dX12_init_521 ?_
    refine lv_icmp_ge (tgt := 551) hx hb dX12_init_523 (by decide) (fun c_18 => ?_) (fun c_18 => ?_)
    · replace h := (if_pos c_18).symm.trans h
      refine lv_iinc (v := (v2 + (1 : Int32))) (lv' := [(2, .int (v2 + (1 : Int32))), (0, .ref (ad 0 0)), (3, .int v3)]) hx hb dX12_init_551 hl (k := 1) rfl rfl (by decide) rfl (fun ls hl => ?_)
      refine lv_goto (tgt := 483) hx hb dX12_init_554 (by decide) ?_
      exact hk483 _ _ _ _ _ h hW hS (lv_sub hl [1, 0] rfl)
    replace h := (if_neg c_18).symm.trans h
    refine lv_aload_n hx hb dX12_init_526 rfl (lv_at hl 0 rfl) ?_
    refine x_get F hK hW xc_X12 rd_d0 rd_0 3 (by decide) k_5_131 (gf_X12_3 _ _) dX12_init_527 ?_
    refine lv_sipush (v := (4096 : Int32)) hx hb dX12_init_530 (by decide) ?_
    refine lv_iload_n hx hb dX12_init_533 rfl (lv_at hl 1 rfl) ?_
    refine lv_imul hx hb dX12_init_534 ?_
    refine lv_iload_n hx hb dX12_init_535 rfl (lv_at hl 2 rfl) ?_
    refine lv_iadd hx hb dX12_init_536 ?_
    refine lv_ldc (v := (32768 : Int32)) hx hb F.2.2.2.1 (x_hts F _ k_5_126) dX12_init_537 ?_
    refine lv_isub hx hb dX12_init_539 ?_
    refine lv_iconst (v := (1 : Int32)) hx hb dX12_init_540 (by decide) ?_
    refine lv_iadd hx hb dX12_init_541 ?_
    refine lv_bipush (v := (-128 : Int32)) hx hb dX12_init_542 (by decide) ?_
    refine x_bast (t0 := 2) F hK hI hW hS rd_d4 rd_4 rfl dX12_init_544 h (fun S19 H locs hW hS h => ?_)
    refine lv_iinc (v := (v3 + (2 : Int32))) (lv' := [(3, .int (v3 + (2 : Int32))), (0, .ref (ad 0 0)), (2, .int v2)]) hx hb dX12_init_545 hl (k := 2) rfl rfl (by decide) rfl (fun ls hl => ?_)
    refine lv_goto (tgt := 520) hx hb dX12_init_548 (by decide) ?_
    exact hk520 _ _ _ _ _ _ h hW hS (lv_sub hl [1, 2, 0] rfl)
def r_init_b483 : Nat → Int32 → xS → Option (xS)
  | 0, _, _ => none
  | fu + 1, v2, S => if (8 : Int32) ≤ v2 then (r_init_b559  (100000) (0 : Int32) S) else (gd v2 8 (xnm (sI S 0 11 (v2).toNatClampNeg (2 : Int32)) (fun S14 => gd v2 8 (xnm (sI S14 0 52 (v2).toNatClampNeg (vp_nar .boolean (1 : Int32))) (fun S15 => gd v2 8 (xnm (sI S15 0 53 (v2).toNatClampNeg (-1 : Int32)) (fun S16 => gd v2 8 (xnm (sI S16 0 54 (v2).toNatClampNeg (-1 : Int32)) (fun S17 => r_init_b520  (r_init_b483 fu) (100000) v2 (32768 : Int32) S17)))))))))
set_option maxHeartbeats 4000000 in
set_option maxRecDepth 100000 in
theorem m_r_init_b483 {l : Launch} {D : va_G} {cI cZ cB : ClassId} {ad : Nat → Nat → Nat} (hI : xInj rDom ad) {p : Program} {e : Env} {s : State} {m : MethodId} {args : Array Value} {below : List Frame} {meth : Method} {c : Code} (F : CallFix p m c cX12_init 4 s args (Cond.code yX12_init cX12_init 4 none :: xG) (yX12_init).cls) (hr : meth.sig.returnType = none) (hlk : meth.locks = false) (hK : xK D vwCl (rTy cI cZ cB) [] [] s) (hnm : meth.name = "<init>") {o : xS} : ∀ (fu : Nat) (v2 : Int32) (S : xS) {H : Heap} {locs : List Loc} {ls : Array Slot}, r_init_b483 fu v2 S = some o → xW D vwCl rDom ad (rDe ad cI cZ cB) S H → va_S (xA rDom ad) s.heap H locs → lv_has ls 4 [(0, .ref (ad 0 0)), (2, .int v2)] → W p l e { frames := 1, cells := 56, slots := 42891, locals := 20 } s m args below meth c H locs 56 42891 (MQ below (xQ D vwCl rDom ad (rDe ad cI cZ cB) none o) args s 56 42891 (xA rDom ad)) (F0 m 483 ls []) := by
  have hx := F.1
  have hb := F.2.1
  intro fu
  induction fu with
  | zero =>
    intro v2 S H locs ls h
    simp [r_init_b483] at h
  | succ fu ih =>
    intro v2 S H locs ls h hW hS hl
    have hk483 := fun v2 S H locs ls (h : r_init_b483 fu v2 S = some o) hW hS hl => ih v2 S (H := H) (locs := locs) (ls := ls) h hW hS hl
    rw [r_init_b483] at h
    refine lv_iload_n hx hb dX12_init_483 rfl (lv_at hl 1 rfl) ?_
    refine lv_bipush (v := (8 : Int32)) hx hb dX12_init_484 (by decide) ?_
    refine lv_icmp_ge (tgt := 557) hx hb dX12_init_486 (by decide) (fun c_4 => ?_) (fun c_4 => ?_)
    · replace h := (if_pos c_4).symm.trans h
      refine lv_iconst (v := (0 : Int32)) hx hb dX12_init_557 (by decide) ?_
      refine lv_istore_n (lv' := [(2, .int (0 : Int32)), (0, .ref (ad 0 0))]) hx hb dX12_init_558 rfl hl (by decide) rfl (fun ls hl => ?_)
      exact m_r_init_b559 hI  F hr hlk hK hnm (100000) _ _ h hW hS (lv_sub hl [1, 0] rfl)
    replace h := (if_neg c_4).symm.trans h
    refine lv_aload_n hx hb dX12_init_489 rfl (lv_at hl 0 rfl) ?_
    refine x_get F hK hW xc_X12 rd_d0 rd_0 10 (by decide) k_5_138 (gf_X12_10 _ _) dX12_init_490 ?_
    refine lv_iload_n hx hb dX12_init_493 rfl (lv_at hl 1 rfl) ?_
    refine lv_iconst (v := (2 : Int32)) hx hb dX12_init_494 (by decide) ?_
    refine x_iast (t0 := 0) F hK hI hW hS rd_d11 rd_11 rfl dX12_init_495 h (fun S14 H locs hW hS h => ?_)
    refine lv_aload_n hx hb dX12_init_496 rfl (lv_at hl 0 rfl) ?_
    refine x_get F hK hW xc_X12 rd_d0 rd_0 51 (by decide) k_5_179 (gf_X12_51 _ _) dX12_init_497 ?_
    refine lv_iload_n hx hb dX12_init_500 rfl (lv_at hl 1 rfl) ?_
    refine lv_iconst (v := (1 : Int32)) hx hb dX12_init_501 (by decide) ?_
    refine x_zast (t0 := 1) F hK hI hW hS rd_d52 rd_52 rfl dX12_init_502 h (fun S15 H locs hW hS h => ?_)
    refine lv_aload_n hx hb dX12_init_503 rfl (lv_at hl 0 rfl) ?_
    refine x_get F hK hW xc_X12 rd_d0 rd_0 52 (by decide) k_5_180 (gf_X12_52 _ _) dX12_init_504 ?_
    refine lv_iload_n hx hb dX12_init_507 rfl (lv_at hl 1 rfl) ?_
    refine lv_iconst (v := (-1 : Int32)) hx hb dX12_init_508 (by decide) ?_
    refine x_iast (t0 := 0) F hK hI hW hS rd_d53 rd_53 rfl dX12_init_509 h (fun S16 H locs hW hS h => ?_)
    refine lv_aload_n hx hb dX12_init_510 rfl (lv_at hl 0 rfl) ?_
    refine x_get F hK hW xc_X12 rd_d0 rd_0 53 (by decide) k_5_181 (gf_X12_53 _ _) dX12_init_511 ?_
    refine lv_iload_n hx hb dX12_init_514 rfl (lv_at hl 1 rfl) ?_
    refine lv_iconst (v := (-1 : Int32)) hx hb dX12_init_515 (by decide) ?_
    refine x_iast (t0 := 0) F hK hI hW hS rd_d54 rd_54 rfl dX12_init_516 h (fun S17 H locs hW hS h => ?_)
    refine lv_ldc (v := (32768 : Int32)) hx hb F.2.2.2.1 (x_hts F _ k_5_126) dX12_init_517 ?_
    refine lv_istore_n (lv' := [(3, .int (32768 : Int32)), (0, .ref (ad 0 0)), (2, .int v2)]) hx hb dX12_init_519 rfl hl (by decide) rfl (fun ls hl => ?_)
    exact m_r_init_b520 hI  F hr hlk hK hnm hk483 (100000) _ _ _ h hW hS (lv_sub hl [1, 2, 0] rfl)
def r_init_b478 (t0 : Int32) (S : xS) : Option (xS) := xnm (sI S 0 0 1 t0) (fun S3 => r_init_b483  (100000) (0 : Int32) S3)
set_option maxHeartbeats 4000000 in
set_option maxRecDepth 100000 in
theorem m_r_init_b478 {l : Launch} {D : va_G} {cI cZ cB : ClassId} {ad : Nat → Nat → Nat} (hI : xInj rDom ad) {p : Program} {e : Env} {s : State} {m : MethodId} {args : Array Value} {below : List Frame} {meth : Method} {c : Code} (F : CallFix p m c cX12_init 4 s args (Cond.code yX12_init cX12_init 4 none :: xG) (yX12_init).cls) (hr : meth.sig.returnType = none) (hlk : meth.locks = false) (hK : xK D vwCl (rTy cI cZ cB) [] [] s) (hnm : meth.name = "<init>") {o : xS} (t0 : Int32) (S : xS) {H : Heap} {locs : List Loc} {ls : Array Slot} (h : r_init_b478 t0 S = some o) (hW : xW D vwCl rDom ad (rDe ad cI cZ cB) S H) (hS : va_S (xA rDom ad) s.heap H locs) (hl : lv_has ls 4 [(0, .ref (ad 0 0))]) : W p l e { frames := 1, cells := 56, slots := 42891, locals := 20 } s m args below meth c H locs 56 42891 (MQ below (xQ D vwCl rDom ad (rDe ad cI cZ cB) none o) args s 56 42891 (xA rDom ad)) (F0 m 478 ls [.int t0, .ref (ad 0 0)]) := by
  have hx := F.1
  have hb := F.2.1
  unfold r_init_b478 at h
  refine x_putFi F hK hI hW hS xc_X12 rd_d0 rd_0 1 (by decide) k_5_129 rfl hnm rfl (v := t0) rfl rfl (fun _ _ => rfl) (fun _ _ => Nat.le_of_ble_eq_true rfl) dX12_init_478 h (fun S3 H locs hW hS h => ?_)
  refine lv_iconst (v := (0 : Int32)) hx hb dX12_init_481 (by decide) ?_
  refine lv_istore_n (lv' := [(2, .int (0 : Int32)), (0, .ref (ad 0 0))]) hx hb dX12_init_482 rfl hl (by decide) rfl (fun ls hl => ?_)
  exact m_r_init_b483 hI  F hr hlk hK hnm (100000) _ _ h hW hS (lv_sub hl [1, 0] rfl)
def r_init_b456 (v1 : Int32) (S : xS) : Option (xS) := if (1 : Int32) ≤ v1 then (if v1 ≤ (8 : Int32) then (r_init_b478  v1 S) else (r_init_b478  (8 : Int32) S)) else (r_init_b478  (1 : Int32) S)
set_option maxHeartbeats 4000000 in
set_option maxRecDepth 100000 in
theorem m_r_init_b456 {l : Launch} {D : va_G} {cI cZ cB : ClassId} {ad : Nat → Nat → Nat} (hI : xInj rDom ad) {p : Program} {e : Env} {s : State} {m : MethodId} {args : Array Value} {below : List Frame} {meth : Method} {c : Code} (F : CallFix p m c cX12_init 4 s args (Cond.code yX12_init cX12_init 4 none :: xG) (yX12_init).cls) (hr : meth.sig.returnType = none) (hlk : meth.locks = false) (hK : xK D vwCl (rTy cI cZ cB) [] [] s) (hnm : meth.name = "<init>") {o : xS} (v1 : Int32) (S : xS) {H : Heap} {locs : List Loc} {ls : Array Slot} (h : r_init_b456 v1 S = some o) (hW : xW D vwCl rDom ad (rDe ad cI cZ cB) S H) (hS : va_S (xA rDom ad) s.heap H locs) (hl : lv_has ls 4 [(0, .ref (ad 0 0)), (1, .int v1)]) : W p l e { frames := 1, cells := 56, slots := 42891, locals := 20 } s m args below meth c H locs 56 42891 (MQ below (xQ D vwCl rDom ad (rDe ad cI cZ cB) none o) args s 56 42891 (xA rDom ad)) (F0 m 456 ls []) := by
  have hx := F.1
  have hb := F.2.1
  unfold r_init_b456 at h
  refine lv_aload_n hx hb dX12_init_456 rfl (lv_at hl 0 rfl) ?_
  refine lv_iload_n hx hb dX12_init_457 rfl (lv_at hl 1 rfl) ?_
  refine lv_iconst (v := (1 : Int32)) hx hb dX12_init_458 (by decide) ?_
  refine lv_icmp_ge (tgt := 466) hx hb dX12_init_459 (by decide) (fun c_1 => ?_) (fun c_1 => ?_)
  · replace h := (if_pos c_1).symm.trans h
    refine lv_iload_n hx hb dX12_init_466 rfl (lv_at hl 1 rfl) ?_
    refine lv_bipush (v := (8 : Int32)) hx hb dX12_init_467 (by decide) ?_
    refine lv_icmp_le (tgt := 477) hx hb dX12_init_469 (by decide) (fun c_2 => ?_) (fun c_2 => ?_)
    · replace h := (if_pos c_2).symm.trans h
      refine lv_iload_n hx hb dX12_init_477 rfl (lv_at hl 1 rfl) ?_
      exact m_r_init_b478 hI  F hr hlk hK hnm _ _ h hW hS (lv_sub hl [0] rfl)
    replace h := (if_neg c_2).symm.trans h
    refine lv_bipush (v := (8 : Int32)) hx hb dX12_init_472 (by decide) ?_
    refine lv_goto (tgt := 478) hx hb dX12_init_474 (by decide) ?_
    exact m_r_init_b478 hI  F hr hlk hK hnm _ _ h hW hS (lv_sub hl [0] rfl)
  replace h := (if_neg c_1).symm.trans h
  refine lv_iconst (v := (1 : Int32)) hx hb dX12_init_462 (by decide) ?_
  refine lv_goto (tgt := 478) hx hb dX12_init_463 (by decide) ?_
  exact m_r_init_b478 hI  F hr hlk hK hnm _ _ h hW hS (lv_sub hl [0] rfl)
set_option maxHeartbeats 4000000 in
set_option maxRecDepth 100000 in
/-- TransputerNetModel(int) -/
theorem k_X12_init (l : Launch) (D : va_G) (cI cZ cB : ClassId) (q : Nat) (a1 : Int32) (sz : Nat) (hq : q < sz) {o : xS} (h : r_init_b456 a1 xS0 = some o) : Met l yX12_init (Cond.code yX12_init cX12_init 4 none :: xG) { frames := 1, cells := 56, slots := 42891, locals := 20 } (kPc D vwCl (rTy cI cZ cB) [] [] [.ref q, .int a1] sz [(q, .inr (12, rFT sz 0))]) (xQ D vwCl rDom (rAd q sz) (rDe (rAd q sz) cI cZ cB) none o) 56 42891 (xA rDom (rAd q sz)) := by
  refine Met.ofW (cc := cX12_init) (maxL := 4) (ret := none) (by decide) rfl ?_
  intro p e s m args below meth c s₁ B hml hv
  obtain ⟨rfl, hK, hsz, hP, hD⟩ := hv
  have hl := lv_entry ([.ref q, .int a1]) (n := 4) (Nat.le_of_ble_eq_true rfl)
  rw [lg_entry_eq]
  have F : CallFix p m c cX12_init 4 s ([.ref q, .int a1] : List Value).toArray (Cond.code yX12_init cX12_init 4 none :: xG) "TransputerNetModel" := ⟨B.exec, B.bytes, hml, findClass_of_methodNamed B.named, atoms_spec (ws := Cond.code yX12_init cX12_init 4 none :: xG) B.pre⟩
  have hr := B.returns
  have hlk := B.notSynchronized
  have hnm : meth.name = "<init>" := (name_of_methodNamed B.named B.method).1
  generalize (lg_sl ([.ref q, .int a1]) ++ List.replicate (4 - (lg_sl ([.ref q, .int a1])).length) Slot.unset).toArray = ls at hl ⊢
  have hl : lv_has ls 4 [(0, .ref q), (1, .int a1)] := hl
  have hx := F.1
  have hb := F.2.1
  have hi : rInv D cI cZ cB q sz 0 s.heap := ⟨hP 0 _ rfl, fun i x h => absurd h (by omega), by rw [hsz]; rfl, hq⟩
  have hS : va_S (xA rDom (rAd q sz)) s.heap s.heap [] := va_S.rf
  refine lv_aload_n hx hb dX12_init_0 rfl (lv_at hl 0 rfl) ?_
  refine k_obj F k_5_125 k_objM k_objC hl.1 dX12_init_1 (Nat.le_of_ble_eq_true rfl) (Nat.le_of_ble_eq_true rfl) (Nat.le_of_ble_eq_true rfl) ?_
  refine lv_aload_n hx hb dX12_init_4 rfl (lv_at hl 0 rfl) ?_
  refine lv_ldc (v := (32768 : Int32)) hx hb F.2.2.2.1 (x_hts F _ k_5_126) dX12_init_5 ?_
  refine r_alloc (ty := .byte) (t0 := 2) (kd := 2) (N' := 32768) (t := 0) (k := 3) F hK rfl rfl rfl rfl rfl k_6_75 hi hsz hS (by decide) (by decide) (by decide) (Nat.le_of_ble_eq_true rfl) (Nat.le_of_ble_eq_true rfl) dX12_init_7 rfl (by decide) k_5_131 rfl hnm rfl (fun _ => rfl) (fun _ => rfl) rfl (Nat.le_of_ble_eq_true rfl) dX12_init_9 (fun H locs hi hS => ?_)
  refine lv_aload_n hx hb dX12_init_12 rfl (lv_at hl 0 rfl) ?_
  refine lv_bipush (v := (8 : Int32)) hx hb dX12_init_13 (by decide) ?_
  refine r_alloc (ty := .int) (t0 := 0) (kd := 0) (N' := 8) (t := 1) (k := 4) F hK rfl rfl rfl rfl rfl k_1_147 hi hsz hS (by decide) (by decide) (by decide) (Nat.le_of_ble_eq_true rfl) (Nat.le_of_ble_eq_true rfl) dX12_init_15 rfl (by decide) k_5_132 rfl hnm rfl (fun _ => rfl) (fun _ => rfl) rfl (Nat.le_of_ble_eq_true rfl) dX12_init_17 (fun H locs hi hS => ?_)
  refine lv_aload_n hx hb dX12_init_20 rfl (lv_at hl 0 rfl) ?_
  refine lv_bipush (v := (8 : Int32)) hx hb dX12_init_21 (by decide) ?_
  refine r_alloc (ty := .int) (t0 := 0) (kd := 0) (N' := 8) (t := 2) (k := 5) F hK rfl rfl rfl rfl rfl k_1_147 hi hsz hS (by decide) (by decide) (by decide) (Nat.le_of_ble_eq_true rfl) (Nat.le_of_ble_eq_true rfl) dX12_init_23 rfl (by decide) k_5_133 rfl hnm rfl (fun _ => rfl) (fun _ => rfl) rfl (Nat.le_of_ble_eq_true rfl) dX12_init_25 (fun H locs hi hS => ?_)
  refine lv_aload_n hx hb dX12_init_28 rfl (lv_at hl 0 rfl) ?_
  refine lv_bipush (v := (8 : Int32)) hx hb dX12_init_29 (by decide) ?_
  refine r_alloc (ty := .int) (t0 := 0) (kd := 0) (N' := 8) (t := 3) (k := 6) F hK rfl rfl rfl rfl rfl k_1_147 hi hsz hS (by decide) (by decide) (by decide) (Nat.le_of_ble_eq_true rfl) (Nat.le_of_ble_eq_true rfl) dX12_init_31 rfl (by decide) k_5_134 rfl hnm rfl (fun _ => rfl) (fun _ => rfl) rfl (Nat.le_of_ble_eq_true rfl) dX12_init_33 (fun H locs hi hS => ?_)
  refine lv_aload_n hx hb dX12_init_36 rfl (lv_at hl 0 rfl) ?_
  refine lv_bipush (v := (8 : Int32)) hx hb dX12_init_37 (by decide) ?_
  refine r_alloc (ty := .int) (t0 := 0) (kd := 0) (N' := 8) (t := 4) (k := 7) F hK rfl rfl rfl rfl rfl k_1_147 hi hsz hS (by decide) (by decide) (by decide) (Nat.le_of_ble_eq_true rfl) (Nat.le_of_ble_eq_true rfl) dX12_init_39 rfl (by decide) k_5_135 rfl hnm rfl (fun _ => rfl) (fun _ => rfl) rfl (Nat.le_of_ble_eq_true rfl) dX12_init_41 (fun H locs hi hS => ?_)
  refine lv_aload_n hx hb dX12_init_44 rfl (lv_at hl 0 rfl) ?_
  refine lv_bipush (v := (8 : Int32)) hx hb dX12_init_45 (by decide) ?_
  refine r_alloc (ty := .int) (t0 := 0) (kd := 0) (N' := 8) (t := 5) (k := 8) F hK rfl rfl rfl rfl rfl k_1_147 hi hsz hS (by decide) (by decide) (by decide) (Nat.le_of_ble_eq_true rfl) (Nat.le_of_ble_eq_true rfl) dX12_init_47 rfl (by decide) k_5_136 rfl hnm rfl (fun _ => rfl) (fun _ => rfl) rfl (Nat.le_of_ble_eq_true rfl) dX12_init_49 (fun H locs hi hS => ?_)
  refine lv_aload_n hx hb dX12_init_52 rfl (lv_at hl 0 rfl) ?_
  refine lv_bipush (v := (8 : Int32)) hx hb dX12_init_53 (by decide) ?_
  refine r_alloc (ty := .int) (t0 := 0) (kd := 0) (N' := 8) (t := 6) (k := 9) F hK rfl rfl rfl rfl rfl k_1_147 hi hsz hS (by decide) (by decide) (by decide) (Nat.le_of_ble_eq_true rfl) (Nat.le_of_ble_eq_true rfl) dX12_init_55 rfl (by decide) k_5_137 rfl hnm rfl (fun _ => rfl) (fun _ => rfl) rfl (Nat.le_of_ble_eq_true rfl) dX12_init_57 (fun H locs hi hS => ?_)
  refine lv_aload_n hx hb dX12_init_60 rfl (lv_at hl 0 rfl) ?_
  refine lv_bipush (v := (8 : Int32)) hx hb dX12_init_61 (by decide) ?_
  refine r_alloc (ty := .int) (t0 := 0) (kd := 0) (N' := 8) (t := 7) (k := 10) F hK rfl rfl rfl rfl rfl k_1_147 hi hsz hS (by decide) (by decide) (by decide) (Nat.le_of_ble_eq_true rfl) (Nat.le_of_ble_eq_true rfl) dX12_init_63 rfl (by decide) k_5_138 rfl hnm rfl (fun _ => rfl) (fun _ => rfl) rfl (Nat.le_of_ble_eq_true rfl) dX12_init_65 (fun H locs hi hS => ?_)
  refine lv_aload_n hx hb dX12_init_68 rfl (lv_at hl 0 rfl) ?_
  refine lv_bipush (v := (8 : Int32)) hx hb dX12_init_69 (by decide) ?_
  refine r_alloc (ty := .int) (t0 := 0) (kd := 0) (N' := 8) (t := 8) (k := 11) F hK rfl rfl rfl rfl rfl k_1_147 hi hsz hS (by decide) (by decide) (by decide) (Nat.le_of_ble_eq_true rfl) (Nat.le_of_ble_eq_true rfl) dX12_init_71 rfl (by decide) k_5_139 rfl hnm rfl (fun _ => rfl) (fun _ => rfl) rfl (Nat.le_of_ble_eq_true rfl) dX12_init_73 (fun H locs hi hS => ?_)
  refine lv_aload_n hx hb dX12_init_76 rfl (lv_at hl 0 rfl) ?_
  refine lv_bipush (v := (8 : Int32)) hx hb dX12_init_77 (by decide) ?_
  refine r_alloc (ty := .int) (t0 := 0) (kd := 0) (N' := 8) (t := 9) (k := 12) F hK rfl rfl rfl rfl rfl k_1_147 hi hsz hS (by decide) (by decide) (by decide) (Nat.le_of_ble_eq_true rfl) (Nat.le_of_ble_eq_true rfl) dX12_init_79 rfl (by decide) k_5_140 rfl hnm rfl (fun _ => rfl) (fun _ => rfl) rfl (Nat.le_of_ble_eq_true rfl) dX12_init_81 (fun H locs hi hS => ?_)
  refine lv_aload_n hx hb dX12_init_84 rfl (lv_at hl 0 rfl) ?_
  refine lv_bipush (v := (8 : Int32)) hx hb dX12_init_85 (by decide) ?_
  refine r_alloc (ty := .int) (t0 := 0) (kd := 0) (N' := 8) (t := 10) (k := 13) F hK rfl rfl rfl rfl rfl k_1_147 hi hsz hS (by decide) (by decide) (by decide) (Nat.le_of_ble_eq_true rfl) (Nat.le_of_ble_eq_true rfl) dX12_init_87 rfl (by decide) k_5_141 rfl hnm rfl (fun _ => rfl) (fun _ => rfl) rfl (Nat.le_of_ble_eq_true rfl) dX12_init_89 (fun H locs hi hS => ?_)
  refine lv_aload_n hx hb dX12_init_92 rfl (lv_at hl 0 rfl) ?_
  refine lv_bipush (v := (8 : Int32)) hx hb dX12_init_93 (by decide) ?_
  refine r_alloc (ty := .int) (t0 := 0) (kd := 0) (N' := 8) (t := 11) (k := 14) F hK rfl rfl rfl rfl rfl k_1_147 hi hsz hS (by decide) (by decide) (by decide) (Nat.le_of_ble_eq_true rfl) (Nat.le_of_ble_eq_true rfl) dX12_init_95 rfl (by decide) k_5_142 rfl hnm rfl (fun _ => rfl) (fun _ => rfl) rfl (Nat.le_of_ble_eq_true rfl) dX12_init_97 (fun H locs hi hS => ?_)
  refine lv_aload_n hx hb dX12_init_100 rfl (lv_at hl 0 rfl) ?_
  refine lv_bipush (v := (8 : Int32)) hx hb dX12_init_101 (by decide) ?_
  refine r_alloc (ty := .boolean) (t0 := 1) (kd := 1) (N' := 8) (t := 12) (k := 15) F hK rfl rfl rfl rfl rfl k_6_76 hi hsz hS (by decide) (by decide) (by decide) (Nat.le_of_ble_eq_true rfl) (Nat.le_of_ble_eq_true rfl) dX12_init_103 rfl (by decide) k_5_143 rfl hnm rfl (fun _ => rfl) (fun _ => rfl) rfl (Nat.le_of_ble_eq_true rfl) dX12_init_105 (fun H locs hi hS => ?_)
  refine lv_aload_n hx hb dX12_init_108 rfl (lv_at hl 0 rfl) ?_
  refine lv_bipush (v := (8 : Int32)) hx hb dX12_init_109 (by decide) ?_
  refine r_alloc (ty := .boolean) (t0 := 1) (kd := 1) (N' := 8) (t := 13) (k := 16) F hK rfl rfl rfl rfl rfl k_6_76 hi hsz hS (by decide) (by decide) (by decide) (Nat.le_of_ble_eq_true rfl) (Nat.le_of_ble_eq_true rfl) dX12_init_111 rfl (by decide) k_5_144 rfl hnm rfl (fun _ => rfl) (fun _ => rfl) rfl (Nat.le_of_ble_eq_true rfl) dX12_init_113 (fun H locs hi hS => ?_)
  refine lv_aload_n hx hb dX12_init_116 rfl (lv_at hl 0 rfl) ?_
  refine lv_bipush (v := (8 : Int32)) hx hb dX12_init_117 (by decide) ?_
  refine r_alloc (ty := .boolean) (t0 := 1) (kd := 1) (N' := 8) (t := 14) (k := 17) F hK rfl rfl rfl rfl rfl k_6_76 hi hsz hS (by decide) (by decide) (by decide) (Nat.le_of_ble_eq_true rfl) (Nat.le_of_ble_eq_true rfl) dX12_init_119 rfl (by decide) k_5_145 rfl hnm rfl (fun _ => rfl) (fun _ => rfl) rfl (Nat.le_of_ble_eq_true rfl) dX12_init_121 (fun H locs hi hS => ?_)
  refine lv_aload_n hx hb dX12_init_124 rfl (lv_at hl 0 rfl) ?_
  refine lv_bipush (v := (16 : Int32)) hx hb dX12_init_125 (by decide) ?_
  refine r_alloc (ty := .int) (t0 := 0) (kd := 0) (N' := 16) (t := 15) (k := 18) F hK rfl rfl rfl rfl rfl k_1_147 hi hsz hS (by decide) (by decide) (by decide) (Nat.le_of_ble_eq_true rfl) (Nat.le_of_ble_eq_true rfl) dX12_init_127 rfl (by decide) k_5_146 rfl hnm rfl (fun _ => rfl) (fun _ => rfl) rfl (Nat.le_of_ble_eq_true rfl) dX12_init_129 (fun H locs hi hS => ?_)
  refine lv_aload_n hx hb dX12_init_132 rfl (lv_at hl 0 rfl) ?_
  refine lv_bipush (v := (16 : Int32)) hx hb dX12_init_133 (by decide) ?_
  refine r_alloc (ty := .int) (t0 := 0) (kd := 0) (N' := 16) (t := 16) (k := 19) F hK rfl rfl rfl rfl rfl k_1_147 hi hsz hS (by decide) (by decide) (by decide) (Nat.le_of_ble_eq_true rfl) (Nat.le_of_ble_eq_true rfl) dX12_init_135 rfl (by decide) k_5_147 rfl hnm rfl (fun _ => rfl) (fun _ => rfl) rfl (Nat.le_of_ble_eq_true rfl) dX12_init_137 (fun H locs hi hS => ?_)
  refine lv_aload_n hx hb dX12_init_140 rfl (lv_at hl 0 rfl) ?_
  refine lv_bipush (v := (16 : Int32)) hx hb dX12_init_141 (by decide) ?_
  refine r_alloc (ty := .int) (t0 := 0) (kd := 0) (N' := 16) (t := 17) (k := 20) F hK rfl rfl rfl rfl rfl k_1_147 hi hsz hS (by decide) (by decide) (by decide) (Nat.le_of_ble_eq_true rfl) (Nat.le_of_ble_eq_true rfl) dX12_init_143 rfl (by decide) k_5_148 rfl hnm rfl (fun _ => rfl) (fun _ => rfl) rfl (Nat.le_of_ble_eq_true rfl) dX12_init_145 (fun H locs hi hS => ?_)
  refine lv_aload_n hx hb dX12_init_148 rfl (lv_at hl 0 rfl) ?_
  refine lv_bipush (v := (8 : Int32)) hx hb dX12_init_149 (by decide) ?_
  refine r_alloc (ty := .boolean) (t0 := 1) (kd := 1) (N' := 8) (t := 18) (k := 21) F hK rfl rfl rfl rfl rfl k_6_76 hi hsz hS (by decide) (by decide) (by decide) (Nat.le_of_ble_eq_true rfl) (Nat.le_of_ble_eq_true rfl) dX12_init_151 rfl (by decide) k_5_149 rfl hnm rfl (fun _ => rfl) (fun _ => rfl) rfl (Nat.le_of_ble_eq_true rfl) dX12_init_153 (fun H locs hi hS => ?_)
  refine lv_aload_n hx hb dX12_init_156 rfl (lv_at hl 0 rfl) ?_
  refine lv_bipush (v := (8 : Int32)) hx hb dX12_init_157 (by decide) ?_
  refine r_alloc (ty := .int) (t0 := 0) (kd := 0) (N' := 8) (t := 19) (k := 22) F hK rfl rfl rfl rfl rfl k_1_147 hi hsz hS (by decide) (by decide) (by decide) (Nat.le_of_ble_eq_true rfl) (Nat.le_of_ble_eq_true rfl) dX12_init_159 rfl (by decide) k_5_150 rfl hnm rfl (fun _ => rfl) (fun _ => rfl) rfl (Nat.le_of_ble_eq_true rfl) dX12_init_161 (fun H locs hi hS => ?_)
  refine lv_aload_n hx hb dX12_init_164 rfl (lv_at hl 0 rfl) ?_
  refine lv_bipush (v := (8 : Int32)) hx hb dX12_init_165 (by decide) ?_
  refine r_alloc (ty := .int) (t0 := 0) (kd := 0) (N' := 8) (t := 20) (k := 23) F hK rfl rfl rfl rfl rfl k_1_147 hi hsz hS (by decide) (by decide) (by decide) (Nat.le_of_ble_eq_true rfl) (Nat.le_of_ble_eq_true rfl) dX12_init_167 rfl (by decide) k_5_151 rfl hnm rfl (fun _ => rfl) (fun _ => rfl) rfl (Nat.le_of_ble_eq_true rfl) dX12_init_169 (fun H locs hi hS => ?_)
  refine lv_aload_n hx hb dX12_init_172 rfl (lv_at hl 0 rfl) ?_
  refine lv_bipush (v := (8 : Int32)) hx hb dX12_init_173 (by decide) ?_
  refine r_alloc (ty := .int) (t0 := 0) (kd := 0) (N' := 8) (t := 21) (k := 24) F hK rfl rfl rfl rfl rfl k_1_147 hi hsz hS (by decide) (by decide) (by decide) (Nat.le_of_ble_eq_true rfl) (Nat.le_of_ble_eq_true rfl) dX12_init_175 rfl (by decide) k_5_152 rfl hnm rfl (fun _ => rfl) (fun _ => rfl) rfl (Nat.le_of_ble_eq_true rfl) dX12_init_177 (fun H locs hi hS => ?_)
  refine lv_aload_n hx hb dX12_init_180 rfl (lv_at hl 0 rfl) ?_
  refine lv_bipush (v := (8 : Int32)) hx hb dX12_init_181 (by decide) ?_
  refine r_alloc (ty := .int) (t0 := 0) (kd := 0) (N' := 8) (t := 22) (k := 25) F hK rfl rfl rfl rfl rfl k_1_147 hi hsz hS (by decide) (by decide) (by decide) (Nat.le_of_ble_eq_true rfl) (Nat.le_of_ble_eq_true rfl) dX12_init_183 rfl (by decide) k_5_153 rfl hnm rfl (fun _ => rfl) (fun _ => rfl) rfl (Nat.le_of_ble_eq_true rfl) dX12_init_185 (fun H locs hi hS => ?_)
  refine lv_aload_n hx hb dX12_init_188 rfl (lv_at hl 0 rfl) ?_
  refine lv_bipush (v := (8 : Int32)) hx hb dX12_init_189 (by decide) ?_
  refine r_alloc (ty := .int) (t0 := 0) (kd := 0) (N' := 8) (t := 23) (k := 26) F hK rfl rfl rfl rfl rfl k_1_147 hi hsz hS (by decide) (by decide) (by decide) (Nat.le_of_ble_eq_true rfl) (Nat.le_of_ble_eq_true rfl) dX12_init_191 rfl (by decide) k_5_154 rfl hnm rfl (fun _ => rfl) (fun _ => rfl) rfl (Nat.le_of_ble_eq_true rfl) dX12_init_193 (fun H locs hi hS => ?_)
  refine lv_aload_n hx hb dX12_init_196 rfl (lv_at hl 0 rfl) ?_
  refine lv_bipush (v := (8 : Int32)) hx hb dX12_init_197 (by decide) ?_
  refine r_alloc (ty := .int) (t0 := 0) (kd := 0) (N' := 8) (t := 24) (k := 27) F hK rfl rfl rfl rfl rfl k_1_147 hi hsz hS (by decide) (by decide) (by decide) (Nat.le_of_ble_eq_true rfl) (Nat.le_of_ble_eq_true rfl) dX12_init_199 rfl (by decide) k_5_155 rfl hnm rfl (fun _ => rfl) (fun _ => rfl) rfl (Nat.le_of_ble_eq_true rfl) dX12_init_201 (fun H locs hi hS => ?_)
  refine lv_aload_n hx hb dX12_init_204 rfl (lv_at hl 0 rfl) ?_
  refine lv_bipush (v := (8 : Int32)) hx hb dX12_init_205 (by decide) ?_
  refine r_alloc (ty := .int) (t0 := 0) (kd := 0) (N' := 8) (t := 25) (k := 28) F hK rfl rfl rfl rfl rfl k_1_147 hi hsz hS (by decide) (by decide) (by decide) (Nat.le_of_ble_eq_true rfl) (Nat.le_of_ble_eq_true rfl) dX12_init_207 rfl (by decide) k_5_156 rfl hnm rfl (fun _ => rfl) (fun _ => rfl) rfl (Nat.le_of_ble_eq_true rfl) dX12_init_209 (fun H locs hi hS => ?_)
  refine lv_aload_n hx hb dX12_init_212 rfl (lv_at hl 0 rfl) ?_
  refine lv_bipush (v := (8 : Int32)) hx hb dX12_init_213 (by decide) ?_
  refine r_alloc (ty := .int) (t0 := 0) (kd := 0) (N' := 8) (t := 26) (k := 29) F hK rfl rfl rfl rfl rfl k_1_147 hi hsz hS (by decide) (by decide) (by decide) (Nat.le_of_ble_eq_true rfl) (Nat.le_of_ble_eq_true rfl) dX12_init_215 rfl (by decide) k_5_157 rfl hnm rfl (fun _ => rfl) (fun _ => rfl) rfl (Nat.le_of_ble_eq_true rfl) dX12_init_217 (fun H locs hi hS => ?_)
  refine lv_aload_n hx hb dX12_init_220 rfl (lv_at hl 0 rfl) ?_
  refine lv_sipush (v := (512 : Int32)) hx hb dX12_init_221 (by decide) ?_
  refine r_alloc (ty := .int) (t0 := 0) (kd := 0) (N' := 512) (t := 27) (k := 30) F hK rfl rfl rfl rfl rfl k_1_147 hi hsz hS (by decide) (by decide) (by decide) (Nat.le_of_ble_eq_true rfl) (Nat.le_of_ble_eq_true rfl) dX12_init_224 rfl (by decide) k_5_158 rfl hnm rfl (fun _ => rfl) (fun _ => rfl) rfl (Nat.le_of_ble_eq_true rfl) dX12_init_226 (fun H locs hi hS => ?_)
  refine lv_aload_n hx hb dX12_init_229 rfl (lv_at hl 0 rfl) ?_
  refine lv_sipush (v := (512 : Int32)) hx hb dX12_init_230 (by decide) ?_
  refine r_alloc (ty := .int) (t0 := 0) (kd := 0) (N' := 512) (t := 28) (k := 31) F hK rfl rfl rfl rfl rfl k_1_147 hi hsz hS (by decide) (by decide) (by decide) (Nat.le_of_ble_eq_true rfl) (Nat.le_of_ble_eq_true rfl) dX12_init_233 rfl (by decide) k_5_159 rfl hnm rfl (fun _ => rfl) (fun _ => rfl) rfl (Nat.le_of_ble_eq_true rfl) dX12_init_235 (fun H locs hi hS => ?_)
  refine lv_aload_n hx hb dX12_init_238 rfl (lv_at hl 0 rfl) ?_
  refine lv_bipush (v := (33 : Int32)) hx hb dX12_init_239 (by decide) ?_
  refine r_alloc (ty := .int) (t0 := 0) (kd := 0) (N' := 33) (t := 29) (k := 32) F hK rfl rfl rfl rfl rfl k_1_147 hi hsz hS (by decide) (by decide) (by decide) (Nat.le_of_ble_eq_true rfl) (Nat.le_of_ble_eq_true rfl) dX12_init_241 rfl (by decide) k_5_160 rfl hnm rfl (fun _ => rfl) (fun _ => rfl) rfl (Nat.le_of_ble_eq_true rfl) dX12_init_243 (fun H locs hi hS => ?_)
  refine lv_aload_n hx hb dX12_init_246 rfl (lv_at hl 0 rfl) ?_
  refine lv_bipush (v := (33 : Int32)) hx hb dX12_init_247 (by decide) ?_
  refine r_alloc (ty := .int) (t0 := 0) (kd := 0) (N' := 33) (t := 30) (k := 33) F hK rfl rfl rfl rfl rfl k_1_147 hi hsz hS (by decide) (by decide) (by decide) (Nat.le_of_ble_eq_true rfl) (Nat.le_of_ble_eq_true rfl) dX12_init_249 rfl (by decide) k_5_161 rfl hnm rfl (fun _ => rfl) (fun _ => rfl) rfl (Nat.le_of_ble_eq_true rfl) dX12_init_251 (fun H locs hi hS => ?_)
  refine lv_aload_n hx hb dX12_init_254 rfl (lv_at hl 0 rfl) ?_
  refine lv_bipush (v := (33 : Int32)) hx hb dX12_init_255 (by decide) ?_
  refine r_alloc (ty := .int) (t0 := 0) (kd := 0) (N' := 33) (t := 31) (k := 34) F hK rfl rfl rfl rfl rfl k_1_147 hi hsz hS (by decide) (by decide) (by decide) (Nat.le_of_ble_eq_true rfl) (Nat.le_of_ble_eq_true rfl) dX12_init_257 rfl (by decide) k_5_162 rfl hnm rfl (fun _ => rfl) (fun _ => rfl) rfl (Nat.le_of_ble_eq_true rfl) dX12_init_259 (fun H locs hi hS => ?_)
  refine lv_aload_n hx hb dX12_init_262 rfl (lv_at hl 0 rfl) ?_
  refine lv_bipush (v := (33 : Int32)) hx hb dX12_init_263 (by decide) ?_
  refine r_alloc (ty := .int) (t0 := 0) (kd := 0) (N' := 33) (t := 32) (k := 35) F hK rfl rfl rfl rfl rfl k_1_147 hi hsz hS (by decide) (by decide) (by decide) (Nat.le_of_ble_eq_true rfl) (Nat.le_of_ble_eq_true rfl) dX12_init_265 rfl (by decide) k_5_163 rfl hnm rfl (fun _ => rfl) (fun _ => rfl) rfl (Nat.le_of_ble_eq_true rfl) dX12_init_267 (fun H locs hi hS => ?_)
  refine lv_aload_n hx hb dX12_init_270 rfl (lv_at hl 0 rfl) ?_
  refine lv_bipush (v := (33 : Int32)) hx hb dX12_init_271 (by decide) ?_
  refine r_alloc (ty := .int) (t0 := 0) (kd := 0) (N' := 33) (t := 33) (k := 36) F hK rfl rfl rfl rfl rfl k_1_147 hi hsz hS (by decide) (by decide) (by decide) (Nat.le_of_ble_eq_true rfl) (Nat.le_of_ble_eq_true rfl) dX12_init_273 rfl (by decide) k_5_164 rfl hnm rfl (fun _ => rfl) (fun _ => rfl) rfl (Nat.le_of_ble_eq_true rfl) dX12_init_275 (fun H locs hi hS => ?_)
  refine lv_aload_n hx hb dX12_init_278 rfl (lv_at hl 0 rfl) ?_
  refine lv_bipush (v := (33 : Int32)) hx hb dX12_init_279 (by decide) ?_
  refine r_alloc (ty := .int) (t0 := 0) (kd := 0) (N' := 33) (t := 34) (k := 37) F hK rfl rfl rfl rfl rfl k_1_147 hi hsz hS (by decide) (by decide) (by decide) (Nat.le_of_ble_eq_true rfl) (Nat.le_of_ble_eq_true rfl) dX12_init_281 rfl (by decide) k_5_165 rfl hnm rfl (fun _ => rfl) (fun _ => rfl) rfl (Nat.le_of_ble_eq_true rfl) dX12_init_283 (fun H locs hi hS => ?_)
  refine lv_aload_n hx hb dX12_init_286 rfl (lv_at hl 0 rfl) ?_
  refine lv_bipush (v := (33 : Int32)) hx hb dX12_init_287 (by decide) ?_
  refine r_alloc (ty := .int) (t0 := 0) (kd := 0) (N' := 33) (t := 35) (k := 38) F hK rfl rfl rfl rfl rfl k_1_147 hi hsz hS (by decide) (by decide) (by decide) (Nat.le_of_ble_eq_true rfl) (Nat.le_of_ble_eq_true rfl) dX12_init_289 rfl (by decide) k_5_166 rfl hnm rfl (fun _ => rfl) (fun _ => rfl) rfl (Nat.le_of_ble_eq_true rfl) dX12_init_291 (fun H locs hi hS => ?_)
  refine lv_aload_n hx hb dX12_init_294 rfl (lv_at hl 0 rfl) ?_
  refine lv_bipush (v := (33 : Int32)) hx hb dX12_init_295 (by decide) ?_
  refine r_alloc (ty := .int) (t0 := 0) (kd := 0) (N' := 33) (t := 36) (k := 39) F hK rfl rfl rfl rfl rfl k_1_147 hi hsz hS (by decide) (by decide) (by decide) (Nat.le_of_ble_eq_true rfl) (Nat.le_of_ble_eq_true rfl) dX12_init_297 rfl (by decide) k_5_167 rfl hnm rfl (fun _ => rfl) (fun _ => rfl) rfl (Nat.le_of_ble_eq_true rfl) dX12_init_299 (fun H locs hi hS => ?_)
  refine lv_aload_n hx hb dX12_init_302 rfl (lv_at hl 0 rfl) ?_
  refine lv_bipush (v := (33 : Int32)) hx hb dX12_init_303 (by decide) ?_
  refine r_alloc (ty := .boolean) (t0 := 1) (kd := 1) (N' := 33) (t := 37) (k := 40) F hK rfl rfl rfl rfl rfl k_6_76 hi hsz hS (by decide) (by decide) (by decide) (Nat.le_of_ble_eq_true rfl) (Nat.le_of_ble_eq_true rfl) dX12_init_305 rfl (by decide) k_5_168 rfl hnm rfl (fun _ => rfl) (fun _ => rfl) rfl (Nat.le_of_ble_eq_true rfl) dX12_init_307 (fun H locs hi hS => ?_)
  refine lv_aload_n hx hb dX12_init_310 rfl (lv_at hl 0 rfl) ?_
  refine lv_bipush (v := (33 : Int32)) hx hb dX12_init_311 (by decide) ?_
  refine r_alloc (ty := .boolean) (t0 := 1) (kd := 1) (N' := 33) (t := 38) (k := 41) F hK rfl rfl rfl rfl rfl k_6_76 hi hsz hS (by decide) (by decide) (by decide) (Nat.le_of_ble_eq_true rfl) (Nat.le_of_ble_eq_true rfl) dX12_init_313 rfl (by decide) k_5_169 rfl hnm rfl (fun _ => rfl) (fun _ => rfl) rfl (Nat.le_of_ble_eq_true rfl) dX12_init_315 (fun H locs hi hS => ?_)
  refine lv_aload_n hx hb dX12_init_318 rfl (lv_at hl 0 rfl) ?_
  refine lv_bipush (v := (33 : Int32)) hx hb dX12_init_319 (by decide) ?_
  refine r_alloc (ty := .boolean) (t0 := 1) (kd := 1) (N' := 33) (t := 39) (k := 42) F hK rfl rfl rfl rfl rfl k_6_76 hi hsz hS (by decide) (by decide) (by decide) (Nat.le_of_ble_eq_true rfl) (Nat.le_of_ble_eq_true rfl) dX12_init_321 rfl (by decide) k_5_170 rfl hnm rfl (fun _ => rfl) (fun _ => rfl) rfl (Nat.le_of_ble_eq_true rfl) dX12_init_323 (fun H locs hi hS => ?_)
  refine lv_aload_n hx hb dX12_init_326 rfl (lv_at hl 0 rfl) ?_
  refine lv_bipush (v := (33 : Int32)) hx hb dX12_init_327 (by decide) ?_
  refine r_alloc (ty := .int) (t0 := 0) (kd := 0) (N' := 33) (t := 40) (k := 43) F hK rfl rfl rfl rfl rfl k_1_147 hi hsz hS (by decide) (by decide) (by decide) (Nat.le_of_ble_eq_true rfl) (Nat.le_of_ble_eq_true rfl) dX12_init_329 rfl (by decide) k_5_171 rfl hnm rfl (fun _ => rfl) (fun _ => rfl) rfl (Nat.le_of_ble_eq_true rfl) dX12_init_331 (fun H locs hi hS => ?_)
  refine lv_aload_n hx hb dX12_init_334 rfl (lv_at hl 0 rfl) ?_
  refine lv_bipush (v := (33 : Int32)) hx hb dX12_init_335 (by decide) ?_
  refine r_alloc (ty := .int) (t0 := 0) (kd := 0) (N' := 33) (t := 41) (k := 44) F hK rfl rfl rfl rfl rfl k_1_147 hi hsz hS (by decide) (by decide) (by decide) (Nat.le_of_ble_eq_true rfl) (Nat.le_of_ble_eq_true rfl) dX12_init_337 rfl (by decide) k_5_172 rfl hnm rfl (fun _ => rfl) (fun _ => rfl) rfl (Nat.le_of_ble_eq_true rfl) dX12_init_339 (fun H locs hi hS => ?_)
  refine lv_aload_n hx hb dX12_init_342 rfl (lv_at hl 0 rfl) ?_
  refine lv_bipush (v := (33 : Int32)) hx hb dX12_init_343 (by decide) ?_
  refine r_alloc (ty := .int) (t0 := 0) (kd := 0) (N' := 33) (t := 42) (k := 45) F hK rfl rfl rfl rfl rfl k_1_147 hi hsz hS (by decide) (by decide) (by decide) (Nat.le_of_ble_eq_true rfl) (Nat.le_of_ble_eq_true rfl) dX12_init_345 rfl (by decide) k_5_173 rfl hnm rfl (fun _ => rfl) (fun _ => rfl) rfl (Nat.le_of_ble_eq_true rfl) dX12_init_347 (fun H locs hi hS => ?_)
  refine lv_aload_n hx hb dX12_init_350 rfl (lv_at hl 0 rfl) ?_
  refine lv_bipush (v := (33 : Int32)) hx hb dX12_init_351 (by decide) ?_
  refine r_alloc (ty := .int) (t0 := 0) (kd := 0) (N' := 33) (t := 43) (k := 46) F hK rfl rfl rfl rfl rfl k_1_147 hi hsz hS (by decide) (by decide) (by decide) (Nat.le_of_ble_eq_true rfl) (Nat.le_of_ble_eq_true rfl) dX12_init_353 rfl (by decide) k_5_174 rfl hnm rfl (fun _ => rfl) (fun _ => rfl) rfl (Nat.le_of_ble_eq_true rfl) dX12_init_355 (fun H locs hi hS => ?_)
  refine lv_aload_n hx hb dX12_init_358 rfl (lv_at hl 0 rfl) ?_
  refine lv_bipush (v := (33 : Int32)) hx hb dX12_init_359 (by decide) ?_
  refine r_alloc (ty := .int) (t0 := 0) (kd := 0) (N' := 33) (t := 44) (k := 47) F hK rfl rfl rfl rfl rfl k_1_147 hi hsz hS (by decide) (by decide) (by decide) (Nat.le_of_ble_eq_true rfl) (Nat.le_of_ble_eq_true rfl) dX12_init_361 rfl (by decide) k_5_175 rfl hnm rfl (fun _ => rfl) (fun _ => rfl) rfl (Nat.le_of_ble_eq_true rfl) dX12_init_363 (fun H locs hi hS => ?_)
  refine lv_aload_n hx hb dX12_init_366 rfl (lv_at hl 0 rfl) ?_
  refine lv_bipush (v := (33 : Int32)) hx hb dX12_init_367 (by decide) ?_
  refine r_alloc (ty := .int) (t0 := 0) (kd := 0) (N' := 33) (t := 45) (k := 48) F hK rfl rfl rfl rfl rfl k_1_147 hi hsz hS (by decide) (by decide) (by decide) (Nat.le_of_ble_eq_true rfl) (Nat.le_of_ble_eq_true rfl) dX12_init_369 rfl (by decide) k_5_176 rfl hnm rfl (fun _ => rfl) (fun _ => rfl) rfl (Nat.le_of_ble_eq_true rfl) dX12_init_371 (fun H locs hi hS => ?_)
  refine lv_aload_n hx hb dX12_init_374 rfl (lv_at hl 0 rfl) ?_
  refine lv_bipush (v := (33 : Int32)) hx hb dX12_init_375 (by decide) ?_
  refine r_alloc (ty := .int) (t0 := 0) (kd := 0) (N' := 33) (t := 46) (k := 49) F hK rfl rfl rfl rfl rfl k_1_147 hi hsz hS (by decide) (by decide) (by decide) (Nat.le_of_ble_eq_true rfl) (Nat.le_of_ble_eq_true rfl) dX12_init_377 rfl (by decide) k_5_177 rfl hnm rfl (fun _ => rfl) (fun _ => rfl) rfl (Nat.le_of_ble_eq_true rfl) dX12_init_379 (fun H locs hi hS => ?_)
  refine lv_aload_n hx hb dX12_init_382 rfl (lv_at hl 0 rfl) ?_
  refine lv_bipush (v := (33 : Int32)) hx hb dX12_init_383 (by decide) ?_
  refine r_alloc (ty := .int) (t0 := 0) (kd := 0) (N' := 33) (t := 47) (k := 50) F hK rfl rfl rfl rfl rfl k_1_147 hi hsz hS (by decide) (by decide) (by decide) (Nat.le_of_ble_eq_true rfl) (Nat.le_of_ble_eq_true rfl) dX12_init_385 rfl (by decide) k_5_178 rfl hnm rfl (fun _ => rfl) (fun _ => rfl) rfl (Nat.le_of_ble_eq_true rfl) dX12_init_387 (fun H locs hi hS => ?_)
  refine lv_aload_n hx hb dX12_init_390 rfl (lv_at hl 0 rfl) ?_
  refine lv_bipush (v := (8 : Int32)) hx hb dX12_init_391 (by decide) ?_
  refine r_alloc (ty := .boolean) (t0 := 1) (kd := 1) (N' := 8) (t := 48) (k := 51) F hK rfl rfl rfl rfl rfl k_6_76 hi hsz hS (by decide) (by decide) (by decide) (Nat.le_of_ble_eq_true rfl) (Nat.le_of_ble_eq_true rfl) dX12_init_393 rfl (by decide) k_5_179 rfl hnm rfl (fun _ => rfl) (fun _ => rfl) rfl (Nat.le_of_ble_eq_true rfl) dX12_init_395 (fun H locs hi hS => ?_)
  refine lv_aload_n hx hb dX12_init_398 rfl (lv_at hl 0 rfl) ?_
  refine lv_bipush (v := (8 : Int32)) hx hb dX12_init_399 (by decide) ?_
  refine r_alloc (ty := .int) (t0 := 0) (kd := 0) (N' := 8) (t := 49) (k := 52) F hK rfl rfl rfl rfl rfl k_1_147 hi hsz hS (by decide) (by decide) (by decide) (Nat.le_of_ble_eq_true rfl) (Nat.le_of_ble_eq_true rfl) dX12_init_401 rfl (by decide) k_5_180 rfl hnm rfl (fun _ => rfl) (fun _ => rfl) rfl (Nat.le_of_ble_eq_true rfl) dX12_init_403 (fun H locs hi hS => ?_)
  refine lv_aload_n hx hb dX12_init_406 rfl (lv_at hl 0 rfl) ?_
  refine lv_bipush (v := (8 : Int32)) hx hb dX12_init_407 (by decide) ?_
  refine r_alloc (ty := .int) (t0 := 0) (kd := 0) (N' := 8) (t := 50) (k := 53) F hK rfl rfl rfl rfl rfl k_1_147 hi hsz hS (by decide) (by decide) (by decide) (Nat.le_of_ble_eq_true rfl) (Nat.le_of_ble_eq_true rfl) dX12_init_409 rfl (by decide) k_5_181 rfl hnm rfl (fun _ => rfl) (fun _ => rfl) rfl (Nat.le_of_ble_eq_true rfl) dX12_init_411 (fun H locs hi hS => ?_)
  refine lv_aload_n hx hb dX12_init_414 rfl (lv_at hl 0 rfl) ?_
  refine lv_bipush (v := (8 : Int32)) hx hb dX12_init_415 (by decide) ?_
  refine r_alloc (ty := .int) (t0 := 0) (kd := 0) (N' := 8) (t := 51) (k := 54) F hK rfl rfl rfl rfl rfl k_1_147 hi hsz hS (by decide) (by decide) (by decide) (Nat.le_of_ble_eq_true rfl) (Nat.le_of_ble_eq_true rfl) dX12_init_417 rfl (by decide) k_5_182 rfl hnm rfl (fun _ => rfl) (fun _ => rfl) rfl (Nat.le_of_ble_eq_true rfl) dX12_init_419 (fun H locs hi hS => ?_)
  refine lv_aload_n hx hb dX12_init_422 rfl (lv_at hl 0 rfl) ?_
  refine lv_bipush (v := (8 : Int32)) hx hb dX12_init_423 (by decide) ?_
  refine r_alloc (ty := .int) (t0 := 0) (kd := 0) (N' := 8) (t := 52) (k := 55) F hK rfl rfl rfl rfl rfl k_1_147 hi hsz hS (by decide) (by decide) (by decide) (Nat.le_of_ble_eq_true rfl) (Nat.le_of_ble_eq_true rfl) dX12_init_425 rfl (by decide) k_5_183 rfl hnm rfl (fun _ => rfl) (fun _ => rfl) rfl (Nat.le_of_ble_eq_true rfl) dX12_init_427 (fun H locs hi hS => ?_)
  refine lv_aload_n hx hb dX12_init_430 rfl (lv_at hl 0 rfl) ?_
  refine lv_bipush (v := (8 : Int32)) hx hb dX12_init_431 (by decide) ?_
  refine r_alloc (ty := .int) (t0 := 0) (kd := 0) (N' := 8) (t := 53) (k := 56) F hK rfl rfl rfl rfl rfl k_1_147 hi hsz hS (by decide) (by decide) (by decide) (Nat.le_of_ble_eq_true rfl) (Nat.le_of_ble_eq_true rfl) dX12_init_433 rfl (by decide) k_5_184 rfl hnm rfl (fun _ => rfl) (fun _ => rfl) rfl (Nat.le_of_ble_eq_true rfl) dX12_init_435 (fun H locs hi hS => ?_)
  refine lv_aload_n hx hb dX12_init_438 rfl (lv_at hl 0 rfl) ?_
  refine lv_sipush (v := (4096 : Int32)) hx hb dX12_init_439 (by decide) ?_
  refine r_alloc (ty := .byte) (t0 := 2) (kd := 2) (N' := 4096) (t := 54) (k := 57) F hK rfl rfl rfl rfl rfl k_6_75 hi hsz hS (by decide) (by decide) (by decide) (Nat.le_of_ble_eq_true rfl) (Nat.le_of_ble_eq_true rfl) dX12_init_442 rfl (by decide) k_5_185 rfl hnm rfl (fun _ => rfl) (fun _ => rfl) rfl (Nat.le_of_ble_eq_true rfl) dX12_init_444 (fun H locs hi hS => ?_)
  refine lv_aload_n hx hb dX12_init_447 rfl (lv_at hl 0 rfl) ?_
  refine lv_sipush (v := (4096 : Int32)) hx hb dX12_init_448 (by decide) ?_
  refine r_alloc (ty := .byte) (t0 := 2) (kd := 2) (N' := 4096) (t := 55) (k := 58) F hK rfl rfl rfl rfl rfl k_6_75 hi hsz hS (by decide) (by decide) (by decide) (Nat.le_of_ble_eq_true rfl) (Nat.le_of_ble_eq_true rfl) dX12_init_451 rfl (by decide) k_5_186 rfl hnm rfl (fun _ => rfl) (fun _ => rfl) rfl (Nat.le_of_ble_eq_true rfl) dX12_init_453 (fun H locs hi hS => ?_)
  exact m_r_init_b456 (r_inj hq) F hr hlk hK hnm a1 xS0 h (r_world hi) hS hl
