/-! rows for constructors: worlds that are lists of cells -/
def kPc (D : va_G) (cl : List vw_C) (tys : List (ClassId × FieldType)) (nf : List xNf) (nm : List xNm) (av : List Value) (sz : Nat) (ws : va_W) : Array Value → State → Prop := va_Pc av (fun U => xK D cl tys nf nm U ∧ U.heap.size = sz ∧ va_P D cl ws U.heap ∧ va_D (fun _ => True) ws)
def kQ (D : va_G) (cl : List vw_C) {σ : Type} (post : σ → va_W) (A : Nat → Prop) : Array Value → State → Outcome → State → Prop := va_Qv (fun _ : σ => True) (fun u t => va_P D cl (post u) t.heap ∧ va_D A (post u)) A
def kQr (D : va_G) (cl : List vw_C) {σ : Type} (post : σ → va_W) (ans : σ → Nat) (A : Nat → Prop) : Array Value → State → Outcome → State → Prop := fun _ st oc t => (∃ u : σ, oc = .returned (some (.ref (ans u))) ∧ va_P D cl (post u) t.heap ∧ va_D A (post u)) ∧ va_F A st t
theorem kPc_blind {D : va_G} {cl : List vw_C} {tys : List (ClassId × FieldType)} {nf : List xNf} {nm : List xNm} {av : List Value} {sz : Nat} {ws : va_W} : FrameBlind (kPc D cl tys nf nm av sz ws) := fun a U g mk q => ⟨q.1, xK.call (U := U) (V := U.calling g mk a) rfl q.2.1, q.2.2⟩
section XK
variable {p : Program} {l : Launch} {e : Env} {R : Room} {s : State} {m : MethodId} {args : Array Value} {below : List Frame} {meth : Method} {c : Code} {H : Heap} {locs : List Loc} {cells slots : Nat} {Q : State → Prop}
variable {cc : ByteArray} {nL : Nat} {w0 : Cond} {G : List Cond} {own : String}
variable {pc : Nat} {ls : Array Slot} {rest : List Value} {D : va_G} {cl : List vw_C} {tys : List (ClassId × FieldType)} {nf : List xNf} {nm : List xNm} {ws : va_W} {H0 : Heap} {A : Nat → Prop}
theorem k_enter {y : MethodName} {ret : Option FieldType} {rm : Room} {av : List Value} {sz mc ms : Nat} {Qc : (Nat → Prop) → Array Value → State → Outcome → State → Prop} (hy : plainName y.cls = true) (hn : (lg_sl av).length ≤ nL)
    (body : ∀ (p : Program) (e : Env) (s : State) (m : MethodId) (below : List Frame) (meth : Method) (c : Code) (A : Nat → Prop), CallFix p m c cc nL s av.toArray (Cond.code y cc nL ret :: G) y.cls → meth.sig.returnType = ret → meth.locks = false → meth.name = y.name → xK D cl tys nf nm s → va_P D cl ws s.heap → va_D A ws → (∀ q, s.heap.size ≤ q → A q) → va_S A s.heap s.heap [] → ∀ ls : Array Slot, lv_has ls nL (lv_args 0 av) → W p l e rm s m av.toArray below meth c s.heap [] 0 0 (MQ below (Qc A) av.toArray s mc ms A) (F0 m 0 ls [])) : Met l y (Cond.code y cc nL ret :: G) rm (kPc D cl tys nf nm av sz ws) (Qc (va_A ws sz)) mc ms (va_A ws sz) := by
  refine Met.ofW (cc := cc) (maxL := nL) (ret := ret) hy rfl ?_
  intro p e s m args below meth c s₁ B hml hv
  obtain ⟨rfl, hK, hsz, hP, hD⟩ := hv
  have hl := lv_entry av (n := nL) hn
  rw [lg_entry_eq]
  subst hsz
  exact body p e s m below meth c (va_A ws s.heap.size) ⟨B.exec, B.bytes, hml, findClass_of_methodNamed B.named, atoms_spec (ws := Cond.code y cc nL ret :: G) B.pre⟩ B.returns B.notSynchronized (name_of_methodNamed B.named B.method).1 hK hP hD.self (fun q h => Or.inr h) va_S.rf _ hl
theorem k_vret {σ : Type} {post : σ → va_W} (F : CallFix p m c cc nL s args (w0 :: G) own) (hr : meth.sig.returnType = none) (hlk : meth.locks = false) (u : σ) {w : va_W} (hP : va_P D cl w H) (hD : va_D A w) (hw : w = post u) (hS : va_S A s.heap H locs) (hdg : decode cc pc = .ok (.return_, 1)) : W p l e R s m args below meth c H locs cells slots (MQ below (kQ D cl post A) args s cells slots A) (F0 m pc ls []) := by
  subst hw
  exact W.vret F.1 F.2.1 hr (fun t ht hw => ⟨⟨u, rfl, trivial, by rw [ht]; exact hP, hD⟩, hS.F ht⟩) hS.2.2 hdg hlk
theorem k_aret {σ : Type} {post : σ → va_W} {ans : σ → Nat} (F : CallFix p m c cc nL s args (w0 :: G) own) {C : String} (hr : meth.sig.returnType = some (.object C)) (hlk : meth.locks = false) (u : σ) {w : va_W} {a : Nat} (hP : va_P D cl w H) (hD : va_D A w) (hw : w = post u) (ha : a = ans u) (hS : va_S A s.heap H locs) (hdg : decode cc pc = .ok (.areturn, 1)) : W p l e R s m args below meth c H locs cells slots (MQ below (kQr D cl post ans A) args s cells slots A) (F0 m pc ls [.ref a]) := by
  subst hw
  subst ha
  exact W.aret F.1 F.2.1 hr (Or.inl ⟨_, rfl⟩) (Or.inr ⟨_, rfl⟩) (fun t ht hw => ⟨⟨u, rfl, by rw [ht]; exact hP, hD⟩, hS.F ht⟩) hS.2.2 hdg hlk
theorem k_obj (F : CallFix p m c cc nL s args (w0 :: G) own) {idx : Nat} (h1 : Cond.methodLink own idx Lib.objectInit ∈ G) (h2 : Cond.instanceMethod Lib.objectInit ∈ G) (h3 : Cond.code Lib.objectInit ⟨#[0xb1]⟩ 1 none ∈ G) (hsz : ls.size = nL) {a : Addr} (hd : decode cc pc = .ok (.invokespecial idx, 3)) (hf : 1 ≤ R.frames) (hrest : (rest.map fun v => v.category).sum ≤ 8) (hlo : 20 ≤ R.locals) (kk : W p l e R s m args below meth c H locs cells slots Q (F0 m (pc + 3) ls rest)) : W p l e R s m args below meth c H locs cells slots Q (F0 m pc ls (.ref a :: rest)) := by
  have hw := lv_room (m := m) (pc := pc) (ls := ls) (rest := .ref a :: rest) hrest
  exact W.objInit F.1 F.2.1 F.2.2.2.1 (x_hts F _ h1) (x_hts F _ h2) (x_hts F _ h3) rfl (hsz.trans F.2.2.1.symm) rfl hd hf (by omega) kk
theorem k_newa (F : CallFix p m c cc nL s args (w0 :: G) own) {atype : ArrayType} {ty : FieldType} (harr : Cond.arrayClass ty ∈ G) (hty : newarray.typeOf atype = ty) (hK : xK D cl tys nf nm s) {t0 : Nat} {cA : ClassId} (ht : tys[t0]? = some (cA, ty)) (hprim : va_RA s cA ty = (s.vm.findClass ("[" ++ ty.toString) = some cA)) (hP : va_P D cl ws H) (hD : va_D A ws) (hS : va_S A H0 H locs) (hA : ∀ q, H0.size ≤ q → A q)
    {n : Int32} {N' : Nat} {a0 : vp_A} (ha : ∀ cA : ClassId, vp_cell cA a0 = arrV cA N' (fun _ => defaultValue ty)) (hn : ¬ n < 0) (hN : n.toNatClampNeg = N') (hbytes : N' * componentBytes ty ≤ 536870912) (hcells : cells + 1 ≤ R.cells) (hslots : slots + N' ≤ R.slots) (hdg : decode cc pc = .ok (.newarray atype, 2))
    (kk : ∀ (q : Nat) (H1 : Heap), va_P D cl (ws ++ [(q, .inl (cA, a0))]) H1 → va_D A (ws ++ [(q, .inl (cA, a0))]) → va_S A H0 H1 locs →
      W p l e R s m args below meth c H1 locs (cells + 1) (slots + N') Q (F0 m (pc + 2) ls (.ref q :: rest))) : W p l e R s m args below meth c H locs cells slots Q (F0 m pc ls (.int n :: rest)) := by
  subst hty
  refine va_newa F.1 F.2.1 (x_hts F _ harr) rfl hK.1 hP hD hS hA ha hn hN hbytes hcells hslots hdg (fun q cB H1 hK1 hP1 hD1 hS1 => ?_)
  have e1 : va_RA s cB (newarray.typeOf atype) := (hK1.2 tys.length (cB, newarray.typeOf atype) (by simp)).2
  have e2 := (hK.1.2 t0 _ ht).2
  have e3 : s.vm.findClass ("[" ++ (newarray.typeOf atype).toString) = some cA := by rw [← hprim]; exact e2
  have e4 : s.vm.findClass ("[" ++ (newarray.typeOf atype).toString) = some cB := by
    revert e1
    cases atype <;> exact fun h => h
  have e5 : cB = cA := Option.some.inj (e4.symm.trans e3)
  subst e5
  exact kk q H1 hP1 hD1 hS1
theorem k_newq (F : CallFix p m c cc nL s args (w0 :: G) own) {C : String} {index : Nat} (hcl : Cond.classLink own index C ∈ G) (hov : Cond.arrayOver (.object C) ∈ G) (hK : xK D cl tys nf nm s) {t0 : Nat} {cA : ClassId} (ht : tys[t0]? = some (cA, .object C)) (hP : va_P D cl ws H) (hD : va_D A ws) (hS : va_S A H0 H locs) (hA : ∀ q, H0.size ≤ q → A q)
    {n : Int32} {N' : Nat} (hn : ¬ n < 0) (hN : n.toNatClampNeg = N') (hbytes : N' * 4 ≤ 536870912) (hcells : cells + 1 ≤ R.cells) (hslots : slots + N' ≤ R.slots) (hdg : decode cc pc = .ok (.anewarray index, 3))
    (kk : ∀ (q : Nat) (H1 : Heap), va_P D cl (ws ++ [(q, .inl (cA, N', .inr (.inr (.inr (.inr (fun _ => none))))))]) H1 → va_D A (ws ++ [(q, .inl (cA, N', .inr (.inr (.inr (.inr (fun _ => none))))))]) → va_S A H0 H1 locs →
      W p l e R s m args below meth c H1 locs (cells + 1) (slots + N') Q (F0 m (pc + 3) ls (.ref q :: rest))) : W p l e R s m args below meth c H locs cells slots Q (F0 m pc ls (.int n :: rest)) := by
  refine va_newq F.1 F.2.1 F.2.2.2.1 (x_hts F _ hcl) (va_AO.of (x_hts F _ hov)) hK.1 hP hD hS hA hn hN hbytes hcells hslots hdg (fun q cB H1 hK1 hP1 hD1 hS1 => ?_)
  obtain ⟨_, _, -, -, -, e1⟩ := (hK1.2 tys.length (cB, .object C) (by simp)).2
  obtain ⟨_, _, -, -, -, e2⟩ := (hK.1.2 t0 _ ht).2
  have e5 : cB = cA := Option.some.inj (e1.symm.trans e2)
  subst e5
  exact kk q H1 hP1 hD1 hS1
/-- a constructor is called, plain or of a nest mate -/
theorem k_join {A0 : Nat → Prop} {wc wr : va_W} {σ : Type} {post : σ → va_W} {st : List Value} {mc ms : Nat} {a : Array Value} (hP : va_P D cl ws H) (hD : va_D A0 ws) (hS : va_S A0 H0 H locs) (hA : ∀ q, H0.size ≤ q → A0 q) (isC isR : List Nat) (hC : isC.map (fun i => ws[i]?) = wc.map some) (hR : isR.map (fun i => ws[i]?) = wr.map some) (hn : va_nd isR = true) (hdis : ∀ i ∈ isR, i ∉ isC)
    (hr : va_Run p l e R s m args below meth c H locs cells slots mc ms (F0 m pc ls st) rest (kQ D cl post (va_A wc H.size) a) (va_A wc H.size))
    (kk : ∀ (u : σ) (H1 : Heap) (locs1 : List Loc), va_P D cl (wr ++ post u) H1 → va_D A0 (wr ++ post u) → va_S A0 H0 H1 locs1 → W p l e R s m args below meth c H1 locs1 (cells + mc) (slots + ms) Q (F0 m (pc + 3) ls rest)) : W p l e R s m args below meth c H locs cells slots Q (F0 m pc ls st) := by
  have hF := va_free (wc := wc) hD hS hA isC hC
  refine va_callv hr hS (fun q _ h => hF q h) hF (fun u t H1 locs1 ht hvm hw hB hz1 hk1 hS1 => ?_)
  obtain ⟨hP1, hD1⟩ := hB
  rw [ht] at hP1
  obtain ⟨hP2, hD2⟩ := va_join hP hD isC isR hC hR hn hdis hk1 hF hP1 hD1
  exact kk u H1 locs1 hP2 hD2 hS1
theorem k_gi (hG : xGd G) {y : MethodName} {bytes : ByteArray} {maxL : Nat} {ret : Option FieldType} (h : Cond.code y bytes maxL ret ∈ G) : GoodIn (w0 :: G) (Cond.code y bytes maxL ret :: G) := xG_in hG (fun w hw => by
    rcases List.mem_cons.mp hw with rfl | h'
    · exact h
    · exact h')
def kMi (G : List Cond) (y : MethodName) (bytes : ByteArray) (maxL n : Nat) : Prop := Cond.instanceMethod y ∈ G ∧ Cond.initialized y.cls ∈ G ∧ Cond.code y bytes maxL none ∈ G ∧ y.name = "<init>" ∧ (y.cls ≠ "java/lang/invoke/MethodHandle" ∧ y.cls ≠ "java/lang/invoke/VarHandle" ∧ (parseMethodDescriptor y.desc).map (fun d => d.parameters.length) = some n)
theorem k_callI (F : CallFix p m c cc nL s args (w0 :: G) own) (hG : xGd G) (hK : xK D cl tys nf nm s) {A0 : Nat → Prop} {wc wr : va_W} {σ : Type} {post : σ → va_W} {st As : List Value} {y : MethodName} {bytes : ByteArray} {maxL nn index mc ms b : Nat} {rm : Room} (hP : va_P D cl ws H) (hD : va_D A0 ws) (hS : va_S A0 H0 H locs) (hA : ∀ q, H0.size ≤ q → A0 q) (M : kMi G y bytes maxL nn) (hl : Cond.methodLink own index y ∈ G) (isC isR : List Nat) (hC : isC.map (fun i => ws[i]?) = wc.map some) (hR : isR.map (fun i => ws[i]?) = wr.map some) (hn : va_nd isR = true) (hdis : ∀ i ∈ isR, i ∉ isC) (hPc : va_P D cl wc H) (hDc : va_D A0 wc)
    (hM : ∀ sz, Met l y (Cond.code y bytes maxL none :: G) rm (kPc D cl tys nf nm (.ref b :: As) sz wc) (kQ D cl post (va_A wc sz)) mc ms (va_A wc sz)) (hst : st = As.reverse ++ .ref b :: rest) (hna : As.length = nn) (hsz : ls.size = nL) (hrc : rm.cells = mc) (hrs : rm.slots = ms) (hRm : rm.frames + 1 ≤ R.frames ∧ 8 + (maxL + 11) + rm.locals ≤ R.locals) (hcs : cells + mc ≤ R.cells ∧ slots + ms ≤ R.slots) (hrest : (rest.map fun v => v.category).sum ≤ 8) (hdg : decode cc pc = .ok (.invokespecial index, 3))
    (kk : ∀ (u : σ) (H1 : Heap) (locs1 : List Loc), va_P D cl (wr ++ post u) H1 → va_D A0 (wr ++ post u) → va_S A0 H0 H1 locs1 → W p l e R s m args below meth c H1 locs1 (cells + mc) (slots + ms) Q (F0 m (pc + 3) ls rest)) : W p l e R s m args below meth c H locs cells slots Q (F0 m pc ls st) :=
  k_join hP hD hS hA isC isR hC hR hn hdis (va_runI (As := As) (rest := rest) (n := nn) F (hM H.size) ⟨callB_of nn F.2.2.2.2 (k_gi hG M.2.2.1) rfl hrc hrs (x_hts F _ M.2.1) (x_hts F _ hl) M.2.2.2.2 hRm, M.2.2.2.1, x_hts F _ M.1⟩ ⟨kPc_blind, fun U hU hw => ⟨rfl, xK.warm hw hK, by rw [hU], by rw [hU]; exact hPc, hDc.weaken (fun _ _ _ _ => trivial)⟩⟩ rfl hna hsz hst (lv_room hrest) hdg hcs) kk
theorem k_callIN (F : CallFix p m c cc nL s args (w0 :: G) own) (hG : xGd G) (hK : xK D cl tys nf nm s) {A0 : Nat → Prop} {wc wr : va_W} {σ : Type} {post : σ → va_W} {st As : List Value} {y : MethodName} {host : String} {bytes : ByteArray} {maxL nn index mc ms b : Nat} {rm : Room} (hP : va_P D cl ws H) (hD : va_D A0 ws) (hS : va_S A0 H0 H locs) (hA : ∀ q, H0.size ≤ q → A0 q) (M : kMi G y bytes maxL nn) (hl : (own, index, y, host) ∈ nm) (isC isR : List Nat) (hC : isC.map (fun i => ws[i]?) = wc.map some) (hR : isR.map (fun i => ws[i]?) = wr.map some) (hn : va_nd isR = true) (hdis : ∀ i ∈ isR, i ∉ isC) (hPc : va_P D cl wc H) (hDc : va_D A0 wc)
    (hM : ∀ sz, Met l y (Cond.code y bytes maxL none :: G) rm (kPc D cl tys nf nm (.ref b :: As) sz wc) (kQ D cl post (va_A wc sz)) mc ms (va_A wc sz)) (hst : st = As.reverse ++ .ref b :: rest) (hna : As.length = nn) (hsz : ls.size = nL) (hrc : rm.cells = mc) (hrs : rm.slots = ms) (hRm : rm.frames + 1 ≤ R.frames ∧ 8 + (maxL + 11) + rm.locals ≤ R.locals) (hcs : cells + mc ≤ R.cells ∧ slots + ms ≤ R.slots) (hrest : (rest.map fun v => v.category).sum ≤ 8) (hdg : decode cc pc = .ok (.invokespecial index, 3))
    (kk : ∀ (u : σ) (H1 : Heap) (locs1 : List Loc), va_P D cl (wr ++ post u) H1 → va_D A0 (wr ++ post u) → va_S A0 H0 H1 locs1 → W p l e R s m args below meth c H1 locs1 (cells + mc) (slots + ms) Q (F0 m (pc + 3) ls rest)) : W p l e R s m args below meth c H locs cells slots Q (F0 m pc ls st) :=
  k_join hP hD hS hA isC isR hC hR hn hdis (va_runIN (As := As) (rest := rest) (n := nn) (host := host) F (hM H.size) ⟨va_cnB nn F.2.2.2.2 (k_gi hG M.2.2.1) rfl hrc hrs (hK.2.2 _ hl) (x_hts F _ M.2.1) M.2.2.2.2 hRm, M.2.2.2.1, x_hts F _ M.1⟩ ⟨kPc_blind, fun U hU hw => ⟨rfl, xK.warm hw hK, by rw [hU], by rw [hU]; exact hPc, hDc.weaken (fun _ _ _ _ => trivial)⟩⟩ rfl hna hsz hst (lv_room hrest) hdg hcs) kk
theorem k_getN (F : CallFix p m c cc nL s args (w0 :: G) own) {C host : String} {T : u_T} {ty : Nat → FieldType} {N ci index a : Nat} {fs : List Value} (hK : xK D cl tys nf nm s) (hP : va_P D cl ws H) (B : xCls G cl ci C T ty N) (q0 : Nat) (he : ws[q0]? = some (a, .inr (ci, fs))) (k : Nat) (hk : k < N) (hl : (own, index, (T k).1, (T k).2.1, (T k).2.2.1, host) ∈ nf) {v : Value} (hv : fs[k]? = some v) (hdg : decode cc pc = .ok (.getfield index, 3))
    (kk : W p l e R s m args below meth c H locs cells slots Q (F0 m (pc + 3) ls (v :: rest))) : W p l e R s m args below meth c H locs cells slots Q (F0 m pc ls (.ref a :: rest)) :=
  va_getN F.1 F.2.1 (x_hts F) B.1 F.2.2.2.1 hK.1 hP q0 he B.2.1 k hk (va_Nw.use rfl (hK.2.1 _ hl)) (fun _ h => h) hv hdg kk
end XK
