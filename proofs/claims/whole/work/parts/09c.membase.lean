/-! a call inside a larger world: what the callee's world doesn't hold stays -/
section XR
variable {p : Program} {l : Launch} {e : Env} {R : Room} {s : State} {m : MethodId} {args : Array Value} {below : List Frame} {meth : Method} {c : Code} {H : Heap} {locs : List Loc} {cells slots : Nat} {Q : State → Prop}
variable {cc : ByteArray} {nL : Nat} {w0 : Cond} {G : List Cond} {own : String}
variable {pc : Nat} {ls : Array Slot} {rest : List Value} {D : va_G} {cl : List vw_C} {tys : List (ClassId × FieldType)} {nf : List xNf} {nm : List xNm} {dom : Nat → Nat → Prop} {ad : Nat → Nat → Nat} {de : xDe} {S : xS} {H0 : Heap} {A0 : Nat → Prop}
theorem x_run0 {st : List Value} {r : Option Value} {S1 : xS} {a : Array Value}
    (hr : va_Run p l e R s m args below meth c H locs cells slots 0 0 (F0 m pc ls st) rest ((xQ D cl dom ad de r S1) a) (xA dom ad)) (hS : va_S A0 H0 H locs) (hsub : ∀ q, xA dom ad q → A0 q)
    (kk : ∀ (H1 : Heap) (locs1 : List Loc), xW D cl dom ad de S1 H1 → H.size ≤ H1.size → (∀ q : Nat, q < H.size → ¬ xA dom ad q → H1[q]? = H[q]?) → va_S A0 H0 H1 locs1 → W p l e R s m args below meth c H1 locs1 cells slots Q (F0 m (pc + 3) ls (r.toList ++ rest))) : W p l e R s m args below meth c H locs cells slots Q (F0 m pc ls st) := by
  intro T hT X
  obtain ⟨v, st₀, t, T', L, h0, X', hL, e1, e2, ⟨hv, hw, hz, hk⟩, st⟩ := hr T hT X
  cases hv
  rw [h0] at hz hk
  obtain ⟨t2, a1, b1⟩ := kk T'.heap (locs ++ L) (by rw [e1]; exact hw) (by rw [e1]; exact hz) (fun q h1 h2 => by rw [e1]; exact hk q h1 h2)
    ⟨Nat.le_trans hS.1 (by rw [e1]; exact hz), fun q h1 h2 => by rw [e1, hk q (Nat.lt_of_lt_of_le h1 hS.1) (fun z => h2 (hsub q z))]; exact hS.2.1 q h1 h2, fun q hq => by
      rcases List.mem_append.mp hq with h | h
      · exact hS.2.2 q h
      · exact hsub _ (hL q h)⟩ T' rfl X'
  exact ⟨t2, st t2 a1, b1⟩
end XR
def mDom (n j : Nat) : Prop := n = 0 ∧ j < 2
def mAd (a1 a2 : Nat) : Nat → Nat → Nat := fun _ j => if j = 0 then a1 else a2
def mDe (ad : Nat → Nat → Nat) (cJ : ClassId) : xDe := fun i q _ _ j => if j = 0 then .inr (5, [.ref (ad 0 1), .int (i 1)]) else .inl (cJ, 512, .inr (.inl q))
theorem md_d0 : mDom 0 0 := ⟨rfl, by omega⟩
theorem md_d1 : mDom 0 1 := ⟨rfl, by omega⟩
theorem md_0 {ad : Nat → Nat → Nat} {cJ : ClassId} (i : Nat → Int32) (q : Nat → Int64) (e : Option (Nat × Nat)) : mDe ad cJ i q e 0 0 = .inr (5, [.ref (ad 0 1), .int (i 1)]) := rfl
theorem md_1 {ad : Nat → Nat → Nat} {cJ : ClassId} (i : Nat → Int32) (q : Nat → Int64) (e : Option (Nat × Nat)) : mDe ad cJ i q e 0 1 = .inl (cJ, 512, .inr (.inl q)) := rfl
/-- the tables know the classes of the two rows of objects -/
def kO (U : State) : Prop := va_AO "TransputerNet$Link" U ∧ va_AO "TransputerNet$Node" U
theorem kO.moved {u U : State} (hvm : u.vm.Alike U.vm) (h : kO u) : kO U := ⟨h.1.moved hvm, h.2.moved hvm⟩
def kPo (D : va_G) (cl : List vw_C) (tys : List (ClassId × FieldType)) (nf : List xNf) (nm : List xNm) (av : List Value) (sz : Nat) (ws : va_W) : Array Value → State → Prop := va_Pc av (fun U => kO U ∧ xK D cl tys nf nm U ∧ U.heap.size = sz ∧ va_P D cl ws U.heap ∧ va_D (fun _ => True) ws)
theorem kPo_blind {D : va_G} {cl : List vw_C} {tys : List (ClassId × FieldType)} {nf : List xNf} {nm : List xNm} {av : List Value} {sz : Nat} {ws : va_W} : FrameBlind (kPo D cl tys nf nm av sz ws) := fun a U g mk q => ⟨q.1, q.2.1.moved (Vm.Alike.refl U.vm), xK.call (U := U) (V := U.calling g mk a) rfl q.2.2.1, q.2.2.2⟩
section XO
variable {p : Program} {l : Launch} {e : Env} {R : Room} {s : State} {m : MethodId} {args : Array Value} {below : List Frame} {meth : Method} {c : Code} {H : Heap} {locs : List Loc} {cells slots : Nat} {Q : State → Prop}
variable {cc : ByteArray} {nL : Nat} {w0 : Cond} {G : List Cond} {own : String}
variable {pc : Nat} {ls : Array Slot} {rest : List Value} {D : va_G} {cl : List vw_C} {tys : List (ClassId × FieldType)} {nf : List xNf} {nm : List xNm} {ws : va_W} {H0 : Heap} {A : Nat → Prop}
theorem k_enterO {y : MethodName} {ret : Option FieldType} {rm : Room} {av : List Value} {sz mc ms : Nat} {Qc : (Nat → Prop) → Array Value → State → Outcome → State → Prop} (hy : plainName y.cls = true) (hn : (lg_sl av).length ≤ nL)
    (body : ∀ (p : Program) (e : Env) (s : State) (m : MethodId) (below : List Frame) (meth : Method) (c : Code) (A : Nat → Prop), CallFix p m c cc nL s av.toArray (Cond.code y cc nL ret :: G) y.cls → meth.sig.returnType = ret → meth.locks = false → kO s → xK D cl tys nf nm s → va_P D cl ws s.heap → va_D A ws → (∀ q, s.heap.size ≤ q → A q) → va_S A s.heap s.heap [] → ∀ ls : Array Slot, lv_has ls nL (lv_args 0 av) → W p l e rm s m av.toArray below meth c s.heap [] 0 0 (MQ below (Qc A) av.toArray s mc ms A) (F0 m 0 ls [])) : Met l y (Cond.code y cc nL ret :: G) rm (kPo D cl tys nf nm av sz ws) (Qc (va_A ws sz)) mc ms (va_A ws sz) := by
  refine Met.ofW (cc := cc) (maxL := nL) (ret := ret) hy rfl ?_
  intro p e s m args below meth c s₁ B hml hv
  obtain ⟨rfl, hO, hK, hsz, hP, hD⟩ := hv
  have hl := lv_entry av (n := nL) hn
  rw [lg_entry_eq]
  subst hsz
  exact body p e s m below meth c (va_A ws s.heap.size) ⟨B.exec, B.bytes, hml, findClass_of_methodNamed B.named, atoms_spec (ws := Cond.code y cc nL ret :: G) B.pre⟩ B.returns B.notSynchronized hO hK hP hD.self (fun q h => Or.inr h) va_S.rf _ hl
theorem k_newqO (F : CallFix p m c cc nL s args (w0 :: G) own) {C : String} {index : Nat} (hcl : Cond.classLink own index C ∈ G) (hov : va_AO C s) (hK : xK D cl tys nf nm s) {t0 : Nat} {cA : ClassId} (ht : tys[t0]? = some (cA, .object C)) (hP : va_P D cl ws H) (hD : va_D A ws) (hS : va_S A H0 H locs) (hA : ∀ q, H0.size ≤ q → A q)
    {n : Int32} {N' : Nat} (hn : ¬ n < 0) (hN : n.toNatClampNeg = N') (hbytes : N' * 4 ≤ 536870912) (hcells : cells + 1 ≤ R.cells) (hslots : slots + N' ≤ R.slots) (hdg : decode cc pc = .ok (.anewarray index, 3))
    (kk : ∀ (q : Nat) (H1 : Heap), va_P D cl (ws ++ [(q, .inl (cA, N', .inr (.inr (.inr (.inr (fun _ => none))))))]) H1 → va_D A (ws ++ [(q, .inl (cA, N', .inr (.inr (.inr (.inr (fun _ => none))))))]) → va_S A H0 H1 locs →
      W p l e R s m args below meth c H1 locs (cells + 1) (slots + N') Q (F0 m (pc + 3) ls (.ref q :: rest))) : W p l e R s m args below meth c H locs cells slots Q (F0 m pc ls (.int n :: rest)) := by
  refine va_newq F.1 F.2.1 F.2.2.2.1 (x_hts F _ hcl) hov hK.1 hP hD hS hA hn hN hbytes hcells hslots hdg (fun q cB H1 hK1 hP1 hD1 hS1 => ?_)
  obtain ⟨_, _, -, -, -, e1⟩ := (hK1.2 tys.length (cB, .object C) (by simp)).2
  obtain ⟨_, _, -, -, -, e2⟩ := (hK.1.2 t0 _ ht).2
  have e5 : cB = cA := Option.some.inj (e1.symm.trans e2)
  subst e5
  exact kk q H1 hP1 hD1 hS1
end XO
