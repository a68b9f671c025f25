/-! the base: a state of cells by (group, cell, place), the world that holds it, and rows over it -/
abbrev xS : Type := (Nat → Nat → Nat → Int32) × (Nat → Nat → Nat → Int64) × (Nat → Nat → Option (Nat × Nat))
def xI (S : xS) (n j : Nat) : Nat → Int32 := S.1 n j
def xJ (S : xS) (n j : Nat) : Nat → Int64 := S.2.1 n j
def xE (S : xS) (n j : Nat) : Option (Nat × Nat) := S.2.2 n j
def sI (S : xS) (n j k : Nat) (v : Int32) : xS := (fun a b => if a = n ∧ b = j then upd (S.1 n j) k v else S.1 a b, S.2)
def sJ (S : xS) (n j k : Nat) (v : Int64) : xS := (S.1, fun a b => if a = n ∧ b = j then vp_updL (S.2.1 n j) k v else S.2.1 a b, S.2.2)
def sE (S : xS) (n j : Nat) (v : Option (Nat × Nat)) : xS := (S.1, S.2.1, fun a b => if a = n ∧ b = j then v else S.2.2 a b)
theorem sI_at (S : xS) (n j k : Nat) (v : Int32) : xI (sI S n j k v) n j = upd (xI S n j) k v := by simp [xI, sI]
theorem sI_off (S : xS) (n j k : Nat) (v : Int32) {a b : Nat} (h : ¬ (a = n ∧ b = j)) : xI (sI S n j k v) a b = xI S a b := by simp [xI, sI, h]
theorem sJ_at (S : xS) (n j k : Nat) (v : Int64) : xJ (sJ S n j k v) n j = vp_updL (xJ S n j) k v := by simp [xJ, sJ]
theorem sJ_off (S : xS) (n j k : Nat) (v : Int64) {a b : Nat} (h : ¬ (a = n ∧ b = j)) : xJ (sJ S n j k v) a b = xJ S a b := by simp [xJ, sJ, h]
theorem sE_at (S : xS) (n j : Nat) (v : Option (Nat × Nat)) : xE (sE S n j v) n j = v := by simp [xE, sE]
theorem sE_off (S : xS) (n j : Nat) (v : Option (Nat × Nat)) {a b : Nat} (h : ¬ (a = n ∧ b = j)) : xE (sE S n j v) a b = xE S a b := by simp [xE, sE, h]
/-- a state is named; an index is in range; a truth value is one -/
def xnm {α : Type} (S : xS) (f : xS → Option α) : Option α := f S
def gd {α : Type} (i : Int32) (n : Nat) (k : Option α) : Option α := if (¬ i < 0) ∧ i.toNatClampNeg < n then k else none
def gz {α : Type} (v : Int32) (k : Option α) : Option α := if v = 0 ∨ v = 1 then k else none
def gq {α : Type} (c : Prop) [Decidable c] (k : Option α) : Option α := if c then k else none
theorem gd_use {α : Type} {i : Int32} {n : Nat} {k : Option α} {o : α} (h : gd i n k = some o) : vp_in i n ∧ k = some o := by
  unfold gd at h
  split at h
  · next q => exact ⟨fun z => z.elim q.1 (fun z => absurd q.2 (Nat.not_lt.mpr z)), h⟩
  · cases h
theorem gz_use {α : Type} {v : Int32} {k : Option α} {o : α} (h : gz v k = some o) : (v = 0 ∨ v = 1) ∧ k = some o := by
  unfold gz at h
  split at h
  · next q => exact ⟨q, h⟩
  · cases h
theorem gq_use {α : Type} {c : Prop} [Decidable c] {k : Option α} {o : α} (h : gq c k = some o) : c ∧ k = some o := by
  unfold gq at h
  split at h
  · next q => exact ⟨q, h⟩
  · cases h
theorem z_nar {v : Int32} (h : v = 0 ∨ v = 1) : narrow .boolean (.int v) = .int v := by rcases h with rfl | rfl <;> rfl
theorem z_fit {v : Int32} (h : v = 0 ∨ v = 1) : fits .boolean (.int v) = true := by rcases h with rfl | rfl <;> rfl
abbrev xDe : Type := (Nat → Int32) → (Nat → Int64) → Option (Nat × Nat) → Nat → Nat → va_E
def xW (D : va_G) (cl : List vw_C) (dom : Nat → Nat → Prop) (ad : Nat → Nat → Nat) (de : xDe) (S : xS) (H : Heap) : Prop := ∀ n j, dom n j → va_at D cl (ad n j, de (xI S n j) (xJ S n j) (xE S n j) n j) H
def xInj (dom : Nat → Nat → Prop) (ad : Nat → Nat → Nat) : Prop := ∀ a b n j, dom a b → dom n j → ad a b = ad n j → a = n ∧ b = j
def xA (dom : Nat → Nat → Prop) (ad : Nat → Nat → Nat) : Nat → Prop := fun q => ∃ n j, dom n j ∧ q = ad n j
theorem xW.set {D : va_G} {cl : List vw_C} {dom : Nat → Nat → Prop} {ad : Nat → Nat → Nat} {de : xDe} {S S' : xS} {H H1 : Heap} {n j : Nat} (hW : xW D cl dom ad de S H) (hI : xInj dom ad) (hd : dom n j)
    (hoff : ∀ a b, ¬ (a = n ∧ b = j) → xI S' a b = xI S a b ∧ xJ S' a b = xJ S a b ∧ xE S' a b = xE S a b) (hat : va_at D cl (ad n j, de (xI S' n j) (xJ S' n j) (xE S' n j) n j) H1) (oq : ∀ q : Nat, q ≠ ad n j → H1[q]? = H[q]?) : xW D cl dom ad de S' H1 := by
  intro a b hab
  by_cases h : a = n ∧ b = j
  · obtain ⟨rfl, rfl⟩ := h
    exact hat
  · obtain ⟨e1, e2, e3⟩ := hoff a b h
    rw [e1, e2, e3]
    exact (hW a b hab).kept (oq _ (fun z => h (hI a b n j hab hd z)))
theorem xW.one {D : va_G} {cl : List vw_C} {dom : Nat → Nat → Prop} {ad : Nat → Nat → Nat} {de : xDe} {S : xS} {H : Heap} {n j : Nat} {x : va_E} (hW : xW D cl dom ad de S H) (hd : dom n j) (he : de (xI S n j) (xJ S n j) (xE S n j) n j = x) : va_P D cl [(ad n j, x)] H := by
  intro k q hk
  cases k with
  | zero => cases hk; rw [← he]; exact hW n j hd
  | succ k => simp at hk
abbrev xNf : Type := String × Nat × String × String × String × String
abbrev xNm : Type := String × Nat × MethodName × String
/-- what the tables say: the classes, the arrays' classes, links between nest mates -/
def xK (D : va_G) (cl : List vw_C) (tys : List (ClassId × FieldType)) (nf : List xNf) (nm : List xNm) (U : State) : Prop := va_K D cl tys U ∧ (∀ q ∈ nf, va_Nw (.fieldLinkNest q.1 q.2.1 q.2.2.1 q.2.2.2.1 q.2.2.2.2.1 q.2.2.2.2.2) U) ∧ (∀ q ∈ nm, va_Nw (.methodLinkNest q.1 q.2.1 q.2.2.1 q.2.2.2) U)
theorem xK.warm {D : va_G} {cl : List vw_C} {tys : List (ClassId × FieldType)} {nf : List xNf} {nm : List xNm} {s U : State} (hW : s.WarmedH U.vm) (h : xK D cl tys nf nm s) : xK D cl tys nf nm U := ⟨va_K.moved hW.alike h.1, fun q hq => va_Nw.warmF hW (h.2.1 q hq), fun q hq => va_Nw.warmM hW (h.2.2 q hq)⟩
theorem xK.call {D : va_G} {cl : List vw_C} {tys : List (ClassId × FieldType)} {nf : List xNf} {nm : List xNm} {U V : State} (hv : U.vm = V.vm) (h : xK D cl tys nf nm U) : xK D cl tys nf nm V := ⟨va_K.moved (by rw [hv]; exact Vm.Alike.refl V.vm) h.1, fun q hq => va_Nw.same rfl hv (h.2.1 q hq), fun q hq => va_Nw.same rfl hv (h.2.2 q hq)⟩
def xPc (D : va_G) (cl : List vw_C) (tys : List (ClassId × FieldType)) (nf : List xNf) (nm : List xNm) (dom : Nat → Nat → Prop) (ad : Nat → Nat → Nat) (de : xDe) (av : List Value) (S : xS) : Array Value → State → Prop := va_Pc av (fun U => xK D cl tys nf nm U ∧ xW D cl dom ad de S U.heap)
def xQ (D : va_G) (cl : List vw_C) (dom : Nat → Nat → Prop) (ad : Nat → Nat → Nat) (de : xDe) (r : Option Value) (S : xS) : Array Value → State → Outcome → State → Prop := fun _ st oc t => oc = .returned r ∧ xW D cl dom ad de S t.heap ∧ va_F (xA dom ad) st t
theorem xPc_blind {D : va_G} {cl : List vw_C} {tys : List (ClassId × FieldType)} {nf : List xNf} {nm : List xNm} {dom : Nat → Nat → Prop} {ad : Nat → Nat → Nat} {de : xDe} {av : List Value} {S : xS} : FrameBlind (xPc D cl tys nf nm dom ad de av S) := fun a U g mk q => ⟨q.1, xK.call (U := U) (V := U.calling g mk a) rfl q.2.1, q.2.2⟩
/-- a class's tables, out of the words G -/
def xCls (G : List Cond) (cl : List vw_C) (ci : Nat) (C : String) (T : u_T) (ty : Nat → FieldType) (N : Nat) : Prop := (∀ w ∈ u_ws C T N, w ∈ G) ∧ cl[ci]? = some (C, T, N) ∧ (∀ k, k < N → parseFieldDescriptor (T k).2.2.1 = some (ty k)) ∧ (∀ a, a < N → ∀ b, b < N → a ≠ b → (T a).2.1 ≠ (T b).2.1)
/-- a method's words -/
def xMt (G : List Cond) (y : MethodName) (C : String) (bytes : ByteArray) (maxL : Nat) (ret : Option FieldType) (n : Nat) : Prop := Cond.instanceMethod y ∈ G ∧ Cond.selects C y y ∈ G ∧ Cond.initialized C ∈ G ∧ Cond.code y bytes maxL ret ∈ G ∧ (y.cls = C ∧ y.cls ≠ "java/lang/invoke/MethodHandle" ∧ y.cls ≠ "java/lang/invoke/VarHandle" ∧ (parseMethodDescriptor y.desc).map (fun d => d.parameters.length) = some n)
def xMs (G : List Cond) (y : MethodName) (bytes : ByteArray) (maxL : Nat) (ret : Option FieldType) (n : Nat) : Prop := Cond.static y ∈ G ∧ Cond.initialized y.cls ∈ G ∧ Cond.code y bytes maxL ret ∈ G ∧ (y.cls ≠ "java/lang/invoke/MethodHandle" ∧ y.cls ≠ "java/lang/invoke/VarHandle" ∧ (parseMethodDescriptor y.desc).map (fun d => d.parameters.length) = some n)
def xGd (G : List Cond) : Prop := ∀ w ∈ G, goodWord w = true
section XB
variable {p : Program} {l : Launch} {e : Env} {R : Room} {s : State} {m : MethodId} {args : Array Value} {below : List Frame} {meth : Method} {c : Code} {H : Heap} {locs : List Loc} {cells slots : Nat} {Q : State → Prop}
variable {cc : ByteArray} {nL : Nat} {w0 : Cond} {G : List Cond} {own : String}
variable {pc : Nat} {ls : Array Slot} {rest : List Value} {D : va_G} {cl : List vw_C} {tys : List (ClassId × FieldType)} {nf : List xNf} {nm : List xNm} {dom : Nat → Nat → Prop} {ad : Nat → Nat → Nat} {de : xDe} {S : xS} {H0 : Heap}
theorem x_hts (F : CallFix p m c cc nL s args (w0 :: G) own) : ∀ w ∈ G, w.before args s = true := fun w h => F.2.2.2.2 w (List.mem_cons_of_mem _ h)
theorem x_get (F : CallFix p m c cc nL s args (w0 :: G) own) {C : String} {T : u_T} {ty : Nat → FieldType} {N ci index n j : Nat} {fs : (Nat → Int32) → Option (Nat × Nat) → List Value} (hK : xK D cl tys nf nm s) (hW : xW D cl dom ad de S H) (B : xCls G cl ci C T ty N) (hd : dom n j) (he : ∀ i q e, de i q e n j = .inr (ci, fs i e)) (k : Nat) (hk : k < N) (hl : Cond.fieldLink own index (T k).1 (T k).2.1 (T k).2.2.1 ∈ G) {v : Value} (hv : (fs (xI S n j) (xE S n j))[k]? = some v) (hdg : decode cc pc = .ok (.getfield index, 3))
    (kk : W p l e R s m args below meth c H locs cells slots Q (F0 m (pc + 3) ls (v :: rest))) : W p l e R s m args below meth c H locs cells slots Q (F0 m pc ls (.ref (ad n j) :: rest)) :=
  va_get F.1 F.2.1 (x_hts F) B.1 F.2.2.2.1 hK.1 (hW.one hd (he _ _ _)) 0 rfl B.2.1 k hk (x_hts F _ hl) (fun _ h => h) hv hdg kk
theorem x_getN (F : CallFix p m c cc nL s args (w0 :: G) own) {C host : String} {T : u_T} {ty : Nat → FieldType} {N ci index n j : Nat} {fs : (Nat → Int32) → Option (Nat × Nat) → List Value} (hK : xK D cl tys nf nm s) (hW : xW D cl dom ad de S H) (B : xCls G cl ci C T ty N) (hd : dom n j) (he : ∀ i q e, de i q e n j = .inr (ci, fs i e)) (k : Nat) (hk : k < N) (hl : (own, index, (T k).1, (T k).2.1, (T k).2.2.1, host) ∈ nf) {v : Value} (hv : (fs (xI S n j) (xE S n j))[k]? = some v) (hdg : decode cc pc = .ok (.getfield index, 3))
    (kk : W p l e R s m args below meth c H locs cells slots Q (F0 m (pc + 3) ls (v :: rest))) : W p l e R s m args below meth c H locs cells slots Q (F0 m pc ls (.ref (ad n j) :: rest)) :=
  va_getN F.1 F.2.1 (x_hts F) B.1 F.2.2.2.1 hK.1 (hW.one hd (he _ _ _)) 0 rfl B.2.1 k hk (va_Nw.use rfl (hK.2.1 _ hl)) (fun _ h => h) hv hdg kk
theorem xW.putI {n j k ci : Nat} {C : String} {T : u_T} {N : Nat} {fs : (Nat → Int32) → Option (Nat × Nat) → List Value} {v : Int32} {H1 : Heap} (hW : xW D cl dom ad de S H) (hI : xInj dom ad) (hd : dom n j) (he : ∀ i q e, de i q e n j = .inr (ci, fs i e)) (hset : ∀ i e, fs (upd i k v) e = (fs i e).set k (.int v)) (hc : cl[ci]? = some (C, T, N))
    (hob : t_OB (ad n j) (D.1 ci) N (D.2 ci) H1 (vp_V ((fs (xI S n j) (xE S n j)).set k (.int v)))) (oq : ∀ q : Nat, q ≠ ad n j → H1[q]? = H[q]?) : xW D cl dom ad de (sI S n j k v) H1 := by
  refine hW.set hI hd (fun a b h => ⟨sI_off S n j k v h, rfl, rfl⟩) ?_ oq
  rw [sI_at, he]
  show ∃ r : vw_C, _
  exact ⟨_, hc, by rw [hset]; exact hob⟩
theorem x_put (F : CallFix p m c cc nL s args (w0 :: G) own) {C : String} {T : u_T} {ty : Nat → FieldType} {N ci index n j : Nat} {fs : (Nat → Int32) → Option (Nat × Nat) → List Value} (hK : xK D cl tys nf nm s) (hI : xInj dom ad) (hW : xW D cl dom ad de S H) (hS : va_S (xA dom ad) H0 H locs) (B : xCls G cl ci C T ty N) (hd : dom n j) (he : ∀ i q e, de i q e n j = .inr (ci, fs i e)) (k : Nat) (hk : k < N) (hl : Cond.fieldLink own index (T k).1 (T k).2.1 (T k).2.2.1 ∈ G) (hfin : (T k).2.2.2 = false) {v : Int32} (hn : narrow (ty k) (.int v) = .int v) (hfit : fits (ty k) (.int v) = true) (hset : ∀ i e, fs (upd i k v) e = (fs i e).set k (.int v)) (hlen : ∀ i e, k < (fs i e).length) (hdg : decode cc pc = .ok (.putfield index, 3))
    {α : Type} {body : xS → Option α} {o : α} (h : xnm (sI S n j k v) body = some o)
    (kk : ∀ (S1 : xS) (H1 : Heap) (locs1 : List Loc), xW D cl dom ad de S1 H1 → va_S (xA dom ad) H0 H1 locs1 → body S1 = some o → W p l e R s m args below meth c H1 locs1 cells slots Q (F0 m (pc + 3) ls rest)) : W p l e R s m args below meth c H locs cells slots Q (F0 m pc ls (.int v :: .ref (ad n j) :: rest)) := by
  have hts := x_hts F
  have hap := va_apart (own := own) hts B.1 ty B.2.2.1 B.2.2.2 hK.1 B.2.1
  have hat := hW n j hd
  rw [he] at hat
  obtain ⟨r, h1, cell, q1, q2, q3, q4⟩ := hat
  have hr : r = (C, T, N) := Option.some.inj (h1.symm.trans B.2.1)
  subst hr
  obtain ⟨hSl, hfc, kC, hkC, hkind⟩ := hK.1.1 ci _ B.2.1
  obtain ⟨cf, kf, fi, f, hi, hsl⟩ := hSl k hk
  have hlay := hts _ (B.1 _ (u_in_lay hk))
  unfold u_lay at hlay
  rw [if_neg (by rw [hfin]; decide)] at hlay
  have hst := (u_facts hfc hkC (u_lays hts B.1 hk) hi).1
  have h6 := u_store hfc hkC hkind hlay hi (B.2.2.1 k hk) hn hfit
  refine W.putK F.1 F.2.1 (f := f) ⟨F.2.2.2.1, hts _ hl, ⟨_, _, _, hi⟩, hst⟩ (by rw [q2]; exact h6) q1 q3 (by rw [hsl]; exact k2_hasslot (q4 k hk)) rfl rfl hdg fun H' e1 e2 e3 => ?_
  rw [hsl] at e1 ⊢
  exact kk _ H' _ (hW.putI hI hd he hset B.2.1 (t_OB.to (V := updV (vp_V (fs (xI S n j) (xE S n j))) k (.int v)) ⟨_, e1, q2, q3, t_set q4 hap hk (.int v)⟩ (fun j _ => vp_updV_set (hlen _ _) (.int v) j)) e3) (hS.put e2 e3 ⟨n, j, hd, rfl⟩) h
theorem x_putN (F : CallFix p m c cc nL s args (w0 :: G) own) {C host : String} {T : u_T} {ty : Nat → FieldType} {N ci index n j : Nat} {fs : (Nat → Int32) → Option (Nat × Nat) → List Value} (hK : xK D cl tys nf nm s) (hI : xInj dom ad) (hW : xW D cl dom ad de S H) (hS : va_S (xA dom ad) H0 H locs) (B : xCls G cl ci C T ty N) (hd : dom n j) (he : ∀ i q e, de i q e n j = .inr (ci, fs i e)) (k : Nat) (hk : k < N) (hl : (own, index, (T k).1, (T k).2.1, (T k).2.2.1, host) ∈ nf) (hfin : (T k).2.2.2 = false) {v : Int32} (hn : narrow (ty k) (.int v) = .int v) (hfit : fits (ty k) (.int v) = true) (hset : ∀ i e, fs (upd i k v) e = (fs i e).set k (.int v)) (hlen : ∀ i e, k < (fs i e).length) (hdg : decode cc pc = .ok (.putfield index, 3))
    {α : Type} {body : xS → Option α} {o : α} (h : xnm (sI S n j k v) body = some o)
    (kk : ∀ (S1 : xS) (H1 : Heap) (locs1 : List Loc), xW D cl dom ad de S1 H1 → va_S (xA dom ad) H0 H1 locs1 → body S1 = some o → W p l e R s m args below meth c H1 locs1 cells slots Q (F0 m (pc + 3) ls rest)) : W p l e R s m args below meth c H locs cells slots Q (F0 m pc ls (.int v :: .ref (ad n j) :: rest)) := by
  have hts := x_hts F
  have hap := va_apart (own := own) hts B.1 ty B.2.2.1 B.2.2.2 hK.1 B.2.1
  have hat := hW n j hd
  rw [he] at hat
  obtain ⟨r, h1, cell, q1, q2, q3, q4⟩ := hat
  have hr : r = (C, T, N) := Option.some.inj (h1.symm.trans B.2.1)
  subst hr
  obtain ⟨hSl, hfc, kC, hkC, hkind⟩ := hK.1.1 ci _ B.2.1
  obtain ⟨cf, kf, fi, f, hi, hsl⟩ := hSl k hk
  have hlay := hts _ (B.1 _ (u_in_lay hk))
  unfold u_lay at hlay
  rw [if_neg (by rw [hfin]; decide)] at hlay
  have hst := (u_facts hfc hkC (u_lays hts B.1 hk) hi).1
  have h6 := u_store hfc hkC hkind hlay hi (B.2.2.1 k hk) hn hfit
  refine va_WputK F.1 F.2.1 (f := f) F.2.2.2.1 (va_Nw.use rfl (hK.2.1 _ hl)) hi hst (by rw [q2]; exact h6) q1 q3 (by rw [hsl]; exact k2_hasslot (q4 k hk)) rfl rfl hdg fun H' e1 e2 e3 => ?_
  rw [hsl] at e1 ⊢
  exact kk _ H' _ (hW.putI hI hd he hset B.2.1 (t_OB.to (V := updV (vp_V (fs (xI S n j) (xE S n j))) k (.int v)) ⟨_, e1, q2, q3, t_set q4 hap hk (.int v)⟩ (fun j _ => vp_updV_set (hlen _ _) (.int v) j)) e3) (hS.put e2 e3 ⟨n, j, hd, rfl⟩) h
-- arrays
theorem x_iald (F : CallFix p m c cc nL s args (w0 :: G) own) (hK : xK D cl tys nf nm s) (hW : xW D cl dom ad de S H) {n j t0 N : Nat} {cA : ClassId} (hd : dom n j) (he : ∀ i q e, de i q e n j = .inl (cA, N, .inl i)) (ht : tys[t0]? = some (cA, .int)) {i : Int32} (hdg : decode cc pc = .ok (.iaload, 1)) {α : Type} {b : Option α} {o : α} (h : gd i N b = some o)
    (kk : b = some o → W p l e R s m args below meth c H locs cells slots Q (F0 m (pc + 1) ls (.int (xI S n j i.toNatClampNeg) :: rest))) : W p l e R s m args below meth c H locs cells slots Q (F0 m pc ls (.int i :: .ref (ad n j) :: rest)) :=
  va_iald F.1 F.2.1 hK.1 (hW.one hd (he _ _ _)) 0 t0 rfl ht (gd_use h).1 hdg (kk (gd_use h).2)
theorem x_bald (F : CallFix p m c cc nL s args (w0 :: G) own) (hK : xK D cl tys nf nm s) (hW : xW D cl dom ad de S H) {n j t0 N : Nat} {cA : ClassId} (hd : dom n j) (he : ∀ i q e, de i q e n j = .inl (cA, N, .inl i)) (ht : tys[t0]? = some (cA, .byte)) {i : Int32} (hdg : decode cc pc = .ok (.baload, 1)) {α : Type} {b : Option α} {o : α} (h : gd i N b = some o)
    (kk : b = some o → W p l e R s m args below meth c H locs cells slots Q (F0 m (pc + 1) ls (.int (xI S n j i.toNatClampNeg) :: rest))) : W p l e R s m args below meth c H locs cells slots Q (F0 m pc ls (.int i :: .ref (ad n j) :: rest)) :=
  va_bald F.1 F.2.1 hK.1 (hW.one hd (he _ _ _)) 0 t0 rfl ht (gd_use h).1 hdg (kk (gd_use h).2)
theorem x_zald (F : CallFix p m c cc nL s args (w0 :: G) own) (hK : xK D cl tys nf nm s) (hW : xW D cl dom ad de S H) {n j t0 N : Nat} {cA : ClassId} (hd : dom n j) (he : ∀ i q e, de i q e n j = .inl (cA, N, .inl i)) (ht : tys[t0]? = some (cA, .boolean)) {i : Int32} (hdg : decode cc pc = .ok (.baload, 1)) {α : Type} {b : Option α} {o : α} (h : gd i N b = some o)
    (kk : b = some o → W p l e R s m args below meth c H locs cells slots Q (F0 m (pc + 1) ls (.int (xI S n j i.toNatClampNeg) :: rest))) : W p l e R s m args below meth c H locs cells slots Q (F0 m pc ls (.int i :: .ref (ad n j) :: rest)) :=
  va_zald F.1 F.2.1 hK.1 (hW.one hd (he _ _ _)) 0 t0 rfl ht (gd_use h).1 hdg (kk (gd_use h).2)
theorem x_lald (F : CallFix p m c cc nL s args (w0 :: G) own) (hK : xK D cl tys nf nm s) (hW : xW D cl dom ad de S H) {n j t0 N : Nat} {cA : ClassId} (hd : dom n j) (he : ∀ i q e, de i q e n j = .inl (cA, N, .inr (.inl q))) (ht : tys[t0]? = some (cA, .long)) {i : Int32} (hdg : decode cc pc = .ok (.laload, 1)) {α : Type} {b : Option α} {o : α} (h : gd i N b = some o)
    (kk : b = some o → W p l e R s m args below meth c H locs cells slots Q (F0 m (pc + 1) ls (.long (xJ S n j i.toNatClampNeg) :: rest))) : W p l e R s m args below meth c H locs cells slots Q (F0 m pc ls (.int i :: .ref (ad n j) :: rest)) :=
  va_lald F.1 F.2.1 hK.1 (hW.one hd (he _ _ _)) 0 t0 rfl ht (gd_use h).1 hdg (kk (gd_use h).2)
theorem x_aald (F : CallFix p m c cc nL s args (w0 :: G) own) (hK : xK D cl tys nf nm s) (hW : xW D cl dom ad de S H) {n j t0 N : Nat} {cA : ClassId} {C : String} {f : Nat → Option Nat} (hd : dom n j) (he : ∀ i q e, de i q e n j = .inl (cA, N, .inr (.inr (.inr (.inr f))))) (ht : tys[t0]? = some (cA, .object C)) {i : Int32} (hdg : decode cc pc = .ok (.aaload, 1)) {α : Type} {b : Option α} {o : α} (h : gd i N b = some o)
    (kk : b = some o → W p l e R s m args below meth c H locs cells slots Q (F0 m (pc + 1) ls (va_rf (f i.toNatClampNeg) :: rest))) : W p l e R s m args below meth c H locs cells slots Q (F0 m pc ls (.int i :: .ref (ad n j) :: rest)) :=
  va_aldq F.1 F.2.1 hK.1 (hW.one hd (he _ _ _)) 0 t0 rfl ht (gd_use h).1 hdg (kk (gd_use h).2)
theorem x_alen (F : CallFix p m c cc nL s args (w0 :: G) own) (hK : xK D cl tys nf nm s) (hW : xW D cl dom ad de S H) {n j t0 : Nat} {cA : ClassId} {x : vp_A} (hd : dom n j) (he : de (xI S n j) (xJ S n j) (xE S n j) n j = .inl (cA, x)) {ty : FieldType} (ht : tys[t0]? = some (cA, ty)) {v : Int32} (hv : Int32.ofNat x.1 = v) (hdg : decode cc pc = .ok (.arraylength, 1))
    (kk : W p l e R s m args below meth c H locs cells slots Q (F0 m (pc + 1) ls (.int v :: rest))) : W p l e R s m args below meth c H locs cells slots Q (F0 m pc ls (.ref (ad n j) :: rest)) :=
  va_alen F.1 F.2.1 hK.1 (hW.one hd he) 0 t0 rfl ht hv hdg kk
theorem xW.astI {n j N : Nat} {cA : ClassId} {k : Nat} {v : Int32} {w : Value} {H1 : Heap} (hW : xW D cl dom ad de S H) (hI : xInj dom ad) (hd : dom n j) (he : ∀ i q e, de i q e n j = .inl (cA, N, .inl i)) (hw : w = .int v) (e1 : H1[ad n j]? = some ((vp_cell cA (N, .inl (xI S n j))).setSlot k w)) (oq : ∀ q : Nat, q ≠ ad n j → H1[q]? = H[q]?) : xW D cl dom ad de (sI S n j k v) H1 := by
  refine hW.set hI hd (fun a b h => ⟨sI_off S n j k v h, rfl, rfl⟩) ?_ oq
  rw [sI_at, he]
  show H1[ad n j]? = some (vp_cell _ _)
  rw [e1, hw]
  rw [vp_cell_i, vp_cell_i, arrV_store]
  congr 2
  funext q
  by_cases hq : q = k
  · subst hq
    simp [updV, upd]
  · simp [updV, upd, hq]
theorem x_iast (F : CallFix p m c cc nL s args (w0 :: G) own) (hK : xK D cl tys nf nm s) (hI : xInj dom ad) (hW : xW D cl dom ad de S H) (hS : va_S (xA dom ad) H0 H locs) {n j t0 N : Nat} {cA : ClassId} (hd : dom n j) (he : ∀ i q e, de i q e n j = .inl (cA, N, .inl i)) (ht : tys[t0]? = some (cA, .int)) {i x : Int32} (hdg : decode cc pc = .ok (.iastore, 1)) {α : Type} {body : xS → Option α} {o : α} (h : gd i N (xnm (sI S n j i.toNatClampNeg x) body) = some o)
    (kk : ∀ (S1 : xS) (H1 : Heap) (locs1 : List Loc), xW D cl dom ad de S1 H1 → va_S (xA dom ad) H0 H1 locs1 → body S1 = some o → W p l e R s m args below meth c H1 locs1 cells slots Q (F0 m (pc + 1) ls rest)) : W p l e R s m args below meth c H locs cells slots Q (F0 m pc ls (.int x :: .int i :: .ref (ad n j) :: rest)) := by
  have hat := hW n j hd
  rw [he] at hat
  refine W.iast F.1 F.2.1 hat ((hK.1.2 t0 _ ht).1 N (fun k => .int (xI S n j k))) (fun q => by cases q) (by show ¬ (i < 0 ∨ (arrV _ _ _).slots.size ≤ _); rw [arrV_size]; exact (gd_use h).1) rfl rfl hdg fun H1 e1 z oq => ?_
  exact kk _ H1 _ (hW.astI hI hd he rfl e1 oq) (hS.put z oq ⟨n, j, hd, rfl⟩) (gd_use h).2
theorem x_bast (F : CallFix p m c cc nL s args (w0 :: G) own) (hK : xK D cl tys nf nm s) (hI : xInj dom ad) (hW : xW D cl dom ad de S H) (hS : va_S (xA dom ad) H0 H locs) {n j t0 N : Nat} {cA : ClassId} (hd : dom n j) (he : ∀ i q e, de i q e n j = .inl (cA, N, .inl i)) (ht : tys[t0]? = some (cA, .byte)) {i x : Int32} (hdg : decode cc pc = .ok (.bastore, 1)) {α : Type} {body : xS → Option α} {o : α} (h : gd i N (xnm (sI S n j i.toNatClampNeg (vp_nar .byte x)) body) = some o)
    (kk : ∀ (S1 : xS) (H1 : Heap) (locs1 : List Loc), xW D cl dom ad de S1 H1 → va_S (xA dom ad) H0 H1 locs1 → body S1 = some o → W p l e R s m args below meth c H1 locs1 cells slots Q (F0 m (pc + 1) ls rest)) : W p l e R s m args below meth c H locs cells slots Q (F0 m pc ls (.int x :: .int i :: .ref (ad n j) :: rest)) := by
  have hat := hW n j hd
  rw [he] at hat
  refine W.bast F.1 F.2.1 hat ((hK.1.2 t0 _ ht).1 N (fun k => .int (xI S n j k))) (fun q => by cases q) (by show ¬ (i < 0 ∨ (arrV _ _ _).slots.size ≤ _); rw [arrV_size]; exact (gd_use h).1) rfl rfl hdg fun H1 e1 z oq => ?_
  exact kk _ H1 _ (hW.astI hI hd he rfl e1 oq) (hS.put z oq ⟨n, j, hd, rfl⟩) (gd_use h).2
theorem x_zast (F : CallFix p m c cc nL s args (w0 :: G) own) (hK : xK D cl tys nf nm s) (hI : xInj dom ad) (hW : xW D cl dom ad de S H) (hS : va_S (xA dom ad) H0 H locs) {n j t0 N : Nat} {cA : ClassId} (hd : dom n j) (he : ∀ i q e, de i q e n j = .inl (cA, N, .inl i)) (ht : tys[t0]? = some (cA, .boolean)) {i x : Int32} (hdg : decode cc pc = .ok (.bastore, 1)) {α : Type} {body : xS → Option α} {o : α} (h : gd i N (xnm (sI S n j i.toNatClampNeg (vp_nar .boolean x)) body) = some o)
    (kk : ∀ (S1 : xS) (H1 : Heap) (locs1 : List Loc), xW D cl dom ad de S1 H1 → va_S (xA dom ad) H0 H1 locs1 → body S1 = some o → W p l e R s m args below meth c H1 locs1 cells slots Q (F0 m (pc + 1) ls rest)) : W p l e R s m args below meth c H locs cells slots Q (F0 m pc ls (.int x :: .int i :: .ref (ad n j) :: rest)) := by
  have hat := hW n j hd
  rw [he] at hat
  refine W.zast F.1 F.2.1 hat ((hK.1.2 t0 _ ht).1 N (fun k => .int (xI S n j k))) (fun q => by cases q) (by show ¬ (i < 0 ∨ (arrV _ _ _).slots.size ≤ _); rw [arrV_size]; exact (gd_use h).1) rfl rfl hdg fun H1 e1 z oq => ?_
  exact kk _ H1 _ (hW.astI hI hd he rfl e1 oq) (hS.put z oq ⟨n, j, hd, rfl⟩) (gd_use h).2
theorem x_last (F : CallFix p m c cc nL s args (w0 :: G) own) (hK : xK D cl tys nf nm s) (hI : xInj dom ad) (hW : xW D cl dom ad de S H) (hS : va_S (xA dom ad) H0 H locs) {n j t0 N : Nat} {cA : ClassId} (hd : dom n j) (he : ∀ i q e, de i q e n j = .inl (cA, N, .inr (.inl q))) (ht : tys[t0]? = some (cA, .long)) {i : Int32} {x : Int64} (hdg : decode cc pc = .ok (.lastore, 1)) {α : Type} {body : xS → Option α} {o : α} (h : gd i N (xnm (sJ S n j i.toNatClampNeg x) body) = some o)
    (kk : ∀ (S1 : xS) (H1 : Heap) (locs1 : List Loc), xW D cl dom ad de S1 H1 → va_S (xA dom ad) H0 H1 locs1 → body S1 = some o → W p l e R s m args below meth c H1 locs1 cells slots Q (F0 m (pc + 1) ls rest)) : W p l e R s m args below meth c H locs cells slots Q (F0 m pc ls (.long x :: .int i :: .ref (ad n j) :: rest)) := by
  have hat := hW n j hd
  rw [he] at hat
  refine W.last F.1 F.2.1 hat ((hK.1.2 t0 _ ht).1 N (fun k => .long (xJ S n j k))) (fun q => by cases q) (by show ¬ (i < 0 ∨ (arrV _ _ _).slots.size ≤ _); rw [arrV_size]; exact (gd_use h).1) rfl rfl hdg fun H1 e1 z oq => ?_
  refine kk _ H1 _ (hW.set (S' := sJ S n j i.toNatClampNeg x) hI hd (fun a b h => ⟨rfl, sJ_off S n j _ x h, rfl⟩) ?_ oq) (hS.put z oq ⟨n, j, hd, rfl⟩) (gd_use h).2
  rw [sJ_at, he]
  show H1[ad n j]? = some (vp_cell _ _)
  rw [e1]
  rw [vp_cell_l, vp_cell_l, arrV_store]
  congr 2
  funext q
  by_cases hq : q = i.toNatClampNeg
  · subst hq
    simp [updV, vp_updL]
  · simp [updV, vp_updL, hq]
-- entry and ends
theorem x_enter {y : MethodName} {ret : Option FieldType} {rm : Room} {av : List Value} {Qc : Array Value → State → Outcome → State → Prop} {free : Addr → Prop} (hy : plainName y.cls = true) (hn : (lg_sl av).length ≤ nL)
    (body : ∀ (p : Program) (e : Env) (s : State) (m : MethodId) (below : List Frame) (meth : Method) (c : Code), CallFix p m c cc nL s av.toArray (Cond.code y cc nL ret :: G) y.cls → meth.sig.returnType = ret → meth.locks = false → xK D cl tys nf nm s → xW D cl dom ad de S s.heap → va_S (xA dom ad) s.heap s.heap [] → ∀ ls : Array Slot, lv_has ls nL (lv_args 0 av) → W p l e rm s m av.toArray below meth c s.heap [] 0 0 (MQ below Qc av.toArray s 0 0 free) (F0 m 0 ls [])) : Met l y (Cond.code y cc nL ret :: G) rm (xPc D cl tys nf nm dom ad de av S) Qc 0 0 free := by
  refine Met.ofW (cc := cc) (maxL := nL) (ret := ret) hy rfl ?_
  intro p e s m args below meth c s₁ B hml hv
  obtain ⟨rfl, hK, hW⟩ := hv
  have hl := lv_entry av (n := nL) hn
  rw [lg_entry_eq]
  exact body p e s m below meth c ⟨B.exec, B.bytes, hml, findClass_of_methodNamed B.named, atoms_spec (ws := Cond.code y cc nL ret :: G) B.pre⟩ B.returns B.notSynchronized hK hW va_S.rf _ hl
theorem x_iret (F : CallFix p m c cc nL s args (w0 :: G) own) (hr : meth.sig.returnType = some .int) (hlk : meth.locks = false) (hW : xW D cl dom ad de S H) (hS : va_S (xA dom ad) s.heap H locs) {v : Int32} {o : Int32 × xS} (hdg : decode cc pc = .ok (.ireturn, 1)) (h : some (v, S) = some o) : W p l e R s m args below meth c H locs cells slots (MQ below (xQ D cl dom ad de (some (.int o.1)) o.2) args s cells slots (xA dom ad)) (F0 m pc ls [.int v]) := by
  cases h
  exact W.iret F.1 F.2.1 hr (fun t ht hw => ⟨rfl, by rw [ht]; exact hW, hS.F ht⟩) hS.2.2 hdg hlk
theorem x_zret (F : CallFix p m c cc nL s args (w0 :: G) own) (hr : meth.sig.returnType = some .boolean) (hlk : meth.locks = false) (hW : xW D cl dom ad de S H) (hS : va_S (xA dom ad) s.heap H locs) {v : Int32} {o : Int32 × xS} (hv : narrow .boolean (.int v) = .int v) (hdg : decode cc pc = .ok (.ireturn, 1)) (h : some (v, S) = some o) : W p l e R s m args below meth c H locs cells slots (MQ below (xQ D cl dom ad de (some (.int o.1)) o.2) args s cells slots (xA dom ad)) (F0 m pc ls [.int v]) := by
  cases h
  exact W.zret F.1 F.2.1 hr hv (fun t ht hw => ⟨rfl, by rw [ht]; exact hW, hS.F ht⟩) hS.2.2 hdg hlk
theorem x_vret (F : CallFix p m c cc nL s args (w0 :: G) own) (hr : meth.sig.returnType = none) (hlk : meth.locks = false) (hW : xW D cl dom ad de S H) (hS : va_S (xA dom ad) s.heap H locs) {o : xS} (hdg : decode cc pc = .ok (.return_, 1)) (h : some S = some o) : W p l e R s m args below meth c H locs cells slots (MQ below (xQ D cl dom ad de none o) args s cells slots (xA dom ad)) (F0 m pc ls []) := by
  cases h
  exact W.vret F.1 F.2.1 hr (fun t ht hw => ⟨rfl, by rw [ht]; exact hW, hS.F ht⟩) hS.2.2 hdg hlk
/-- an answer that is a cell of the world, or null -/
def xRv (ad : Nat → Nat → Nat) (r : Option (Nat × Nat)) : Value := match r with
  | none => .null
  | some q => .ref (ad q.1 q.2)
theorem x_aret (F : CallFix p m c cc nL s args (w0 :: G) own) {C : String} (hr : meth.sig.returnType = some (.object C)) (hlk : meth.locks = false) (hW : xW D cl dom ad de S H) (hS : va_S (xA dom ad) s.heap H locs) {v : Value} {r : Option (Nat × Nat)} {o : Option (Nat × Nat) × xS} (hv : v = xRv ad r) (hdg : decode cc pc = .ok (.areturn, 1)) (h : some (r, S) = some o) : W p l e R s m args below meth c H locs cells slots (MQ below (xQ D cl dom ad de (some (xRv ad o.1)) o.2) args s cells slots (xA dom ad)) (F0 m pc ls [v]) := by
  cases h
  subst hv
  exact W.aret F.1 F.2.1 hr (Or.inl ⟨_, rfl⟩) (by cases r; exact Or.inl rfl; exact Or.inr ⟨_, rfl⟩) (fun t ht hw => ⟨rfl, by rw [ht]; exact hW, hS.F ht⟩) hS.2.2 hdg hlk
-- calls
theorem xG_in (hG : xGd G) {ws : List Cond} (h : ∀ w ∈ ws, w ∈ G) : GoodIn (w0 :: G) ws := fun w hw => ⟨List.mem_cons_of_mem _ (h w hw), good_of_word (hG w (h w hw))⟩
theorem x_cw (hG : xGd G) {C : String} {y : MethodName} {bytes : ByteArray} {maxL nn index : Nat} {ret : Option FieldType} {rm : Room} (hts : ∀ w ∈ w0 :: G, w.before args s = true) (M : xMt G y C bytes maxL ret nn) (hl : Cond.methodLink own index y ∈ G) (hrc : rm.cells = 0) (hrs : rm.slots = 0) (hR : rm.frames + 1 ≤ R.frames ∧ 8 + (maxL + 11) + rm.locals ≤ R.locals) : CallW R s args own C index y bytes maxL ret (Cond.code y bytes maxL ret :: G) rm 0 0 nn := by
  refine cwV nn hts (xG_in hG ?_) rfl hrc hrs M.2.2.2.2 hR
  intro w hw
  rcases List.mem_append.mp hw with h | h
  · simp only [List.mem_cons, List.not_mem_nil, or_false] at h
    rcases h with rfl | rfl | rfl | rfl
    · exact hl
    · exact M.1
    · exact M.2.1
    · exact M.2.2.1
  · rcases List.mem_cons.mp h with rfl | h
    · exact M.2.2.2.1
    · exact h
theorem x_run {y : MethodName} {As : List Value} {st : List Value} {r : Option Value} {S1 : xS}
    (hr : va_Run p l e R s m args below meth c H locs cells slots 0 0 (F0 m pc ls st) rest ((xQ D cl dom ad de r S1) As.toArray) (xA dom ad)) (hS : va_S (xA dom ad) H0 H locs)
    (kk : ∀ (H1 : Heap) (locs1 : List Loc), xW D cl dom ad de S1 H1 → va_S (xA dom ad) H0 H1 locs1 → W p l e R s m args below meth c H1 locs1 cells slots Q (F0 m (pc + 3) ls (r.toList ++ rest))) : W p l e R s m args below meth c H locs cells slots Q (F0 m pc ls st) := by
  intro T hT X
  obtain ⟨v, st₀, t, T', L, h0, X', hL, e1, e2, ⟨hv, hw, hz, hk⟩, st⟩ := hr T hT X
  cases hv
  rw [h0] at hz hk
  obtain ⟨t2, a1, b1⟩ := kk T'.heap (locs ++ L) (by rw [e1]; exact hw)
    ⟨Nat.le_trans hS.1 (by rw [e1]; exact hz), fun q h1 h2 => by rw [e1, hk q (Nat.lt_of_lt_of_le h1 hS.1) h2]; exact hS.2.1 q h1 h2, fun q hq => by
      rcases List.mem_append.mp hq with h | h
      · exact hS.2.2 q h
      · exact hL q h⟩ T' rfl X'
  exact ⟨t2, st t2 a1, b1⟩
theorem x_cV (F : CallFix p m c cc nL s args (w0 :: G) own) (hG : xGd G) (hK : xK D cl tys nf nm s) (hW : xW D cl dom ad de S H) (hS : va_S (xA dom ad) H0 H locs) {y : MethodName} {C : String} {T : u_T} {N ci : Nat} {bytes : ByteArray} {maxL nn index : Nat} {ret : Option FieldType} {rm : Room} {As st : List Value} {n j : Nat} {fs : (Nat → Int32) → Option (Nat × Nat) → List Value} {r : Option Value} {S1 : xS}
    (M : xMt G y C bytes maxL ret nn) (hl : Cond.methodLink own index y ∈ G) (hM : Met l y (Cond.code y bytes maxL ret :: G) rm (xPc D cl tys nf nm dom ad de (.ref (ad n j) :: As) S) (xQ D cl dom ad de r S1) 0 0 (xA dom ad)) (hc : cl[ci]? = some (C, T, N)) (hd : dom n j) (he : ∀ i q e, de i q e n j = .inr (ci, fs i e))
    (hst : st = As.reverse ++ .ref (ad n j) :: rest) (hn : As.length = nn) (hsz : ls.size = nL) (hrc : rm.cells = 0) (hrs : rm.slots = 0) (hR : rm.frames + 1 ≤ R.frames ∧ 8 + (maxL + 11) + rm.locals ≤ R.locals) (hcs : cells ≤ R.cells ∧ slots ≤ R.slots) (hrest : (rest.map fun v => v.category).sum ≤ 8) (hdg : decode cc pc = .ok (.invokevirtual index, 3))
    (kk : ∀ (H1 : Heap) (locs1 : List Loc), xW D cl dom ad de S1 H1 → va_S (xA dom ad) H0 H1 locs1 → W p l e R s m args below meth c H1 locs1 cells slots Q (F0 m (pc + 3) ls (r.toList ++ rest))) : W p l e R s m args below meth c H locs cells slots Q (F0 m pc ls st) := by
  refine x_run (y := y) (As := .ref (ad n j) :: As) (va_runV (As := As) (rest := rest) (n := nn) F hM (x_cw hG F.2.2.2.2 M hl hrc hrs hR) ⟨xPc_blind, va_recv hK.1 (hW.one hd (he _ _ _)) (ci := ci) (q0 := 0) hc rfl, fun U hU hw => ⟨rfl, xK.warm hw hK, by rw [hU]; exact hW⟩⟩ rfl hn hsz hst (lv_room hrest) hdg hcs) hS kk
theorem x_cVi (F : CallFix p m c cc nL s args (w0 :: G) own) (hG : xGd G) (hK : xK D cl tys nf nm s) (hW : xW D cl dom ad de S H) (hS : va_S (xA dom ad) H0 H locs) {y : MethodName} {C : String} {T : u_T} {N ci : Nat} {bytes : ByteArray} {maxL nn index : Nat} {ret : Option FieldType} {rm : Room} {As st : List Value} {n j : Nat} {fs : (Nat → Int32) → Option (Nat × Nat) → List Value} {g : Option (Int32 × xS)}
    (M : xMt G y C bytes maxL ret nn) (hl : Cond.methodLink own index y ∈ G) (hM : ∀ o1, g = some o1 → Met l y (Cond.code y bytes maxL ret :: G) rm (xPc D cl tys nf nm dom ad de (.ref (ad n j) :: As) S) (xQ D cl dom ad de (some (.int o1.1)) o1.2) 0 0 (xA dom ad)) (hc : cl[ci]? = some (C, T, N)) (hd : dom n j) (he : ∀ i q e, de i q e n j = .inr (ci, fs i e))
    (hst : st = As.reverse ++ .ref (ad n j) :: rest) (hn : As.length = nn) (hsz : ls.size = nL) (hrc : rm.cells = 0) (hrs : rm.slots = 0) (hR : rm.frames + 1 ≤ R.frames ∧ 8 + (maxL + 11) + rm.locals ≤ R.locals) (hcs : cells ≤ R.cells ∧ slots ≤ R.slots) (hrest : (rest.map fun v => v.category).sum ≤ 8) (hdg : decode cc pc = .ok (.invokevirtual index, 3))
    {α : Type} {body : Int32 × xS → Option α} {o : α} (h : g.bind body = some o)
    (kk : ∀ (r : Int32) (S1 : xS) (H1 : Heap) (locs1 : List Loc), xW D cl dom ad de S1 H1 → va_S (xA dom ad) H0 H1 locs1 → body (r, S1) = some o → W p l e R s m args below meth c H1 locs1 cells slots Q (F0 m (pc + 3) ls (.int r :: rest))) : W p l e R s m args below meth c H locs cells slots Q (F0 m pc ls st) := by
  obtain ⟨⟨r, S1⟩, h1, h2⟩ := Option.bind_eq_some_iff.mp h
  exact x_cV F hG hK hW hS M hl (hM _ h1) hc hd he hst hn hsz hrc hrs hR hcs hrest hdg (fun H1 locs1 a b => kk r S1 H1 locs1 a b h2)
theorem x_cVv (F : CallFix p m c cc nL s args (w0 :: G) own) (hG : xGd G) (hK : xK D cl tys nf nm s) (hW : xW D cl dom ad de S H) (hS : va_S (xA dom ad) H0 H locs) {y : MethodName} {C : String} {T : u_T} {N ci : Nat} {bytes : ByteArray} {maxL nn index : Nat} {ret : Option FieldType} {rm : Room} {As st : List Value} {n j : Nat} {fs : (Nat → Int32) → Option (Nat × Nat) → List Value} {g : Option xS}
    (M : xMt G y C bytes maxL ret nn) (hl : Cond.methodLink own index y ∈ G) (hM : ∀ o1, g = some o1 → Met l y (Cond.code y bytes maxL ret :: G) rm (xPc D cl tys nf nm dom ad de (.ref (ad n j) :: As) S) (xQ D cl dom ad de none o1) 0 0 (xA dom ad)) (hc : cl[ci]? = some (C, T, N)) (hd : dom n j) (he : ∀ i q e, de i q e n j = .inr (ci, fs i e))
    (hst : st = As.reverse ++ .ref (ad n j) :: rest) (hn : As.length = nn) (hsz : ls.size = nL) (hrc : rm.cells = 0) (hrs : rm.slots = 0) (hR : rm.frames + 1 ≤ R.frames ∧ 8 + (maxL + 11) + rm.locals ≤ R.locals) (hcs : cells ≤ R.cells ∧ slots ≤ R.slots) (hrest : (rest.map fun v => v.category).sum ≤ 8) (hdg : decode cc pc = .ok (.invokevirtual index, 3))
    {α : Type} {body : xS → Option α} {o : α} (h : g.bind body = some o)
    (kk : ∀ (S1 : xS) (H1 : Heap) (locs1 : List Loc), xW D cl dom ad de S1 H1 → va_S (xA dom ad) H0 H1 locs1 → body S1 = some o → W p l e R s m args below meth c H1 locs1 cells slots Q (F0 m (pc + 3) ls rest)) : W p l e R s m args below meth c H locs cells slots Q (F0 m pc ls st) := by
  obtain ⟨S1, h1, h2⟩ := Option.bind_eq_some_iff.mp h
  exact x_cV F hG hK hW hS M hl (hM _ h1) hc hd he hst hn hsz hrc hrs hR hcs hrest hdg (fun H1 locs1 a b => kk S1 H1 locs1 a b h2)
/-- a static method: it has no world -/
theorem x_cS (F : CallFix p m c cc nL s args (w0 :: G) own) (hG : xGd G) (hS : va_S (xA dom ad) H0 H locs) (hW : xW D cl dom ad de S H) {y : MethodName} {bytes : ByteArray} {maxL nn index : Nat} {ret : Option FieldType} {rm : Room} {As st : List Value} {v : Option Value} {Pc : Array Value → State → Prop} {free : Addr → Prop}
    (M : xMs G y bytes maxL ret nn) (ho : y.cls = own) (hl : Cond.methodLink own index y ∈ G) (hM : Met l y (Cond.code y bytes maxL ret :: G) rm (va_Pc As (fun _ => True)) (fun _ st o t => o = .returned v ∧ t.heap = st.heap) 0 0 (fun _ => False))
    (hst : st = As.reverse ++ rest) (hn : As.length = nn) (hsz : ls.size = nL) (hrc : rm.cells = 0) (hrs : rm.slots = 0) (hR : rm.frames + 1 ≤ R.frames ∧ 8 + (maxL + 11) + rm.locals ≤ R.locals) (hcs : cells ≤ R.cells ∧ slots ≤ R.slots) (hrest : (rest.map fun v => v.category).sum ≤ 8) (hdg : decode cc pc = .ok (.invokestatic index, 3))
    (kk : ∀ (locs1 : List Loc), va_S (xA dom ad) H0 H locs1 → W p l e R s m args below meth c H locs1 cells slots Q (F0 m (pc + 3) ls (v.toList ++ rest))) : W p l e R s m args below meth c H locs cells slots Q (F0 m pc ls st) := by
  have hr := va_runS (As := As) (rest := rest) (n := nn) (l := l) (e := e) (below := below) (meth := meth) (H := H) (locs := locs) (cells := cells) (slots := slots) (g := F0 m pc ls st) F hM (cwS nn F.2.2.2.2 (xG_in hG (by
    intro w hw
    rcases List.mem_append.mp hw with h | h
    · simp only [List.mem_cons, List.not_mem_nil, or_false] at h
      rcases h with rfl | rfl | rfl
      · exact hl
      · exact M.1
      · rw [← ho]; exact M.2.1
    · rcases List.mem_cons.mp h with rfl | h
      · exact M.2.2.1
      · exact h)) rfl hrc hrs ⟨ho, M.2.2.2⟩ hR) ⟨fun a U g mk q => ⟨q.1, trivial⟩, fun U hU hw => ⟨rfl, trivial⟩⟩ rfl hn hsz hst (lv_room hrest) hdg hcs
  intro T hT X
  obtain ⟨v', st₀, t, T', L, h0, X', hL, e1, e2, ⟨hv, hh⟩, st'⟩ := hr T hT X
  cases hv
  have hT' : T'.heap = H := by rw [e1, hh, h0]
  obtain ⟨t2, a1, b1⟩ := kk (locs ++ L) ⟨hS.1, hS.2.1, fun q hq => by
      rcases List.mem_append.mp hq with h | h
      · exact hS.2.2 q h
      · exact (hL q h).elim⟩ T' hT' X'
  exact ⟨t2, st' t2 a1, b1⟩
end XB
