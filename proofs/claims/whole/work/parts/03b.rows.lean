/-! rows for references that may be null, ends' partners, calls of nest mates -/
theorem gd_lt {α : Type} {i : Int32} {n : Nat} {k : Option α} {o : α} (h : gd i n k = some o) : i.toNatClampNeg < n := Nat.not_le.mp fun q => (gd_use h).1 (Or.inr q)
def xcs {α : Type} (r : Option (Nat × Nat)) (a : Option α) (f : Nat → Nat → Option α) : Option α := match r with
  | none => a
  | some q => f q.1 q.2
theorem xcs_n {α : Type} {a : Option α} {f : Nat → Nat → Option α} {o : α} (h : xcs none a f = some o) : a = some o := h
theorem xcs_s {α : Type} {a : Option α} {f : Nat → Nat → Option α} {o : α} {n j : Nat} (h : xcs (some (n, j)) a f = some o) : f n j = some o := h
section XD
variable {p : Program} {l : Launch} {e : Env} {R : Room} {s : State} {m : MethodId} {args : Array Value} {below : List Frame} {meth : Method} {c : Code} {H : Heap} {locs : List Loc} {cells slots : Nat} {Q : State → Prop}
variable {cc : ByteArray} {nL : Nat} {w0 : Cond} {G : List Cond} {own : String}
variable {pc : Nat} {ls : Array Slot} {rest : List Value} {D : va_G} {cl : List vw_C} {tys : List (ClassId × FieldType)} {nf : List xNf} {nm : List xNm} {dom : Nat → Nat → Prop} {ad : Nat → Nat → Nat} {de : xDe} {S : xS} {H0 : Heap} {A0 : Nat → Prop}
theorem x_aload_nq (hx : p.tables.exec = Jvm.exec) (hb : c.code = cc) {k : Fin 4} {i : Nat} {r : Option (Nat × Nat)} (hdg : decode cc pc = .ok (.aload_n k, 1)) (hi : (k : Nat) = i) (hl : ls[i]? = some (.val (xRv ad r))) (kk : W p l e R s m args below meth c H locs cells slots Q (F0 m (pc + 1) ls (xRv ad r :: rest))) : W p l e R s m args below meth c H locs cells slots Q (F0 m pc ls rest) := by
  cases r with
  | none => exact lv_aload_nN hx hb hdg hi hl kk
  | some q => exact lv_aload_n hx hb hdg hi hl kk
theorem x_aloadq (hx : p.tables.exec = Jvm.exec) (hb : c.code = cc) {i : Nat} {r : Option (Nat × Nat)} (hdg : decode cc pc = .ok (.aload i, 2)) (hl : ls[i]? = some (.val (xRv ad r))) (kk : W p l e R s m args below meth c H locs cells slots Q (F0 m (pc + 2) ls (xRv ad r :: rest))) : W p l e R s m args below meth c H locs cells slots Q (F0 m pc ls rest) := by
  cases r with
  | none => exact lv_aloadN hx hb hdg hl kk
  | some q => exact lv_aload hx hb hdg hl kk
theorem x_astore_nq (hx : p.tables.exec = Jvm.exec) (hb : c.code = cc) {k : Fin 4} {i nL : Nat} {r : Option (Nat × Nat)} {lv lv' : List (Nat × Value)} (hdg : decode cc pc = .ok (.astore_n k, 1)) (hi : (k : Nat) = i) (h : lv_has ls nL lv) (hn : i < nL) (hl : (i, xRv ad r) :: lv.filter (fun q => !(q.1 == i) && !(q.1 + 1 == i && q.2.category == 2)) = lv') (kk : ∀ ls' : Array Slot, lv_has ls' nL lv' → W p l e R s m args below meth c H locs cells slots Q (F0 m (pc + 1) ls' rest)) : W p l e R s m args below meth c H locs cells slots Q (F0 m pc ls (xRv ad r :: rest)) := by
  cases r with
  | none => exact lv_astore_nN hx hb hdg hi h hn hl kk
  | some q => exact lv_astore_n hx hb hdg hi h hn hl kk
theorem x_astoreq (hx : p.tables.exec = Jvm.exec) (hb : c.code = cc) {i nL : Nat} {r : Option (Nat × Nat)} {lv lv' : List (Nat × Value)} (hdg : decode cc pc = .ok (.astore i, 2)) (h : lv_has ls nL lv) (hn : i < nL) (hl : (i, xRv ad r) :: lv.filter (fun q => !(q.1 == i) && !(q.1 + 1 == i && q.2.category == 2)) = lv') (kk : ∀ ls' : Array Slot, lv_has ls' nL lv' → W p l e R s m args below meth c H locs cells slots Q (F0 m (pc + 2) ls' rest)) : W p l e R s m args below meth c H locs cells slots Q (F0 m pc ls (xRv ad r :: rest)) := by
  cases r with
  | none => exact lv_astoreN hx hb hdg h hn hl kk
  | some q => exact lv_astore hx hb hdg h hn hl kk
theorem x_cVq (F : CallFix p m c cc nL s args (w0 :: G) own) (hG : xGd G) (hK : xK D cl tys nf nm s) (hW : xW D cl dom ad de S H) (hS : va_S (xA dom ad) H0 H locs) {y : MethodName} {C : String} {T : u_T} {N ci : Nat} {bytes : ByteArray} {maxL nn index : Nat} {ret : Option FieldType} {rm : Room} {As st : List Value} {n j : Nat} {fs : (Nat → Int32) → Option (Nat × Nat) → List Value} {g : Option (Option (Nat × Nat) × xS)}
    (M : xMt G y C bytes maxL ret nn) (hl : Cond.methodLink own index y ∈ G) (hM : ∀ o1, g = some o1 → Met l y (Cond.code y bytes maxL ret :: G) rm (xPc D cl tys nf nm dom ad de (.ref (ad n j) :: As) S) (xQ D cl dom ad de (some (xRv ad o1.1)) o1.2) 0 0 (xA dom ad)) (hc : cl[ci]? = some (C, T, N)) (hd : dom n j) (he : ∀ i q e, de i q e n j = .inr (ci, fs i e))
    (hst : st = As.reverse ++ .ref (ad n j) :: rest) (hn : As.length = nn) (hsz : ls.size = nL) (hrc : rm.cells = 0) (hrs : rm.slots = 0) (hR : rm.frames + 1 ≤ R.frames ∧ 8 + (maxL + 11) + rm.locals ≤ R.locals) (hcs : cells ≤ R.cells ∧ slots ≤ R.slots) (hrest : (rest.map fun v => v.category).sum ≤ 8) (hdg : decode cc pc = .ok (.invokevirtual index, 3))
    {α : Type} {body : Option (Nat × Nat) × xS → Option α} {o : α} (h : g.bind body = some o)
    (kk : ∀ (r : Option (Nat × Nat)) (S1 : xS) (H1 : Heap) (locs1 : List Loc), xW D cl dom ad de S1 H1 → va_S (xA dom ad) H0 H1 locs1 → body (r, S1) = some o → W p l e R s m args below meth c H1 locs1 cells slots Q (F0 m (pc + 3) ls (xRv ad r :: rest))) : W p l e R s m args below meth c H locs cells slots Q (F0 m pc ls st) := by
  obtain ⟨⟨r, S1⟩, h1, h2⟩ := Option.bind_eq_some_iff.mp h
  exact x_cV F hG hK hW hS M hl (hM _ h1) hc hd he hst hn hsz hrc hrs hR hcs hrest hdg (fun H1 locs1 a b => kk r S1 H1 locs1 a b h2)
/-- a static method of any class -/
theorem x_cSo (F : CallFix p m c cc nL s args (w0 :: G) own) (hG : xGd G) (hS : va_S A0 H0 H locs) {y : MethodName} {bytes : ByteArray} {maxL nn index : Nat} {ret : Option FieldType} {rm : Room} {As st : List Value} {g : Option Int32}
    (M : xMs G y bytes maxL ret nn) (hl : Cond.methodLink own index y ∈ G) (hM : ∀ r, g = some r → Met l y (Cond.code y bytes maxL ret :: G) rm (va_Pc As (fun _ => True)) (xQs r) 0 0 (fun _ => False))
    (hst : st = As.reverse ++ rest) (hn : As.length = nn) (hsz : ls.size = nL) (hrc : rm.cells = 0) (hrs : rm.slots = 0) (hR : rm.frames + 1 ≤ R.frames ∧ 8 + (maxL + 11) + rm.locals ≤ R.locals) (hcs : cells ≤ R.cells ∧ slots ≤ R.slots) (hrest : (rest.map fun v => v.category).sum ≤ 8) (hdg : decode cc pc = .ok (.invokestatic index, 3))
    {α : Type} {body : Int32 → Option α} {o : α} (h : g.bind body = some o)
    (kk : ∀ (r : Int32) (locs1 : List Loc), va_S A0 H0 H locs1 → body r = some o → W p l e R s m args below meth c H locs1 cells slots Q (F0 m (pc + 3) ls (.int r :: rest))) : W p l e R s m args below meth c H locs cells slots Q (F0 m pc ls st) := by
  obtain ⟨r, h1, h2⟩ := Option.bind_eq_some_iff.mp h
  have hGI : GoodIn (w0 :: G) (Cond.code y bytes maxL ret :: G) := xG_in hG (fun w hw => by
    rcases List.mem_cons.mp hw with rfl | h
    · exact M.2.2.1
    · exact h)
  exact x_srun (As := As) (va_runS (As := As) (rest := rest) (n := nn) F (hM r h1) ⟨callB_of nn F.2.2.2.2 hGI rfl hrc hrs (x_hts F _ M.2.1) (x_hts F _ hl) M.2.2.2 hR, x_hts F _ M.1⟩ ⟨fun a U g mk q => ⟨q.1, trivial⟩, fun U hU hw => ⟨rfl, trivial⟩⟩ rfl hn hsz hst (lv_room hrest) hdg hcs) hS (fun locs1 a => kk r locs1 a h2)
/-- an end's partner is stored -/
theorem x_putE (F : CallFix p m c cc nL s args (w0 :: G) own) {C : String} {T : u_T} {ty : Nat → FieldType} {N ci index n j n' j' : Nat} {fs : (Nat → Int32) → Option (Nat × Nat) → List Value} (hK : xK D cl tys nf nm s) (hI : xInj dom ad) (hW : xW D cl dom ad de S H) (hS : va_S (xA dom ad) H0 H locs) (B : xCls G cl ci C T ty N) (hd : dom n j) (he : ∀ i q e, de i q e n j = .inr (ci, fs i e)) (k : Nat) (hk : k < N) (hl : Cond.fieldLink own index (T k).1 (T k).2.1 (T k).2.2.1 ∈ G) (hfin : (T k).2.2.2 = false) (hn : narrow (ty k) (.ref (ad n' j')) = .ref (ad n' j')) (hfit : fits (ty k) (.ref (ad n' j')) = true) (hset : ∀ i e, fs i (some (n', j')) = (fs i e).set k (.ref (ad n' j'))) (hlen : ∀ i e, k < (fs i e).length) (hdg : decode cc pc = .ok (.putfield index, 3))
    {α : Type} {body : xS → Option α} {o : α} (h : xnm (sE S n j (some (n', j'))) body = some o)
    (kk : ∀ (S1 : xS) (H1 : Heap) (locs1 : List Loc), xW D cl dom ad de S1 H1 → va_S (xA dom ad) H0 H1 locs1 → body S1 = some o → W p l e R s m args below meth c H1 locs1 cells slots Q (F0 m (pc + 3) ls rest)) : W p l e R s m args below meth c H locs cells slots Q (F0 m pc ls (.ref (ad n' j') :: .ref (ad n j) :: rest)) := by
  have hts := x_hts F
  have hap := va_apart (own := own) hts B.1 ty B.2.2.1 B.2.2.2 hK.1 B.2.1
  have hat := hW n j hd
  rw [he] at hat
  obtain ⟨r, h1, cell, q1, q2, q3, q4⟩ := hat
  have hr : r = (C, T, N) := Option.some.inj (h1.symm.trans B.2.1)
  subst hr
  obtain ⟨hSl, hfc, kC, hkC, hkind⟩ := hK.1.1 ci _ B.2.1
  obtain ⟨cf, kf, fi, f, hi, hsl⟩ := hSl k hk
  have hlay := hts _ (B.1 _ (u_in_lay hk))
  unfold u_lay at hlay
  rw [if_neg (by rw [hfin]; decide)] at hlay
  have hst := (u_facts hfc hkC (u_lays hts B.1 hk) hi).1
  have h6 := u_store hfc hkC hkind hlay hi (B.2.2.1 k hk) hn hfit
  refine W.putK F.1 F.2.1 (f := f) ⟨F.2.2.2.1, hts _ hl, ⟨_, _, _, hi⟩, hst⟩ (by rw [q2]; exact h6) q1 q3 (by rw [hsl]; exact k2_hasslot (q4 k hk)) rfl rfl hdg fun H' e1 e2 e3 => ?_
  rw [hsl] at e1 ⊢
  refine kk _ H' _ (hW.set (S' := sE S n j (some (n', j'))) hI hd (fun a b h => ⟨rfl, rfl, sE_off S n j _ h⟩) ?_ e3) (hS.put e2 e3 ⟨n, j, hd, rfl⟩) h
  rw [sE_at, he]
  show ∃ r : vw_C, _
  exact ⟨_, B.2.1, by rw [hset _ (xE S n j)]; exact t_OB.to (V := updV (vp_V (fs (xI S n j) (xE S n j))) k (.ref (ad n' j'))) ⟨_, e1, q2, q3, t_set q4 hap hk (.ref (ad n' j'))⟩ (fun j _ => vp_updV_set (hlen _ _) (.ref (ad n' j')) j)⟩
theorem x_acmp_ne (hx : p.tables.exec = Jvm.exec) (hb : c.code = cc) (hI : xInj dom ad) {n j n' j' : Nat} (hd : dom n j) (hd' : dom n' j') {off : Int} {tgt : Nat} (hdg : decode cc pc = .ok (.if_acmp .ne off, 3)) (ht : (pc : Int) + off = (tgt : Int)) (kt : ¬ (n = n' ∧ j = j') → W p l e R s m args below meth c H locs cells slots Q (F0 m tgt ls rest)) (kf : (n = n' ∧ j = j') → W p l e R s m args below meth c H locs cells slots Q (F0 m (pc + 3) ls rest)) : W p l e R s m args below meth c H locs cells slots Q (F0 m pc ls (.ref (ad n' j') :: .ref (ad n j) :: rest)) :=
  lv_acmp_ne (rx := some (ad n j)) (ry := some (ad n' j')) hx hb hdg ht (fun c => kt (fun z => c (by rw [z.1, z.2]))) (fun c => kf (hI n j n' j' hd hd' (Option.some.inj c)))
end XD
