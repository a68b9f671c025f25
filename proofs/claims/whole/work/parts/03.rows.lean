/-! more rows: numbers' names, switches, static methods (nest mates' too), private methods of nest mates -/
def jrem (x y : Int32) : Int32 := x - x / y * y
def jlrem (x y : Int64) : Int64 := x - x / y * y
def iush (x y : Int32) : Int32 := (x.toUInt32 >>> (y.toUInt32 &&& Int32.toUInt32 31)).toInt32
def lush (x : Int64) (y : Int32) : Int64 := (x.toUInt64 >>> (y.toInt64.toUInt64 &&& Int64.toUInt64 63)).toInt64
def jlshl (x : Int64) (y : Int32) : Int64 := x <<< (y.toInt64 &&& 63)
def jlshr (x : Int64) (y : Int32) : Int64 := x >>> (y.toInt64 &&& 63)
theorem x_swN {x k : Int32} {L : List Int} (h : ¬ x = k) (hL : x.toInt ∉ L) {z : Int} (hz : k.toInt = z) : x.toInt ∉ z :: L := by
  intro hm
  rcases List.mem_cons.mp hm with e | e
  · exact h (Int32.toInt_inj.mp (by rw [hz]; exact e))
  · exact hL e
theorem x_sw0 {x : Int32} : x.toInt ∉ ([] : List Int) := fun h => by cases h
theorem x_lkd : ∀ (ps : List (Int × Int)) (d k : Int), k ∉ ps.map (·.1) → Op.lookupswitch.offset ps d k = d
  | [], _, _, _ => rfl
  | (a, o) :: r, d, k, h => by
    rw [Op.lookupswitch.offset_cons, if_neg (fun e => h (by rw [← e]; exact List.mem_cons_self)), x_lkd r d k (fun e => h (List.mem_cons_of_mem _ e))]
def xQs (r : Int32) : Array Value → State → Outcome → State → Prop := fun _ st o t => o = .returned (some (.int r)) ∧ t.heap = st.heap
section XC
variable {p : Program} {l : Launch} {e : Env} {R : Room} {s : State} {m : MethodId} {args : Array Value} {below : List Frame} {meth : Method} {c : Code} {H : Heap} {locs : List Loc} {cells slots : Nat} {Q : State → Prop}
variable {cc : ByteArray} {nL : Nat} {w0 : Cond} {G : List Cond} {own : String}
variable {pc : Nat} {ls : Array Slot} {rest : List Value} {D : va_G} {cl : List vw_C} {tys : List (ClassId × FieldType)} {nf : List xNf} {nm : List xNm} {dom : Nat → Nat → Prop} {ad : Nat → Nat → Nat} {de : xDe} {S : xS} {H0 : Heap} {A0 : Nat → Prop}
theorem x_irem (hx : p.tables.exec = Jvm.exec) (hb : c.code = cc) {x y : Int32} (hdg : decode cc pc = .ok (.irem, 1)) (hne : ¬ y = 0) (k : W p l e R s m args below meth c H locs cells slots Q (F0 m (pc + 1) ls (.int (jrem x y) :: rest))) : W p l e R s m args below meth c H locs cells slots Q (F0 m pc ls (.int y :: .int x :: rest)) := lv_irem hx hb hdg hne k
theorem x_lrem (hx : p.tables.exec = Jvm.exec) (hb : c.code = cc) {x y : Int64} (hdg : decode cc pc = .ok (.lrem, 1)) (hne : ¬ y = 0) (k : W p l e R s m args below meth c H locs cells slots Q (F0 m (pc + 1) ls (.long (jlrem x y) :: rest))) : W p l e R s m args below meth c H locs cells slots Q (F0 m pc ls (.long y :: .long x :: rest)) := lv_lrem hx hb hdg hne k
theorem x_tblD (hx : p.tables.exec = Jvm.exec) (hb : c.code = cc) {dflt lo hi : Int} {offs : Array Int} {len : Nat} {x : Int32} {tgt : Nat} (hdg : decode cc pc = .ok (.tableswitch dflt lo hi offs, len)) {L : List Int} (hm : x.toInt ∉ L) (hall : (List.range offs.size).all (fun k => decide (offs[k]? = some dflt) || decide (lo + k ∈ L)) = true) (hsz : (offs.size : Int) = hi - lo + 1) (ht : (pc : Int) + dflt = (tgt : Int)) (k : W p l e R s m args below meth c H locs cells slots Q (F0 m tgt ls rest)) : W p l e R s m args below meth c H locs cells slots Q (F0 m pc ls (.int x :: rest)) := by
  by_cases h1 : x.toInt < lo
  · exact lv_tableOut hx hb hdg (Or.inl h1) ht k
  · by_cases h2 : hi < x.toInt
    · exact lv_tableOut hx hb hdg (Or.inr h2) ht k
    · have hk : (x.toInt - lo).toNat < offs.size := by omega
      have h3 := List.all_eq_true.mp hall _ (List.mem_range.mpr hk)
      simp only [Bool.or_eq_true, decide_eq_true_eq] at h3
      rcases h3 with h | h
      · exact lv_tableIn hx hb hdg h1 h2 h ht k
      · rw [show lo + ((x.toInt - lo).toNat : Int) = x.toInt by omega] at h
        exact absurd h hm
theorem x_lkpD (hx : p.tables.exec = Jvm.exec) (hb : c.code = cc) {dflt : Int} {ps : Array (Int × Int)} {len : Nat} {x : Int32} {tgt : Nat} (hdg : decode cc pc = .ok (.lookupswitch dflt ps, len)) {L : List Int} (hm : x.toInt ∉ L) (hL : ∀ z ∈ ps.toList.map (·.1), z ∈ L) (hp : (ps.toList.zip (ps.toList.drop 1)).all (fun (a, next) => a.1 < next.1) = true) (ht : (pc : Int) + dflt = (tgt : Int)) (k : W p l e R s m args below meth c H locs cells slots Q (F0 m tgt ls rest)) : W p l e R s m args below meth c H locs cells slots Q (F0 m pc ls (.int x :: rest)) :=
  lv_lookup hx hb hdg hp (x_lkd _ _ _ (fun h => hm (hL _ h))) ht k
-- static methods over ints
theorem x_sEnter {y : MethodName} {ret : Option FieldType} {rm : Room} {av : List Value} {r : Int32} (hy : plainName y.cls = true) (hn : (lg_sl av).length ≤ nL)
    (body : ∀ (p : Program) (e : Env) (s : State) (m : MethodId) (below : List Frame) (meth : Method) (c : Code), CallFix p m c cc nL s av.toArray (Cond.code y cc nL ret :: G) y.cls → meth.sig.returnType = ret → meth.locks = false → va_S (fun _ => False) s.heap s.heap [] → ∀ ls : Array Slot, lv_has ls nL (lv_args 0 av) → W p l e rm s m av.toArray below meth c s.heap [] 0 0 (MQ below (xQs r) av.toArray s 0 0 (fun _ => False)) (F0 m 0 ls [])) : Met l y (Cond.code y cc nL ret :: G) rm (va_Pc av (fun _ => True)) (xQs r) 0 0 (fun _ => False) := by
  refine Met.ofW (cc := cc) (maxL := nL) (ret := ret) hy rfl ?_
  intro p e s m args below meth c s₁ B hml hv
  obtain ⟨rfl, -⟩ := hv
  have hl := lv_entry av (n := nL) hn
  rw [lg_entry_eq]
  exact body p e s m below meth c ⟨B.exec, B.bytes, hml, findClass_of_methodNamed B.named, atoms_spec (ws := Cond.code y cc nL ret :: G) B.pre⟩ B.returns B.notSynchronized va_S.rf _ hl
theorem x_siret (F : CallFix p m c cc nL s args (w0 :: G) own) (hr : meth.sig.returnType = some .int) (hlk : meth.locks = false) (hS : va_S (fun _ => False) s.heap s.heap locs) {v o : Int32} (hdg : decode cc pc = .ok (.ireturn, 1)) (h : some v = some o) : W p l e R s m args below meth c s.heap locs cells slots (MQ below (xQs o) args s cells slots (fun _ => False)) (F0 m pc ls [.int v]) := by
  cases h
  exact W.iret F.1 F.2.1 hr (fun t ht hw => ⟨rfl, ht⟩) hS.2.2 hdg hlk
theorem x_szret (F : CallFix p m c cc nL s args (w0 :: G) own) (hr : meth.sig.returnType = some .boolean) (hlk : meth.locks = false) (hS : va_S (fun _ => False) s.heap s.heap locs) {v o : Int32} (hv : narrow .boolean (.int v) = .int v) (hdg : decode cc pc = .ok (.ireturn, 1)) (h : some v = some o) : W p l e R s m args below meth c s.heap locs cells slots (MQ below (xQs o) args s cells slots (fun _ => False)) (F0 m pc ls [.int v]) := by
  cases h
  exact W.zret F.1 F.2.1 hr hv (fun t ht hw => ⟨rfl, ht⟩) hS.2.2 hdg hlk
theorem x_srun {st : List Value} {r : Int32} {As : List Value} (hr : va_Run p l e R s m args below meth c H locs cells slots 0 0 (F0 m pc ls st) rest (xQs r As.toArray) (fun _ => False)) (hS : va_S A0 H0 H locs)
    (kk : ∀ (locs1 : List Loc), va_S A0 H0 H locs1 → W p l e R s m args below meth c H locs1 cells slots Q (F0 m (pc + 3) ls (.int r :: rest))) : W p l e R s m args below meth c H locs cells slots Q (F0 m pc ls st) := by
  intro T hT X
  obtain ⟨v', st₀, t, T', L, h0, X', hL, e1, e2, ⟨hv, hh⟩, st'⟩ := hr T hT X
  cases hv
  have hT' : T'.heap = H := by rw [e1, hh, h0]
  obtain ⟨t2, a1, b1⟩ := kk (locs ++ L) ⟨hS.1, hS.2.1, fun q hq => by
      rcases List.mem_append.mp hq with h | h
      · exact hS.2.2 q h
      · exact (hL q h).elim⟩ T' hT' X'
  exact ⟨t2, st' t2 a1, b1⟩
theorem x_cSi (F : CallFix p m c cc nL s args (w0 :: G) own) (hG : xGd G) (hS : va_S A0 H0 H locs) {y : MethodName} {bytes : ByteArray} {maxL nn index : Nat} {ret : Option FieldType} {rm : Room} {As st : List Value} {g : Option Int32}
    (M : xMs G y bytes maxL ret nn) (ho : y.cls = own) (hl : Cond.methodLink own index y ∈ G) (hM : ∀ r, g = some r → Met l y (Cond.code y bytes maxL ret :: G) rm (va_Pc As (fun _ => True)) (xQs r) 0 0 (fun _ => False))
    (hst : st = As.reverse ++ rest) (hn : As.length = nn) (hsz : ls.size = nL) (hrc : rm.cells = 0) (hrs : rm.slots = 0) (hR : rm.frames + 1 ≤ R.frames ∧ 8 + (maxL + 11) + rm.locals ≤ R.locals) (hcs : cells ≤ R.cells ∧ slots ≤ R.slots) (hrest : (rest.map fun v => v.category).sum ≤ 8) (hdg : decode cc pc = .ok (.invokestatic index, 3))
    {α : Type} {body : Int32 → Option α} {o : α} (h : g.bind body = some o)
    (kk : ∀ (r : Int32) (locs1 : List Loc), va_S A0 H0 H locs1 → body r = some o → W p l e R s m args below meth c H locs1 cells slots Q (F0 m (pc + 3) ls (.int r :: rest))) : W p l e R s m args below meth c H locs cells slots Q (F0 m pc ls st) := by
  obtain ⟨r, h1, h2⟩ := Option.bind_eq_some_iff.mp h
  refine x_srun (As := As) (va_runS (As := As) (rest := rest) (n := nn) F (hM r h1) (cwS nn F.2.2.2.2 (xG_in hG (by
    intro w hw
    rcases List.mem_append.mp hw with h | h
    · simp only [List.mem_cons, List.not_mem_nil, or_false] at h
      rcases h with rfl | rfl | rfl
      · exact hl
      · exact M.1
      · rw [← ho]; exact M.2.1
    · rcases List.mem_cons.mp h with rfl | h
      · exact M.2.2.1
      · exact h)) rfl hrc hrs ⟨ho, M.2.2.2⟩ hR) ⟨fun a U g mk q => ⟨q.1, trivial⟩, fun U hU hw => ⟨rfl, trivial⟩⟩ rfl hn hsz hst (lv_room hrest) hdg hcs) hS (fun locs1 a => kk r locs1 a h2)
theorem x_cSNi (F : CallFix p m c cc nL s args (w0 :: G) own) (hG : xGd G) (hS : va_S A0 H0 H locs) (hK : xK D cl tys nf nm s) {y : MethodName} {host : String} {bytes : ByteArray} {maxL nn index : Nat} {ret : Option FieldType} {rm : Room} {As st : List Value} {g : Option Int32}
    (M : xMs G y bytes maxL ret nn) (hl : (own, index, y, host) ∈ nm) (hM : ∀ r, g = some r → Met l y (Cond.code y bytes maxL ret :: G) rm (va_Pc As (fun _ => True)) (xQs r) 0 0 (fun _ => False))
    (hst : st = As.reverse ++ rest) (hn : As.length = nn) (hsz : ls.size = nL) (hrc : rm.cells = 0) (hrs : rm.slots = 0) (hR : rm.frames + 1 ≤ R.frames ∧ 8 + (maxL + 11) + rm.locals ≤ R.locals) (hcs : cells ≤ R.cells ∧ slots ≤ R.slots) (hrest : (rest.map fun v => v.category).sum ≤ 8) (hdg : decode cc pc = .ok (.invokestatic index, 3))
    {α : Type} {body : Int32 → Option α} {o : α} (h : g.bind body = some o)
    (kk : ∀ (r : Int32) (locs1 : List Loc), va_S A0 H0 H locs1 → body r = some o → W p l e R s m args below meth c H locs1 cells slots Q (F0 m (pc + 3) ls (.int r :: rest))) : W p l e R s m args below meth c H locs cells slots Q (F0 m pc ls st) := by
  obtain ⟨r, h1, h2⟩ := Option.bind_eq_some_iff.mp h
  have hGI : GoodIn (w0 :: G) (Cond.code y bytes maxL ret :: G) := xG_in hG (fun w hw => by
    rcases List.mem_cons.mp hw with rfl | h
    · exact M.2.2.1
    · exact h)
  refine x_srun (As := As) (va_runSN (As := As) (rest := rest) (n := nn) (host := host) F (hM r h1) ⟨va_cnB nn F.2.2.2.2 hGI rfl hrc hrs (hK.2.2 _ hl) (x_hts F _ M.2.1) M.2.2.2 hR, x_hts F _ M.1, trivial⟩ ⟨fun a U g mk q => ⟨q.1, trivial⟩, fun U hU hw => ⟨rfl, trivial⟩⟩ rfl hn hsz hst (lv_room hrest) hdg hcs) hS (fun locs1 a => kk r locs1 a h2)
end XC
