theorem k_1_0 : Cond.initialized "TransputerNetLaw" ∈ xG := xG_t1 (List.mem_of_getElem? (i := 0) (by decide +kernel)) (by decide +kernel)
theorem k_2_178 : Cond.methodLink "TransputerNetLaw" (21 : Nat) ({ cls := "TransputerNet", name := "wire", desc := "(IIII)Z" } : MethodName) ∈ xG := xG_t2 (List.mem_of_getElem? (i := 178) (by decide +kernel)) (by decide +kernel)
theorem k_2_202 : Cond.methodLink "TransputerNetLaw" (28 : Nat) ({ cls := "TransputerNet", name := "send", desc := "(JI)Z" } : MethodName) ∈ xG := xG_t2 (List.mem_of_getElem? (i := 202) (by decide +kernel)) (by decide +kernel)
theorem k_2_221 : Cond.methodLink "TransputerNetLaw" (33 : Nat) ({ cls := "TransputerNet", name := "put", desc := "(IIJ)Z" } : MethodName) ∈ xG := xG_t2 (List.mem_of_getElem? (i := 221) (by decide +kernel)) (by decide +kernel)
theorem k_2_231 : Cond.methodLink "TransputerNetLaw" (38 : Nat) ({ cls := "TransputerNet", name := "start", desc := "(IIII)Z" } : MethodName) ∈ xG := xG_t2 (List.mem_of_getElem? (i := 231) (by decide +kernel)) (by decide +kernel)
theorem k_3_16 : Cond.methodLink "TransputerNetLaw" (42 : Nat) ({ cls := "TransputerNet", name := "run", desc := "(I)I" } : MethodName) ∈ xG := xG_t3 (List.mem_of_getElem? (i := 16) (by decide +kernel)) (by decide +kernel)
theorem k_5_84 : Cond.methodLink "TransputerNetLaw" (47 : Nat) ({ cls := "TransputerNet", name := "register", desc := "(II)I" } : MethodName) ∈ xG := xG_t5 (List.mem_of_getElem? (i := 84) (by decide +kernel)) (by decide +kernel)
theorem k_5_96 : Cond.methodLink "TransputerNetLaw" (52 : Nat) ({ cls := "TransputerNet", name := "peek", desc := "(II)I" } : MethodName) ∈ xG := xG_t5 (List.mem_of_getElem? (i := 96) (by decide +kernel)) (by decide +kernel)
theorem k_5_101 : Cond.methodLink "TransputerNetLaw" (56 : Nat) ({ cls := "TransputerNet", name := "link", desc := "(III)I" } : MethodName) ∈ xG := xG_t5 (List.mem_of_getElem? (i := 101) (by decide +kernel)) (by decide +kernel)
theorem k_5_109 : Cond.methodLink "TransputerNetLaw" (61 : Nat) ({ cls := "TransputerNet", name := "out", desc := "(I)I" } : MethodName) ∈ xG := xG_t5 (List.mem_of_getElem? (i := 109) (by decide +kernel)) (by decide +kernel)
theorem k_6_77 : Cond.methodLink "TransputerNetLaw" (25 : Nat) ({ cls := "TransputerNetModel", name := "wire", desc := "(IIII)Z" } : MethodName) ∈ xG := xG_t6 (List.mem_of_getElem? (i := 77) (by decide +kernel)) (by decide +kernel)
theorem k_6_89 : Cond.methodLink "TransputerNetLaw" (32 : Nat) ({ cls := "TransputerNetModel", name := "send", desc := "(JI)Z" } : MethodName) ∈ xG := xG_t6 (List.mem_of_getElem? (i := 89) (by decide +kernel)) (by decide +kernel)
theorem k_6_93 : Cond.methodLink "TransputerNetLaw" (37 : Nat) ({ cls := "TransputerNetModel", name := "put", desc := "(IIJ)Z" } : MethodName) ∈ xG := xG_t6 (List.mem_of_getElem? (i := 93) (by decide +kernel)) (by decide +kernel)
theorem k_6_98 : Cond.methodLink "TransputerNetLaw" (41 : Nat) ({ cls := "TransputerNetModel", name := "start", desc := "(IIII)Z" } : MethodName) ∈ xG := xG_t6 (List.mem_of_getElem? (i := 98) (by decide +kernel)) (by decide +kernel)
theorem k_6_104 : Cond.methodLink "TransputerNetLaw" (46 : Nat) ({ cls := "TransputerNetModel", name := "run", desc := "(I)I" } : MethodName) ∈ xG := xG_t6 (List.mem_of_getElem? (i := 104) (by decide +kernel)) (by decide +kernel)
theorem k_7_126 : Cond.methodLink "TransputerNetLaw" (51 : Nat) ({ cls := "TransputerNetModel", name := "register", desc := "(II)I" } : MethodName) ∈ xG := xG_t7 (List.mem_of_getElem? (i := 126) (by decide +kernel)) (by decide +kernel)
theorem k_7_130 : Cond.methodLink "TransputerNetLaw" (55 : Nat) ({ cls := "TransputerNetModel", name := "peek", desc := "(II)I" } : MethodName) ∈ xG := xG_t7 (List.mem_of_getElem? (i := 130) (by decide +kernel)) (by decide +kernel)
theorem k_7_134 : Cond.methodLink "TransputerNetLaw" (60 : Nat) ({ cls := "TransputerNetModel", name := "link", desc := "(III)I" } : MethodName) ∈ xG := xG_t7 (List.mem_of_getElem? (i := 134) (by decide +kernel)) (by decide +kernel)
theorem k_7_138 : Cond.methodLink "TransputerNetLaw" (64 : Nat) ({ cls := "TransputerNetModel", name := "out", desc := "(I)I" } : MethodName) ∈ xG := xG_t7 (List.mem_of_getElem? (i := 138) (by decide +kernel)) (by decide +kernel)
theorem k_7_142 : Cond.constantLong "TransputerNetLaw" (26 : Nat) (4294967295 : Int64) ∈ xG := xG_t7 (List.mem_of_getElem? (i := 142) (by decide +kernel)) (by decide +kernel)
set_option maxRecDepth 20000 in
theorem um_X11_wire : xMt xG yX11_wire "TransputerNet" cX11_wire 7 (some .boolean) 4 := ⟨(xG_t2 (List.mem_of_getElem? (i := 179) (by decide +kernel)) (by decide +kernel)), (xG_t2 (List.mem_of_getElem? (i := 180) (by decide +kernel)) (by decide +kernel)), (xG_t1 (List.mem_of_getElem? (i := 1) (by decide +kernel)) (by decide +kernel)), (xG_t2 (List.mem_of_getElem? (i := 181) rfl) rfl), by decide +kernel⟩
set_option maxRecDepth 20000 in
theorem um_X12_wire : xMt xG yX12_wire "TransputerNetModel" cX12_wire 7 (some .boolean) 4 := ⟨(xG_t6 (List.mem_of_getElem? (i := 78) (by decide +kernel)) (by decide +kernel)), (xG_t6 (List.mem_of_getElem? (i := 79) (by decide +kernel)) (by decide +kernel)), (xG_t1 (List.mem_of_getElem? (i := 14) (by decide +kernel)) (by decide +kernel)), (xG_t6 (List.mem_of_getElem? (i := 80) rfl) rfl), by decide +kernel⟩
set_option maxRecDepth 20000 in
theorem um_X11_send : xMt xG yX11_send "TransputerNet" cX11_send 5 (some .boolean) 2 := ⟨(xG_t2 (List.mem_of_getElem? (i := 203) (by decide +kernel)) (by decide +kernel)), (xG_t2 (List.mem_of_getElem? (i := 204) (by decide +kernel)) (by decide +kernel)), (xG_t1 (List.mem_of_getElem? (i := 1) (by decide +kernel)) (by decide +kernel)), (xG_t2 (List.mem_of_getElem? (i := 205) rfl) rfl), by decide +kernel⟩
set_option maxRecDepth 20000 in
theorem um_X12_send : xMt xG yX12_send "TransputerNetModel" cX12_send 5 (some .boolean) 2 := ⟨(xG_t6 (List.mem_of_getElem? (i := 90) (by decide +kernel)) (by decide +kernel)), (xG_t6 (List.mem_of_getElem? (i := 91) (by decide +kernel)) (by decide +kernel)), (xG_t1 (List.mem_of_getElem? (i := 14) (by decide +kernel)) (by decide +kernel)), (xG_t6 (List.mem_of_getElem? (i := 92) rfl) rfl), by decide +kernel⟩
set_option maxRecDepth 20000 in
theorem um_X11_put : xMt xG yX11_put "TransputerNet" cX11_put 7 (some .boolean) 3 := ⟨(xG_t2 (List.mem_of_getElem? (i := 222) (by decide +kernel)) (by decide +kernel)), (xG_t2 (List.mem_of_getElem? (i := 223) (by decide +kernel)) (by decide +kernel)), (xG_t1 (List.mem_of_getElem? (i := 1) (by decide +kernel)) (by decide +kernel)), (xG_t2 (List.mem_of_getElem? (i := 224) rfl) rfl), by decide +kernel⟩
set_option maxRecDepth 20000 in
theorem um_X12_put : xMt xG yX12_put "TransputerNetModel" cX12_put 6 (some .boolean) 3 := ⟨(xG_t6 (List.mem_of_getElem? (i := 94) (by decide +kernel)) (by decide +kernel)), (xG_t6 (List.mem_of_getElem? (i := 95) (by decide +kernel)) (by decide +kernel)), (xG_t1 (List.mem_of_getElem? (i := 14) (by decide +kernel)) (by decide +kernel)), (xG_t6 (List.mem_of_getElem? (i := 96) rfl) rfl), by decide +kernel⟩
set_option maxRecDepth 20000 in
theorem um_X11_start : xMt xG yX11_start "TransputerNet" cX11_start 6 (some .boolean) 4 := ⟨(xG_t2 (List.mem_of_getElem? (i := 232) (by decide +kernel)) (by decide +kernel)), (xG_t2 (List.mem_of_getElem? (i := 233) (by decide +kernel)) (by decide +kernel)), (xG_t1 (List.mem_of_getElem? (i := 1) (by decide +kernel)) (by decide +kernel)), (xG_t2 (List.mem_of_getElem? (i := 234) rfl) rfl), by decide +kernel⟩
set_option maxRecDepth 20000 in
theorem um_X12_start : xMt xG yX12_start "TransputerNetModel" cX12_start 5 (some .boolean) 4 := ⟨(xG_t6 (List.mem_of_getElem? (i := 99) (by decide +kernel)) (by decide +kernel)), (xG_t6 (List.mem_of_getElem? (i := 100) (by decide +kernel)) (by decide +kernel)), (xG_t1 (List.mem_of_getElem? (i := 14) (by decide +kernel)) (by decide +kernel)), (xG_t6 (List.mem_of_getElem? (i := 101) rfl) rfl), by decide +kernel⟩
set_option maxRecDepth 20000 in
theorem um_X11_run : xMt xG yX11_run "TransputerNet" cX11_run 7 (some .int) 1 := ⟨(xG_t3 (List.mem_of_getElem? (i := 17) (by decide +kernel)) (by decide +kernel)), (xG_t3 (List.mem_of_getElem? (i := 18) (by decide +kernel)) (by decide +kernel)), (xG_t1 (List.mem_of_getElem? (i := 1) (by decide +kernel)) (by decide +kernel)), (xG_t3 (List.mem_of_getElem? (i := 19) rfl) rfl), by decide +kernel⟩
set_option maxRecDepth 20000 in
theorem um_X12_run : xMt xG yX12_run "TransputerNetModel" cX12_run 3 (some .int) 1 := ⟨(xG_t6 (List.mem_of_getElem? (i := 105) (by decide +kernel)) (by decide +kernel)), (xG_t6 (List.mem_of_getElem? (i := 106) (by decide +kernel)) (by decide +kernel)), (xG_t1 (List.mem_of_getElem? (i := 14) (by decide +kernel)) (by decide +kernel)), (xG_t6 (List.mem_of_getElem? (i := 107) rfl) rfl), by decide +kernel⟩
set_option maxRecDepth 20000 in
theorem um_X11_register : xMt xG yX11_register "TransputerNet" cX11_register 4 (some .int) 2 := ⟨(xG_t5 (List.mem_of_getElem? (i := 85) (by decide +kernel)) (by decide +kernel)), (xG_t5 (List.mem_of_getElem? (i := 86) (by decide +kernel)) (by decide +kernel)), (xG_t1 (List.mem_of_getElem? (i := 1) (by decide +kernel)) (by decide +kernel)), (xG_t5 (List.mem_of_getElem? (i := 87) rfl) rfl), by decide +kernel⟩
set_option maxRecDepth 20000 in
theorem um_X12_register : xMt xG yX12_register "TransputerNetModel" cX12_register 3 (some .int) 2 := ⟨(xG_t7 (List.mem_of_getElem? (i := 127) (by decide +kernel)) (by decide +kernel)), (xG_t7 (List.mem_of_getElem? (i := 128) (by decide +kernel)) (by decide +kernel)), (xG_t1 (List.mem_of_getElem? (i := 14) (by decide +kernel)) (by decide +kernel)), (xG_t7 (List.mem_of_getElem? (i := 129) rfl) rfl), by decide +kernel⟩
set_option maxRecDepth 20000 in
theorem um_X11_peek : xMt xG yX11_peek "TransputerNet" cX11_peek 4 (some .int) 2 := ⟨(xG_t5 (List.mem_of_getElem? (i := 97) (by decide +kernel)) (by decide +kernel)), (xG_t5 (List.mem_of_getElem? (i := 98) (by decide +kernel)) (by decide +kernel)), (xG_t1 (List.mem_of_getElem? (i := 1) (by decide +kernel)) (by decide +kernel)), (xG_t5 (List.mem_of_getElem? (i := 99) rfl) rfl), by decide +kernel⟩
set_option maxRecDepth 20000 in
theorem um_X12_peek : xMt xG yX12_peek "TransputerNetModel" cX12_peek 3 (some .int) 2 := ⟨(xG_t7 (List.mem_of_getElem? (i := 131) (by decide +kernel)) (by decide +kernel)), (xG_t7 (List.mem_of_getElem? (i := 132) (by decide +kernel)) (by decide +kernel)), (xG_t1 (List.mem_of_getElem? (i := 14) (by decide +kernel)) (by decide +kernel)), (xG_t7 (List.mem_of_getElem? (i := 133) rfl) rfl), by decide +kernel⟩
set_option maxRecDepth 20000 in
theorem um_X11_link : xMt xG yX11_link "TransputerNet" cX11_link 5 (some .int) 3 := ⟨(xG_t5 (List.mem_of_getElem? (i := 102) (by decide +kernel)) (by decide +kernel)), (xG_t5 (List.mem_of_getElem? (i := 103) (by decide +kernel)) (by decide +kernel)), (xG_t1 (List.mem_of_getElem? (i := 1) (by decide +kernel)) (by decide +kernel)), (xG_t5 (List.mem_of_getElem? (i := 104) rfl) rfl), by decide +kernel⟩
set_option maxRecDepth 20000 in
theorem um_X12_link : xMt xG yX12_link "TransputerNetModel" cX12_link 5 (some .int) 3 := ⟨(xG_t7 (List.mem_of_getElem? (i := 135) (by decide +kernel)) (by decide +kernel)), (xG_t7 (List.mem_of_getElem? (i := 136) (by decide +kernel)) (by decide +kernel)), (xG_t1 (List.mem_of_getElem? (i := 14) (by decide +kernel)) (by decide +kernel)), (xG_t7 (List.mem_of_getElem? (i := 137) rfl) rfl), by decide +kernel⟩
set_option maxRecDepth 20000 in
theorem um_X11_out : xMt xG yX11_out "TransputerNet" cX11_out 2 (some .int) 1 := ⟨(xG_t5 (List.mem_of_getElem? (i := 110) (by decide +kernel)) (by decide +kernel)), (xG_t5 (List.mem_of_getElem? (i := 111) (by decide +kernel)) (by decide +kernel)), (xG_t1 (List.mem_of_getElem? (i := 1) (by decide +kernel)) (by decide +kernel)), (xG_t5 (List.mem_of_getElem? (i := 112) rfl) rfl), by decide +kernel⟩
set_option maxRecDepth 20000 in
theorem um_X12_out_ : xMt xG yX12_out_ "TransputerNetModel" cX12_out_ 2 (some .int) 1 := ⟨(xG_t7 (List.mem_of_getElem? (i := 139) (by decide +kernel)) (by decide +kernel)), (xG_t7 (List.mem_of_getElem? (i := 140) (by decide +kernel)) (by decide +kernel)), (xG_t1 (List.mem_of_getElem? (i := 14) (by decide +kernel)) (by decide +kernel)), (xG_t7 (List.mem_of_getElem? (i := 141) rfl) rfl), by decide +kernel⟩
/-! THE CLAIM OUT OF ONE WALK OF THE LAW'S BODY. Your part is whole_start (and what it stands on); all else here is the same for every law, but numbers. -/
def R_law : String := "TransputerNetLaw"
def lw_P (b : Addr) (xs : List Int32) (args : Array Value) (s : State) : Prop := args = #[.ref b] ∧ s.IntsAt b xs ∧ xs.length ≤ 2561 ∧ (Jvm.Cond.and given_1 narrow_1).before args s = true
def lw_Q (_ : Array Value) (s : State) (o : Outcome) (t : State) : Prop := o = .returned (some (.int 1)) ∧ Framed s o t [] 600000 7302250
def lw_Z (below : List Frame) (a : Array Value) (s : State) : State → Prop := fun t => ∃ o, t.status = .running ∧ Ended t below o ∧ lw_Q a s o t
/-- the law's own end, with 1 on the stack, nothing written that was there before, its room as the claim has it -/
theorem lw_ret {p : Program} {l : Launch} {e : Env} {s : State} {m : MethodId} {below : List Frame} {meth : Method} {c : Code} {b : Nat} (hx : p.tables.exec = Jvm.exec) (hb : c.code = code) (hr : meth.sig.returnType = ret) (hlocks : meth.locks = false) {pc : Nat} {H : Heap} {ls : Array Slot} (hdg : decode code pc = .ok (.ireturn, 1)) : W p l e room_1 s m #[Value.ref b] below meth c H [] 600000 7302250 (lw_Z below #[Value.ref b] s) (F0 m pc ls [.int 1]) := by
  intro T hT X
  obtain ⟨fs, hret, hrun, hended, hW, hframe⟩ := X.leave (v := some (.int 1)) (hlocks := hlocks) (fun h => by rw [hr] at h; cases h)
  have hmeth' : T.vm.method? m = some meth := X.method'
  refine ⟨T.setFrames fs, ?_, .returned (some (.int 1)), hrun, hended, rfl, ⟨_, rfl⟩, hW, hframe⟩
  jvm_step X.here [X.here.top, hx, hb, hdg, hmeth', hr, ret, narrow_b1]
  (try refine ⟨rfl, ?_⟩); (try refine ⟨rfl, ?_⟩)
  first | (intro acts; rw [hret _ acts rfl rfl rfl]) | rw [hret _ _ rfl rfl rfl]
  exact Steps.refl _
/-- what holds at the law's entry: the machine, the code, the tables' words (any of lw_tbl by 'hts w (by decide +kernel)'), the script of L ints xs at the cell b, what the Statement gives of the start (any of its parts by flat_of_before) -/
def lw_At (p : Program) (s : State) (m : MethodId) (meth : Method) (c : Code) (b L : Nat) (xs : Nat → Int32) : Prop :=
  p.tables.exec = Jvm.exec ∧ c.code = code ∧ meth.sig.returnType = ret ∧ c.maxLocals = 4 ∧ s.vm.findClass R_law = some m.cls ∧ (∀ w ∈ lw_tbl, w.before #[Value.ref b] s = true) ∧ va_X b L xs s s.heap ∧ b < s.heap.size ∧ meth.locks = false ∧ (Jvm.Cond.and given_1 narrow_1).before #[Value.ref b] s = true
/-- a call on one of two worlds: the other stays -/
theorem xW.apart {D : va_G} {cl : List vw_C} {dom dom' : Nat → Nat → Prop} {ad ad' : Nat → Nat → Nat} {de' : xDe} {S' : xS} {H H1 : Heap} (hW : xW D cl dom' ad' de' S' H) (hk : ∀ q : Nat, q < H.size → ¬ xA dom ad q → H1[q]? = H[q]?) (hdis : ∀ n j, dom' n j → ¬ xA dom ad (ad' n j)) : xW D cl dom' ad' de' S' H1 := fun n j h => (hW n j h).kept (hk _ (hW n j h).lt (hdis n j h))
theorem x_2Vi {p : Program} {l : Launch} {e : Env} {R : Room} {s : State} {m : MethodId} {args : Array Value} {below : List Frame} {meth : Method} {c : Code} {H : Heap} {locs : List Loc} {cells slots : Nat} {Q : State → Prop} {cc : ByteArray} {nL : Nat} {w0 : Cond} {G : List Cond} {own : String} {pc : Nat} {ls : Array Slot} {rest : List Value} {D : va_G} {cl : List vw_C} {tys : List (ClassId × FieldType)} {nf : List xNf} {nm : List xNm} {dom dom' : Nat → Nat → Prop} {ad ad' : Nat → Nat → Nat} {de de' : xDe} {S S' : xS} {H0 : Heap} {A0 : Nat → Prop}
    (F : CallFix p m c cc nL s args (w0 :: G) own) (hG : xGd G) (hK : xK D cl tys nf nm s) (hW : xW D cl dom ad de S H) (hW' : xW D cl dom' ad' de' S' H) (hS : va_S A0 H0 H locs) (hsub : ∀ q, xA dom ad q → A0 q) (hdis : ∀ n j, dom' n j → ¬ xA dom ad (ad' n j)) {y : MethodName} {C : String} {T : u_T} {N ci : Nat} {bytes : ByteArray} {maxL nn index : Nat} {ret : Option FieldType} {rm : Room} {As st : List Value} {n j : Nat} {fs : (Nat → Int32) → Option (Nat × Nat) → List Value} {g : Option (Int32 × xS)}
    (M : xMt G y C bytes maxL ret nn) (hl : Cond.methodLink own index y ∈ G) (hM : ∀ o1, g = some o1 → Met l y (Cond.code y bytes maxL ret :: G) rm (xPc D cl tys nf nm dom ad de (.ref (ad n j) :: As) S) (xQ D cl dom ad de (some (.int o1.1)) o1.2) 0 0 (xA dom ad)) (hc : cl[ci]? = some (C, T, N)) (hd : dom n j) (he : ∀ i q e, de i q e n j = .inr (ci, fs i e))
    (hst : st = As.reverse ++ .ref (ad n j) :: rest) (hn : As.length = nn) (hsz : ls.size = nL) (hrc : rm.cells = 0) (hrs : rm.slots = 0) (hR : rm.frames + 1 ≤ R.frames ∧ 8 + (maxL + 11) + rm.locals ≤ R.locals) (hcs : cells ≤ R.cells ∧ slots ≤ R.slots) (hrest : (rest.map fun v => v.category).sum ≤ 8) (hdg : decode cc pc = .ok (.invokevirtual index, 3))
    {α : Type} {body : Int32 × xS → Option α} {o : α} (h : g.bind body = some o)
    (kk : ∀ (r : Int32) (S1 : xS) (H1 : Heap) (locs1 : List Loc), xW D cl dom ad de S1 H1 → xW D cl dom' ad' de' S' H1 → va_S A0 H0 H1 locs1 → body (r, S1) = some o → W p l e R s m args below meth c H1 locs1 cells slots Q (F0 m (pc + 3) ls (.int r :: rest))) : W p l e R s m args below meth c H locs cells slots Q (F0 m pc ls st) := by
  obtain ⟨⟨r, S1⟩, h1, h2⟩ := Option.bind_eq_some_iff.mp h
  exact x_run0 (r := some (.int r)) (rest := rest) (va_runV (As := As) (rest := rest) (n := nn) F (hM _ h1) (x_cw hG F.2.2.2.2 M hl hrc hrs hR) ⟨xPc_blind, va_recv hK.1 (hW.one hd (he _ _ _)) (ci := ci) (q0 := 0) hc rfl, fun U hU hw => ⟨rfl, xK.warm hw hK, by rw [hU]; exact hW⟩⟩ rfl hn hsz hst (lv_room hrest) hdg hcs) hS hsub (fun H1 locs1 a1 a2 a3 a4 => kk r S1 H1 locs1 a1 (hW'.apart a3 hdis) a4 h2)
/-- the law as a function: script, its length, how many nodes, fuel, place, the two states -/
def lawL (xs : Nat → Int32) (L N : Nat) : Nat → Int32 → xS → xS → Option Int32
  | 0, _, _, _ => none
  | fu + 1, v3, Sc, Sr => if ((Int32.ofNat L) - (5 : Int32)) < v3 then (some (1 : Int32)) else (gd v3 L (if ((xs (v3).toNatClampNeg) &&& (15 : Int32)) = (0 : Int32) then (gd (v3 + (1 : Int32)) L (gd (v3 + (2 : Int32)) L (gd (v3 + (3 : Int32)) L (gd (v3 + (4 : Int32)) L ((c11_wire N Sc (xs ((v3 + (1 : Int32))).toNatClampNeg) (xs ((v3 + (2 : Int32))).toNatClampNeg) (xs ((v3 + (3 : Int32))).toNatClampNeg) (xs ((v3 + (4 : Int32))).toNatClampNeg)).bind (fun (r_8, Sc8) => gd (v3 + (1 : Int32)) L (gd (v3 + (2 : Int32)) L (gd (v3 + (3 : Int32)) L (gd (v3 + (4 : Int32)) L ((r_wire Sr (xs ((v3 + (1 : Int32))).toNatClampNeg) (xs ((v3 + (2 : Int32))).toNatClampNeg) (xs ((v3 + (3 : Int32))).toNatClampNeg) (xs ((v3 + (4 : Int32))).toNatClampNeg)).bind (fun (r_13, Sr13) => if r_8 = r_13 then (lawL xs L N fu (v3 + (5 : Int32)) Sc8 Sr13) else (some (0 : Int32))))))))))))) else (if ((xs (v3).toNatClampNeg) &&& (15 : Int32)) = (1 : Int32) then (gd (v3 + (1 : Int32)) L (gd (v3 + (2 : Int32)) L (gd (v3 + (3 : Int32)) L ((c11_send N Sc ((jlshl ((xs ((v3 + (1 : Int32))).toNatClampNeg).toInt64) (32 : Int32)) ||| (((xs ((v3 + (2 : Int32))).toNatClampNeg).toInt64) &&& (4294967295 : Int64))) (xs ((v3 + (3 : Int32))).toNatClampNeg)).bind (fun (r_18, Sc18) => gd (v3 + (1 : Int32)) L (gd (v3 + (2 : Int32)) L (gd (v3 + (3 : Int32)) L ((r_send Sr ((jlshl ((xs ((v3 + (1 : Int32))).toNatClampNeg).toInt64) (32 : Int32)) ||| (((xs ((v3 + (2 : Int32))).toNatClampNeg).toInt64) &&& (4294967295 : Int64))) (xs ((v3 + (3 : Int32))).toNatClampNeg)).bind (fun (r_22, Sr22) => if r_18 = r_22 then (lawL xs L N fu (v3 + (5 : Int32)) Sc18 Sr22) else (some (0 : Int32))))))))))) else (if ((xs (v3).toNatClampNeg) &&& (15 : Int32)) = (2 : Int32) then (gd (v3 + (1 : Int32)) L (gd (v3 + (2 : Int32)) L (gd (v3 + (3 : Int32)) L (gd (v3 + (4 : Int32)) L ((c11_put N Sc (xs ((v3 + (1 : Int32))).toNatClampNeg) (xs ((v3 + (2 : Int32))).toNatClampNeg) ((jlshl ((xs ((v3 + (3 : Int32))).toNatClampNeg).toInt64) (32 : Int32)) ||| (((xs ((v3 + (4 : Int32))).toNatClampNeg).toInt64) &&& (4294967295 : Int64)))).bind (fun (r_28, Sc28) => gd (v3 + (1 : Int32)) L (gd (v3 + (2 : Int32)) L (gd (v3 + (3 : Int32)) L (gd (v3 + (4 : Int32)) L ((r_put Sr (xs ((v3 + (1 : Int32))).toNatClampNeg) (xs ((v3 + (2 : Int32))).toNatClampNeg) ((jlshl ((xs ((v3 + (3 : Int32))).toNatClampNeg).toInt64) (32 : Int32)) ||| (((xs ((v3 + (4 : Int32))).toNatClampNeg).toInt64) &&& (4294967295 : Int64)))).bind (fun (r_33, Sr33) => if r_28 = r_33 then (lawL xs L N fu (v3 + (5 : Int32)) Sc28 Sr33) else (some (0 : Int32))))))))))))) else (if ((xs (v3).toNatClampNeg) &&& (15 : Int32)) = (3 : Int32) then (gd (v3 + (1 : Int32)) L (gd (v3 + (2 : Int32)) L (gd (v3 + (3 : Int32)) L (gd (v3 + (4 : Int32)) L ((c11_start N Sc (xs ((v3 + (1 : Int32))).toNatClampNeg) (xs ((v3 + (2 : Int32))).toNatClampNeg) (xs ((v3 + (3 : Int32))).toNatClampNeg) (xs ((v3 + (4 : Int32))).toNatClampNeg)).bind (fun (r_39, Sc39) => gd (v3 + (1 : Int32)) L (gd (v3 + (2 : Int32)) L (gd (v3 + (3 : Int32)) L (gd (v3 + (4 : Int32)) L ((r_start Sr (xs ((v3 + (1 : Int32))).toNatClampNeg) (xs ((v3 + (2 : Int32))).toNatClampNeg) (xs ((v3 + (3 : Int32))).toNatClampNeg) (xs ((v3 + (4 : Int32))).toNatClampNeg)).bind (fun (r_44, Sr44) => if r_39 = r_44 then (lawL xs L N fu (v3 + (5 : Int32)) Sc39 Sr44) else (some (0 : Int32))))))))))))) else (if ((xs (v3).toNatClampNeg) &&& (15 : Int32)) = (4 : Int32) then (gd (v3 + (1 : Int32)) L ((c11_run N Sc (xs ((v3 + (1 : Int32))).toNatClampNeg)).bind (fun (r_47, Sc47) => gd (v3 + (1 : Int32)) L ((r_run Sr (xs ((v3 + (1 : Int32))).toNatClampNeg)).bind (fun (r_49, Sr49) => if r_47 = r_49 then (lawL xs L N fu (v3 + (5 : Int32)) Sc47 Sr49) else (some (0 : Int32))))))) else (if ((xs (v3).toNatClampNeg) &&& (15 : Int32)) = (5 : Int32) then (gd (v3 + (1 : Int32)) L (gd (v3 + (2 : Int32)) L ((c11_register N Sc (xs ((v3 + (1 : Int32))).toNatClampNeg) (xs ((v3 + (2 : Int32))).toNatClampNeg)).bind (fun (r_53, Sc53) => gd (v3 + (1 : Int32)) L (gd (v3 + (2 : Int32)) L ((r_register Sr (xs ((v3 + (1 : Int32))).toNatClampNeg) (xs ((v3 + (2 : Int32))).toNatClampNeg)).bind (fun (r_56, Sr56) => if r_53 = r_56 then (lawL xs L N fu (v3 + (5 : Int32)) Sc53 Sr56) else (some (0 : Int32))))))))) else (if ((xs (v3).toNatClampNeg) &&& (15 : Int32)) = (6 : Int32) then (gd (v3 + (1 : Int32)) L (gd (v3 + (2 : Int32)) L ((c11_peek N Sc (xs ((v3 + (1 : Int32))).toNatClampNeg) (xs ((v3 + (2 : Int32))).toNatClampNeg)).bind (fun (r_60, Sc60) => gd (v3 + (1 : Int32)) L (gd (v3 + (2 : Int32)) L ((r_peek Sr (xs ((v3 + (1 : Int32))).toNatClampNeg) (xs ((v3 + (2 : Int32))).toNatClampNeg)).bind (fun (r_63, Sr63) => if r_60 = r_63 then (lawL xs L N fu (v3 + (5 : Int32)) Sc60 Sr63) else (some (0 : Int32))))))))) else (if ((xs (v3).toNatClampNeg) &&& (15 : Int32)) = (7 : Int32) then (gd (v3 + (1 : Int32)) L (gd (v3 + (2 : Int32)) L (gd (v3 + (3 : Int32)) L ((c11_link N Sc (xs ((v3 + (1 : Int32))).toNatClampNeg) (xs ((v3 + (2 : Int32))).toNatClampNeg) (xs ((v3 + (3 : Int32))).toNatClampNeg)).bind (fun (r_68, Sc68) => gd (v3 + (1 : Int32)) L (gd (v3 + (2 : Int32)) L (gd (v3 + (3 : Int32)) L ((r_link Sr (xs ((v3 + (1 : Int32))).toNatClampNeg) (xs ((v3 + (2 : Int32))).toNatClampNeg) (xs ((v3 + (3 : Int32))).toNatClampNeg)).bind (fun (r_72, Sr72) => if r_68 = r_72 then (lawL xs L N fu (v3 + (5 : Int32)) Sc68 Sr72) else (some (0 : Int32))))))))))) else (if ((xs (v3).toNatClampNeg) &&& (15 : Int32)) = (8 : Int32) then (gd (v3 + (1 : Int32)) L ((c11_out N Sc (xs ((v3 + (1 : Int32))).toNatClampNeg)).bind (fun (r_75, Sc75) => gd (v3 + (1 : Int32)) L ((r_out_ Sr (xs ((v3 + (1 : Int32))).toNatClampNeg)).bind (fun (r_77, Sr77) => if r_75 = r_77 then (lawL xs L N fu (v3 + (5 : Int32)) Sc75 Sr77) else (some (0 : Int32))))))) else (lawL xs L N fu (v3 + (5 : Int32)) Sc Sr)))))))))))
set_option maxHeartbeats 4000000 in
set_option maxRecDepth 100000 in
theorem law_loop {p : Program} {l : Launch} {e : Env} {s : State} {m : MethodId} {below : List Frame} {meth : Method} {c : Code} {b L N : Nat} {xs : Nat → Int32} {D : va_G} {cI cJ cL cN cZ cB : ClassId} {adc adr : Nat → Nat → Nat} {cells slots : Nat} (C0 : lw_At p s m meth c b L xs) (hKc : xK D vwCl (cTy cI cJ cL cN) cNf cNm s) (hKr : xK D vwCl (rTy cI cZ cB) [] [] s) (hN : N ≤ 8) (hIc : xInj (cDom N) adc) (hIr : xInj rDom adr) (hsc : ∀ q, xA (cDom N) adc q → s.heap.size ≤ q) (hsr : ∀ q, xA rDom adr q → s.heap.size ≤ q) (hdr : ∀ n j, rDom n j → ¬ xA (cDom N) adc (adr n j)) (hdc : ∀ n j, cDom N n j → ¬ xA rDom adr (adc n j)) (hcs : cells ≤ 600000 ∧ slots ≤ 7302250) :
    ∀ (fu : Nat) (v3 : Int32) (Sc Sr : xS) (H : Heap) (locs : List Loc) (ls : Array Slot), lawL xs L N fu v3 Sc Sr = some 1 → xW D vwCl (cDom N) adc (cDe adc N cI cJ cL cN) Sc H → xW D vwCl rDom adr (rDe adr cI cZ cB) Sr H → va_S (fun q : Nat => s.heap.size ≤ q) s.heap H locs → lv_has ls 4 [(0, .ref b), (1, .ref (adc 9 0)), (2, .ref (adr 0 0)), (3, .int v3)] → W p l e room_1 s m #[Value.ref b] below meth c H locs cells slots (lw_Z below #[Value.ref b] s) (F0 m 28 ls []) := by
  obtain ⟨hx, hb, hr, hml, hown, hts, hX, hbl, hlocks, hgv⟩ := C0
  have hbA : ¬ (fun q : Nat => s.heap.size ≤ q) b := Nat.not_le.mpr hbl
  have F : CallFix p m c cL_law 4 s #[Value.ref b] (Cond.initialized "TransputerNetLaw" :: xG) "TransputerNetLaw" := ⟨hx, hb, hml, hown, fun w hw => (List.mem_cons.mp hw).elim (fun h => by rw [h]; exact hts _ (xG_of k_1_0)) (fun h => hts w (xG_of h))⟩
  intro fu
  induction fu with
  | zero =>
    intro v3 Sc Sr H locs ls h
    simp [lawL] at h
  | succ fu ih =>
    intro v3 Sc Sr H locs ls h hWc hWr hS hl
    rw [lawL] at h
    refine lv_iload_n hx hb dL_law_28 rfl (lv_at hl 3 rfl) ?_
    refine lv_aload_n hx hb dL_law_29 rfl (lv_at hl 0 rfl) ?_
    refine va_slen hx hb hX hbl hbA hS dL_law_30 ?_
    refine lv_iconst (v := (5 : Int32)) hx hb dL_law_31 (by decide) ?_
    refine lv_isub hx hb dL_law_32 ?_
    refine lv_icmp_gt (tgt := 495) hx hb dL_law_33 (by decide) (fun c_1 => ?_) (fun c_1 => ?_)
    · replace h := (if_pos c_1).symm.trans h
      refine lv_iconst (v := (1 : Int32)) hx hb dL_law_495 (by decide) ?_
      refine va_forget (fun q hq => hS.2.2 q hq) ?_
      refine W.widen (k := 600000) (n := 7302250) hcs.1 hcs.2 ?_
      exact lw_ret hx hb hr hlocks dL_law_496
    replace h := (if_neg c_1).symm.trans h
    refine lv_aload_n hx hb dL_law_36 rfl (lv_at hl 0 rfl) ?_
    refine lv_iload_n hx hb dL_law_37 rfl (lv_at hl 3 rfl) ?_
    have hi_2 := (gd_use h).1
    replace h := (gd_use h).2
    refine va_sld hx hb hX hbl hbA hS hi_2 dL_law_38 ?_
    refine lv_bipush (v := (15 : Int32)) hx hb dL_law_39 (by decide) ?_
    refine lv_iand hx hb dL_law_41 ?_
    by_cases c_3_0 : ((xs (v3).toNatClampNeg) &&& (15 : Int32)) = (0 : Int32)
    · replace h := (if_pos c_3_0).symm.trans h
      refine lv_tableIn (tgt := 92) (off := 50) hx hb dL_law_42 (by rw [c_3_0]; decide) (by rw [c_3_0]; decide) (by rw [c_3_0]; decide) (by decide) ?_
      refine lv_aload_n hx hb dL_law_92 rfl (lv_at hl 1 rfl) ?_
      refine lv_aload_n hx hb dL_law_93 rfl (lv_at hl 0 rfl) ?_
      refine lv_iload_n hx hb dL_law_94 rfl (lv_at hl 3 rfl) ?_
      refine lv_iconst (v := (1 : Int32)) hx hb dL_law_95 (by decide) ?_
      refine lv_iadd hx hb dL_law_96 ?_
      have hi_4 := (gd_use h).1
      replace h := (gd_use h).2
      refine va_sld hx hb hX hbl hbA hS hi_4 dL_law_97 ?_
      refine lv_aload_n hx hb dL_law_98 rfl (lv_at hl 0 rfl) ?_
      refine lv_iload_n hx hb dL_law_99 rfl (lv_at hl 3 rfl) ?_
      refine lv_iconst (v := (2 : Int32)) hx hb dL_law_100 (by decide) ?_
      refine lv_iadd hx hb dL_law_101 ?_
      have hi_5 := (gd_use h).1
      replace h := (gd_use h).2
      refine va_sld hx hb hX hbl hbA hS hi_5 dL_law_102 ?_
      refine lv_aload_n hx hb dL_law_103 rfl (lv_at hl 0 rfl) ?_
      refine lv_iload_n hx hb dL_law_104 rfl (lv_at hl 3 rfl) ?_
      refine lv_iconst (v := (3 : Int32)) hx hb dL_law_105 (by decide) ?_
      refine lv_iadd hx hb dL_law_106 ?_
      have hi_6 := (gd_use h).1
      replace h := (gd_use h).2
      refine va_sld hx hb hX hbl hbA hS hi_6 dL_law_107 ?_
      refine lv_aload_n hx hb dL_law_108 rfl (lv_at hl 0 rfl) ?_
      refine lv_iload_n hx hb dL_law_109 rfl (lv_at hl 3 rfl) ?_
      refine lv_iconst (v := (4 : Int32)) hx hb dL_law_110 (by decide) ?_
      refine lv_iadd hx hb dL_law_111 ?_
      have hi_7 := (gd_use h).1
      replace h := (gd_use h).2
      refine va_sld hx hb hX hbl hbA hS hi_7 dL_law_112 ?_
      refine x_2Vi (As := [.int (xs ((v3 + (1 : Int32))).toNatClampNeg), .int (xs ((v3 + (2 : Int32))).toNatClampNeg), .int (xs ((v3 + (3 : Int32))).toNatClampNeg), .int (xs ((v3 + (4 : Int32))).toNatClampNeg)]) F xG_ok hKc hWc hWr hS hsc hdr um_X11_wire k_2_178 (fun _ h1 => m_c11_wire hN hIc _ _ _ _ h1) rfl cd_dX11 cd_eX11 rfl rfl hl.1 rfl rfl ⟨Nat.le_of_ble_eq_true rfl, Nat.le_of_ble_eq_true rfl⟩ hcs (Nat.le_of_ble_eq_true rfl) dL_law_113 h (fun r_8 Sc8 H locs hWc hWr hS h => ?_)
      refine lv_aload_n hx hb dL_law_116 rfl (lv_at hl 2 rfl) ?_
      refine lv_aload_n hx hb dL_law_117 rfl (lv_at hl 0 rfl) ?_
      refine lv_iload_n hx hb dL_law_118 rfl (lv_at hl 3 rfl) ?_
      refine lv_iconst (v := (1 : Int32)) hx hb dL_law_119 (by decide) ?_
      refine lv_iadd hx hb dL_law_120 ?_
      have hi_9 := (gd_use h).1
      replace h := (gd_use h).2
      refine va_sld hx hb hX hbl hbA hS hi_9 dL_law_121 ?_
      refine lv_aload_n hx hb dL_law_122 rfl (lv_at hl 0 rfl) ?_
      refine lv_iload_n hx hb dL_law_123 rfl (lv_at hl 3 rfl) ?_
      refine lv_iconst (v := (2 : Int32)) hx hb dL_law_124 (by decide) ?_
      refine lv_iadd hx hb dL_law_125 ?_
      have hi_10 := (gd_use h).1
      replace h := (gd_use h).2
      refine va_sld hx hb hX hbl hbA hS hi_10 dL_law_126 ?_
      refine lv_aload_n hx hb dL_law_127 rfl (lv_at hl 0 rfl) ?_
      refine lv_iload_n hx hb dL_law_128 rfl (lv_at hl 3 rfl) ?_
      refine lv_iconst (v := (3 : Int32)) hx hb dL_law_129 (by decide) ?_
      refine lv_iadd hx hb dL_law_130 ?_
      have hi_11 := (gd_use h).1
      replace h := (gd_use h).2
      refine va_sld hx hb hX hbl hbA hS hi_11 dL_law_131 ?_
      refine lv_aload_n hx hb dL_law_132 rfl (lv_at hl 0 rfl) ?_
      refine lv_iload_n hx hb dL_law_133 rfl (lv_at hl 3 rfl) ?_
      refine lv_iconst (v := (4 : Int32)) hx hb dL_law_134 (by decide) ?_
      refine lv_iadd hx hb dL_law_135 ?_
      have hi_12 := (gd_use h).1
      replace h := (gd_use h).2
      refine va_sld hx hb hX hbl hbA hS hi_12 dL_law_136 ?_
      refine x_2Vi (As := [.int (xs ((v3 + (1 : Int32))).toNatClampNeg), .int (xs ((v3 + (2 : Int32))).toNatClampNeg), .int (xs ((v3 + (3 : Int32))).toNatClampNeg), .int (xs ((v3 + (4 : Int32))).toNatClampNeg)]) F xG_ok hKr hWr hWc hS hsr hdc um_X12_wire k_6_77 (fun _ h1 => m_r_wire hIr _ _ _ _ h1) rfl rd_d0 rd_0 rfl rfl hl.1 rfl rfl ⟨Nat.le_of_ble_eq_true rfl, Nat.le_of_ble_eq_true rfl⟩ hcs (Nat.le_of_ble_eq_true rfl) dL_law_137 h (fun r_13 Sr13 H locs hWr hWc hS h => ?_)
      refine lv_icmp_eq (tgt := 489) hx hb dL_law_140 (by decide) (fun c_14 => ?_) (fun c_14 => ?_)
      · replace h := (if_pos c_14).symm.trans h
        refine lv_iinc (v := (v3 + (5 : Int32))) (lv' := [(3, .int (v3 + (5 : Int32))), (0, .ref b), (1, .ref (adc 9 0)), (2, .ref (adr 0 0))]) hx hb dL_law_489 hl (k := 3) rfl rfl (by decide) rfl (fun ls hl => ?_)
        refine lv_goto (tgt := 28) hx hb dL_law_492 (by decide) ?_
        exact ih _ _ _ _ _ _ h hWc hWr hS (lv_sub hl [1, 2, 3, 0] rfl)
      replace h := (if_neg c_14).symm.trans h
      refine lv_iconst (v := (0 : Int32)) hx hb dL_law_143 (by decide) ?_
      exact absurd (Option.some.inj h) (by decide)
    replace h := (if_neg c_3_0).symm.trans h
    have hn_3_0 := x_swN (z := 0) c_3_0 x_sw0 rfl
    by_cases c_3_1 : ((xs (v3).toNatClampNeg) &&& (15 : Int32)) = (1 : Int32)
    · replace h := (if_pos c_3_1).symm.trans h
      refine lv_tableIn (tgt := 145) (off := 103) hx hb dL_law_42 (by rw [c_3_1]; decide) (by rw [c_3_1]; decide) (by rw [c_3_1]; decide) (by decide) ?_
      refine lv_aload_n hx hb dL_law_145 rfl (lv_at hl 1 rfl) ?_
      refine lv_aload_n hx hb dL_law_146 rfl (lv_at hl 0 rfl) ?_
      refine lv_iload_n hx hb dL_law_147 rfl (lv_at hl 3 rfl) ?_
      refine lv_iconst (v := (1 : Int32)) hx hb dL_law_148 (by decide) ?_
      refine lv_iadd hx hb dL_law_149 ?_
      have hi_15 := (gd_use h).1
      replace h := (gd_use h).2
      refine va_sld hx hb hX hbl hbA hS hi_15 dL_law_150 ?_
      refine lv_i2l (v := (xs ((v3 + (1 : Int32))).toNatClampNeg).toInt64) hx hb dL_law_151 rfl ?_
      refine lv_bipush (v := (32 : Int32)) hx hb dL_law_152 (by decide) ?_
      refine lv_lshl (v := (jlshl ((xs ((v3 + (1 : Int32))).toNatClampNeg).toInt64) (32 : Int32))) hx hb dL_law_154 rfl ?_
      refine lv_aload_n hx hb dL_law_155 rfl (lv_at hl 0 rfl) ?_
      refine lv_iload_n hx hb dL_law_156 rfl (lv_at hl 3 rfl) ?_
      refine lv_iconst (v := (2 : Int32)) hx hb dL_law_157 (by decide) ?_
      refine lv_iadd hx hb dL_law_158 ?_
      have hi_16 := (gd_use h).1
      replace h := (gd_use h).2
      refine va_sld hx hb hX hbl hbA hS hi_16 dL_law_159 ?_
      refine lv_i2l (v := (xs ((v3 + (2 : Int32))).toNatClampNeg).toInt64) hx hb dL_law_160 rfl ?_
      refine lv_ldc2 (v := (4294967295 : Int64)) hx hb F.2.2.2.1 (x_hts F _ k_7_142) dL_law_161 ?_
      refine lv_land hx hb dL_law_164 ?_
      refine lv_lor hx hb dL_law_165 ?_
      refine lv_aload_n hx hb dL_law_166 rfl (lv_at hl 0 rfl) ?_
      refine lv_iload_n hx hb dL_law_167 rfl (lv_at hl 3 rfl) ?_
      refine lv_iconst (v := (3 : Int32)) hx hb dL_law_168 (by decide) ?_
      refine lv_iadd hx hb dL_law_169 ?_
      have hi_17 := (gd_use h).1
      replace h := (gd_use h).2
      refine va_sld hx hb hX hbl hbA hS hi_17 dL_law_170 ?_
      refine x_2Vi (As := [.long ((jlshl ((xs ((v3 + (1 : Int32))).toNatClampNeg).toInt64) (32 : Int32)) ||| (((xs ((v3 + (2 : Int32))).toNatClampNeg).toInt64) &&& (4294967295 : Int64))), .int (xs ((v3 + (3 : Int32))).toNatClampNeg)]) F xG_ok hKc hWc hWr hS hsc hdr um_X11_send k_2_202 (fun _ h1 => m_c11_send hN hIc _ _ h1) rfl cd_dX11 cd_eX11 rfl rfl hl.1 rfl rfl ⟨Nat.le_of_ble_eq_true rfl, Nat.le_of_ble_eq_true rfl⟩ hcs (Nat.le_of_ble_eq_true rfl) dL_law_171 h (fun r_18 Sc18 H locs hWc hWr hS h => ?_)
      refine lv_aload_n hx hb dL_law_174 rfl (lv_at hl 2 rfl) ?_
      refine lv_aload_n hx hb dL_law_175 rfl (lv_at hl 0 rfl) ?_
      refine lv_iload_n hx hb dL_law_176 rfl (lv_at hl 3 rfl) ?_
      refine lv_iconst (v := (1 : Int32)) hx hb dL_law_177 (by decide) ?_
      refine lv_iadd hx hb dL_law_178 ?_
      have hi_19 := (gd_use h).1
      replace h := (gd_use h).2
      refine va_sld hx hb hX hbl hbA hS hi_19 dL_law_179 ?_
      refine lv_i2l (v := (xs ((v3 + (1 : Int32))).toNatClampNeg).toInt64) hx hb dL_law_180 rfl ?_
      refine lv_bipush (v := (32 : Int32)) hx hb dL_law_181 (by decide) ?_
      refine lv_lshl (v := (jlshl ((xs ((v3 + (1 : Int32))).toNatClampNeg).toInt64) (32 : Int32))) hx hb dL_law_183 rfl ?_
      refine lv_aload_n hx hb dL_law_184 rfl (lv_at hl 0 rfl) ?_
      refine lv_iload_n hx hb dL_law_185 rfl (lv_at hl 3 rfl) ?_
      refine lv_iconst (v := (2 : Int32)) hx hb dL_law_186 (by decide) ?_
      refine lv_iadd hx hb dL_law_187 ?_
      have hi_20 := (gd_use h).1
      replace h := (gd_use h).2
      refine va_sld hx hb hX hbl hbA hS hi_20 dL_law_188 ?_
      refine lv_i2l (v := (xs ((v3 + (2 : Int32))).toNatClampNeg).toInt64) hx hb dL_law_189 rfl ?_
      refine lv_ldc2 (v := (4294967295 : Int64)) hx hb F.2.2.2.1 (x_hts F _ k_7_142) dL_law_190 ?_
      refine lv_land hx hb dL_law_193 ?_
      refine lv_lor hx hb dL_law_194 ?_
      refine lv_aload_n hx hb dL_law_195 rfl (lv_at hl 0 rfl) ?_
      refine lv_iload_n hx hb dL_law_196 rfl (lv_at hl 3 rfl) ?_
      refine lv_iconst (v := (3 : Int32)) hx hb dL_law_197 (by decide) ?_
      refine lv_iadd hx hb dL_law_198 ?_
      have hi_21 := (gd_use h).1
      replace h := (gd_use h).2
      refine va_sld hx hb hX hbl hbA hS hi_21 dL_law_199 ?_
      refine x_2Vi (As := [.long ((jlshl ((xs ((v3 + (1 : Int32))).toNatClampNeg).toInt64) (32 : Int32)) ||| (((xs ((v3 + (2 : Int32))).toNatClampNeg).toInt64) &&& (4294967295 : Int64))), .int (xs ((v3 + (3 : Int32))).toNatClampNeg)]) F xG_ok hKr hWr hWc hS hsr hdc um_X12_send k_6_89 (fun _ h1 => m_r_send hIr _ _ h1) rfl rd_d0 rd_0 rfl rfl hl.1 rfl rfl ⟨Nat.le_of_ble_eq_true rfl, Nat.le_of_ble_eq_true rfl⟩ hcs (Nat.le_of_ble_eq_true rfl) dL_law_200 h (fun r_22 Sr22 H locs hWr hWc hS h => ?_)
      refine lv_icmp_eq (tgt := 489) hx hb dL_law_203 (by decide) (fun c_23 => ?_) (fun c_23 => ?_)
      · replace h := (if_pos c_23).symm.trans h
        refine lv_iinc (v := (v3 + (5 : Int32))) (lv' := [(3, .int (v3 + (5 : Int32))), (0, .ref b), (1, .ref (adc 9 0)), (2, .ref (adr 0 0))]) hx hb dL_law_489 hl (k := 3) rfl rfl (by decide) rfl (fun ls hl => ?_)
        refine lv_goto (tgt := 28) hx hb dL_law_492 (by decide) ?_
        exact ih _ _ _ _ _ _ h hWc hWr hS (lv_sub hl [1, 2, 3, 0] rfl)
      replace h := (if_neg c_23).symm.trans h
      refine lv_iconst (v := (0 : Int32)) hx hb dL_law_206 (by decide) ?_
      exact absurd (Option.some.inj h) (by decide)
    replace h := (if_neg c_3_1).symm.trans h
    have hn_3_1 := x_swN (z := 1) c_3_1 hn_3_0 rfl
    by_cases c_3_2 : ((xs (v3).toNatClampNeg) &&& (15 : Int32)) = (2 : Int32)
    · replace h := (if_pos c_3_2).symm.trans h
      refine lv_tableIn (tgt := 208) (off := 166) hx hb dL_law_42 (by rw [c_3_2]; decide) (by rw [c_3_2]; decide) (by rw [c_3_2]; decide) (by decide) ?_
      refine lv_aload_n hx hb dL_law_208 rfl (lv_at hl 1 rfl) ?_
      refine lv_aload_n hx hb dL_law_209 rfl (lv_at hl 0 rfl) ?_
      refine lv_iload_n hx hb dL_law_210 rfl (lv_at hl 3 rfl) ?_
      refine lv_iconst (v := (1 : Int32)) hx hb dL_law_211 (by decide) ?_
      refine lv_iadd hx hb dL_law_212 ?_
      have hi_24 := (gd_use h).1
      replace h := (gd_use h).2
      refine va_sld hx hb hX hbl hbA hS hi_24 dL_law_213 ?_
      refine lv_aload_n hx hb dL_law_214 rfl (lv_at hl 0 rfl) ?_
      refine lv_iload_n hx hb dL_law_215 rfl (lv_at hl 3 rfl) ?_
      refine lv_iconst (v := (2 : Int32)) hx hb dL_law_216 (by decide) ?_
      refine lv_iadd hx hb dL_law_217 ?_
      have hi_25 := (gd_use h).1
      replace h := (gd_use h).2
      refine va_sld hx hb hX hbl hbA hS hi_25 dL_law_218 ?_
      refine lv_aload_n hx hb dL_law_219 rfl (lv_at hl 0 rfl) ?_
      refine lv_iload_n hx hb dL_law_220 rfl (lv_at hl 3 rfl) ?_
      refine lv_iconst (v := (3 : Int32)) hx hb dL_law_221 (by decide) ?_
      refine lv_iadd hx hb dL_law_222 ?_
      have hi_26 := (gd_use h).1
      replace h := (gd_use h).2
      refine va_sld hx hb hX hbl hbA hS hi_26 dL_law_223 ?_
      refine lv_i2l (v := (xs ((v3 + (3 : Int32))).toNatClampNeg).toInt64) hx hb dL_law_224 rfl ?_
      refine lv_bipush (v := (32 : Int32)) hx hb dL_law_225 (by decide) ?_
      refine lv_lshl (v := (jlshl ((xs ((v3 + (3 : Int32))).toNatClampNeg).toInt64) (32 : Int32))) hx hb dL_law_227 rfl ?_
      refine lv_aload_n hx hb dL_law_228 rfl (lv_at hl 0 rfl) ?_
      refine lv_iload_n hx hb dL_law_229 rfl (lv_at hl 3 rfl) ?_
      refine lv_iconst (v := (4 : Int32)) hx hb dL_law_230 (by decide) ?_
      refine lv_iadd hx hb dL_law_231 ?_
      have hi_27 := (gd_use h).1
      replace h := (gd_use h).2
      refine va_sld hx hb hX hbl hbA hS hi_27 dL_law_232 ?_
      refine lv_i2l (v := (xs ((v3 + (4 : Int32))).toNatClampNeg).toInt64) hx hb dL_law_233 rfl ?_
      refine lv_ldc2 (v := (4294967295 : Int64)) hx hb F.2.2.2.1 (x_hts F _ k_7_142) dL_law_234 ?_
      refine lv_land hx hb dL_law_237 ?_
      refine lv_lor hx hb dL_law_238 ?_
      refine x_2Vi (As := [.int (xs ((v3 + (1 : Int32))).toNatClampNeg), .int (xs ((v3 + (2 : Int32))).toNatClampNeg), .long ((jlshl ((xs ((v3 + (3 : Int32))).toNatClampNeg).toInt64) (32 : Int32)) ||| (((xs ((v3 + (4 : Int32))).toNatClampNeg).toInt64) &&& (4294967295 : Int64)))]) F xG_ok hKc hWc hWr hS hsc hdr um_X11_put k_2_221 (fun _ h1 => m_c11_put hN hIc _ _ _ h1) rfl cd_dX11 cd_eX11 rfl rfl hl.1 rfl rfl ⟨Nat.le_of_ble_eq_true rfl, Nat.le_of_ble_eq_true rfl⟩ hcs (Nat.le_of_ble_eq_true rfl) dL_law_239 h (fun r_28 Sc28 H locs hWc hWr hS h => ?_)
      refine lv_aload_n hx hb dL_law_242 rfl (lv_at hl 2 rfl) ?_
      refine lv_aload_n hx hb dL_law_243 rfl (lv_at hl 0 rfl) ?_
      refine lv_iload_n hx hb dL_law_244 rfl (lv_at hl 3 rfl) ?_
      refine lv_iconst (v := (1 : Int32)) hx hb dL_law_245 (by decide) ?_
      refine lv_iadd hx hb dL_law_246 ?_
      have hi_29 := (gd_use h).1
      replace h := (gd_use h).2
      refine va_sld hx hb hX hbl hbA hS hi_29 dL_law_247 ?_
      refine lv_aload_n hx hb dL_law_248 rfl (lv_at hl 0 rfl) ?_
      refine lv_iload_n hx hb dL_law_249 rfl (lv_at hl 3 rfl) ?_
      refine lv_iconst (v := (2 : Int32)) hx hb dL_law_250 (by decide) ?_
      refine lv_iadd hx hb dL_law_251 ?_
      have hi_30 := (gd_use h).1
      replace h := (gd_use h).2
      refine va_sld hx hb hX hbl hbA hS hi_30 dL_law_252 ?_
      refine lv_aload_n hx hb dL_law_253 rfl (lv_at hl 0 rfl) ?_
      refine lv_iload_n hx hb dL_law_254 rfl (lv_at hl 3 rfl) ?_
      refine lv_iconst (v := (3 : Int32)) hx hb dL_law_255 (by decide) ?_
      refine lv_iadd hx hb dL_law_256 ?_
      have hi_31 := (gd_use h).1
      replace h := (gd_use h).2
      refine va_sld hx hb hX hbl hbA hS hi_31 dL_law_257 ?_
      refine lv_i2l (v := (xs ((v3 + (3 : Int32))).toNatClampNeg).toInt64) hx hb dL_law_258 rfl ?_
      refine lv_bipush (v := (32 : Int32)) hx hb dL_law_259 (by decide) ?_
      refine lv_lshl (v := (jlshl ((xs ((v3 + (3 : Int32))).toNatClampNeg).toInt64) (32 : Int32))) hx hb dL_law_261 rfl ?_
      refine lv_aload_n hx hb dL_law_262 rfl (lv_at hl 0 rfl) ?_
      refine lv_iload_n hx hb dL_law_263 rfl (lv_at hl 3 rfl) ?_
      refine lv_iconst (v := (4 : Int32)) hx hb dL_law_264 (by decide) ?_
      refine lv_iadd hx hb dL_law_265 ?_
      have hi_32 := (gd_use h).1
      replace h := (gd_use h).2
      refine va_sld hx hb hX hbl hbA hS hi_32 dL_law_266 ?_
      refine lv_i2l (v := (xs ((v3 + (4 : Int32))).toNatClampNeg).toInt64) hx hb dL_law_267 rfl ?_
      refine lv_ldc2 (v := (4294967295 : Int64)) hx hb F.2.2.2.1 (x_hts F _ k_7_142) dL_law_268 ?_
      refine lv_land hx hb dL_law_271 ?_
      refine lv_lor hx hb dL_law_272 ?_
      refine x_2Vi (As := [.int (xs ((v3 + (1 : Int32))).toNatClampNeg), .int (xs ((v3 + (2 : Int32))).toNatClampNeg), .long ((jlshl ((xs ((v3 + (3 : Int32))).toNatClampNeg).toInt64) (32 : Int32)) ||| (((xs ((v3 + (4 : Int32))).toNatClampNeg).toInt64) &&& (4294967295 : Int64)))]) F xG_ok hKr hWr hWc hS hsr hdc um_X12_put k_6_93 (fun _ h1 => m_r_put hIr _ _ _ h1) rfl rd_d0 rd_0 rfl rfl hl.1 rfl rfl ⟨Nat.le_of_ble_eq_true rfl, Nat.le_of_ble_eq_true rfl⟩ hcs (Nat.le_of_ble_eq_true rfl) dL_law_273 h (fun r_33 Sr33 H locs hWr hWc hS h => ?_)
      refine lv_icmp_eq (tgt := 489) hx hb dL_law_276 (by decide) (fun c_34 => ?_) (fun c_34 => ?_)
      · replace h := (if_pos c_34).symm.trans h
        refine lv_iinc (v := (v3 + (5 : Int32))) (lv' := [(3, .int (v3 + (5 : Int32))), (0, .ref b), (1, .ref (adc 9 0)), (2, .ref (adr 0 0))]) hx hb dL_law_489 hl (k := 3) rfl rfl (by decide) rfl (fun ls hl => ?_)
        refine lv_goto (tgt := 28) hx hb dL_law_492 (by decide) ?_
        exact ih _ _ _ _ _ _ h hWc hWr hS (lv_sub hl [1, 2, 3, 0] rfl)
      replace h := (if_neg c_34).symm.trans h
      refine lv_iconst (v := (0 : Int32)) hx hb dL_law_279 (by decide) ?_
      exact absurd (Option.some.inj h) (by decide)
    replace h := (if_neg c_3_2).symm.trans h
    have hn_3_2 := x_swN (z := 2) c_3_2 hn_3_1 rfl
    by_cases c_3_3 : ((xs (v3).toNatClampNeg) &&& (15 : Int32)) = (3 : Int32)
    · replace h := (if_pos c_3_3).symm.trans h
      refine lv_tableIn (tgt := 281) (off := 239) hx hb dL_law_42 (by rw [c_3_3]; decide) (by rw [c_3_3]; decide) (by rw [c_3_3]; decide) (by decide) ?_
      refine lv_aload_n hx hb dL_law_281 rfl (lv_at hl 1 rfl) ?_
      refine lv_aload_n hx hb dL_law_282 rfl (lv_at hl 0 rfl) ?_
      refine lv_iload_n hx hb dL_law_283 rfl (lv_at hl 3 rfl) ?_
      refine lv_iconst (v := (1 : Int32)) hx hb dL_law_284 (by decide) ?_
      refine lv_iadd hx hb dL_law_285 ?_
      have hi_35 := (gd_use h).1
      replace h := (gd_use h).2
      refine va_sld hx hb hX hbl hbA hS hi_35 dL_law_286 ?_
      refine lv_aload_n hx hb dL_law_287 rfl (lv_at hl 0 rfl) ?_
      refine lv_iload_n hx hb dL_law_288 rfl (lv_at hl 3 rfl) ?_
      refine lv_iconst (v := (2 : Int32)) hx hb dL_law_289 (by decide) ?_
      refine lv_iadd hx hb dL_law_290 ?_
      have hi_36 := (gd_use h).1
      replace h := (gd_use h).2
      refine va_sld hx hb hX hbl hbA hS hi_36 dL_law_291 ?_
      refine lv_aload_n hx hb dL_law_292 rfl (lv_at hl 0 rfl) ?_
      refine lv_iload_n hx hb dL_law_293 rfl (lv_at hl 3 rfl) ?_
      refine lv_iconst (v := (3 : Int32)) hx hb dL_law_294 (by decide) ?_
      refine lv_iadd hx hb dL_law_295 ?_
      have hi_37 := (gd_use h).1
      replace h := (gd_use h).2
      refine va_sld hx hb hX hbl hbA hS hi_37 dL_law_296 ?_
      refine lv_aload_n hx hb dL_law_297 rfl (lv_at hl 0 rfl) ?_
      refine lv_iload_n hx hb dL_law_298 rfl (lv_at hl 3 rfl) ?_
      refine lv_iconst (v := (4 : Int32)) hx hb dL_law_299 (by decide) ?_
      refine lv_iadd hx hb dL_law_300 ?_
      have hi_38 := (gd_use h).1
      replace h := (gd_use h).2
      refine va_sld hx hb hX hbl hbA hS hi_38 dL_law_301 ?_
      refine x_2Vi (As := [.int (xs ((v3 + (1 : Int32))).toNatClampNeg), .int (xs ((v3 + (2 : Int32))).toNatClampNeg), .int (xs ((v3 + (3 : Int32))).toNatClampNeg), .int (xs ((v3 + (4 : Int32))).toNatClampNeg)]) F xG_ok hKc hWc hWr hS hsc hdr um_X11_start k_2_231 (fun _ h1 => m_c11_start hN hIc _ _ _ _ h1) rfl cd_dX11 cd_eX11 rfl rfl hl.1 rfl rfl ⟨Nat.le_of_ble_eq_true rfl, Nat.le_of_ble_eq_true rfl⟩ hcs (Nat.le_of_ble_eq_true rfl) dL_law_302 h (fun r_39 Sc39 H locs hWc hWr hS h => ?_)
      refine lv_aload_n hx hb dL_law_305 rfl (lv_at hl 2 rfl) ?_
      refine lv_aload_n hx hb dL_law_306 rfl (lv_at hl 0 rfl) ?_
      refine lv_iload_n hx hb dL_law_307 rfl (lv_at hl 3 rfl) ?_
      refine lv_iconst (v := (1 : Int32)) hx hb dL_law_308 (by decide) ?_
      refine lv_iadd hx hb dL_law_309 ?_
      have hi_40 := (gd_use h).1
      replace h := (gd_use h).2
      refine va_sld hx hb hX hbl hbA hS hi_40 dL_law_310 ?_
      refine lv_aload_n hx hb dL_law_311 rfl (lv_at hl 0 rfl) ?_
      refine lv_iload_n hx hb dL_law_312 rfl (lv_at hl 3 rfl) ?_
      refine lv_iconst (v := (2 : Int32)) hx hb dL_law_313 (by decide) ?_
      refine lv_iadd hx hb dL_law_314 ?_
      have hi_41 := (gd_use h).1
      replace h := (gd_use h).2
      refine va_sld hx hb hX hbl hbA hS hi_41 dL_law_315 ?_
      refine lv_aload_n hx hb dL_law_316 rfl (lv_at hl 0 rfl) ?_
      refine lv_iload_n hx hb dL_law_317 rfl (lv_at hl 3 rfl) ?_
      refine lv_iconst (v := (3 : Int32)) hx hb dL_law_318 (by decide) ?_
      refine lv_iadd hx hb dL_law_319 ?_
      have hi_42 := (gd_use h).1
      replace h := (gd_use h).2
      refine va_sld hx hb hX hbl hbA hS hi_42 dL_law_320 ?_
      refine lv_aload_n hx hb dL_law_321 rfl (lv_at hl 0 rfl) ?_
      refine lv_iload_n hx hb dL_law_322 rfl (lv_at hl 3 rfl) ?_
      refine lv_iconst (v := (4 : Int32)) hx hb dL_law_323 (by decide) ?_
      refine lv_iadd hx hb dL_law_324 ?_
      have hi_43 := (gd_use h).1
      replace h := (gd_use h).2
      refine va_sld hx hb hX hbl hbA hS hi_43 dL_law_325 ?_
      refine x_2Vi (As := [.int (xs ((v3 + (1 : Int32))).toNatClampNeg), .int (xs ((v3 + (2 : Int32))).toNatClampNeg), .int (xs ((v3 + (3 : Int32))).toNatClampNeg), .int (xs ((v3 + (4 : Int32))).toNatClampNeg)]) F xG_ok hKr hWr hWc hS hsr hdc um_X12_start k_6_98 (fun _ h1 => m_r_start hIr _ _ _ _ h1) rfl rd_d0 rd_0 rfl rfl hl.1 rfl rfl ⟨Nat.le_of_ble_eq_true rfl, Nat.le_of_ble_eq_true rfl⟩ hcs (Nat.le_of_ble_eq_true rfl) dL_law_326 h (fun r_44 Sr44 H locs hWr hWc hS h => ?_)
      refine lv_icmp_eq (tgt := 489) hx hb dL_law_329 (by decide) (fun c_45 => ?_) (fun c_45 => ?_)
      · replace h := (if_pos c_45).symm.trans h
        refine lv_iinc (v := (v3 + (5 : Int32))) (lv' := [(3, .int (v3 + (5 : Int32))), (0, .ref b), (1, .ref (adc 9 0)), (2, .ref (adr 0 0))]) hx hb dL_law_489 hl (k := 3) rfl rfl (by decide) rfl (fun ls hl => ?_)
        refine lv_goto (tgt := 28) hx hb dL_law_492 (by decide) ?_
        exact ih _ _ _ _ _ _ h hWc hWr hS (lv_sub hl [1, 2, 3, 0] rfl)
      replace h := (if_neg c_45).symm.trans h
      refine lv_iconst (v := (0 : Int32)) hx hb dL_law_332 (by decide) ?_
      exact absurd (Option.some.inj h) (by decide)
    replace h := (if_neg c_3_3).symm.trans h
    have hn_3_3 := x_swN (z := 3) c_3_3 hn_3_2 rfl
    by_cases c_3_4 : ((xs (v3).toNatClampNeg) &&& (15 : Int32)) = (4 : Int32)
    · replace h := (if_pos c_3_4).symm.trans h
      refine lv_tableIn (tgt := 334) (off := 292) hx hb dL_law_42 (by rw [c_3_4]; decide) (by rw [c_3_4]; decide) (by rw [c_3_4]; decide) (by decide) ?_
      refine lv_aload_n hx hb dL_law_334 rfl (lv_at hl 1 rfl) ?_
      refine lv_aload_n hx hb dL_law_335 rfl (lv_at hl 0 rfl) ?_
      refine lv_iload_n hx hb dL_law_336 rfl (lv_at hl 3 rfl) ?_
      refine lv_iconst (v := (1 : Int32)) hx hb dL_law_337 (by decide) ?_
      refine lv_iadd hx hb dL_law_338 ?_
      have hi_46 := (gd_use h).1
      replace h := (gd_use h).2
      refine va_sld hx hb hX hbl hbA hS hi_46 dL_law_339 ?_
      refine x_2Vi (As := [.int (xs ((v3 + (1 : Int32))).toNatClampNeg)]) F xG_ok hKc hWc hWr hS hsc hdr um_X11_run k_3_16 (fun _ h1 => m_c11_run hN hIc _ h1) rfl cd_dX11 cd_eX11 rfl rfl hl.1 rfl rfl ⟨Nat.le_of_ble_eq_true rfl, Nat.le_of_ble_eq_true rfl⟩ hcs (Nat.le_of_ble_eq_true rfl) dL_law_340 h (fun r_47 Sc47 H locs hWc hWr hS h => ?_)
      refine lv_aload_n hx hb dL_law_343 rfl (lv_at hl 2 rfl) ?_
      refine lv_aload_n hx hb dL_law_344 rfl (lv_at hl 0 rfl) ?_
      refine lv_iload_n hx hb dL_law_345 rfl (lv_at hl 3 rfl) ?_
      refine lv_iconst (v := (1 : Int32)) hx hb dL_law_346 (by decide) ?_
      refine lv_iadd hx hb dL_law_347 ?_
      have hi_48 := (gd_use h).1
      replace h := (gd_use h).2
      refine va_sld hx hb hX hbl hbA hS hi_48 dL_law_348 ?_
      refine x_2Vi (As := [.int (xs ((v3 + (1 : Int32))).toNatClampNeg)]) F xG_ok hKr hWr hWc hS hsr hdc um_X12_run k_6_104 (fun _ h1 => m_r_run hIr _ h1) rfl rd_d0 rd_0 rfl rfl hl.1 rfl rfl ⟨Nat.le_of_ble_eq_true rfl, Nat.le_of_ble_eq_true rfl⟩ hcs (Nat.le_of_ble_eq_true rfl) dL_law_349 h (fun r_49 Sr49 H locs hWr hWc hS h => ?_)
      refine lv_icmp_eq (tgt := 489) hx hb dL_law_352 (by decide) (fun c_50 => ?_) (fun c_50 => ?_)
      · replace h := (if_pos c_50).symm.trans h
        refine lv_iinc (v := (v3 + (5 : Int32))) (lv' := [(3, .int (v3 + (5 : Int32))), (0, .ref b), (1, .ref (adc 9 0)), (2, .ref (adr 0 0))]) hx hb dL_law_489 hl (k := 3) rfl rfl (by decide) rfl (fun ls hl => ?_)
        refine lv_goto (tgt := 28) hx hb dL_law_492 (by decide) ?_
        exact ih _ _ _ _ _ _ h hWc hWr hS (lv_sub hl [1, 2, 3, 0] rfl)
      replace h := (if_neg c_50).symm.trans h
      refine lv_iconst (v := (0 : Int32)) hx hb dL_law_355 (by decide) ?_
      exact absurd (Option.some.inj h) (by decide)
    replace h := (if_neg c_3_4).symm.trans h
    have hn_3_4 := x_swN (z := 4) c_3_4 hn_3_3 rfl
    by_cases c_3_5 : ((xs (v3).toNatClampNeg) &&& (15 : Int32)) = (5 : Int32)
    · replace h := (if_pos c_3_5).symm.trans h
      refine lv_tableIn (tgt := 357) (off := 315) hx hb dL_law_42 (by rw [c_3_5]; decide) (by rw [c_3_5]; decide) (by rw [c_3_5]; decide) (by decide) ?_
      refine lv_aload_n hx hb dL_law_357 rfl (lv_at hl 1 rfl) ?_
      refine lv_aload_n hx hb dL_law_358 rfl (lv_at hl 0 rfl) ?_
      refine lv_iload_n hx hb dL_law_359 rfl (lv_at hl 3 rfl) ?_
      refine lv_iconst (v := (1 : Int32)) hx hb dL_law_360 (by decide) ?_
      refine lv_iadd hx hb dL_law_361 ?_
      have hi_51 := (gd_use h).1
      replace h := (gd_use h).2
      refine va_sld hx hb hX hbl hbA hS hi_51 dL_law_362 ?_
      refine lv_aload_n hx hb dL_law_363 rfl (lv_at hl 0 rfl) ?_
      refine lv_iload_n hx hb dL_law_364 rfl (lv_at hl 3 rfl) ?_
      refine lv_iconst (v := (2 : Int32)) hx hb dL_law_365 (by decide) ?_
      refine lv_iadd hx hb dL_law_366 ?_
      have hi_52 := (gd_use h).1
      replace h := (gd_use h).2
      refine va_sld hx hb hX hbl hbA hS hi_52 dL_law_367 ?_
      refine x_2Vi (As := [.int (xs ((v3 + (1 : Int32))).toNatClampNeg), .int (xs ((v3 + (2 : Int32))).toNatClampNeg)]) F xG_ok hKc hWc hWr hS hsc hdr um_X11_register k_5_84 (fun _ h1 => m_c11_register hN hIc _ _ h1) rfl cd_dX11 cd_eX11 rfl rfl hl.1 rfl rfl ⟨Nat.le_of_ble_eq_true rfl, Nat.le_of_ble_eq_true rfl⟩ hcs (Nat.le_of_ble_eq_true rfl) dL_law_368 h (fun r_53 Sc53 H locs hWc hWr hS h => ?_)
      refine lv_aload_n hx hb dL_law_371 rfl (lv_at hl 2 rfl) ?_
      refine lv_aload_n hx hb dL_law_372 rfl (lv_at hl 0 rfl) ?_
      refine lv_iload_n hx hb dL_law_373 rfl (lv_at hl 3 rfl) ?_
      refine lv_iconst (v := (1 : Int32)) hx hb dL_law_374 (by decide) ?_
      refine lv_iadd hx hb dL_law_375 ?_
      have hi_54 := (gd_use h).1
      replace h := (gd_use h).2
      refine va_sld hx hb hX hbl hbA hS hi_54 dL_law_376 ?_
      refine lv_aload_n hx hb dL_law_377 rfl (lv_at hl 0 rfl) ?_
      refine lv_iload_n hx hb dL_law_378 rfl (lv_at hl 3 rfl) ?_
      refine lv_iconst (v := (2 : Int32)) hx hb dL_law_379 (by decide) ?_
      refine lv_iadd hx hb dL_law_380 ?_
      have hi_55 := (gd_use h).1
      replace h := (gd_use h).2
      refine va_sld hx hb hX hbl hbA hS hi_55 dL_law_381 ?_
      refine x_2Vi (As := [.int (xs ((v3 + (1 : Int32))).toNatClampNeg), .int (xs ((v3 + (2 : Int32))).toNatClampNeg)]) F xG_ok hKr hWr hWc hS hsr hdc um_X12_register k_7_126 (fun _ h1 => m_r_register hIr _ _ h1) rfl rd_d0 rd_0 rfl rfl hl.1 rfl rfl ⟨Nat.le_of_ble_eq_true rfl, Nat.le_of_ble_eq_true rfl⟩ hcs (Nat.le_of_ble_eq_true rfl) dL_law_382 h (fun r_56 Sr56 H locs hWr hWc hS h => ?_)
      refine lv_icmp_eq (tgt := 489) hx hb dL_law_385 (by decide) (fun c_57 => ?_) (fun c_57 => ?_)
      · replace h := (if_pos c_57).symm.trans h
        refine lv_iinc (v := (v3 + (5 : Int32))) (lv' := [(3, .int (v3 + (5 : Int32))), (0, .ref b), (1, .ref (adc 9 0)), (2, .ref (adr 0 0))]) hx hb dL_law_489 hl (k := 3) rfl rfl (by decide) rfl (fun ls hl => ?_)
        refine lv_goto (tgt := 28) hx hb dL_law_492 (by decide) ?_
        exact ih _ _ _ _ _ _ h hWc hWr hS (lv_sub hl [1, 2, 3, 0] rfl)
      replace h := (if_neg c_57).symm.trans h
      refine lv_iconst (v := (0 : Int32)) hx hb dL_law_388 (by decide) ?_
      exact absurd (Option.some.inj h) (by decide)
    replace h := (if_neg c_3_5).symm.trans h
    have hn_3_5 := x_swN (z := 5) c_3_5 hn_3_4 rfl
    by_cases c_3_6 : ((xs (v3).toNatClampNeg) &&& (15 : Int32)) = (6 : Int32)
    · replace h := (if_pos c_3_6).symm.trans h
      refine lv_tableIn (tgt := 390) (off := 348) hx hb dL_law_42 (by rw [c_3_6]; decide) (by rw [c_3_6]; decide) (by rw [c_3_6]; decide) (by decide) ?_
      refine lv_aload_n hx hb dL_law_390 rfl (lv_at hl 1 rfl) ?_
      refine lv_aload_n hx hb dL_law_391 rfl (lv_at hl 0 rfl) ?_
      refine lv_iload_n hx hb dL_law_392 rfl (lv_at hl 3 rfl) ?_
      refine lv_iconst (v := (1 : Int32)) hx hb dL_law_393 (by decide) ?_
      refine lv_iadd hx hb dL_law_394 ?_
      have hi_58 := (gd_use h).1
      replace h := (gd_use h).2
      refine va_sld hx hb hX hbl hbA hS hi_58 dL_law_395 ?_
      refine lv_aload_n hx hb dL_law_396 rfl (lv_at hl 0 rfl) ?_
      refine lv_iload_n hx hb dL_law_397 rfl (lv_at hl 3 rfl) ?_
      refine lv_iconst (v := (2 : Int32)) hx hb dL_law_398 (by decide) ?_
      refine lv_iadd hx hb dL_law_399 ?_
      have hi_59 := (gd_use h).1
      replace h := (gd_use h).2
      refine va_sld hx hb hX hbl hbA hS hi_59 dL_law_400 ?_
      refine x_2Vi (As := [.int (xs ((v3 + (1 : Int32))).toNatClampNeg), .int (xs ((v3 + (2 : Int32))).toNatClampNeg)]) F xG_ok hKc hWc hWr hS hsc hdr um_X11_peek k_5_96 (fun _ h1 => m_c11_peek hN hIc _ _ h1) rfl cd_dX11 cd_eX11 rfl rfl hl.1 rfl rfl ⟨Nat.le_of_ble_eq_true rfl, Nat.le_of_ble_eq_true rfl⟩ hcs (Nat.le_of_ble_eq_true rfl) dL_law_401 h (fun r_60 Sc60 H locs hWc hWr hS h => ?_)
      refine lv_aload_n hx hb dL_law_404 rfl (lv_at hl 2 rfl) ?_
      refine lv_aload_n hx hb dL_law_405 rfl (lv_at hl 0 rfl) ?_
      refine lv_iload_n hx hb dL_law_406 rfl (lv_at hl 3 rfl) ?_
      refine lv_iconst (v := (1 : Int32)) hx hb dL_law_407 (by decide) ?_
      refine lv_iadd hx hb dL_law_408 ?_
      have hi_61 := (gd_use h).1
      replace h := (gd_use h).2
      refine va_sld hx hb hX hbl hbA hS hi_61 dL_law_409 ?_
      refine lv_aload_n hx hb dL_law_410 rfl (lv_at hl 0 rfl) ?_
      refine lv_iload_n hx hb dL_law_411 rfl (lv_at hl 3 rfl) ?_
      refine lv_iconst (v := (2 : Int32)) hx hb dL_law_412 (by decide) ?_
      refine lv_iadd hx hb dL_law_413 ?_
      have hi_62 := (gd_use h).1
      replace h := (gd_use h).2
      refine va_sld hx hb hX hbl hbA hS hi_62 dL_law_414 ?_
      refine x_2Vi (As := [.int (xs ((v3 + (1 : Int32))).toNatClampNeg), .int (xs ((v3 + (2 : Int32))).toNatClampNeg)]) F xG_ok hKr hWr hWc hS hsr hdc um_X12_peek k_7_130 (fun _ h1 => m_r_peek hIr _ _ h1) rfl rd_d0 rd_0 rfl rfl hl.1 rfl rfl ⟨Nat.le_of_ble_eq_true rfl, Nat.le_of_ble_eq_true rfl⟩ hcs (Nat.le_of_ble_eq_true rfl) dL_law_415 h (fun r_63 Sr63 H locs hWr hWc hS h => ?_)
      refine lv_icmp_eq (tgt := 489) hx hb dL_law_418 (by decide) (fun c_64 => ?_) (fun c_64 => ?_)
      · replace h := (if_pos c_64).symm.trans h
        refine lv_iinc (v := (v3 + (5 : Int32))) (lv' := [(3, .int (v3 + (5 : Int32))), (0, .ref b), (1, .ref (adc 9 0)), (2, .ref (adr 0 0))]) hx hb dL_law_489 hl (k := 3) rfl rfl (by decide) rfl (fun ls hl => ?_)
        refine lv_goto (tgt := 28) hx hb dL_law_492 (by decide) ?_
        exact ih _ _ _ _ _ _ h hWc hWr hS (lv_sub hl [1, 2, 3, 0] rfl)
      replace h := (if_neg c_64).symm.trans h
      refine lv_iconst (v := (0 : Int32)) hx hb dL_law_421 (by decide) ?_
      exact absurd (Option.some.inj h) (by decide)
    replace h := (if_neg c_3_6).symm.trans h
    have hn_3_6 := x_swN (z := 6) c_3_6 hn_3_5 rfl
    by_cases c_3_7 : ((xs (v3).toNatClampNeg) &&& (15 : Int32)) = (7 : Int32)
    · replace h := (if_pos c_3_7).symm.trans h
      refine lv_tableIn (tgt := 423) (off := 381) hx hb dL_law_42 (by rw [c_3_7]; decide) (by rw [c_3_7]; decide) (by rw [c_3_7]; decide) (by decide) ?_
      refine lv_aload_n hx hb dL_law_423 rfl (lv_at hl 1 rfl) ?_
      refine lv_aload_n hx hb dL_law_424 rfl (lv_at hl 0 rfl) ?_
      refine lv_iload_n hx hb dL_law_425 rfl (lv_at hl 3 rfl) ?_
      refine lv_iconst (v := (1 : Int32)) hx hb dL_law_426 (by decide) ?_
      refine lv_iadd hx hb dL_law_427 ?_
      have hi_65 := (gd_use h).1
      replace h := (gd_use h).2
      refine va_sld hx hb hX hbl hbA hS hi_65 dL_law_428 ?_
      refine lv_aload_n hx hb dL_law_429 rfl (lv_at hl 0 rfl) ?_
      refine lv_iload_n hx hb dL_law_430 rfl (lv_at hl 3 rfl) ?_
      refine lv_iconst (v := (2 : Int32)) hx hb dL_law_431 (by decide) ?_
      refine lv_iadd hx hb dL_law_432 ?_
      have hi_66 := (gd_use h).1
      replace h := (gd_use h).2
      refine va_sld hx hb hX hbl hbA hS hi_66 dL_law_433 ?_
      refine lv_aload_n hx hb dL_law_434 rfl (lv_at hl 0 rfl) ?_
      refine lv_iload_n hx hb dL_law_435 rfl (lv_at hl 3 rfl) ?_
      refine lv_iconst (v := (3 : Int32)) hx hb dL_law_436 (by decide) ?_
      refine lv_iadd hx hb dL_law_437 ?_
      have hi_67 := (gd_use h).1
      replace h := (gd_use h).2
      refine va_sld hx hb hX hbl hbA hS hi_67 dL_law_438 ?_
      refine x_2Vi (As := [.int (xs ((v3 + (1 : Int32))).toNatClampNeg), .int (xs ((v3 + (2 : Int32))).toNatClampNeg), .int (xs ((v3 + (3 : Int32))).toNatClampNeg)]) F xG_ok hKc hWc hWr hS hsc hdr um_X11_link k_5_101 (fun _ h1 => m_c11_link hN hIc _ _ _ h1) rfl cd_dX11 cd_eX11 rfl rfl hl.1 rfl rfl ⟨Nat.le_of_ble_eq_true rfl, Nat.le_of_ble_eq_true rfl⟩ hcs (Nat.le_of_ble_eq_true rfl) dL_law_439 h (fun r_68 Sc68 H locs hWc hWr hS h => ?_)
      refine lv_aload_n hx hb dL_law_442 rfl (lv_at hl 2 rfl) ?_
      refine lv_aload_n hx hb dL_law_443 rfl (lv_at hl 0 rfl) ?_
      refine lv_iload_n hx hb dL_law_444 rfl (lv_at hl 3 rfl) ?_
      refine lv_iconst (v := (1 : Int32)) hx hb dL_law_445 (by decide) ?_
      refine lv_iadd hx hb dL_law_446 ?_
      have hi_69 := (gd_use h).1
      replace h := (gd_use h).2
      refine va_sld hx hb hX hbl hbA hS hi_69 dL_law_447 ?_
      refine lv_aload_n hx hb dL_law_448 rfl (lv_at hl 0 rfl) ?_
      refine lv_iload_n hx hb dL_law_449 rfl (lv_at hl 3 rfl) ?_
      refine lv_iconst (v := (2 : Int32)) hx hb dL_law_450 (by decide) ?_
      refine lv_iadd hx hb dL_law_451 ?_
      have hi_70 := (gd_use h).1
      replace h := (gd_use h).2
      refine va_sld hx hb hX hbl hbA hS hi_70 dL_law_452 ?_
      refine lv_aload_n hx hb dL_law_453 rfl (lv_at hl 0 rfl) ?_
      refine lv_iload_n hx hb dL_law_454 rfl (lv_at hl 3 rfl) ?_
      refine lv_iconst (v := (3 : Int32)) hx hb dL_law_455 (by decide) ?_
      refine lv_iadd hx hb dL_law_456 ?_
      have hi_71 := (gd_use h).1
      replace h := (gd_use h).2
      refine va_sld hx hb hX hbl hbA hS hi_71 dL_law_457 ?_
      refine x_2Vi (As := [.int (xs ((v3 + (1 : Int32))).toNatClampNeg), .int (xs ((v3 + (2 : Int32))).toNatClampNeg), .int (xs ((v3 + (3 : Int32))).toNatClampNeg)]) F xG_ok hKr hWr hWc hS hsr hdc um_X12_link k_7_134 (fun _ h1 => m_r_link hIr _ _ _ h1) rfl rd_d0 rd_0 rfl rfl hl.1 rfl rfl ⟨Nat.le_of_ble_eq_true rfl, Nat.le_of_ble_eq_true rfl⟩ hcs (Nat.le_of_ble_eq_true rfl) dL_law_458 h (fun r_72 Sr72 H locs hWr hWc hS h => ?_)
      refine lv_icmp_eq (tgt := 489) hx hb dL_law_461 (by decide) (fun c_73 => ?_) (fun c_73 => ?_)
      · replace h := (if_pos c_73).symm.trans h
        refine lv_iinc (v := (v3 + (5 : Int32))) (lv' := [(3, .int (v3 + (5 : Int32))), (0, .ref b), (1, .ref (adc 9 0)), (2, .ref (adr 0 0))]) hx hb dL_law_489 hl (k := 3) rfl rfl (by decide) rfl (fun ls hl => ?_)
        refine lv_goto (tgt := 28) hx hb dL_law_492 (by decide) ?_
        exact ih _ _ _ _ _ _ h hWc hWr hS (lv_sub hl [1, 2, 3, 0] rfl)
      replace h := (if_neg c_73).symm.trans h
      refine lv_iconst (v := (0 : Int32)) hx hb dL_law_464 (by decide) ?_
      exact absurd (Option.some.inj h) (by decide)
    replace h := (if_neg c_3_7).symm.trans h
    have hn_3_7 := x_swN (z := 7) c_3_7 hn_3_6 rfl
    by_cases c_3_8 : ((xs (v3).toNatClampNeg) &&& (15 : Int32)) = (8 : Int32)
    · replace h := (if_pos c_3_8).symm.trans h
      refine lv_tableIn (tgt := 466) (off := 424) hx hb dL_law_42 (by rw [c_3_8]; decide) (by rw [c_3_8]; decide) (by rw [c_3_8]; decide) (by decide) ?_
      refine lv_aload_n hx hb dL_law_466 rfl (lv_at hl 1 rfl) ?_
      refine lv_aload_n hx hb dL_law_467 rfl (lv_at hl 0 rfl) ?_
      refine lv_iload_n hx hb dL_law_468 rfl (lv_at hl 3 rfl) ?_
      refine lv_iconst (v := (1 : Int32)) hx hb dL_law_469 (by decide) ?_
      refine lv_iadd hx hb dL_law_470 ?_
      have hi_74 := (gd_use h).1
      replace h := (gd_use h).2
      refine va_sld hx hb hX hbl hbA hS hi_74 dL_law_471 ?_
      refine x_2Vi (As := [.int (xs ((v3 + (1 : Int32))).toNatClampNeg)]) F xG_ok hKc hWc hWr hS hsc hdr um_X11_out k_5_109 (fun _ h1 => m_c11_out hN hIc _ h1) rfl cd_dX11 cd_eX11 rfl rfl hl.1 rfl rfl ⟨Nat.le_of_ble_eq_true rfl, Nat.le_of_ble_eq_true rfl⟩ hcs (Nat.le_of_ble_eq_true rfl) dL_law_472 h (fun r_75 Sc75 H locs hWc hWr hS h => ?_)
      refine lv_aload_n hx hb dL_law_475 rfl (lv_at hl 2 rfl) ?_
      refine lv_aload_n hx hb dL_law_476 rfl (lv_at hl 0 rfl) ?_
      refine lv_iload_n hx hb dL_law_477 rfl (lv_at hl 3 rfl) ?_
      refine lv_iconst (v := (1 : Int32)) hx hb dL_law_478 (by decide) ?_
      refine lv_iadd hx hb dL_law_479 ?_
      have hi_76 := (gd_use h).1
      replace h := (gd_use h).2
      refine va_sld hx hb hX hbl hbA hS hi_76 dL_law_480 ?_
      refine x_2Vi (As := [.int (xs ((v3 + (1 : Int32))).toNatClampNeg)]) F xG_ok hKr hWr hWc hS hsr hdc um_X12_out_ k_7_138 (fun _ h1 => m_r_out_ hIr _ h1) rfl rd_d0 rd_0 rfl rfl hl.1 rfl rfl ⟨Nat.le_of_ble_eq_true rfl, Nat.le_of_ble_eq_true rfl⟩ hcs (Nat.le_of_ble_eq_true rfl) dL_law_481 h (fun r_77 Sr77 H locs hWr hWc hS h => ?_)
      refine lv_icmp_eq (tgt := 489) hx hb dL_law_484 (by decide) (fun c_78 => ?_) (fun c_78 => ?_)
      · replace h := (if_pos c_78).symm.trans h
        refine lv_iinc (v := (v3 + (5 : Int32))) (lv' := [(3, .int (v3 + (5 : Int32))), (0, .ref b), (1, .ref (adc 9 0)), (2, .ref (adr 0 0))]) hx hb dL_law_489 hl (k := 3) rfl rfl (by decide) rfl (fun ls hl => ?_)
        refine lv_goto (tgt := 28) hx hb dL_law_492 (by decide) ?_
        exact ih _ _ _ _ _ _ h hWc hWr hS (lv_sub hl [1, 2, 3, 0] rfl)
      replace h := (if_neg c_78).symm.trans h
      refine lv_iconst (v := (0 : Int32)) hx hb dL_law_487 (by decide) ?_
      exact absurd (Option.some.inj h) (by decide)
    replace h := (if_neg c_3_8).symm.trans h
    have hn_3_8 := x_swN (z := 8) c_3_8 hn_3_7 rfl
    refine x_tblD (tgt := 489) hx hb dL_law_42 hn_3_8 (by decide) (by decide) (by decide) ?_
    refine lv_iinc (v := (v3 + (5 : Int32))) (lv' := [(3, .int (v3 + (5 : Int32))), (0, .ref b), (1, .ref (adc 9 0)), (2, .ref (adr 0 0))]) hx hb dL_law_489 hl (k := 3) rfl rfl (by decide) rfl (fun ls hl => ?_)
    refine lv_goto (tgt := 28) hx hb dL_law_492 (by decide) ?_
    exact ih _ _ _ _ _ _ h hWc hWr hS (lv_sub hl [1, 2, 3, 0] rfl)
