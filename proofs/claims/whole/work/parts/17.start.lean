theorem k_1_1 : Cond.initialized "TransputerNet" ∈ xG := xG_t1 (List.mem_of_getElem? (i := 1) (by decide +kernel)) (by decide +kernel)
theorem k_1_14 : Cond.initialized "TransputerNetModel" ∈ xG := xG_t1 (List.mem_of_getElem? (i := 14) (by decide +kernel)) (by decide +kernel)
theorem k_1_16 : Cond.classLink "TransputerNetLaw" 7 RX11 ∈ xG := xG_t1 (List.mem_of_getElem? (i := 16) (by decide +kernel)) (by decide +kernel)
theorem k_1_18 : Cond.methodLink "TransputerNetLaw" (15 : Nat) ({ cls := "TransputerNet", name := "<init>", desc := "(I)V" } : MethodName) ∈ xG := xG_t1 (List.mem_of_getElem? (i := 18) (by decide +kernel)) (by decide +kernel)
theorem k_5_117 : Cond.methodLink "TransputerNetLaw" (9 : Nat) ({ cls := "TransputerNetLaw", name := "cell", desc := "([II)I" } : MethodName) ∈ xG := xG_t5 (List.mem_of_getElem? (i := 117) (by decide +kernel)) (by decide +kernel)
theorem k_5_120 : Cond.classLink "TransputerNetLaw" 18 RX12 ∈ xG := xG_t5 (List.mem_of_getElem? (i := 120) (by decide +kernel)) (by decide +kernel)
theorem k_5_122 : Cond.methodLink "TransputerNetLaw" (20 : Nat) ({ cls := "TransputerNetModel", name := "<init>", desc := "(I)V" } : MethodName) ∈ xG := xG_t5 (List.mem_of_getElem? (i := 122) (by decide +kernel)) (by decide +kernel)
set_option maxRecDepth 20000 in
theorem um_L_cell : xMs xG yL_cell cL_cell 2 (some .int) 2 := ⟨(xG_t5 (List.mem_of_getElem? (i := 118) (by decide +kernel)) (by decide +kernel)), (xG_t1 (List.mem_of_getElem? (i := 0) (by decide +kernel)) (by decide +kernel)), (xG_t5 (List.mem_of_getElem? (i := 119) rfl) rfl), by decide +kernel⟩
set_option maxRecDepth 20000 in
theorem uk_X11_init : kMi xG yX11_init cX11_init 5 1 := ⟨(xG_t1 (List.mem_of_getElem? (i := 19) (by decide +kernel)) (by decide +kernel)), (xG_t1 (List.mem_of_getElem? (i := 1) (by decide +kernel)) (by decide +kernel)), (xG_t1 (List.mem_of_getElem? (i := 20) rfl) rfl), rfl, by decide +kernel⟩
set_option maxRecDepth 20000 in
theorem uk_X12_init : kMi xG yX12_init cX12_init 4 1 := ⟨(xG_t5 (List.mem_of_getElem? (i := 123) (by decide +kernel)) (by decide +kernel)), (xG_t1 (List.mem_of_getElem? (i := 14) (by decide +kernel)) (by decide +kernel)), (xG_t5 (List.mem_of_getElem? (i := 124) rfl) rfl), rfl, by decide +kernel⟩
theorem kd_X11 : ∀ j, j < 3 → defaultValue (tyX11 j) = vp_V [.null, .null, .int 0] j := by decide +kernel
/-- the script's first int, 0 without one -/
def cell0 (xs : Nat → Int32) (L : Nat) : Int32 := if Int32.ofNat L ≤ 0 then 0 else xs 0
theorem m_cell {l : Launch} {b L : Nat} {xs : Nat → Int32} (hL : L ≤ 2561) : Met l yL_cell (Cond.code yL_cell cL_cell 2 (some .int) :: xG) { frames := 0, cells := 0, slots := 0, locals := 0 } (va_Pc [.ref b, .int 0] (fun U => va_X b L xs U U.heap ∧ b < U.heap.size)) (xQs (cell0 xs L)) 0 0 (fun _ => False) := by
  refine Met.ofW (cc := cL_cell) (maxL := 2) (ret := some .int) (by decide) rfl ?_
  intro p e s m args below meth c s₁ B hml hv
  obtain ⟨rfl, hX, hbl⟩ := hv
  have hl := lv_entry ([.ref b, .int 0]) (n := 2) (Nat.le_of_ble_eq_true rfl)
  rw [lg_entry_eq]
  generalize (lg_sl ([.ref b, .int 0]) ++ List.replicate (2 - (lg_sl ([.ref b, .int 0])).length) Slot.unset).toArray = ls at hl ⊢
  have hl : lv_has ls 2 [(0, .ref b), (1, .int 0)] := hl
  have hx := B.exec
  have hb := B.bytes
  have hr := B.returns
  have hlk := B.notSynchronized
  have hS : va_S (fun _ => False) s.heap s.heap [] := va_S.rf
  refine lv_iload_n hx hb dL_cell_0 rfl (lv_at hl 1 rfl) ?_
  refine lv_aload_n hx hb dL_cell_1 rfl (lv_at hl 0 rfl) ?_
  refine va_slen hx hb hX hbl (fun h => h) hS dL_cell_2 ?_
  refine lv_icmp_ge (tgt := 12) hx hb dL_cell_3 (by decide) (fun c_1 => ?_) (fun c_1 => ?_)
  · refine lv_iconst (v := (0 : Int32)) hx hb dL_cell_12 (by decide) ?_
    exact W.iret hx hb hr (fun t ht hw => ⟨by unfold cell0; rw [if_pos c_1], ht⟩) hS.2.2 dL_cell_13 hlk
  · have hp : 0 < L := by
      rcases Nat.eq_zero_or_pos L with h | h
      · subst h; exact absurd (by decide) c_1
      · exact h
    refine lv_aload_n hx hb dL_cell_6 rfl (lv_at hl 0 rfl) ?_
    refine lv_iload_n hx hb dL_cell_7 rfl (lv_at hl 1 rfl) ?_
    refine va_sld hx hb hX hbl (fun h => h) hS (vp_in_nI (n := 0) hp (by omega)) dL_cell_8 ?_
    refine lv_goto (tgt := 13) hx hb dL_cell_9 (by decide) ?_
    exact W.iret hx hb hr (fun t ht hw => ⟨by unfold cell0; rw [if_neg c_1]; rfl, ht⟩) hS.2.2 dL_cell_13 hlk
theorem x_runG {p : Program} {l : Launch} {e : Env} {R : Room} {s : State} {m : MethodId} {args : Array Value} {below : List Frame} {meth : Method} {c : Code} {H : Heap} {locs : List Loc} {cells slots mc ms : Nat} {Q : State → Prop} {pc : Nat} {ls : Array Slot} {rest st : List Value} {H0 : Heap} {A0 free : Nat → Prop} {Qa : State → Outcome → State → Prop} {P : Heap → Prop}
    (hr : va_Run p l e R s m args below meth c H locs cells slots mc ms (F0 m pc ls st) rest Qa free) (hS : va_S A0 H0 H locs) (hsub : ∀ q, free q → A0 q) (hF : ∀ (st t : State) (v : Option Value), Qa st (.returned v) t → v = none ∧ va_F free st t ∧ P t.heap)
    (kk : ∀ (H1 : Heap) (locs1 : List Loc), P H1 → H.size ≤ H1.size → (∀ q : Nat, q < H.size → ¬ free q → H1[q]? = H[q]?) → va_S A0 H0 H1 locs1 → W p l e R s m args below meth c H1 locs1 (cells + mc) (slots + ms) Q (F0 m (pc + 3) ls rest)) : W p l e R s m args below meth c H locs cells slots Q (F0 m pc ls st) := by
  intro T hT X
  obtain ⟨v, st₀, t, T', L, h0, X', hL, e1, e2, hq, st'⟩ := hr T hT X
  obtain ⟨hv, ⟨hz, hk⟩, hp⟩ := hF _ _ _ hq
  subst hv
  rw [h0] at hz hk
  obtain ⟨t2, a1, b1⟩ := kk T'.heap (locs ++ L) (by rw [e1]; exact hp) (by rw [e1]; exact hz) (fun q h1 h2 => by rw [e1]; exact hk q h1 h2)
    ⟨Nat.le_trans hS.1 (by rw [e1]; exact hz), fun q h1 h2 => by rw [e1, hk q (Nat.lt_of_lt_of_le h1 hS.1) (fun z => h2 (hsub q z))]; exact hS.2.1 q h1 h2, fun q hq => by
      rcases List.mem_append.mp hq with h | h
      · exact hS.2.2 q h
      · exact hsub _ (hL q h)⟩ T' rfl X'
  exact ⟨t2, st' t2 a1, b1⟩
theorem kd_X12 : ∀ j, j < 62 → defaultValue (tyX12 j) = vp_V (rFT 0 0) j := by decide +kernel
theorem rFT_0 (z : Nat) : rFT z 0 = rFT 0 0 := rfl
/-- THE MATHEMATICS: for every script, class and reference are made, and the law's function answers 1 -/
def lawMath : Prop := ∀ (xs : Nat → Int32) (L N : Nat), L ≤ 2561 → 1 ≤ N → N ≤ 8 → cNum (cell0 xs L) = nI N → ∃ (S o : xS) (fu : Nat), mChain S ∧ r_init_b456 (cell0 xs L) xS0 = some o ∧ lawL xs L N fu 1 (cS0 (xI S 0 0 1) (xJ S 0 1)) o = some 1
set_option maxHeartbeats 4000000 in
set_option maxRecDepth 100000 in
/-- the law from its entry, if the mathematics holds -/
theorem whole_start_open (hmath : lawMath) {p : Program} {e : Env} {s : State} {m : MethodId} {below : List Frame} {meth : Method} {c : Code} (l : Launch) {b L : Nat} {xs : Nat → Int32} (hL : L ≤ 2561) (C0 : lw_At p s m meth c b L xs) : W p l e room_1 s m #[Value.ref b] below meth c s.heap [] 0 0 (lw_Z below #[Value.ref b] s) (entryFrame m ([Value.ref b] : List Value).toArray 4) := by
  obtain ⟨hx, hb, hr, hml, hown, hts, hX, hbl, hlocks, hgv⟩ := id C0
  have hbA : ¬ (fun q : Nat => s.heap.size ≤ q) b := Nat.not_le.mpr hbl
  have F : CallFix p m c cL_law 4 s #[Value.ref b] (Cond.initialized "TransputerNetLaw" :: xG) "TransputerNetLaw" := ⟨hx, hb, hml, hown, fun w hw => (List.mem_cons.mp hw).elim (fun h => by rw [h]; exact hts _ (xG_of k_1_0)) (fun h => hts w (xG_of h))⟩
  obtain ⟨D, cI, cJ, cL, cN, cZ, cB, hKc, hKr, hO⟩ := law_ctx hts
  obtain ⟨N, hN1, hN, hNe⟩ := cNum_nat (cell0 xs L)
  obtain ⟨S, o, fu, hm, hinit, hlaw⟩ := hmath xs L N hL hN1 hN hNe
  have hA : ∀ q : Nat, s.heap.size ≤ q → (fun q : Nat => s.heap.size ≤ q) q := fun _ h => h
  have hS : va_S (fun q : Nat => s.heap.size ≤ q) s.heap s.heap [] := va_S.rf
  have hl := lv_entry ([.ref b]) (n := 4) (Nat.le_of_ble_eq_true rfl)
  rw [lg_entry_eq]
  generalize (lg_sl ([.ref b]) ++ List.replicate (4 - (lg_sl ([.ref b])).length) Slot.unset).toArray = ls at hl ⊢
  have hl : lv_has ls 4 [(0, .ref b)] := hl
  have cellrow : ∀ {H : Heap} {locs : List Loc} {cells slots : Nat} {Q : State → Prop} {pc : Nat} {ls : Array Slot} {rest : List Value}, va_S (fun q : Nat => s.heap.size ≤ q) s.heap H locs → ls.size = 4 → (rest.map fun v => v.category).sum ≤ 8 → cells ≤ room_1.cells ∧ slots ≤ room_1.slots → decode cL_law pc = .ok (.invokestatic 9, 3) → (∀ locs1 : List Loc, va_S (fun q : Nat => s.heap.size ≤ q) s.heap H locs1 → W p l e room_1 s m #[Value.ref b] below meth c H locs1 cells slots Q (F0 m (pc + 3) ls (.int (cell0 xs L) :: rest))) → W p l e room_1 s m #[Value.ref b] below meth c H locs cells slots Q (F0 m pc ls (.int 0 :: .ref b :: rest)) := by
    intro H locs cells slots Q pc ls rest hS hsz hrest hcs hd kk
    refine x_srun (As := [.ref b, .int 0]) (va_runS (As := [.ref b, .int 0]) (rest := rest) (n := 2) F (m_cell (xs := xs) hL) ⟨callB_of 2 F.2.2.2.2 (k_gi xG_ok um_L_cell.2.2.1) rfl rfl rfl (x_hts F _ um_L_cell.2.1) (x_hts F _ k_5_117) um_L_cell.2.2.2 ⟨Nat.le_of_ble_eq_true rfl, Nat.le_of_ble_eq_true rfl⟩, x_hts F _ um_L_cell.1⟩ ⟨fun a U g mk q => ⟨q.1, q.2.1.moved (u := U) (U := U.calling g mk a) (Vm.Alike.refl U.vm), q.2.2⟩, fun U hU hw => ⟨rfl, ?_, by rw [hU]; exact Nat.lt_of_lt_of_le hbl hS.1⟩⟩ rfl rfl hsz rfl (lv_room hrest) hd hcs) hS kk
    rw [hU]
    exact (hX.kept (hS.2.1 b hbl hbA)).moved hw.alike
  refine k_new0 F hKc xc_X11 k_1_16 k_1_17 k_1_1 (fs := [.null, .null, .int 0]) kd_X11 (Nat.le_of_ble_eq_true rfl) (Nat.le_of_ble_eq_true rfl) hS dL_law_0 (fun H1 z1 o1 j1 hS1 => ?_)
  refine lv_dup hx hb dL_law_3 rfl ?_
  refine lv_aload_n hx hb dL_law_4 rfl (lv_at hl 0 rfl) ?_
  refine lv_iconst (v := (0 : Int32)) hx hb dL_law_5 (by decide) ?_
  refine cellrow hS1 hl.1 (Nat.le_of_ble_eq_true rfl) ⟨Nat.le_of_ble_eq_true rfl, Nat.le_of_ble_eq_true rfl⟩ dL_law_6 (fun locs1 hS1 => ?_)
  have hsub1 : ∀ q, va_A [(s.heap.size, .inr (11, [.null, .null, .int 0]))] H1.size q → s.heap.size ≤ q := fun q h => h.elim (fun ⟨k, e', h2⟩ => by cases k with | zero => (simp at h2; omega) | succ k => simp at h2) (fun h2 => by omega)
  refine x_runG (P := fun H => ∃ ad : Nat → Nat → Nat, xW D vwCl (cDom N) ad (cDe ad N cI cJ cL cN) (cS0 (xI S 0 0 1) (xJ S 0 1)) H ∧ xInj (cDom N) ad ∧ ad 9 0 = s.heap.size ∧ ∀ n j, cDom N n j → ad n j = s.heap.size ∨ H1.size ≤ ad n j) (va_runI (As := [.int (cell0 xs L)]) (rest := [.ref s.heap.size]) (n := 1) F (k_X11_init l D cI cJ cL cN hm s.heap.size (cell0 xs L) hN1 hN hNe H1.size (by omega)) ⟨callB_of 1 F.2.2.2.2 (k_gi xG_ok uk_X11_init.2.2.1) rfl rfl rfl (x_hts F _ uk_X11_init.2.1) (x_hts F _ k_1_18) uk_X11_init.2.2.2.2 ⟨Nat.le_of_ble_eq_true rfl, Nat.le_of_ble_eq_true rfl⟩, uk_X11_init.2.2.2.1, x_hts F _ uk_X11_init.1⟩ ⟨kPo_blind, fun U hU hw => ⟨rfl, hO.moved hw.alike, xK.warm hw hKc, by rw [hU], fun k q hk => by cases k with | zero => (cases hk; rw [hU]; exact j1) | succ k => simp at hk, ⟨fun i j p q hp hq _ => by cases i with | zero => (cases j with | zero => rfl | succ j => simp at hq) | succ i => simp at hp, fun k q hk => trivial⟩⟩⟩ rfl rfl hl.1 rfl (lv_room (Nat.le_of_ble_eq_true rfl)) dL_law_9 ⟨Nat.le_of_ble_eq_true rfl, Nat.le_of_ble_eq_true rfl⟩) hS1 hsub1 (fun st t v hq => by
    obtain ⟨⟨ad, h1, h2⟩, h3⟩ := hq
    cases h1
    exact ⟨rfl, h3, ad, h2⟩) (fun H2 locs2 hp2 z2 o2 hS2 => ?_)
  obtain ⟨adc, hWc, hIc, had, hge⟩ := hp2
  have hcge : ∀ n j, cDom N n j → s.heap.size ≤ adc n j := fun n j h => (hge n j h).elim (fun h => by omega) (fun h => by omega)
  refine lv_astore_n (lv' := [(1, .ref s.heap.size), (0, .ref b)]) hx hb dL_law_12 rfl hl (by decide) rfl (fun ls hl => ?_)
  refine k_new0 F hKr xc_X12 k_5_120 k_5_121 k_1_14 (fs := rFT 0 0) kd_X12 (Nat.le_of_ble_eq_true rfl) (Nat.le_of_ble_eq_true rfl) hS2 dL_law_13 (fun H3 z3 o3 j3 hS3 => ?_)
  refine lv_dup hx hb dL_law_16 rfl ?_
  refine lv_aload_n hx hb dL_law_17 rfl (lv_at hl 1 rfl) ?_
  refine lv_iconst (v := (0 : Int32)) hx hb dL_law_18 (by decide) ?_
  refine cellrow hS3 hl.1 (Nat.le_of_ble_eq_true rfl) ⟨Nat.le_of_ble_eq_true rfl, Nat.le_of_ble_eq_true rfl⟩ dL_law_19 (fun locs3 hS3 => ?_)
  have hq1 : s.heap.size ≤ H2.size := hS2.1
  have hrA : ∀ q, xA rDom (rAd H2.size H3.size) q → q = H2.size ∨ H3.size ≤ q := by
    rintro q ⟨n, j, h, rfl⟩
    unfold rAd
    split
    · exact Or.inl rfl
    · exact Or.inr (Nat.le_add_right _ _)
  refine x_runG (P := fun H => xW D vwCl rDom (rAd H2.size H3.size) (rDe (rAd H2.size H3.size) cI cZ cB) o H) (va_runI (As := [.int (cell0 xs L)]) (rest := [.ref H2.size]) (n := 1) F (k_X12_init l D cI cZ cB H2.size (cell0 xs L) H3.size (by omega) hinit) ⟨callB_of 1 F.2.2.2.2 (k_gi xG_ok uk_X12_init.2.2.1) rfl rfl rfl (x_hts F _ uk_X12_init.2.1) (x_hts F _ k_5_122) uk_X12_init.2.2.2.2 ⟨Nat.le_of_ble_eq_true rfl, Nat.le_of_ble_eq_true rfl⟩, uk_X12_init.2.2.2.1, x_hts F _ uk_X12_init.1⟩ ⟨kPc_blind, fun U hU hw => ⟨rfl, xK.warm hw hKr, by rw [hU], fun k q hk => by cases k with | zero => (cases hk; rw [hU]; exact j3) | succ k => simp at hk, ⟨fun i j p q hp hq _ => by cases i with | zero => (cases j with | zero => rfl | succ j => simp at hq) | succ i => simp at hp, fun k q hk => trivial⟩⟩⟩ rfl rfl hl.1 rfl (lv_room (Nat.le_of_ble_eq_true rfl)) dL_law_22 ⟨Nat.le_of_ble_eq_true rfl, Nat.le_of_ble_eq_true rfl⟩) hS3 (fun q h => (hrA q h).elim (fun h => by omega) (fun h => by omega)) (fun st t v hq => by
    obtain ⟨h1, h2, h3⟩ := hq
    cases h1
    exact ⟨rfl, h3, h2⟩) (fun H4 locs4 hWr z4 o4 hS4 => ?_)
  have hclt : ∀ n j, cDom N n j → adc n j < H2.size := fun n j h => (hWc n j h).lt
  have hWc4 : xW D vwCl (cDom N) adc (cDe adc N cI cJ cL cN) (cS0 (xI S 0 0 1) (xJ S 0 1)) H4 := fun n j h => ((hWc n j h).kept (o3 _ (hclt n j h))).kept (o4 _ (by have := hclt n j h; show adc n j < H3.size; omega) (fun h2 => by
    have := hclt n j h
    rcases hrA _ h2 with h3 | h3
    · have h3 : adc n j = H2.size := h3
      omega
    · have h3 : H3.size ≤ adc n j := h3
      omega))
  refine lv_astore_n (lv' := [(2, .ref H2.size), (1, .ref s.heap.size), (0, .ref b)]) hx hb dL_law_25 rfl hl (by decide) rfl (fun ls hl => ?_)
  refine lv_iconst (v := (1 : Int32)) hx hb dL_law_26 (by decide) ?_
  refine lv_istore_n (lv' := [(3, .int (1 : Int32)), (2, .ref H2.size), (1, .ref s.heap.size), (0, .ref b)]) hx hb dL_law_27 rfl hl (by decide) rfl (fun ls hl => ?_)
  have hl2 : lv_has ls 4 [(0, .ref b), (1, .ref (adc 9 0)), (2, .ref (rAd H2.size H3.size 0 0)), (3, .int 1)] := by
    rw [had]
    exact lv_sub hl [3, 2, 1, 0] rfl
  exact law_loop C0 hKc hKr hN hIc (r_inj (by omega)) (fun q ⟨n, j, h1, h2⟩ => by rw [h2]; exact hcge n j h1) (fun q h => (hrA q h).elim (fun h => by omega) (fun h => by omega)) (fun n j h1 ⟨a, b', h2, h3⟩ => by
    have h4 := hclt a b' h2
    rcases hrA _ ⟨n, j, h1, rfl⟩ with h5 | h5 <;> omega) (fun n j h1 h2 => by
    have h4 := hclt n j h1
    rcases hrA _ h2 with h5 | h5 <;> omega) ⟨Nat.le_of_ble_eq_true rfl, Nat.le_of_ble_eq_true rfl⟩ fu 1 _ _ H4 _ ls hlaw hWc4 hWr hS4 hl2
