theorem k_1_2 : Cond.initialized "java/lang/Math" ∈ xG := xG_t1 (List.mem_of_getElem? (i := 2) (by decide +kernel)) (by decide +kernel)
theorem k_1_13 : Cond.initialized "TransputerNet$Host" ∈ xG := xG_t1 (List.mem_of_getElem? (i := 13) (by decide +kernel)) (by decide +kernel)
theorem k_1_21 : Cond.methodLink "TransputerNet" 1 Lib.objectInit ∈ xG := xG_t1 (List.mem_of_getElem? (i := 21) (by decide +kernel)) (by decide +kernel)
theorem k_1_24 : Cond.methodLink "TransputerNet" 9 Lib.Math.min.name ∈ xG := xG_t1 (List.mem_of_getElem? (i := 24) (by decide +kernel)) (by decide +kernel)
theorem k_1_27 : Cond.methodLink "TransputerNet" 15 Lib.Math.max.name ∈ xG := xG_t1 (List.mem_of_getElem? (i := 27) (by decide +kernel)) (by decide +kernel)
theorem k_2_138 : Cond.classLink "TransputerNet" (28 : Nat) "TransputerNet$Host" ∈ xG := xG_t2 (List.mem_of_getElem? (i := 138) (by decide +kernel)) (by decide +kernel)
theorem k_2_139 : Cond.instantiable "TransputerNet$Host" (6 : Nat) ∈ xG := xG_t2 (List.mem_of_getElem? (i := 139) (by decide +kernel)) (by decide +kernel)
theorem km_6 : ("TransputerNet", 30, yX3_init, "TransputerNet") ∈ cNm := List.mem_of_getElem? (i := 6) rfl
theorem kd_X3 : ∀ j, j < 6 → defaultValue (tyX3 j) = vp_V [.null, .null, .int 0, .int 0, .null, .int 0] j := by decide +kernel
set_option maxRecDepth 20000 in
theorem uk_X3_init : kMi xG yX3_init cX3_init 1 0 := ⟨(xG_t2 (List.mem_of_getElem? (i := 141) (by decide +kernel)) (by decide +kernel)), (xG_t1 (List.mem_of_getElem? (i := 13) (by decide +kernel)) (by decide +kernel)), (xG_t2 (List.mem_of_getElem? (i := 142) rfl) rfl), rfl, by decide +kernel⟩
theorem kM_min : Cond.static Lib.Math.min.name ∈ xG := xG_t1 (List.mem_of_getElem? (i := 25) (by decide +kernel)) (by decide +kernel)
theorem kC_min : Cond.code Lib.Math.min.name Lib.Math.min.code 2 (some .int) ∈ xG := xG_t1 (List.mem_of_getElem? (i := 26) (by decide +kernel)) (by decide +kernel)
theorem kM_max : Cond.static Lib.Math.max.name ∈ xG := xG_t1 (List.mem_of_getElem? (i := 28) (by decide +kernel)) (by decide +kernel)
theorem kC_max : Cond.code Lib.Math.max.name Lib.Math.max.code 2 (some .int) ∈ xG := xG_t1 (List.mem_of_getElem? (i := 29) (by decide +kernel)) (by decide +kernel)
abbrev hU : Type := Nat × Nat × Nat × Nat × Nat
def hPost (cJ : ClassId) (q : Nat) (u : hU) : va_W := match u with | (q1, q3, q4_0, q5, q6_0) => [(q, .inr (3, [.ref q1, .ref q3, .int 0, .int 0, .ref q5, .int 0])), (q1, .inr (2, [.null, .int (-1 : Int32), .int 0, .int 0, .int 0, .int 0, .int 0, .int 0, .int 0, .int 0])), (q3, .inr (5, [.ref q4_0, .int 0])), (q4_0, .inl (cJ, 512, .inr (.inl (fun _ => 0)))), (q5, .inr (5, [.ref q6_0, .int 0])), (q6_0, .inl (cJ, 512, .inr (.inl (fun _ => 0))))]
def hAd (q : Nat) (u : hU) (j : Nat) : Nat := match u with | (q1, q3, q4_0, q5, q6_0) => match j with | 0 => q | 2 => q3 | 3 => q4_0 | 4 => q5 | 5 => q6_0 | _ => q1
abbrev hOk (j : Nat) : Prop := j = 0 ∨ j = 2 ∨ j = 3 ∨ j = 4 ∨ j = 5 ∨ j = 16
def hPos (j : Nat) : Nat := match j with | 0 => 0 | 2 => 2 | 3 => 3 | 4 => 4 | 5 => 5 | _ => 1
theorem hAt (cJ : ClassId) (q : Nat) (u : hU) (j : Nat) (h : hOk j) : ∃ e : va_E, (hPost cJ q u)[hPos j]? = some (hAd q u j, e) := by
  obtain ⟨q1, q3, q4_0, q5, q6_0⟩ := u
  rcases h with rfl | rfl | rfl | rfl | rfl | rfl <;> exact ⟨_, rfl⟩
theorem hPos_inj {j k : Nat} (hj : hOk j) (hk : hOk k) (h : hPos j = hPos k) : j = k := by
  rcases hj with rfl | rfl | rfl | rfl | rfl | rfl <;> rcases hk with rfl | rfl | rfl | rfl | rfl | rfl <;> first | rfl | exact absurd h (by decide)
def nAd (ad : Nat → Nat → Nat) (h0 arr q : Nat) (u : hU) : Nat → Nat → Nat := fun n j => if n = 9 then (if j = 0 then h0 else arr) else if n = 8 then hAd q u j else ad n j
/-- the class's world, when it is made -/
theorem n_world {D : va_G} {cI cJ cL cN : ClassId} {b : Int32} {f : Nat → Int64} {N h0 arr z q z2 : Nat} {ad : Nat → Nat → Nat} {u : hU} {H : Heap} {fs3 : List Value} (hN : N ≤ 8)
    (g0 : va_at D vwCl (h0, .inr (11, [.ref arr, .ref q, .int 0])) H) (g1 : va_at D vwCl (arr, .inl (cN, N, .inr (.inr (.inr (.inr (fun i => if i < N then some (ad i 0) else none)))))) H) (g2 : ∀ n, n < N → ∀ j, j < 22 → va_at D vwCl (ad n j, cDn ad cI cJ cL (cI0 b j) (cJ0 f j) none n j) H) (g3 : va_P D vwCl (hPost cJ q u) H) (g4 : va_D (va_A [(q, .inr (3, fs3))] z2) (hPost cJ q u))
    (i4 : ∀ n j n' j', n < N → j < 22 → n' < N → j' < 22 → ad n j = ad n' j' → n = n' ∧ j = j') (i5 : ∀ n j, n < N → j < 22 → arr < ad n j) (i6 : h0 < z) (i7 : z ≤ arr) (i8 : arr < q) (i9 : ∀ n j, n < N → j < 22 → ad n j < q) (i10 : q ≤ z2) :
    xW D vwCl (cDom N) (nAd ad h0 arr q u) (cDe (nAd ad h0 arr q u) N cI cJ cL cN) (cS0 b f) H ∧ xInj (cDom N) (nAd ad h0 arr q u) ∧ nAd ad h0 arr q u 9 0 = h0 ∧ ∀ n j, cDom N n j → nAd ad h0 arr q u n j = h0 ∨ z ≤ nAd ad h0 arr q u n j := by
  have hq : ∀ j, hOk j → q ≤ hAd q u j := by
    intro j hj
    obtain ⟨e, h1⟩ := hAt cJ q u j hj
    rcases g4.2 _ _ h1 with ⟨k, e', h2⟩ | h2
    · cases k with
      | zero => simp at h2; exact Nat.le_of_eq h2.1
      | succ k => simp at h2
    · exact Nat.le_trans i10 h2
  have hinj : ∀ j k, hOk j → hOk k → hAd q u j = hAd q u k → j = k := by
    intro j k hj hk h
    obtain ⟨e, h1⟩ := hAt cJ q u j hj
    obtain ⟨e', h2⟩ := hAt cJ q u k hk
    exact hPos_inj hj hk (g4.1 _ _ _ _ h1 h2 h)
  have en : ∀ n j, n < N → nAd ad h0 arr q u n j = ad n j := fun n j h => by unfold nAd; rw [if_neg (by omega), if_neg (by omega)]
  refine ⟨?_, ?_, rfl, ?_⟩
  · intro n j hd
    rcases hd with ⟨h1, h2⟩ | ⟨rfl, h2⟩ | ⟨rfl, h2⟩
    · rw [en n j h1, cS0_I (by omega), cS0_J (by omega), cS0_E]
      have e1 : cDe (nAd ad h0 arr q u) N cI cJ cL cN (cI0 b j) (cJ0 f j) none n j = cDn ad cI cJ cL (cI0 b j) (cJ0 f j) none n j := by
        unfold cDe
        rw [if_neg (by omega), if_neg (by omega)]
        exact cDn_congr (fun k => en n k h1) _ _ _
      rw [e1]
      exact g2 n h1 j h2
    · obtain ⟨q1, q3, q4_0, q5, q6_0⟩ := u
      rcases h2 with rfl | rfl | rfl | rfl | rfl | rfl
      · exact g3 0 _ rfl
      · exact g3 2 _ rfl
      · exact g3 3 _ rfl
      · exact g3 4 _ rfl
      · exact g3 5 _ rfl
      · exact g3 1 _ rfl
    · rcases (show j = 0 ∨ j = 1 by omega) with rfl | rfl
      · exact g0
      · exact vq_at (fun k hk => by show (if k < N then some (ad k 0) else none) = some (nAd ad h0 arr q u k 0); rw [if_pos hk, en k 0 hk]) g1
  · intro a b' n j h1 h2 he
    rcases h1 with ⟨h1, h1'⟩ | ⟨rfl, h1'⟩ | ⟨rfl, h1'⟩ <;> rcases h2 with ⟨h2, h2'⟩ | ⟨rfl, h2'⟩ | ⟨rfl, h2'⟩
    · rw [en _ _ h1, en _ _ h2] at he
      exact i4 _ _ _ _ h1 h1' h2 h2' he
    · rw [en _ _ h1] at he
      have := i9 _ _ h1 h1'
      have := hq j h2'
      have e2 : nAd ad h0 arr q u 8 j = hAd q u j := rfl
      omega
    · rw [en _ _ h1] at he
      have := i5 _ _ h1 h1'
      have e2 : nAd ad h0 arr q u 9 j = if j = 0 then h0 else arr := rfl
      rw [e2] at he
      split at he <;> omega
    · rw [en _ _ h2] at he
      have := i9 _ _ h2 h2'
      have := hq b' h1'
      have e2 : nAd ad h0 arr q u 8 b' = hAd q u b' := rfl
      omega
    · exact ⟨rfl, hinj _ _ h1' h2' he⟩
    · have := hq b' h1'
      have e1 : nAd ad h0 arr q u 8 b' = hAd q u b' := rfl
      have e2 : nAd ad h0 arr q u 9 j = if j = 0 then h0 else arr := rfl
      rw [e1, e2] at he
      split at he <;> omega
    · rw [en _ _ h2] at he
      have := i5 _ _ h2 h2'
      have e2 : nAd ad h0 arr q u 9 b' = if b' = 0 then h0 else arr := rfl
      rw [e2] at he
      split at he <;> omega
    · have := hq j h2'
      have e1 : nAd ad h0 arr q u 8 j = hAd q u j := rfl
      have e2 : nAd ad h0 arr q u 9 b' = if b' = 0 then h0 else arr := rfl
      rw [e1, e2] at he
      split at he <;> omega
    · refine ⟨rfl, ?_⟩
      have e1 : nAd ad h0 arr q u 9 b' = if b' = 0 then h0 else arr := rfl
      have e2 : nAd ad h0 arr q u 9 j = if j = 0 then h0 else arr := rfl
      rw [e1, e2] at he
      split at he <;> split at he <;> omega
  · intro n j hd
    rcases hd with ⟨h1, h2⟩ | ⟨rfl, h2⟩ | ⟨rfl, h2⟩
    · rw [en _ _ h1]
      have := i5 _ _ h1 h2
      omega
    · have := hq j h2
      have e1 : nAd ad h0 arr q u 8 j = hAd q u j := rfl
      omega
    · have e2 : nAd ad h0 arr q u 9 j = if j = 0 then h0 else arr := rfl
      rw [e2]
      split <;> omega
def kQn (D : va_G) (cI cJ cL cN : ClassId) (b : Int32) (f : Nat → Int64) (N h0 sz : Nat) (A : Nat → Prop) : Array Value → State → Outcome → State → Prop := fun _ st oc t => (∃ ad : Nat → Nat → Nat, oc = .returned none ∧ xW D vwCl (cDom N) ad (cDe ad N cI cJ cL cN) (cS0 b f) t.heap ∧ xInj (cDom N) ad ∧ ad 9 0 = h0 ∧ ∀ n j, cDom N n j → ad n j = h0 ∨ sz ≤ ad n j) ∧ va_F A st t
set_option maxHeartbeats 4000000 in
set_option maxRecDepth 100000 in
/-- TransputerNet(int) -/
theorem k_X11_init (l : Launch) (D : va_G) (cI cJ cL cN : ClassId) {S : xS} (hm : mChain S) (h0 : Nat) (a1 : Int32) {N : Nat} (hN1 : 1 ≤ N) (hN : N ≤ 8) (ha : cNum a1 = nI N) (sz : Nat) (hsz0 : h0 < sz) : Met l yX11_init (Cond.code yX11_init cX11_init 5 none :: xG) { frames := 4, cells := 183, slots := 7348, locals := 83 } (kPo D vwCl (cTy cI cJ cL cN) cNf cNm [.ref h0, .int a1] sz [(h0, .inr (11, [.null, .null, .int 0]))]) (kQn D cI cJ cL cN (xI S 0 0 1) (xJ S 0 1) N h0 sz (va_A [(h0, .inr (11, [.null, .null, .int 0]))] sz)) 183 7348 (va_A [(h0, .inr (11, [.null, .null, .int 0]))] sz) := by
  refine Met.ofW (cc := cX11_init) (maxL := 5) (ret := none) (by decide) rfl ?_
  intro p e s m args below meth c s₁ B hml hv
  obtain ⟨rfl, hO, hK, hsz, hP, hD⟩ := hv
  have hl := lv_entry ([.ref h0, .int a1]) (n := 5) (Nat.le_of_ble_eq_true rfl)
  rw [lg_entry_eq]
  subst hsz
  have F : CallFix p m c cX11_init 5 s ([.ref h0, .int a1] : List Value).toArray (Cond.code yX11_init cX11_init 5 none :: xG) "TransputerNet" := ⟨B.exec, B.bytes, hml, findClass_of_methodNamed B.named, atoms_spec (ws := Cond.code yX11_init cX11_init 5 none :: xG) B.pre⟩
  have hr := B.returns
  have hlk := B.notSynchronized
  have hnm : meth.name = "<init>" := (name_of_methodNamed B.named B.method).1
  generalize (lg_sl ([.ref h0, .int a1]) ++ List.replicate (5 - (lg_sl ([.ref h0, .int a1])).length) Slot.unset).toArray = ls at hl ⊢
  have hl : lv_has ls 5 [(0, .ref h0), (1, .int a1)] := hl
  have hx := F.1
  have hb := F.2.1
  have hat0 : va_at D vwCl (h0, .inr (11, [.null, .null, .int 0])) s.heap := hP 0 _ rfl
  generalize hAe : va_A [(h0, .inr (11, [.null, .null, .int 0]))] s.heap.size = A
  have hA : ∀ q, s.heap.size ≤ q → A q := fun q h => by rw [← hAe]; exact Or.inr h
  have hA0 : A h0 := by rw [← hAe]; exact Or.inl ⟨0, _, rfl⟩
  have hS : va_S A s.heap s.heap [] := va_S.rf
  refine lv_aload_n hx hb dX11_init_0 rfl (lv_at hl 0 rfl) ?_
  refine k_obj F k_1_21 k_objM k_objC hl.1 dX11_init_1 (Nat.le_of_ble_eq_true rfl) (Nat.le_of_ble_eq_true rfl) (Nat.le_of_ble_eq_true rfl) ?_
  refine lv_iconst (v := (1 : Int32)) hx hb dX11_init_4 (by decide) ?_
  refine lv_bipush (v := (8 : Int32)) hx hb dX11_init_5 (by decide) ?_
  refine lv_iload_n hx hb dX11_init_7 rfl (lv_at hl 1 rfl) ?_
  refine va_mmin hx hb (hml.trans hl.1.symm) F.2.2.2.1 (x_hts F _ k_1_24) (x_hts F _ kM_min) (x_hts F _ k_1_2) (x_hts F _ kC_min) (Nat.le_of_ble_eq_true rfl) (Nat.le_of_ble_eq_true rfl) (Nat.zero_le _) (Nat.zero_le _) dX11_init_8 ?_
  refine va_mmax hx hb (hml.trans hl.1.symm) F.2.2.2.1 (x_hts F _ k_1_27) (x_hts F _ kM_max) (x_hts F _ k_1_2) (x_hts F _ kC_max) (Nat.le_of_ble_eq_true rfl) (Nat.le_of_ble_eq_true rfl) (Nat.zero_le _) (Nat.zero_le _) dX11_init_11 ?_
  rw [show (if (1 : Int32) < (if a1 < 8 then a1 else 8) then (if a1 < 8 then a1 else 8) else 1) = nI N from ha]
  refine lv_istore_n (lv' := [(2, .int (nI N)), (0, .ref h0), (1, .int a1)]) hx hb dX11_init_14 rfl hl (by decide) rfl (fun ls hl => ?_)
  refine lv_iload_n hx hb dX11_init_15 rfl (lv_at hl 0 rfl) ?_
  refine va_newq hx hb F.2.2.2.1 (x_hts F _ k_1_30) hO.2 hK.1 (ws := [(h0, .inr (11, [.null, .null, .int 0]))]) hP (A := A) (by rw [← hAe]; exact hD.self) hS hA (N' := N) (nI_pos (by omega)) (nI_clamp (by omega)) (by omega) (Nat.le_of_ble_eq_true rfl) (by show 0 + N ≤ 7348; omega) dX11_init_16 (fun arr cB H hK1 hP1 hD1 hS1 => ?_)
  have hcB : cB = cN := by
    obtain ⟨_, _, -, -, -, e1⟩ := (hK1.2 4 (cB, .object "TransputerNet$Node") rfl).2
    obtain ⟨_, _, -, -, -, e2⟩ := (hK.1.2 3 (cN, .object "TransputerNet$Node") rfl).2
    exact Option.some.inj (e1.symm.trans e2)
  subst hcB
  have harr : s.heap.size ≤ arr := by
    have h1 := hD1.2 1 _ rfl
    rw [← hAe] at h1
    rcases h1 with ⟨k, e', h2⟩ | h2
    · cases k with
      | zero =>
        simp at h2
        exact absurd (hD1.1 0 1 _ _ rfl rfl h2.1) (by decide)
      | succ k => simp at h2
    · exact h2
  refine lv_astore_n (lv' := [(3, .ref arr), (2, .int (nI N)), (0, .ref h0), (1, .int a1)]) hx hb dX11_init_19 rfl hl (by decide) rfl (fun ls hl => ?_)
  refine lv_iconst (v := (0 : Int32)) hx hb dX11_init_20 (by decide) ?_
  refine lv_istore (lv' := [(4, .int (0 : Int32)), (3, .ref arr), (2, .int (nI N)), (0, .ref h0), (1, .int a1)]) hx hb dX11_init_21 hl (by decide) rfl (fun ls hl => ?_)
  refine W.widen (k := 1 + 22 * 0) (n := N + 787 * 0) (by omega) (by omega) ?_
  refine n_loop (a1 := a1) hm F hO hK hA ⟨Nat.le_of_ble_eq_true rfl, Nat.le_of_ble_eq_true rfl⟩ ⟨Nat.le_of_ble_eq_true rfl, Nat.le_of_ble_eq_true rfl⟩ hN ?_ N 0 (fun _ _ => 0) H _ ls (by omega) ⟨hP1 0 _ rfl, vq_at (fun j hj => by simp) (hP1 1 _ rfl), fun n h => absurd h (by omega), fun n j n' j' h => absurd h (by omega), fun n j h => absurd h (by omega), hsz0, harr⟩ hS1 (lv_sub hl [0, 2, 3, 1] rfl)
  intro ad H locs ls hi hS hl
  obtain ⟨i1, i2, i3, i4, i5, i6, i7⟩ := hi
  refine lv_aload_n hx hb dX11_init_42 rfl (lv_at hl 0 rfl) ?_
  refine lv_aload_n hx hb dX11_init_43 rfl (lv_at hl 1 rfl) ?_
  refine k_putF0 F hK xc_X11 i1 0 (by decide) k_2_168 rfl hnm rfl rfl rfl (Nat.le_of_ble_eq_true rfl) hS hA0 dX11_init_44 (fun H1 locs1 j1 z1 o1 hS1 => ?_)
  refine lv_aload_n hx hb dX11_init_47 rfl (lv_at hl 0 rfl) ?_
  refine k_new0 F hK xc_X3 k_2_138 k_2_139 k_1_13 kd_X3 (Nat.le_of_ble_eq_true rfl) (Nat.le_of_ble_eq_true rfl) hS1 dX11_init_48 (fun H2 z2 o2 j2 hS2 => ?_)
  refine lv_dup hx hb dX11_init_51 rfl ?_
  have hAq : A H1.size := hA _ hS1.1
  refine k_run0 (post := hPost cJ H1.size) (wc := [(H1.size, .inr (3, [.null, .null, .int 0, .int 0, .null, .int 0]))]) (va_runIN (As := []) (rest := [.ref H1.size, .ref h0]) (n := 0) (host := "TransputerNet") F (k_X3_init l D cI cJ cL cB H1.size H2.size) ⟨va_cnB 0 F.2.2.2.2 (k_gi xG_ok uk_X3_init.2.2.1) rfl rfl rfl (hK.2.2 _ km_6) (x_hts F _ uk_X3_init.2.1) uk_X3_init.2.2.2.2 ⟨Nat.le_of_ble_eq_true rfl, Nat.le_of_ble_eq_true rfl⟩, uk_X3_init.2.2.2.1, x_hts F _ uk_X3_init.1⟩ ⟨kPc_blind, fun U hU hw => ⟨rfl, xK.warm hw hK, by rw [hU], fun k q hk => by cases k with | zero => cases hk; rw [hU]; exact j2 | succ k => simp at hk, ⟨fun i j p q hp hq _ => by cases i with | zero => (cases j with | zero => rfl | succ j => simp at hq) | succ i => simp at hp, fun k q hk => trivial⟩⟩⟩ rfl rfl hl.1 rfl (lv_room (Nat.le_of_ble_eq_true rfl)) dX11_init_52 ⟨Nat.le_of_ble_eq_true rfl, Nat.le_of_ble_eq_true rfl⟩) hS2 (fun q h => h.elim (fun ⟨k, e', h2⟩ => by cases k with | zero => (simp at h2; rw [← h2.1]; exact hAq) | succ k => simp at h2) (fun h2 => hA q (Nat.le_trans hS2.1 h2))) (fun u H3 locs3 hP3 hD3 z3 o3 hS3 => ?_)
  have keep : ∀ q, q < H1.size → H3[q]? = H1[q]? := fun q h => by
    rw [o3 q (by omega) (fun h3 => h3.elim (fun ⟨k, e', h2⟩ => by cases k with | zero => (simp at h2; omega) | succ k => simp at h2) (fun h2 => by omega)), o2 q h]
  refine k_putF0 F hK xc_X11 (j1.kept (keep _ j1.lt)) 1 (by decide) k_2_169 rfl hnm rfl rfl rfl (Nat.le_of_ble_eq_true rfl) hS3 hA0 dX11_init_55 (fun H4 locs4 j4 z4 o4 hS4 => ?_)
  have lt1 : ∀ {x : Nat × va_E}, va_at D vwCl x H → x.1 < H1.size := fun h => by rw [z1]; exact h.lt
  have kp : ∀ {x : Nat × va_E}, va_at D vwCl x H → x.1 ≠ h0 → va_at D vwCl x H4 := fun h hne => ((h.kept (o1 _ hne)).kept (keep _ (lt1 h))).kept (o4 _ hne)
  have hq0 : h0 < H1.size := lt1 i1
  obtain ⟨w1, w2, w3, w4⟩ := n_world (D := D) (cI := cI) (cJ := cJ) (cL := cL) (cN := cB) (b := xI S 0 0 1) (f := xJ S 0 1) (u := u) (H := H4) (z := s.heap.size) (z2 := H2.size) (fs3 := [.null, .null, .int 0, .int 0, .null, .int 0]) hN j4 (kp i2 (by show arr ≠ h0; omega)) (fun n hn j hj => kp (i3 n hn j hj) (by have := i5 n j hn hj; show ad n j ≠ h0; omega)) (fun k q hk => (hP3 k q hk).kept (o4 _ (fun h => by
      have h1 := hD3.2 k q hk
      rw [h] at h1
      rcases h1 with ⟨k', e', h2⟩ | h2
      · cases k' with
        | zero => simp at h2; omega
        | succ k' => simp at h2
      · omega))) hD3 i4 i5 i6 i7 (lt1 i2) (fun n j hn hj => lt1 (i3 n hn j hj)) (by omega)
  refine W.widen (k := 183) (n := 7348) (by omega) (by omega) ?_
  exact W.vret hx hb hr (fun t ht hw => ⟨⟨_, rfl, by rw [ht]; exact w1, w2, w3, w4⟩, hS4.F ht⟩) hS4.2.2 dX11_init_58 hlk
