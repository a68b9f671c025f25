theorem k_1_32 : Cond.methodLink "TransputerNet" (20 : Nat) ({ cls := "TransputerNet", name := "newNode", desc := "()LTransputerNet$Node;" } : MethodName) ∈ xG := xG_t1 (List.mem_of_getElem? (i := 32) (by decide +kernel)) (by decide +kernel)
set_option maxRecDepth 20000 in
theorem um_X11_newNode : xMs xG yX11_newNode cX11_newNode 3 (some (.object "TransputerNet$Node")) 0 := ⟨(xG_t1 (List.mem_of_getElem? (i := 33) (by decide +kernel)) (by decide +kernel)), (xG_t1 (List.mem_of_getElem? (i := 1) (by decide +kernel)) (by decide +kernel)), (xG_t1 (List.mem_of_getElem? (i := 34) rfl) rfl), by decide +kernel⟩
/-- the state of a memory behind the words that newNode writes -/
def mChain (S : xS) : Prop := ∃ S1 S2 S3 S4 S5 S6 S7 S8 S9 S10 S11 S12 S13 S14 S15 S16 S17 : xS, d5_setWord xS0 (32768 : Int32) (32768 : Int32) = some S1 ∧ d5_setWord S1 (32770 : Int32) (32768 : Int32) = some S2 ∧ d5_setWord S2 (32772 : Int32) (32768 : Int32) = some S3 ∧ d5_setWord S3 (32774 : Int32) (32768 : Int32) = some S4 ∧ d5_setWord S4 (32776 : Int32) (32768 : Int32) = some S5 ∧ d5_setWord S5 (32778 : Int32) (32768 : Int32) = some S6 ∧ d5_setWord S6 (32780 : Int32) (32768 : Int32) = some S7 ∧ d5_setWord S7 (32782 : Int32) (32768 : Int32) = some S8 ∧ d5_setWord S8 (32784 : Int32) (32768 : Int32) = some S9 ∧ d5_setWord S9 (32786 : Int32) (32768 : Int32) = some S10 ∧ d5_setWord S10 (32788 : Int32) (32768 : Int32) = some S11 ∧ d5_setWord S11 (32790 : Int32) (32768 : Int32) = some S12 ∧ d5_setWord S12 (32792 : Int32) (32768 : Int32) = some S13 ∧ d5_setWord S13 (32794 : Int32) (32768 : Int32) = some S14 ∧ d5_setWord S14 (32796 : Int32) (32768 : Int32) = some S15 ∧ d5_setWord S15 (32798 : Int32) (32768 : Int32) = some S16 ∧ d5_setWord S16 (32800 : Int32) (32768 : Int32) = some S17 ∧ d5_setWord S17 (32802 : Int32) (32768 : Int32) = some S
theorem k_nn (l : Launch) (D : va_G) (cI cJ cL cN : ClassId) {S : xS} (h : mChain S) (sz : Nat) : Met l yX11_newNode (Cond.code yX11_newNode cX11_newNode 3 (some (.object "TransputerNet$Node")) :: xG) { frames := 3, cells := 22, slots := 787, locals := 61 } (kPo D vwCl (cTy cI cJ cL cN) cNf cNm [] sz []) (kQr D vwCl (nnPost cI cJ cL cN (xI S 0 0 1) (xJ S 0 1)) nnAns (va_A [] sz)) 22 787 (va_A [] sz) := by
  obtain ⟨S1, S2, S3, S4, S5, S6, S7, S8, S9, S10, S11, S12, S13, S14, S15, S16, S17, h0, h1, h2, h3, h4, h5, h6, h7, h8, h9, h10, h11, h12, h13, h14, h15, h16, h17⟩ := h
  exact k_X11_newNode l D cI cJ cL cN h0 h1 h2 h3 h4 h5 h6 h7 h8 h9 h10 h11 h12 h13 h14 h15 h16 h17 sz
/-- how many nodes -/
def cNum (a : Int32) : Int32 := if 1 < (if a < 8 then a else 8) then (if a < 8 then a else 8) else 1
theorem cNum_nat (a : Int32) : ∃ N : Nat, 1 ≤ N ∧ N ≤ 8 ∧ cNum a = nI N := by
  unfold cNum
  by_cases h1 : a < 8
  · rw [if_pos h1]
    by_cases h2 : 1 < a
    · rw [if_pos h2]
      obtain ⟨j, hj, he⟩ := nI_of (x := a) (fun h => absurd (Int32.lt_trans h2 h) (by decide))
      subst he
      have h3 : j < 8 := (nI_ltI hj (by decide)).mp h1
      have h4 : 1 < j := (nI_ltI (by decide) hj).mp h2
      exact ⟨j, by omega, by omega, rfl⟩
    · rw [if_neg h2]
      exact ⟨1, by omega, by omega, rfl⟩
  · rw [if_neg h1, if_pos (by decide)]
    exact ⟨8, by omega, by omega, rfl⟩
def nInv (D : va_G) (cI cJ cL cN : ClassId) (b : Int32) (f : Nat → Int64) (N h0 arr z k : Nat) (ad : Nat → Nat → Nat) (H : Heap) : Prop :=
  va_at D vwCl (h0, .inr (11, [.null, .null, .int 0])) H ∧ va_at D vwCl (arr, .inl (cN, N, .inr (.inr (.inr (.inr (fun i => if i < k then some (ad i 0) else none)))))) H ∧
  (∀ n, n < k → ∀ j, j < 22 → va_at D vwCl (ad n j, cDn ad cI cJ cL (cI0 b j) (cJ0 f j) none n j) H) ∧
  (∀ n j n' j', n < k → j < 22 → n' < k → j' < 22 → ad n j = ad n' j' → n = n' ∧ j = j') ∧ (∀ n j, n < k → j < 22 → arr < ad n j) ∧ h0 < z ∧ z ≤ arr
theorem vq_at {D : va_G} {cA : ClassId} {n a : Nat} {f g : Nat → Option Nat} {H : Heap} (h : ∀ j, j < n → f j = g j) (hat : va_at D vwCl (a, .inl (cA, n, .inr (.inr (.inr (.inr f))))) H) : va_at D vwCl (a, .inl (cA, n, .inr (.inr (.inr (.inr g))))) H := by
  have h2 : H[a]? = some (vp_cell cA (n, .inr (.inr (.inr (.inr f))))) := hat
  exact h2.trans (congrArg some (vq_cell h))
/-- one more node -/
theorem nInv_step {D : va_G} {cI cJ cL cN : ClassId} {b : Int32} {f : Nat → Int64} {N h0 arr z k : Nat} {ad : Nat → Nat → Nat} {H H1 H2 : Heap} {u : nnU} (hk : k < N) (hi : nInv D cI cJ cL cN b f N h0 arr z k ad H) (hkeep : ∀ q : Nat, q < H.size → H1[q]? = H[q]?) (hP : va_P D vwCl (nnPost cI cJ cL cN b f u) H1) (hD : va_D (va_A [] H.size) (nnPost cI cJ cL cN b f u))
    (hat : va_at D vwCl (arr, .inl (cN, N, .inr (.inr (.inr (.inr (va_up (fun i => if i < k then some (ad i 0) else none) k (some (uAd u 0)))))))) H2) (hoth : ∀ q, q ≠ arr → H2[q]? = H1[q]?) : nInv D cI cJ cL cN b f N h0 arr z (k + 1) (fun n j => if n = k then uAd u j else ad n j) H2 := by
  obtain ⟨i1, i2, i3, i4, i5, i6, i7⟩ := hi
  have hz : ∀ j, j < 22 → H.size ≤ uAd u j := fun j hj => (nn_A hD hj).elim (fun ⟨k, e, z⟩ => by simp at z) id
  have larr : arr < H.size := i2.lt
  refine ⟨(i1.kept (hkeep _ i1.lt)).kept (hoth _ (by omega)), ?_, ?_, ?_, ?_, i6, i7⟩
  · refine vq_at (fun j hj => ?_) hat
    by_cases e : j = k
    · subst e; simp [va_up]
    · simp only [va_up, if_neg e]
      by_cases h : j < k
      · rw [if_pos h, if_pos (by omega)]
      · rw [if_neg h, if_neg (by omega)]
  · intro n hn j hj
    by_cases e : n = k
    · subst e
      show va_at D vwCl ((if n = n then uAd u j else ad n j), _) H2
      rw [if_pos rfl, cDn_congr (ad2 := fun _ => uAd u) (fun j => by simp)]
      exact (nn_node hP n j hj).kept (hoth _ (by have := hz j hj; show uAd u j ≠ arr; omega))
    · have hlt : n < k := by omega
      show va_at D vwCl ((if n = k then uAd u j else ad n j), _) H2
      rw [if_neg e, cDn_congr (ad2 := ad) (fun j => by simp [e])]
      have h3 := i3 n hlt j hj
      have h4 := i5 n j hlt hj
      exact (h3.kept (hkeep _ h3.lt)).kept (hoth _ (by show ad n j ≠ arr; omega))
  · intro n j n' j' hn hj hn' hj' he
    by_cases e : n = k <;> by_cases e' : n' = k
    · simp only [e, e', if_true] at he
      exact ⟨by omega, nn_inj hD hj hj' he⟩
    · simp only [e, e', if_true, if_false] at he
      have h3 := (i3 n' (by omega) j' hj').lt
      have h4 := hz j hj
      dsimp only at h3
      omega
    · simp only [e, e', if_true, if_false] at he
      have h3 := (i3 n (by omega) j hj).lt
      have h4 := hz j' hj'
      dsimp only at h3
      omega
    · simp only [e, e', if_false] at he
      exact i4 n j n' j' (by omega) hj (by omega) hj' he
  · intro n j hn hj
    by_cases e : n = k
    · simp only [e, if_true]
      have := hz j hj
      omega
    · simp only [e, if_false]
      exact i5 n j (by omega) hj
set_option maxHeartbeats 4000000 in
set_option maxRecDepth 100000 in
theorem n_loop {l : Launch} {D : va_G} {cI cJ cL cN : ClassId} {S : xS} (hm : mChain S) {p : Program} {e : Env} {s : State} {m : MethodId} {args : Array Value} {below : List Frame} {meth : Method} {c : Code} {R : Room} {Q : State → Prop} {A0 : Nat → Prop} {w0 : Cond} (F : CallFix p m c cX11_init 5 s args (w0 :: xG) "TransputerNet") (hO : kO s) (hK : xK D vwCl (cTy cI cJ cL cN) cNf cNm s) (hA : ∀ q, s.heap.size ≤ q → A0 q) (hRf : 4 ≤ R.frames ∧ 83 ≤ R.locals) (hRc : 183 ≤ R.cells ∧ 7348 ≤ R.slots) {N h0 arr : Nat} {a1 : Int32} (hN : N ≤ 8)
    (hexit : ∀ (ad : Nat → Nat → Nat) (H : Heap) (locs : List Loc) (ls : Array Slot), nInv D cI cJ cL cN (xI S 0 0 1) (xJ S 0 1) N h0 arr s.heap.size N ad H → va_S A0 s.heap H locs → lv_has ls 5 [(0, .ref h0), (3, .ref arr)] → W p l e R s m args below meth c H locs 177 6304 Q (F0 m 42 ls [])) :
    ∀ (d k : Nat) (ad : Nat → Nat → Nat) (H : Heap) (locs : List Loc) (ls : Array Slot), N = k + d → nInv D cI cJ cL cN (xI S 0 0 1) (xJ S 0 1) N h0 arr s.heap.size k ad H → va_S A0 s.heap H locs → lv_has ls 5 [(4, .int (nI k)), (2, .int (nI N)), (0, .ref h0), (3, .ref arr)] → W p l e R s m args below meth c H locs (1 + 22 * k) (N + 787 * k) Q (F0 m 23 ls []) := by
  have hx := F.1
  have hb := F.2.1
  intro d
  induction d with
  | zero =>
    intro k ad H locs ls hk hi hS hl
    refine lv_iload hx hb dX11_init_23 (lv_at hl 0 rfl) ?_
    refine lv_iload_n hx hb dX11_init_25 rfl (lv_at hl 1 rfl) ?_
    refine lv_icmp_ge (tgt := 42) hx hb dX11_init_26 (by decide) (fun c_1 => ?_) (fun c_1 => absurd (nI_le (by omega) (by omega)) c_1)
    have hkN : k = N := by omega
    subst hkN
    exact W.widen (k := 177) (n := 6304) (by omega) (by omega) (hexit ad H locs ls hi hS (lv_sub hl [2, 3] rfl))
  | succ d ih =>
    intro k ad H locs ls hk hi hS hl
    refine lv_iload hx hb dX11_init_23 (lv_at hl 0 rfl) ?_
    refine lv_iload_n hx hb dX11_init_25 rfl (lv_at hl 1 rfl) ?_
    refine lv_icmp_ge (tgt := 42) hx hb dX11_init_26 (by decide) (fun c_1 => absurd c_1 (nI_ge (by omega) (by omega))) (fun c_1 => ?_)
    refine lv_aload_n hx hb dX11_init_29 rfl (lv_at hl 3 rfl) ?_
    refine lv_iload hx hb dX11_init_30 (lv_at hl 0 rfl) ?_
    refine k_runr (post := nnPost cI cJ cL cN (xI S 0 0 1) (xJ S 0 1)) (va_runS (As := []) (rest := [.int (nI k), .ref arr]) (n := 0) F (k_nn l D cI cJ cL cN hm H.size) ⟨callB_of 0 F.2.2.2.2 (k_gi xG_ok um_X11_newNode.2.2.1) rfl rfl rfl (x_hts F _ um_X11_newNode.2.1) (x_hts F _ k_1_32) um_X11_newNode.2.2.2 ⟨hRf.1, hRf.2⟩, x_hts F _ um_X11_newNode.1⟩ ⟨kPo_blind, fun U hU hw => ⟨rfl, hO.moved hw.alike, xK.warm hw hK, by rw [hU], fun k q h => by simp at h, ⟨fun i j p q h => by simp at h, fun k q h => by simp at h⟩⟩⟩ rfl rfl hl.1 rfl (lv_room (Nat.le_of_ble_eq_true rfl)) dX11_init_32 ⟨by have := hRc.1; omega, by have := hRc.2; omega⟩) hS hA (fun u H1 locs1 hP1 hD1 hz hkeep hS1 => ?_)
    have hat1 : va_at D vwCl (arr, .inl (cN, N, .inr (.inr (.inr (.inr (fun i => if i < k then some (ad i 0) else none)))))) H1 := hi.2.1.kept (hkeep _ hi.2.1.lt)
    refine k_aast0 F hK hat1 (nn_node hP1 0 0 (by omega)) (vp_in_nI (n := k) (by omega) (by omega)) hS1 (hA _ hi.2.2.2.2.2.2) dX11_init_35 (fun H2 locs2 hat2 hz2 hoth hS2 => ?_)
    rw [nI_clamp (by omega)] at hat2
    refine lv_iinc (v := nI (k + 1)) (lv' := [(4, .int (nI (k + 1))), (2, .int (nI N)), (0, .ref h0), (3, .ref arr)]) hx hb dX11_init_36 hl (k := 0) rfl (nI_1 k) (by decide) rfl (fun ls hl => ?_)
    refine lv_goto (tgt := 23) hx hb dX11_init_39 (by decide) ?_
    exact W.widen (k := 1 + 22 * (k + 1)) (n := N + 787 * (k + 1)) (by omega) (by omega) (ih (k + 1) _ H2 _ ls (by omega) (nInv_step (by omega) hi hkeep hP1 hD1 hat2 hoth) hS2 hl)
