/-! rows with the frame told: a new object, a final field, a store into a row of nodes, calls of newNode and of a constructor -/
section XN
variable {p : Program} {l : Launch} {e : Env} {R : Room} {s : State} {m : MethodId} {args : Array Value} {below : List Frame} {meth : Method} {c : Code} {H : Heap} {locs : List Loc} {cells slots : Nat} {Q : State → Prop}
variable {cc : ByteArray} {nL : Nat} {w0 : Cond} {G : List Cond} {own : String}
variable {pc : Nat} {ls : Array Slot} {rest : List Value} {D : va_G} {cl : List vw_C} {tys : List (ClassId × FieldType)} {nf : List xNf} {nm : List xNm} {ws : va_W} {H0 : Heap} {A A0 : Nat → Prop} {cI cJ cL cN : ClassId}
theorem k_new0 (F : CallFix p m c cc nL s args (w0 :: G) own) (hK : xK D cl tys nf nm s) {C : String} {T : u_T} {ty : Nat → FieldType} {N ci index : Nat} (B : xCls G cl ci C T ty N) (h1 : Cond.classLink own index C ∈ G) (h2 : Cond.instantiable C N ∈ G) (h3 : Cond.initialized C ∈ G) {fs : List Value} (hfs : ∀ j, j < N → defaultValue (ty j) = vp_V fs j) (hcells : cells + 1 ≤ R.cells) (hslots : slots + N ≤ R.slots) (hS : va_S A0 H0 H locs) (hdg : decode cc pc = .ok (.new index, 3))
    (kk : ∀ (H1 : Heap), H1.size = H.size + 1 → (∀ q, q < H.size → H1[q]? = H[q]?) → va_at D cl (H.size, .inr (ci, fs)) H1 → va_S A0 H0 H1 locs → W p l e R s m args below meth c H1 locs (cells + 1) (slots + N) Q (F0 m (pc + 3) ls (.ref H.size :: rest))) : W p l e R s m args below meth c H locs cells slots Q (F0 m pc ls rest) := by
  refine W.newc F.1 F.2.1 F.2.2.2.1 (x_hts F _ h1) (x_hts F _ h2) (x_hts F _ h3) rfl hdg hcells hslots (fun cC kC f1 f2 f3 f4 => ?_)
  have hKn := hK.1.1 ci _ B.2.1
  have e1 : cC = D.1 ci := Option.some.inj (f1.symm.trans hKn.2.1)
  have hq : ∀ q, q < H.size → (H.push ({ cls := cC, slots := kC.instanceTypes.map defaultValue, vm := .none } : Cell))[q]? = H[q]? := fun q h => by rw [Array.getElem?_push, if_neg (Nat.ne_of_lt h)]
  refine kk _ (by simp) hq ⟨_, B.2.1, ?_⟩ ⟨by simp; exact Nat.le_succ_of_le hS.1, fun q g1 g2 => by rw [hq q (Nat.lt_of_lt_of_le g1 hS.1)]; exact hS.2.1 q g1 g2, hS.2.2⟩
  subst e1
  exact t_OB.to (u_born ty (x_hts F) B.1 hKn f2 (by simp [blank]) B.2.2.1) (fun j hj => hfs j hj)
theorem k_putF0 (F : CallFix p m c cc nL s args (w0 :: G) own) (hK : xK D cl tys nf nm s) {C : String} {T : u_T} {ty : Nat → FieldType} {N ci index a : Nat} (B : xCls G cl ci C T ty N) {fs : List Value} (hat : va_at D cl (a, .inr (ci, fs)) H) (k : Nat) (hk : k < N) (hl : Cond.fieldLink own index (T k).1 (T k).2.1 (T k).2.2.1 ∈ G) (hfin : (T k).2.2.2 = true) (hin2 : meth.name = "<init>") (hdecl : (T k).1 = own) {v : Value} (hn : narrow (ty k) v = v) (hfit : fits (ty k) v = true) (hlen : k < fs.length) (hS : va_S A0 H0 H locs) (hAa : A0 a) (hdg : decode cc pc = .ok (.putfield index, 3))
    (kk : ∀ (H1 : Heap) (locs1 : List Loc), va_at D cl (a, .inr (ci, fs.set k v)) H1 → H1.size = H.size → (∀ q, q ≠ a → H1[q]? = H[q]?) → va_S A0 H0 H1 locs1 → W p l e R s m args below meth c H1 locs1 cells slots Q (F0 m (pc + 3) ls rest)) : W p l e R s m args below meth c H locs cells slots Q (F0 m pc ls (v :: .ref a :: rest)) := by
  have hts := x_hts F
  have hap := va_apart (own := own) hts B.1 ty B.2.2.1 B.2.2.2 hK.1 B.2.1
  obtain ⟨r, h1, cell, q1, q2, q3, q4⟩ := hat
  have hr : r = (C, T, N) := Option.some.inj (h1.symm.trans B.2.1)
  subst hr
  obtain ⟨hSl, hfc, kC, hkC, hkind⟩ := hK.1.1 ci _ B.2.1
  obtain ⟨cf, kf, fi, f, hi, hsl⟩ := hSl k hk
  have hlay := hts _ (B.1 _ (u_in_lay hk))
  unfold u_lay at hlay
  rw [if_pos hfin] at hlay
  have hst := (u_facts hfc hkC (u_lays hts B.1 hk) hi).1
  have hcf : m.cls = cf := by
    obtain ⟨_, _, c', _, _, _, -, -, hf', -, -, -, hown2, -⟩ := Cond.laysFinal_spec hlay
    have e1 : c' = cf := by have := hi.symm.trans hf'; simp at this; exact this.1.symm
    rw [hdecl] at hown2
    rw [← e1]; exact Option.some.inj (F.2.2.2.1.symm.trans hown2)
  have h6 := u_fits hfc hkC hkind (Or.inr hlay) hi (B.2.2.1 k hk) hn hfit
  refine W.putFinK F.1 F.2.1 F.2.2.2.1 (hts _ hl) hi hst hcf hin2 (by rw [q2]; exact h6) q1 q3 (by rw [hsl]; exact k2_hasslot (q4 k hk)) rfl rfl hdg fun H' e1 e2 e3 => ?_
  rw [hsl] at e1 ⊢
  exact kk H' _ ⟨_, B.2.1, t_OB.to (V := updV (vp_V fs) k v) ⟨_, e1, q2, q3, t_set q4 hap hk v⟩ (fun j _ => vp_updV_set hlen v j)⟩ e2 e3 (hS.put e2 e3 hAa)
theorem k_aast0 (F : CallFix p m c cc nL s args (w0 :: G) own) (hK : xK D vwCl (cTy cI cJ cL cN) nf nm s) {arr N v : Nat} {fs : List Value} {f : Nat → Option Nat} (hat : va_at D vwCl (arr, .inl (cN, N, .inr (.inr (.inr (.inr f))))) H) (hV : va_at D vwCl (v, .inr (6, fs)) H) {i : Int32} (hin : vp_in i N) (hS : va_S A0 H0 H locs) (hAa : A0 arr) (hdg : decode cc pc = .ok (.aastore, 1))
    (kk : ∀ (H1 : Heap) (locs1 : List Loc), va_at D vwCl (arr, .inl (cN, N, .inr (.inr (.inr (.inr (va_up f i.toNatClampNeg (some v))))))) H1 → H1.size = H.size → (∀ q, q ≠ arr → H1[q]? = H[q]?) → va_S A0 H0 H1 locs1 → W p l e R s m args below meth c H1 locs1 cells slots Q (F0 m (pc + 1) ls rest)) : W p l e R s m args below meth c H locs cells slots Q (F0 m pc ls (.ref v :: .int i :: .ref arr :: rest)) := by
  have hlt : i.toNatClampNeg < N := Nat.not_le.mp fun q => hin (Or.inr q)
  have h0 : ¬ i < 0 := fun q => hin (Or.inl q)
  obtain ⟨r', hr', cellV, g1, g2, g3, -⟩ := hV
  have hcls := (hK.1.1 6 (RX6, TX6, 9) rfl).2
  obtain ⟨kA, comp, k1, k2, k3, -⟩ := (hK.1.2 3 (cN, .object "TransputerNet$Node") rfl).2
  have hcomp : comp = D.1 6 := Option.some.inj (k3.symm.trans hcls.1)
  subst hcomp
  obtain ⟨kC, hkC, -⟩ := hcls.2
  refine W.aast F.1 F.2.1 hat (fun q h => by cases h) (fun h => by cases h) k1 k2 rfl hkC ⟨h0, by show _ < (arrV _ _ _).slots.size; rw [arrV_size]; exact hlt⟩ g1 (fun q h => by rw [g3] at h; cases h) (by rw [g2]; exact hkC) (by rw [g2]; exact va_assign hcls) rfl rfl hdg fun H1 e z oq => ?_
  refine kk H1 _ ?_ z oq (hS.put z oq hAa)
  show H1[arr]? = some (vp_cell _ _)
  rw [e]
  rw [vp_cell_q, vp_cell_q, arrV_store]
  congr 2
  funext q
  by_cases hq : q = i.toNatClampNeg
  · subst hq
    simp [updV, va_up, va_rf]
  · simp [updV, va_up, hq]
theorem k_run0 {st : List Value} {mc ms : Nat} {a : Array Value} {wc : va_W} {σ : Type} {post : σ → va_W} (hr : va_Run p l e R s m args below meth c H locs cells slots mc ms (F0 m pc ls st) rest (kQ D cl post (va_A wc H.size) a) (va_A wc H.size)) (hS : va_S A0 H0 H locs) (hsub : ∀ q, va_A wc H.size q → A0 q)
    (kk : ∀ (u : σ) (H1 : Heap) (locs1 : List Loc), va_P D cl (post u) H1 → va_D (va_A wc H.size) (post u) → H.size ≤ H1.size → (∀ q : Nat, q < H.size → ¬ va_A wc H.size q → H1[q]? = H[q]?) → va_S A0 H0 H1 locs1 → W p l e R s m args below meth c H1 locs1 (cells + mc) (slots + ms) Q (F0 m (pc + 3) ls rest)) : W p l e R s m args below meth c H locs cells slots Q (F0 m pc ls st) := by
  refine va_callv hr hS (fun q _ h => hsub q h) hsub (fun u t H1 locs1 ht hvm hw hB hz1 hk1 hS1 => ?_)
  obtain ⟨hP1, hD1⟩ := hB
  rw [ht] at hP1
  exact kk u H1 locs1 hP1 hD1 hz1 hk1 hS1
theorem nnAns_eq (u : nnU) : nnAns u = uAd u 0 := by
  obtain ⟨q1, q2_0, q2_1, q2_2, q2_3, q2_4, q2_5, q2_6, q2_7, q2_8, q3, q4, q5_0, q6, q7_0, q8, q9_0, q10, q11_0, q12, q13, q14⟩ := u
  rfl
theorem k_runr {st : List Value} {mc ms : Nat} {a : Array Value} {post : nnU → va_W} (hr : va_Run p l e R s m args below meth c H locs cells slots mc ms (F0 m pc ls st) rest (kQr D cl post nnAns (va_A [] H.size) a) (va_A [] H.size)) (hS : va_S A0 H0 H locs) (hA : ∀ q, H0.size ≤ q → A0 q)
    (kk : ∀ (u : nnU) (H1 : Heap) (locs1 : List Loc), va_P D cl (post u) H1 → va_D (va_A [] H.size) (post u) → H.size ≤ H1.size → (∀ q : Nat, q < H.size → H1[q]? = H[q]?) → va_S A0 H0 H1 locs1 → W p l e R s m args below meth c H1 locs1 (cells + mc) (slots + ms) Q (F0 m (pc + 3) ls (.ref (uAd u 0) :: rest))) : W p l e R s m args below meth c H locs cells slots Q (F0 m pc ls st) := by
  intro T hT X
  obtain ⟨v, st₀, t, T', L, h0, X', hL, e1, e2, ⟨⟨u, hv, hp, hb⟩, hz, hk⟩, st⟩ := hr T hT X
  cases hv
  rw [h0] at hz hk
  have hsub : ∀ q, va_A [] H.size q → A0 q := fun q h => h.elim (fun ⟨k, e, z⟩ => by simp at z) (fun z => hA q (Nat.le_trans hS.1 z))
  have hk' : ∀ q, q < H.size → T'.heap[q]? = H[q]? := fun q h1 => by rw [e1]; exact hk q h1 (fun h => h.elim (fun ⟨k, e, z⟩ => by simp at z) (fun z => absurd h1 (Nat.not_lt.mpr z)))
  obtain ⟨t2, a1, b1⟩ := kk u T'.heap (locs ++ L) (by rw [e1]; exact hp) hb (by rw [e1]; exact hz) hk'
    ⟨Nat.le_trans hS.1 (by rw [e1]; exact hz), fun q h1 h2 => by rw [hk' q (Nat.lt_of_lt_of_le h1 hS.1)]; exact hS.2.1 q h1 h2, fun q hq => by
      rcases List.mem_append.mp hq with h | h
      · exact hS.2.2 q h
      · exact hsub _ (hL q h)⟩ T' rfl X'
  rw [← nnAns_eq] at a1
  exact ⟨t2, st t2 a1, b1⟩
end XN
