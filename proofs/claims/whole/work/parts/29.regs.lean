/-! registers, stops, slices, on both sides -/
theorem gI {α : Type} {n : Nat} {k : Option α} (hn : n < 8) : gd (nI n) 8 k = k := gd_nI hn (by decide)
theorem cl8 {n : Nat} (hn : n < 8) : (nI n).toNatClampNeg = n := nI_clamp (by omega)
def cOwn (S : xS) (n : Nat) : Int32 := xI S n 4 5 ||| (xI S n 4 6 &&& 1)
def rOwn (R : xS) (n : Nat) : Int32 := xI R 0 10 n ||| xI R 0 11 n
theorem c1_own_n (n : Nat) (S : xS) : c1_own n S = some (cOwn S n, S) := rfl
theorem r_own_n (R : xS) {n : Nat} (hn : n < 8) : r_own R (nI n) = some (rOwn R n, R) := by
  unfold r_own rOwn
  simp only [gI hn, cl8 hn]
theorem REL.own {E : Nat → Nat → Prop} {X : xS → xS → Prop} {N : xN} {S R : xS} (h : REL E X N S R) {n : Nat} (hn : inN n N) (hp : xI R 0 11 n = 0 ∨ xI R 0 11 n = 1) : cOwn S n = rOwn R n := by
  unfold cOwn rOwn
  rw [h.g_W hn, h.g_P hn]
  rcases hp with e | e <;> rw [e] <;> rfl
def cStop (S : xS) (n : Nat) (w : Int32) : xS := if xI S n 1 8 = 0 then sI S n 1 8 w else S
def rStop (R : xS) (n : Nat) (w : Int32) : xS := if xI R 0 13 n = 0 then sI R 0 13 n w else R
theorem c1_stopWith_n (n : Nat) (S : xS) (w : Int32) : c1_stopWith n S w = some (cStop S n w) := by
  unfold c1_stopWith cStop
  by_cases h : xI S n 1 8 = 0
  · rw [if_pos h, if_pos h]; rfl
  · rw [if_neg h, if_neg h]
theorem r_stop_n (R : xS) {n : Nat} (hn : n < 8) (w : Int32) : r_stop R (nI n) w = some (rStop R n w) := by
  unfold r_stop rStop
  simp only [gI hn, cl8 hn]
  by_cases h : xI R 0 13 n = 0
  · rw [if_pos h, if_pos h]; rfl
  · rw [if_neg h, if_neg h]
theorem REL.stop {E : Nat → Nat → Prop} {X : xS → xS → Prop} {N : xN} {S R : xS} (h : REL E X N S R) {n : Nat} (hn : inN n N) (w : Int32) : REL E X N (cStop S n w) (rStop R n w) := by
  unfold cStop rStop
  rw [h.g_out hn]
  by_cases e : xI R 0 13 n = 0
  · rw [if_pos e, if_pos e]; exact h.s_out hn (Or.inr e)
  · rw [if_neg e, if_neg e]; exact h
def cPush (S : xS) (n : Nat) (v : Int32) : xS := (fun S1 => (fun S2 => sI S2 n 4 0 (v &&& 65535)) (sI S1 n 4 1 (xI S1 n 4 0))) (sI S n 4 2 (xI S n 4 1))
def rPush (R : xS) (n : Nat) (v : Int32) : xS := (fun R1 => (fun R2 => sI R2 0 5 n (v &&& 65535)) (sI R1 0 6 n (xI R1 0 5 n))) (sI R 0 7 n (xI R 0 6 n))
theorem c9_push_n (n : Nat) (S : xS) (v : Int32) : c9_push n 4 S v = some (cPush S n v) := rfl
theorem r_push_n (R : xS) {n : Nat} (hn : n < 8) (v : Int32) : r_push R (nI n) v = some (rPush R n v) := by
  unfold r_push rPush
  simp only [gI hn, cl8 hn, xnm]
theorem REL.push {E : Nat → Nat → Prop} {X : xS → xS → Prop} {N : xN} {S R : xS} (h : REL E X N S R) {n : Nat} (hn : inN n N) (ok : okE E n) {v v' : Int32} (e : v = v') : REL E X N (cPush S n v) (rPush R n v') := by
  subst e
  have h1 := h.s_C hn (h.g_B hn ok.2.1) (h.w_B hn ok.2.1)
  exact (h1.s_B hn (h1.g_A hn ok.1) (h1.w_A hn ok.1)).s_A hn rfl (w16 v)
def cPop (S : xS) (n : Nat) : xS := (fun S1 => sI S1 n 4 1 (xI S1 n 4 2)) (sI S n 4 0 (xI S n 4 1))
def rPop (R : xS) (n : Nat) : xS := (fun R1 => sI R1 0 6 n (xI R1 0 7 n)) (sI R 0 5 n (xI R 0 6 n))
theorem c9_pop_n (n : Nat) (S : xS) : c9_pop n 4 S = some (cPop S n) := rfl
theorem r_pop_n (R : xS) {n : Nat} (hn : n < 8) : r_pop R (nI n) = some (rPop R n) := by
  unfold r_pop rPop
  simp only [gI hn, cl8 hn, xnm]
theorem REL.pop {E : Nat → Nat → Prop} {X : xS → xS → Prop} {N : xN} {S R : xS} (h : REL E X N S R) {n : Nat} (hn : inN n N) (ok : okE E n) : REL E X N (cPop S n) (rPop R n) := by
  have h1 := h.s_A hn (h.g_B hn ok.2.1) (h.w_B hn ok.2.1)
  exact h1.s_B hn (h1.g_C hn ok.2.2) (h1.w_C hn ok.2.2)
def cSliced (S : xS) (n : Nat) : xS := if xI S n 4 6 = 1 then (if xI S n 4 7 < 256 then S else cRdy (cWaits S n) n (cOwn S n)) else S
def rSliced (R : xS) (n : Nat) : xS := if xI R 0 11 n = 1 then (if 256 ≤ xI R 0 12 n then rRdy (rWaits R n) n (xI (rWaits R n) 0 10 n ||| 1) else R) else R
theorem c1_yieldIfSliced_n (n : Nat) (S : xS) : c1_yieldIfSliced n S = some (cSliced S n) := by
  unfold c1_yieldIfSliced cSliced
  by_cases h : xI S n 4 6 = 1
  · rw [if_pos h, if_pos h]
    by_cases h2 : xI S n 4 7 < 256
    · rw [if_pos h2, if_pos h2]
    · rw [if_neg h2, if_neg h2, c1_own_n, Option.bind_some]
      show ((c1_leaveWaiting n S).bind _) = _
      rw [c1_leaveWaiting_n, Option.bind_some, c1_makeReady_n, Option.bind_some]
  · rw [if_neg h, if_neg h]
theorem r_sliced_n (R : xS) {n : Nat} (hn : n < 8) : r_sliced R (nI n) = some (rSliced R n) := by
  unfold r_sliced rSliced
  simp only [gI hn, cl8 hn, r_waits_n _ hn, r_ready_n _ hn, Option.bind_some]
  by_cases h : xI R 0 11 n = 1
  · rw [if_pos h, if_pos h]
    by_cases h2 : 256 ≤ xI R 0 12 n
    · rw [if_pos h2, if_pos h2]
    · rw [if_neg h2, if_neg h2]
  · rw [if_neg h, if_neg h]
theorem xI_cPw (S : xS) (n : Nat) (a v : Int32) (m j k : Nat) (hj : j ≠ 2) : xI (cPw S n a v) m j k = xI S m j k := by
  unfold cPw
  by_cases h : inM (adw a)
  · rw [if_pos h]; rfl
  · rw [if_neg h, xI_sI, if_neg (fun z => hj z.2.1)]
theorem xI_cPb (S : xS) (n : Nat) (a v : Int32) (m j k : Nat) (hj : j ≠ 2) : xI (cPb S n a v) m j k = xI S m j k := by
  unfold cPb
  by_cases h : inM (adr a)
  · rw [if_pos h]; rfl
  · rw [if_neg h, xI_sI, if_neg (fun z => hj z.2.1)]
theorem xI_cTw (S : xS) (n : Nat) (a : Int32) (m j k : Nat) (hj : j ≠ 2) : xI (cTw S n a) m j k = xI S m j k := by
  unfold cTw
  by_cases h : inM (adw a)
  · rw [if_pos h]
  · rw [if_neg h, xI_sI, if_neg (fun z => hj z.2.1)]
theorem xI_cTb (S : xS) (n : Nat) (a : Int32) (m j k : Nat) (hj : j ≠ 2) : xI (cTb S n a) m j k = xI S m j k := by
  unfold cTb
  by_cases h : inM (adr a)
  · rw [if_pos h]
  · rw [if_neg h, xI_sI, if_neg (fun z => hj z.2.1)]
theorem xI_rPb (R : xS) (n : Nat) (a v : Int32) (j k : Nat) (hj : j ≠ 4) (hj2 : j ≠ 18) : xI (rPb R n a v) 0 j k = xI R 0 j k := by
  unfold rPb
  by_cases h : inM (adr a)
  · rw [if_pos h, xI_rSB _ _ _ _ _ _ hj]
  · rw [if_neg h, xI_sI, if_neg (fun z => hj2 z.2.1)]
theorem xI_rPw (R : xS) (n : Nat) (a v : Int32) (j k : Nat) (hj : j ≠ 4) (hj2 : j ≠ 18) : xI (rPw R n a v) 0 j k = xI R 0 j k := by
  unfold rPw
  by_cases h : inM (adw a)
  · rw [if_pos h, xI_rSB _ _ _ _ _ _ hj, xI_rSB _ _ _ _ _ _ hj]
  · rw [if_neg h, xI_sI, if_neg (fun z => hj2 z.2.1)]
theorem xI_rUw (R : xS) (n : Nat) (a : Int32) (j k : Nat) (hj2 : j ≠ 18) : xI (rUw R n a) 0 j k = xI R 0 j k := by
  unfold rUw
  by_cases h : inM (adw a)
  · rw [if_pos h]
  · rw [if_neg h, xI_sI, if_neg (fun z => hj2 z.2.1)]
theorem xI_rUb (R : xS) (n : Nat) (a : Int32) (j k : Nat) (hj2 : j ≠ 18) : xI (rUb R n a) 0 j k = xI R 0 j k := by
  unfold rUb
  by_cases h : inM (adr a)
  · rw [if_pos h]
  · rw [if_neg h, xI_sI, if_neg (fun z => hj2 z.2.1)]
theorem REL.sliced {E : Nat → Nat → Prop} {X : xS → xS → Prop} {N : xN} {S R : xS} (h : REL E X N S R) {n : Nat} (hn : inN n N) : REL E X N (cSliced S n) (rSliced R n) := by
  unfold cSliced rSliced
  rw [h.g_P hn, h.g_L hn]
  by_cases e : xI R 0 11 n = 1
  · rw [if_pos e, if_pos e]
    by_cases e2 : xI R 0 12 n < 256
    · rw [if_pos e2, if_neg (fun z => absurd e2 (Int32.not_lt.mpr z))]; exact h
    · rw [if_neg e2, if_pos (Int32.not_lt.mp e2)]
      refine (h.waits hn).rdy hn ?_
      unfold cOwn rWaits
      rw [xI_sI, if_neg (by omega), xI_rPw _ _ _ _ _ _ (by decide) (by decide), h.g_P hn, h.g_W hn, e]
      rfl
  · rw [if_neg e, if_neg e]; exact h
def cPopAll (S : xS) (n : Nat) : xS := (fun S1 => sI S1 n 4 1 (xI S1 n 4 2)) (sI S n 4 0 (xI S n 4 2))
theorem c9_popAll_n (n : Nat) (S : xS) : c9_popAll n 4 S = some (cPopAll S n) := rfl
theorem r_popped_1 (R : xS) {n : Nat} (hn : n < 8) : r_popped R (nI n) 1 = some (1, rPop R n) := by
  unfold r_popped
  rw [show (100000 : Nat) = 99997 + 1 + 1 + 1 from rfl]
  unfold r_popped_b2
  rw [if_neg (by decide), r_pop_n _ hn, Option.bind_some]
  unfold r_popped_b2
  rw [if_pos (by decide)]
theorem r_popped_2 (R : xS) {n : Nat} (hn : n < 8) : r_popped R (nI n) 2 = some (1, rPop (rPop R n) n) := by
  unfold r_popped
  rw [show (100000 : Nat) = 99997 + 1 + 1 + 1 from rfl]
  unfold r_popped_b2
  rw [if_neg (by decide), r_pop_n _ hn, Option.bind_some]
  unfold r_popped_b2
  rw [if_neg (by decide), r_pop_n _ hn, Option.bind_some]
  unfold r_popped_b2
  rw [if_pos (by decide)]
theorem r_popped_3 (R : xS) {n : Nat} (hn : n < 8) : r_popped R (nI n) 3 = some (1, rPop (rPop (rPop R n) n) n) := by
  unfold r_popped
  rw [show (100000 : Nat) = 99996 + 1 + 1 + 1 + 1 from rfl]
  unfold r_popped_b2
  rw [if_neg (by decide), r_pop_n _ hn, Option.bind_some]
  unfold r_popped_b2
  rw [if_neg (by decide), r_pop_n _ hn, Option.bind_some]
  unfold r_popped_b2
  rw [if_neg (by decide), r_pop_n _ hn, Option.bind_some]
  unfold r_popped_b2
  rw [if_pos (by decide)]
/-- two pops leave C in A and B -/
theorem rPop_A (R : xS) (n : Nat) : xI (rPop R n) 0 5 n = xI R 0 6 n := by
  unfold rPop
  simp only [xI_sI]
  simp
theorem rPop_B (R : xS) (n : Nat) : xI (rPop R n) 0 6 n = xI R 0 7 n := by
  unfold rPop
  simp only [xI_sI]
  simp
theorem rPop_o (R : xS) (n j k : Nat) (h : j ≠ 5) (h2 : j ≠ 6) : xI (rPop R n) 0 j k = xI R 0 j k := by
  unfold rPop
  simp only [xI_sI]
  rw [if_neg (fun z => h2 z.2.1), if_neg (fun z => h z.2.1)]
theorem rPop_C (R : xS) (n : Nat) : xI (rPop R n) 0 7 n = xI R 0 7 n := rPop_o _ _ _ _ (by decide) (by decide)
theorem REL.rpop {E : Nat → Nat → Prop} {X : xS → xS → Prop} {N : xN} {S R : xS} (h : REL E X N S R) {n : Nat} (hn : inN n N) (hA : E n 0) (hB : E n 1) : REL E X N S (rPop R n) := (h.r_A hn hA _).r_B hn hB _
theorem REL.cpopAll {E : Nat → Nat → Prop} {X : xS → xS → Prop} {N : xN} {S R : xS} (h : REL E X N S R) {n : Nat} (hn : inN n N) (hA : E n 0) (hB : E n 1) : REL E X N (cPopAll S n) R := (h.c_A hn hA _).c_B hn hB _
theorem cPopAll_A (S : xS) (n : Nat) : xI (cPopAll S n) n 4 0 = xI S n 4 2 := by
  unfold cPopAll
  simp only [xI_sI]
  simp
theorem cPopAll_B (S : xS) (n : Nat) : xI (cPopAll S n) n 4 1 = xI S n 4 2 := by
  unfold cPopAll
  simp only [xI_sI]
  simp
theorem cPopAll_o (S : xS) (n m j k : Nat) (h : j ≠ 4 ∨ 1 < k) : xI (cPopAll S n) m j k = xI S m j k := by
  unfold cPopAll
  simp only [xI_sI]
  rw [if_neg (by omega), if_neg (by omega)]
/-- A and B of node n are left out, beside E -/
def EB (E : Nat → Nat → Prop) (n : Nat) : Nat → Nat → Prop := fun m k => E m k ∨ (m = n ∧ k < 2)
/-- A and B are not left out where both have C -/
theorem REL.unB {E : Nat → Nat → Prop} {X : xS → xS → Prop} {N : xN} {S R : xS} {n : Nat} (h : REL (EB E n) X N S R) (hn : inN n N) (hE : ¬ E n 2) (hA : xI S n 4 0 = xI S n 4 2) (hB : xI S n 4 1 = xI S n 4 2) (hA2 : xI R 0 5 n = xI R 0 7 n) (hB2 : xI R 0 6 n = xI R 0 7 n) : REL E X N S R := by
  have hC : ¬ EB E n n 2 := fun z => z.elim hE (fun q => absurd q.2 (by decide))
  have e1 := h.g_C hn hC
  have e2 := h.w_C hn hC
  refine ⟨h.1, ⟨h.2.1.1, fun m hm t ht => ?_, h.2.1.2.2⟩, h.2.2⟩
  rcases h.2.1.2.1 m hm t ht with z | z
  · obtain ⟨z1, z2, z3⟩ := z
    rcases z3 with z3 | ⟨z3, z4⟩
    · exact Or.inl ⟨z1, z2, z3⟩
    subst z3
    refine Or.inr ?_
    rcases (show t.2.1 = 0 ∨ t.2.1 = 1 by omega) with e | e
    · have := (tB_eq ht (u := (4, 0, 5, 1, 0)) (by decide)).1 ⟨z1, e⟩
      subst this
      simp only [rc, rg, Nat.one_mul, Nat.add_zero]
      rw [hA, hA2]; exact ⟨e1, e2⟩
    · have := (tB_eq ht (u := (4, 1, 6, 1, 0)) (by decide)).1 ⟨z1, e⟩
      subst this
      simp only [rc, rg, Nat.one_mul, Nat.add_zero]
      rw [hB, hB2]; exact ⟨e1, e2⟩
  · exact Or.inr z
theorem REL.eB {E : Nat → Nat → Prop} {X : xS → xS → Prop} {N : xN} {S R : xS} (h : REL E X N S R) (n : Nat) : REL (EB E n) X N S R := h.mono (fun _ _ _ z => Or.inl z)
theorem eb0 (E : Nat → Nat → Prop) (n : Nat) : EB E n n 0 := Or.inr ⟨rfl, by decide⟩
theorem eb1 (E : Nat → Nat → Prop) (n : Nat) : EB E n n 1 := Or.inr ⟨rfl, by decide⟩
theorem REL.popAll2 {E : Nat → Nat → Prop} {X : xS → xS → Prop} {N : xN} {S R : xS} (h : REL E X N S R) {n : Nat} (hn : inN n N) (ok : okE E n) : REL E X N (cPopAll S n) (rPop (rPop R n) n) := by
  refine ((((h.eB n).cpopAll hn (eb0 E n) (eb1 E n)).rpop hn (eb0 E n) (eb1 E n)).rpop hn (eb0 E n) (eb1 E n)).unB hn ok.2.2 ?_ ?_ ?_ ?_
  · rw [cPopAll_A, cPopAll_o _ _ _ _ _ (by omega)]
  · rw [cPopAll_B, cPopAll_o _ _ _ _ _ (by omega)]
  · simp only [rPop_A, rPop_B, rPop_C]
  · simp only [rPop_A, rPop_B, rPop_C]
theorem REL.popAll3 {E : Nat → Nat → Prop} {X : xS → xS → Prop} {N : xN} {S R : xS} (h : REL E X N S R) {n : Nat} (hn : inN n N) (ok : okE E n) : REL E X N (cPopAll S n) (rPop (rPop (rPop R n) n) n) := by
  refine (((((h.eB n).cpopAll hn (eb0 E n) (eb1 E n)).rpop hn (eb0 E n) (eb1 E n)).rpop hn (eb0 E n) (eb1 E n)).rpop hn (eb0 E n) (eb1 E n)).unB hn ok.2.2 ?_ ?_ ?_ ?_
  · rw [cPopAll_A, cPopAll_o _ _ _ _ _ (by omega)]
  · rw [cPopAll_B, cPopAll_o _ _ _ _ _ (by omega)]
  · simp only [rPop_A, rPop_B, rPop_C]
  · simp only [rPop_A, rPop_B, rPop_C]
