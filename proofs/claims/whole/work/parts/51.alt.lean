/-! alternatives -/
/-- only memory was changed -/
def FRM (R0 R : xS) : Prop := ∀ j k, j ≠ 4 → j ≠ 18 → xI R 0 j k = xI R0 0 j k
theorem FRM.rfl' (R : xS) : FRM R R := fun _ _ _ _ => rfl
theorem FRM.pw {R0 R : xS} (h : FRM R0 R) (n : Nat) (a v : Int32) : FRM R0 (rPw R n a v) := fun j k h1 h2 => by rw [xI_rPw _ _ _ _ _ _ h1 h2]; exact h j k h1 h2
theorem FRM.uw {R0 R : xS} (h : FRM R0 R) (n : Nat) (a : Int32) : FRM R0 (rUw R n a) := fun j k h1 h2 => by rw [xI_rUw _ _ _ _ _ h2]; exact h j k h1 h2
theorem FRM.hp {R0 R : xS} (h : FRM R0 R) {n : Nat} (hp : xI R0 0 11 n = 0 ∨ xI R0 0 11 n = 1) : xI R 0 11 n = 0 ∨ xI R 0 11 n = 1 := by rw [h 11 n (by decide) (by decide)]; exact hp
def RP (X : xS → xS → Prop) (N : xN) (R0 S R : xS) : Prop := REL E0 X N S R ∧ FRM R0 R
def QL (X : xS → xS → Prop) (N : xN) (R0 : xS) (o p : Int32 × xS) : Prop := o.1 = p.1 ∧ p.1 &&& 65535 = p.1 ∧ RP X N R0 o.2 p.2
theorem r_mine_n (R : xS) {n : Nat} (hn : n < 8) (k : Int32) : r_mine R (nI n) k = some (rGw R n (xI R 0 10 n + 2 * k), rUw R n (xI R 0 10 n + 2 * k)) := by
  unfold r_mine
  rw [gI hn, cl8 hn, r_word_n _ hn]
  rfl
theorem r_mineTo_n (R : xS) {n : Nat} (hn : n < 8) (k v : Int32) : r_mineTo R (nI n) k v = some (rPw R n (xI R 0 10 n + 2 * k) v) := by
  unfold r_mineTo
  rw [gI hn, cl8 hn, r_wordTo_n _ hn]
  rfl
theorem p_local {X : xS → xS → Prop} {N : xN} {R0 S R : xS} (h : RP X N R0 S R) {n : Nat} (hn : inN n N) (k : Int32) : P2 (c1_local n S k) (r_mine R (nI n) k) (QL X N R0) := by
  have h8 := h.1.le8 hn
  have e : xI S n 4 5 + 2 * k = xI R 0 10 n + 2 * k := by rw [h.1.g_W hn]
  exact P2.eq (c1_local_n _ _ _) (r_mine_n _ h8 _) ⟨h.1.gw hn e, w16_rGw _ _ _, h.1.tw hn e, h.2.uw _ _⟩
theorem p_setLocal {X : xS → xS → Prop} {N : xN} {R0 S R : xS} (h : RP X N R0 S R) {n : Nat} (hn : inN n N) (k : Int32) {v w : Int32} (e2 : v = w) : P2 (c1_setLocal n S k v) (r_mineTo R (nI n) k w) (RP X N R0) := by
  have h8 := h.1.le8 hn
  have e : xI S n 4 5 + 2 * k = xI R 0 10 n + 2 * k := by rw [h.1.g_W hn]
  exact P2.eq (c1_setLocal_n _ _ _ _) (r_mineTo_n _ h8 _ _) ⟨h.1.pw hn e e2, h.2.pw _ _ _⟩
theorem p_ch_end {X : xS → xS → Prop} {N : xN} {S R : xS} (h : REL E0 X N S R) {n : Nat} (hn : inN n N) {t : Int32} (ht : t &&& 65535 = t) : P2 (xnm (sI S n 4 0 t) (fun S2 => xnm (sI S2 n 4 1 (xI S2 n 4 2)) (fun S3 => some S3))) (r_chooses_b51 (nI n) t (nI n) R) (Q1 E0 X N) := by
  have h8 := h.le8 hn
  unfold r_chooses_b51
  simp only [gI h8, cl8 h8]
  have h1 := h.s_A hn (v := t) rfl ht
  exact P2.ret ⟨rfl, h1.s_B hn (h1.g_C hn (okE0 n).2.2) (h1.w_C hn (okE0 n).2.2)⟩
theorem p_choose {X : xS → xS → Prop} {N : xN} {S R : xS} (h : REL E0 X N S R) {n : Nat} (hn : inN n N) (b : Int32) : P2 (c0_choose n S b) (r_chooses R (nI n) b) (Q1 E0 X N) := by
  have h8 := h.le8 hn
  unfold c0_choose r_chooses c0_choose_b43 r_chooses_b19 r_chooses_b20 r_chooses_b37
  refine P2.ite Iff.rfl (fun _ _ => ?_) (fun _ _ => ?_)
  · rw [if_pos rfl, if_pos rfl]
    exact p_ch_end h hn (by decide)
  · refine P2.bind (p_local ⟨h, FRM.rfl' R⟩ hn 0) (fun o p q => ?_)
    obtain ⟨o1, S1⟩ := o
    obtain ⟨p1, R1⟩ := p
    obtain ⟨e1, e2, h1, f1⟩ := q
    have e1 : o1 = p1 := e1
    subst e1
    refine P2.ite Iff.rfl (fun _ _ => ?_) (fun _ _ => ?_)
    · rw [if_neg n10, gI h8, cl8 h8]
      refine P2.bind (p_setLocal ⟨h1, FRM.rfl' R1⟩ hn 0 (h1.g_A hn (okE0 n).1)) (fun S2 R2 q => ?_)
      rw [if_neg n10]
      exact p_ch_end q.1 hn (by decide)
    · rw [if_pos rfl, if_pos rfl]
      exact p_ch_end h1 hn (by decide)
def rClk (R : xS) (n : Nat) : Int32 := xI R 0 21 ((2 : Int32) * nI n + xI R 0 11 n).toNatClampNeg
theorem FRM.clk {R0 R : xS} (h : FRM R0 R) (n : Nat) : rClk R n = rClk R0 n := by
  unfold rClk
  rw [h 11 n (by decide) (by decide), h 21 _ (by decide) (by decide)]
theorem c1_clock_n {E : Nat → Nat → Prop} {X : xS → xS → Prop} {N : xN} {S R : xS} (h : REL E X N S R) {n : Nat} (hn : inN n N) (hp : xI R 0 11 n = 0 ∨ xI R 0 11 n = 1) : c1_clock n S = some (rClk R n, S) := by
  have h8 := h.le8 hn
  unfold c1_clock c10_clockOf rClk
  rw [h.g_P hn]
  rcases hp with e | e
  · rw [e, if_pos rfl, ix20, Int32.add_zero, clQ0 h8, h.g_c0 hn]
    rfl
  · rw [e, if_neg n10, ix20, ix21, clQ1 h8, h.g_c1 hn]
    rfl
theorem gclk {α : Type} {R : xS} {n : Nat} {k : Option α} (h8 : n < 8) (hp : xI R 0 11 n = 0 ∨ xI R 0 11 n = 1) : gd ((2 : Int32) * nI n + xI R 0 11 n) 16 k = k := by
  rcases hp with e | e
  · rw [e, ix20, Int32.add_zero, gQ0 h8]
  · rw [e, ix20, ix21, gQ1 h8]
theorem isLater_n (a b : Int32) : c11_isLater a b = some (if sg (a - b) ≤ 0 then 0 else 1) := by
  unfold c11_isLater
  rw [c11_signed_n, Option.bind_some]
  by_cases h : sg (a - b) ≤ 0
  · rw [if_pos h, if_pos h]
  · rw [if_neg h, if_neg h]
theorem r_isLater_n (a b : Int32) : r_isLater a b = some (if sg (a - b) ≤ 0 then 0 else 1) := by
  unfold r_isLater
  rw [r_signed_n, Option.bind_some]
  by_cases h : sg (a - b) ≤ 0
  · rw [if_pos h, if_pos h]
  · rw [if_neg h, if_neg h]
theorem p_disTime {X : xS → xS → Prop} {N : xN} {S R : xS} (h : REL E0 X N S R) {n : Nat} (hn : inN n N) : P2 (c0_disableTime n S) (if (xI R 0 6 n) = 0 then (r_chooses R (nI n) (0 : Int32)) else ((r_mine R (nI n) (-4 : Int32)).bind (fun (r_4, S4) => if r_4 = (32769 : Int32) then ((r_mine S4 (nI n) (-5 : Int32)).bind (fun (r_7, S7) => (r_isLater r_7 (xI R 0 7 n)).bind (fun r_8 => if r_8 = 0 then (r_chooses S7 (nI n) (0 : Int32)) else (r_chooses S7 (nI n) (1 : Int32))))) else (r_chooses S4 (nI n) (0 : Int32))))) (Q1 E0 X N) := by
  have h8 := h.le8 hn
  have fin : ∀ {x : Option xS} {y : Option (Int32 × xS)}, P2 x y (Q1 E0 X N) → P2 (x.bind (fun S2 => some S2)) y (Q1 E0 X N) := by
    rintro x y ⟨a, b, rfl, rfl, q⟩
    exact ⟨a, b, rfl, rfl, q⟩
  unfold c0_disableTime
  rw [h.g_B hn (okE0 n).2.1]
  refine P2.ite Iff.rfl (fun _ _ => fin (p_choose h hn 0)) (fun _ _ => ?_)
  refine P2.bind (p_local ⟨h, FRM.rfl' R⟩ hn (-4)) (fun o p q => ?_)
  obtain ⟨o1, S1⟩ := o
  obtain ⟨p1, R1⟩ := p
  obtain ⟨e1, e2, h1, f1⟩ := q
  have e1 : o1 = p1 := e1
  subst e1
  refine P2.ite Iff.rfl (fun _ _ => ?_) (fun _ _ => fin (p_choose h1 hn 0))
  refine P2.bind (p_local ⟨h1, f1⟩ hn (-5)) (fun o p q => ?_)
  obtain ⟨o2, S2⟩ := o
  obtain ⟨p2, R2⟩ := p
  obtain ⟨e3, e4, h2, f2⟩ := q
  have e3 : o2 = p2 := e3
  subst e3
  have h2 : REL E0 X N S2 R2 := h2
  refine P2.l (isLater_n _ _) (P2.r (r_isLater_n _ _) ?_)
  rw [h2.g_C hn (okE0 n).2.2, f2 7 n (by decide) (by decide)]
  exact P2.ite Iff.rfl (fun _ _ => fin (p_choose h2 hn 0)) (fun _ _ => fin (p_choose h2 hn 1))
theorem p_enTime {X : xS → xS → Prop} {N : xN} {S R : xS} (h : REL E0 X N S R) {n : Nat} (hn : inN n N) : P2 (c0_enableTime n S) (if (xI R 0 5 n) = 0 then (xnm (sI R 0 6 n (xI R 0 7 n)) (fun S32 => some ((1 : Int32), S32))) else ((r_mine R (nI n) (-4 : Int32)).bind (fun (r_33, S33) => if r_33 = (32770 : Int32) then ((r_mineTo S33 (nI n) (-4 : Int32) (32769 : Int32)).bind (fun S41 => (r_mineTo S41 (nI n) (-5 : Int32) (xI R 0 6 n)).bind (fun S42 => (xnm (sI S42 0 6 n (xI R 0 7 n)) (fun S43 => some ((1 : Int32), S43)))))) else ((r_mine S33 (nI n) (-5 : Int32)).bind (fun (r_35, S35) => (r_isLater r_35 (xI R 0 6 n)).bind (fun r_36 => if r_36 = 0 then (xnm (sI S35 0 6 n (xI R 0 7 n)) (fun S38 => some ((1 : Int32), S38))) else ((r_mineTo S35 (nI n) (-5 : Int32) (xI R 0 6 n)).bind (fun S39 => (xnm (sI S39 0 6 n (xI R 0 7 n)) (fun S40 => some ((1 : Int32), S40)))))))))) ) (Q1 E0 X N) := by
  have h8 := h.le8 hn
  have fin : ∀ {S1 R1 : xS}, RP X N R S1 R1 → P2 (xnm (sI S1 n 4 1 (xI S1 n 4 2)) (fun S2 => some S2)) (xnm (sI R1 0 6 n (xI R 0 7 n)) (fun S32 => some ((1 : Int32), S32))) (Q1 E0 X N) := by
    intro S1 R1 q
    refine P2.ret ⟨rfl, q.1.s_B hn ?_ (h.w_C hn (okE0 n).2.2)⟩
    rw [q.1.g_C hn (okE0 n).2.2, q.2 7 n (by decide) (by decide)]
  unfold c0_enableTime
  rw [h.g_A hn (okE0 n).1]
  refine P2.ite Iff.rfl (fun _ _ => fin ⟨h, FRM.rfl' R⟩) (fun _ _ => ?_)
  refine P2.bind (p_local ⟨h, FRM.rfl' R⟩ hn (-4)) (fun o p q => ?_)
  obtain ⟨o1, S1⟩ := o
  obtain ⟨p1, R1⟩ := p
  obtain ⟨e1, e2, h1, f1⟩ := q
  have e1 : o1 = p1 := e1
  subst e1
  refine P2.ite Iff.rfl (fun _ _ => ?_) (fun _ _ => ?_)
  · refine P2.bind (p_setLocal ⟨h1, f1⟩ hn (-4) rfl) (fun S2 R2 q2 => ?_)
    refine P2.bind (p_setLocal q2 hn (-5) ?_) (fun S3 R3 q3 => fin q3)
    rw [q2.1.g_B hn (okE0 n).2.1, q2.2 6 n (by decide) (by decide)]
  · refine P2.bind (p_local ⟨h1, f1⟩ hn (-5)) (fun o p q => ?_)
    obtain ⟨o2, S2⟩ := o
    obtain ⟨p2, R2⟩ := p
    obtain ⟨e3, e4, h2, f2⟩ := q
    have e3 : o2 = p2 := e3
    subst e3
    have h2 : REL E0 X N S2 R2 := h2
    refine P2.l (isLater_n _ _) (P2.r (r_isLater_n _ _) ?_)
    have eb : xI S2 n 4 1 = xI R 0 6 n := by rw [h2.g_B hn (okE0 n).2.1, f2 6 n (by decide) (by decide)]
    rw [eb]
    refine P2.ite Iff.rfl (fun _ _ => fin ⟨h2, f2⟩) (fun _ _ => ?_)
    exact P2.bind (p_setLocal ⟨h2, f2⟩ hn (-5) rfl) (fun S3 R3 q3 => fin q3)
theorem p_waitGuard {X : xS → xS → Prop} {N : xN} {S R : xS} (h : REL E0 X N S R) {n : Nat} (hn : inN n N) : P2 (c0_waitForGuard n S) ((r_mineTo R (nI n) (0 : Int32) (65535 : Int32)).bind (fun S24 => (r_mine S24 (nI n) (-3 : Int32)).bind (fun (r_25, S25) => if r_25 = (32771 : Int32) then (some ((1 : Int32), S25)) else ((r_mineTo S25 (nI n) (-3 : Int32) (32770 : Int32)).bind (fun S27 => (r_waits S27 (nI n)).bind (fun S28 => some ((1 : Int32), S28))))))) (Q1 E0 X N) := by
  have h8 := h.le8 hn
  unfold c0_waitForGuard
  refine P2.bind (p_setLocal ⟨h, FRM.rfl' R⟩ hn 0 rfl) (fun S1 R1 q1 => ?_)
  refine P2.bind (p_local q1 hn (-3)) (fun o p q => ?_)
  obtain ⟨o1, S2⟩ := o
  obtain ⟨p1, R2⟩ := p
  obtain ⟨e1, e2, q2⟩ := q
  have e1 : o1 = p1 := e1
  subst e1
  refine P2.ite Iff.rfl (fun _ _ => P2.ret ⟨rfl, q2.1⟩) (fun _ _ => ?_)
  refine P2.bind (p_setLocal q2 hn (-3) rfl) (fun S3 R3 q3 => ?_)
  exact P2.l (c1_leaveWaiting_n _ _) (P2.r (r_waits_n _ h8) (P2.ret ⟨rfl, q3.1.waits hn⟩))
