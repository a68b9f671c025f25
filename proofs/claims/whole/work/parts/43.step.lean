/-! a step of the processor -/
theorem xI_ne (S : xS) {n j k : Nat} (v : Int32) {a b c : Nat} (h : ¬ (a = n ∧ b = j ∧ c = k)) : xI (sI S n j k v) a b c = xI S a b c := by rw [xI_sI, if_neg h]
theorem xI_eq (S : xS) (n j k : Nat) (v : Int32) : xI (sI S n j k v) n j k = v := by rw [xI_sI, if_pos ⟨rfl, rfl, rfl⟩]
theorem sI_sort (S : xS) {n j k j' k' : Nat} (v w : Int32) (h : j' < j) : sI (sI S n j k v) n j' k' w = sI (sI S n j' k' w) n j k v := sI_comm S v w (by omega)
theorem cStop_sI (S : xS) {n j k : Nat} (v w : Int32) (h : j ≠ 1) : cStop (sI S n j k v) n w = sI (cStop S n w) n j k v := by
  unfold cStop
  rw [xI_ne _ _ (by omega)]
  by_cases e : xI S n 1 8 = 0
  · rw [if_pos e, if_pos e, sI_comm _ _ _ (by omega)]
  · rw [if_neg e, if_neg e]
theorem rStop_sI (R : xS) {n j k : Nat} (v w : Int32) (h : j ≠ 13) : rStop (sI R 0 j k v) n w = sI (rStop R n w) 0 j k v := by
  unfold rStop
  rw [xI_ne _ _ (by omega)]
  by_cases e : xI R 0 13 n = 0
  · rw [if_pos e, if_pos e, sI_comm _ _ _ (by omega)]
  · rw [if_neg e, if_neg e]
/-- what the class does where it went beyond its memory -/
def cBey (S : xS) (n : Nat) : xS := if xI S n 2 1 = 0 then S else cStop S n 2
def rBey (R : xS) (n : Nat) : xS := if xI R 0 18 n = 0 then sI R 0 18 n 0 else sI (rStop R n 2) 0 18 n 0
theorem c1_stopIfBeyond_n (n : Nat) (S : xS) : c1_stopIfBeyond n S = some (cBey S n) := by
  unfold c1_stopIfBeyond cBey
  by_cases e : xI S n 2 1 = 0
  · rw [if_pos e, if_pos e]
  · rw [if_neg e, if_neg e, c1_stopWith_n]
    rfl
/-- the reference alone forgets, where the node has stopped -/
theorem REL.r_bey {E : Nat → Nat → Prop} {X : xS → xS → Prop} {N : xN} {S R : xS} (h : REL E X N S R) {n : Nat} (hn : inN n N) (b : xI S n 2 1 = 1) (o : xI R 0 13 n ≠ 0) : REL E X N S (sI R 0 18 n 0) := by
  obtain ⟨h0, h1, h2, h3⟩ := h
  have h4 := h1.t_bey hn (v := xI S n 2 1) (w := 0) ⟨Or.inr b, Or.inl rfl, fun _ => rfl⟩ (fun _ => Or.inr o)
  rw [sI_id] at h4
  exact ⟨h0, h4, h2.rI 18 _ 0 (by decide), by rw [vR_sI (by decide)]; exact h3⟩
theorem REL.bey {E : Nat → Nat → Prop} {X : xS → xS → Prop} {N : xN} {S R : xS} (h : REL E X N S R) {n : Nat} (hn : inN n N) : REL E X N (cBey S n) (rBey R n) := by
  unfold cBey rBey
  rcases h.k_bey hn with ⟨a, b⟩ | ⟨a, b⟩ | ⟨a, b, o⟩
  · rw [if_pos a, if_pos b]
    have := sI_id R 0 18 n
    rw [b] at this
    rw [this]
    exact h
  · rw [if_neg (by rw [a]; decide), if_neg (by rw [b]; decide)]
    refine (h.stop hn 2).r_bey hn ?_ ?_
    · unfold cStop
      by_cases e : xI S n 1 8 = 0
      · rw [if_pos e, xI_ne _ _ (by omega)]; exact a
      · rw [if_neg e]; exact a
    · unfold rStop
      by_cases e : xI R 0 13 n = 0
      · rw [if_pos e, xI_eq]; decide
      · rw [if_neg e]; exact e
  · rw [if_neg (by rw [a]; decide), if_pos b]
    have h1 : cStop S n 2 = S := by
      unfold cStop
      rw [if_neg (by rw [h.g_out hn]; exact o)]
    have := sI_id R 0 18 n
    rw [b] at this
    rw [this, h1]
    exact h
theorem REL.c_bey {E : Nat → Nat → Prop} {X : xS → xS → Prop} {N : xN} {S R : xS} (h : REL E X N S R) {n : Nat} (hn : inN n N) : c1_stopIfBeyond n S = some (cBey S n) := c1_stopIfBeyond_n n S
theorem r_step_b188_n (R : xS) {n : Nat} (hn : n < 8) (v : Int32) : r_step_b188 (nI n) v R = (if xI (rBey R n) 0 16 n = 0 then some (rBey R n) else if v = 0 then (if xI (rBey R n) 0 17 n = 0 then some (rBey R n) else some (rStop (rBey R n) n 6)) else some (rBey R n)) := by
  unfold r_step_b188 r_step_b203 rBey
  simp only [gI hn, cl8 hn, xnm, nar0, r_stop_n _ hn, Option.bind_some]
  by_cases e : xI R 0 18 n = 0
  · rw [if_pos e, if_pos e]
  · rw [if_neg e, if_neg e]
theorem p_end {X : xS → xS → Prop} {N : xN} {S R : xS} (h : REL E0 X N S R) {n : Nat} (hn : inN n N) (v : Int32) : P2 (c7_execute_b149 n v S) (r_step_b188 (nI n) v R) (REL E0 X N) := by
  have h8 := h.le8 hn
  rw [r_step_b188_n R h8]
  unfold c7_execute_b149
  refine P2.l (h.c_bey hn) ?_
  have h1 := h.bey hn
  revert h1
  generalize cBey S n = S1
  generalize rBey R n = R1
  intro h1
  refine P2.ite (by rw [h1.g_err hn]) (fun _ _ => P2.ret h1) (fun _ _ => ?_)
  refine P2.ite Iff.rfl (fun _ _ => ?_) (fun _ _ => P2.ret h1)
  refine P2.ite (by rw [h1.g_halt hn]) (fun _ _ => P2.ret h1) (fun _ _ => ?_)
  refine P2.l (c1_stopWith_n _ _ _) (P2.ret (h1.stop hn 6))
theorem r_direct_2 (R : xS) (a x : Int32) : r_direct R a 2 x = some R := by
  unfold r_direct
  iterate 13 (rw [if_neg (by decide)])
theorem r_direct_6 (R : xS) (a x : Int32) : r_direct R a 6 x = some R := by
  unfold r_direct
  iterate 13 (rw [if_neg (by decide)])
theorem c7_low_2 (n : Nat) (S : xS) : c7_doLowFunction n S 2 = some (sI S n 4 3 ((xI S n 4 3 <<< ((4 : Int32) &&& 31)) &&& (65535 : Int32))) := by
  unfold c7_doLowFunction
  simp only [xnm]
  rw [if_neg (by decide), if_neg (by decide), if_pos trivial, sI_idem]
theorem c7_low_6 (n : Nat) (S : xS) : c7_doLowFunction n S 6 = some (sI S n 4 3 ((((65535 : Int32) - xI S n 4 3) <<< ((4 : Int32) &&& 31)) &&& (65535 : Int32))) := by
  unfold c7_doLowFunction
  simp only [xnm]
  rw [if_neg (by decide), if_neg (by decide), if_neg (by decide), if_neg (by decide), if_neg (by decide), if_neg (by decide), if_pos trivial, sI_idem]
theorem REL.unO {X : xS → xS → Prop} {N : xN} {n : Nat} {S R : xS} (hn : inN n N) (q : Qd X N n S R) : REL E0 X N S (sI R 0 8 n 0) := by
  have h := q.1.f_O (E' := E0) hn (fun m k _ z => Or.inr z) (v := 0) rfl
  rw [← q.2, sI_id] at h
  rw [q.2] at h
  exact h
/-- what the operations keep -/
def Qp (X : xS → xS → Prop) (N : xN) (o p : Int32 × xS) : Prop := (o.1 = 0 ∨ o.1 = 1) ∧ o.1 = p.1 ∧ REL E0 X N o.2 p.2
def opsOk (X Y : xS → xS → Prop) (N : xN) (n : Nat) : Prop := ∀ (S R : xS) (op : Int32), REL E0 X N S R → (xI R 0 11 n = 0 ∨ xI R 0 11 n = 1) → P2 (c7_isOperationDone n S op) (r_operates R (nI n) op) (Qp Y N)
/-- what the rest may become -/
def subX (X Y : xS → xS → Prop) (N : xN) : Prop := ∀ S R, REL E0 X N S R → REL E0 Y N S R
theorem p_disp_o {X : xS → xS → Prop} {N : xN} {S R : xS} (h : REL E0 X N S R) {n : Nat} (hn : inN n N) (v t : Int32) : P2 ((some (sI S n 4 3 t)).bind (fun S18 => c7_execute_b149 n v S18)) (r_step_b187 (nI n) v t (nI n) R) (REL E0 X N) := by
  have h8 := h.le8 hn
  unfold r_step_b187
  rw [gI h8, cl8 h8]
  exact p_end (h.s_O hn rfl) hn v
