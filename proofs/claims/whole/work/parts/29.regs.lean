/-! registers, stops, slices, on both sides -/
theorem gI {α : Type} {n : Nat} {k : Option α} (hn : n < 8) : gd (nI n) 8 k = k := gd_nI hn (by decide)
theorem cl8 {n : Nat} (hn : n < 8) : (nI n).toNatClampNeg = n := nI_clamp (by omega)
def cOwn (S : xS) (n : Nat) : Int32 := xI S n 4 5 ||| (xI S n 4 6 &&& 1)
def rOwn (R : xS) (n : Nat) : Int32 := xI R 0 10 n ||| xI R 0 11 n
theorem c1_own_n (n : Nat) (S : xS) : c1_own n S = some (cOwn S n, S) := rfl
theorem r_own_n (R : xS) {n : Nat} (hn : n < 8) : r_own R (nI n) = some (rOwn R n, R) := by
  unfold r_own rOwn
  simp only [gI hn, cl8 hn]
theorem REL.own {X : xS → xS → Prop} {N : Nat} {S R : xS} (h : REL X N S R) {n : Nat} (hn : n < N) (hp : xI R 0 11 n = 0 ∨ xI R 0 11 n = 1) : cOwn S n = rOwn R n := by
  unfold cOwn rOwn
  rw [h.g_W hn, h.g_P hn]
  rcases hp with e | e <;> rw [e] <;> rfl
def cStop (S : xS) (n : Nat) (w : Int32) : xS := if xI S n 1 8 = 0 then sI S n 1 8 w else S
def rStop (R : xS) (n : Nat) (w : Int32) : xS := if xI R 0 13 n = 0 then sI R 0 13 n w else R
theorem c1_stopWith_n (n : Nat) (S : xS) (w : Int32) : c1_stopWith n S w = some (cStop S n w) := by
  unfold c1_stopWith cStop
  by_cases h : xI S n 1 8 = 0
  · rw [if_pos h, if_pos h]; rfl
  · rw [if_neg h, if_neg h]
theorem r_stop_n (R : xS) {n : Nat} (hn : n < 8) (w : Int32) : r_stop R (nI n) w = some (rStop R n w) := by
  unfold r_stop rStop
  simp only [gI hn, cl8 hn]
  by_cases h : xI R 0 13 n = 0
  · rw [if_pos h, if_pos h]; rfl
  · rw [if_neg h, if_neg h]
theorem REL.stop {X : xS → xS → Prop} {N : Nat} {S R : xS} (h : REL X N S R) {n : Nat} (hn : n < N) (w : Int32) : REL X N (cStop S n w) (rStop R n w) := by
  unfold cStop rStop
  rw [h.g_out hn]
  by_cases e : xI R 0 13 n = 0
  · rw [if_pos e, if_pos e]; exact h.s_out hn rfl
  · rw [if_neg e, if_neg e]; exact h
def cPush (S : xS) (n : Nat) (v : Int32) : xS := (fun S1 => (fun S2 => sI S2 n 4 0 (v &&& 65535)) (sI S1 n 4 1 (xI S1 n 4 0))) (sI S n 4 2 (xI S n 4 1))
def rPush (R : xS) (n : Nat) (v : Int32) : xS := (fun R1 => (fun R2 => sI R2 0 5 n (v &&& 65535)) (sI R1 0 6 n (xI R1 0 5 n))) (sI R 0 7 n (xI R 0 6 n))
theorem c9_push_n (n : Nat) (S : xS) (v : Int32) : c9_push n 4 S v = some (cPush S n v) := rfl
theorem r_push_n (R : xS) {n : Nat} (hn : n < 8) (v : Int32) : r_push R (nI n) v = some (rPush R n v) := by
  unfold r_push rPush
  simp only [gI hn, cl8 hn, xnm]
theorem REL.push {X : xS → xS → Prop} {N : Nat} {S R : xS} (h : REL X N S R) {n : Nat} (hn : n < N) {v v' : Int32} (e : v = v') : REL X N (cPush S n v) (rPush R n v') := by
  subst e
  have h1 := h.s_C hn (h.g_B hn)
  exact (h1.s_B hn (h1.g_A hn)).s_A hn rfl
def cPop (S : xS) (n : Nat) : xS := (fun S1 => sI S1 n 4 1 (xI S1 n 4 2)) (sI S n 4 0 (xI S n 4 1))
def rPop (R : xS) (n : Nat) : xS := (fun R1 => sI R1 0 6 n (xI R1 0 7 n)) (sI R 0 5 n (xI R 0 6 n))
theorem c9_pop_n (n : Nat) (S : xS) : c9_pop n 4 S = some (cPop S n) := rfl
theorem r_pop_n (R : xS) {n : Nat} (hn : n < 8) : r_pop R (nI n) = some (rPop R n) := by
  unfold r_pop rPop
  simp only [gI hn, cl8 hn, xnm]
theorem REL.pop {X : xS → xS → Prop} {N : Nat} {S R : xS} (h : REL X N S R) {n : Nat} (hn : n < N) : REL X N (cPop S n) (rPop R n) := by
  have h1 := h.s_A hn (h.g_B hn)
  exact h1.s_B hn (h1.g_C hn)
def cSliced (S : xS) (n : Nat) : xS := if xI S n 4 6 = 1 then (if xI S n 4 7 < 256 then S else cRdy (cWaits S n) n (cOwn S n)) else S
def rSliced (R : xS) (n : Nat) : xS := if xI R 0 11 n = 1 then (if 256 ≤ xI R 0 12 n then rRdy (rWaits R n) n (xI (rWaits R n) 0 10 n ||| 1) else R) else R
theorem c1_yieldIfSliced_n (n : Nat) (S : xS) : c1_yieldIfSliced n S = some (cSliced S n) := by
  unfold c1_yieldIfSliced cSliced
  by_cases h : xI S n 4 6 = 1
  · rw [if_pos h, if_pos h]
    by_cases h2 : xI S n 4 7 < 256
    · rw [if_pos h2, if_pos h2]
    · rw [if_neg h2, if_neg h2, c1_own_n, Option.bind_some]
      show ((c1_leaveWaiting n S).bind _) = _
      rw [c1_leaveWaiting_n, Option.bind_some, c1_makeReady_n, Option.bind_some]
  · rw [if_neg h, if_neg h]
theorem r_sliced_n (R : xS) {n : Nat} (hn : n < 8) : r_sliced R (nI n) = some (rSliced R n) := by
  unfold r_sliced rSliced
  simp only [gI hn, cl8 hn, r_waits_n _ hn, r_ready_n _ hn, Option.bind_some]
  by_cases h : xI R 0 11 n = 1
  · rw [if_pos h, if_pos h]
    by_cases h2 : 256 ≤ xI R 0 12 n
    · rw [if_pos h2, if_pos h2]
    · rw [if_neg h2, if_neg h2]
  · rw [if_neg h, if_neg h]
