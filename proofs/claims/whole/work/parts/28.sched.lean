/-! queues and waiting, on both sides -/
theorem w16 (v : Int32) : v &&& 65535 &&& 65535 = v &&& 65535 := by
  rw [Int32.and_assoc, show (65535 : Int32) &&& 65535 = 65535 from by decide]
theorem w14 (v : Int32) : v &&& 65534 &&& 65534 = v &&& 65534 := by
  rw [Int32.and_assoc, show (65534 : Int32) &&& 65534 = 65534 from by decide]
def cWaits (S : xS) (n : Nat) : xS := sI (cPw S n (xI S n 4 5 - 2) (xI S n 4 4)) n 4 6 2
def rWaits (R : xS) (n : Nat) : xS := sI (rPw R n (xI R 0 10 n - 2) (xI R 0 9 n)) 0 11 n 2
theorem c1_leaveWaiting_n (n : Nat) (S : xS) : c1_leaveWaiting n S = some (cWaits S n) := by
  unfold c1_leaveWaiting
  rw [c5_setWord_n]
  rfl
theorem r_waits_n (R : xS) {n : Nat} (hn : n < 8) : r_waits R (nI n) = some (rWaits R n) := by
  unfold r_waits
  simp only [gd_nI hn (by decide), nI_clamp (show n < 2 ^ 31 by omega), r_wordTo_n _ hn, Option.bind_some]
  rfl
theorem REL.waits {E : Nat → Nat → Prop} {X : xS → xS → Prop} {N : xN} {S R : xS} (h : REL E X N S R) {n : Nat} (hn : inN n N) : REL E X N (cWaits S n) (rWaits R n) := (h.pw hn (by rw [h.g_W hn]) (h.g_I hn)).s_P hn rfl (Or.inr (Or.inr rfl))
def cRdy1 (S : xS) (n j : Nat) (x : Int32) : xS := if xI S n j 0 = 32768 then sI (sI S n j 0 x) n j 1 x else sI (cPw S n (xI S n j 1 - 4) x) n j 1 x
def cRdy (S : xS) (n : Nat) (d : Int32) : xS := if d &&& 1 = 0 then cRdy1 S n 6 (d &&& 65534) else cRdy1 S n 7 (d &&& 65534)
def rRdy1 (R : xS) (n q : Nat) (x : Int32) : xS := if xI R 0 19 q = 32768 then sI (sI R 0 19 q x) 0 20 q x else sI (rPw R n (xI R 0 20 q - 4) x) 0 20 q x
def rRdy (R : xS) (n : Nat) (d : Int32) : xS := if d &&& 1 = 0 then rRdy1 R n (2 * n) (d &&& 65534) else rRdy1 R n (2 * n + 1) (d &&& 65534)
theorem c1_makeReady_n (n : Nat) (S : xS) (d : Int32) : c1_makeReady n S d = some (cRdy S n d) := by
  unfold c1_makeReady c1_makeReady_b17 c1_makeReady_b17x1 c8_isEmpty cRdy cRdy1
  by_cases h : d &&& 1 = 0
  · rw [if_pos h, if_pos h]
    by_cases h2 : xI S n 6 0 = 32768
    · rw [if_pos h2, if_pos h2]; rfl
    · rw [if_neg h2, if_neg h2]
      show ((c5_setWord n 2 S (xI S n 6 1 - 4) (d &&& 65534)).bind _) = _
      rw [c5_setWord_n]; rfl
  · rw [if_neg h, if_neg h]
    by_cases h2 : xI S n 7 0 = 32768
    · rw [if_pos h2, if_pos h2]; rfl
    · rw [if_neg h2, if_neg h2]
      show ((c5_setWord n 2 S (xI S n 7 1 - 4) (d &&& 65534)).bind _) = _
      rw [c5_setWord_n]; rfl
theorem i_1 (d : Int32) : d &&& (1 : Int32) = nI (d.toBitVec.toNat % 2) := pk_and d 1 (by decide)
theorem q_ix {n : Nat} (d : Int32) : (2 : Int32) * nI n + (d &&& 1) = nI (2 * n + d.toBitVec.toNat % 2) := by
  rw [i_1, show (2 : Int32) = nI 2 from rfl, pk_mul, nI_add]
theorem r_ready_n (R : xS) {n : Nat} (hn : n < 8) (d : Int32) : r_ready R (nI n) d = some (rRdy R n d) := by
  have hq : 2 * n + d.toBitVec.toNat % 2 < 16 := by omega
  unfold r_ready rRdy rRdy1
  rw [q_ix]
  simp only [gd_nI hq (by decide), nI_clamp (show 2 * n + d.toBitVec.toNat % 2 < 2 ^ 31 by omega), r_wordTo_n _ hn, Option.bind_some, xnm]
  rw [i_1]
  rcases (show d.toBitVec.toNat % 2 = 0 ∨ d.toBitVec.toNat % 2 = 1 by omega) with e | e
  · rw [e, if_pos (show nI 0 = 0 from rfl), Nat.add_zero]
    by_cases h2 : xI R 0 19 (2 * n) = 32768
    · rw [if_pos h2, if_pos h2]
    · rw [if_neg h2, if_neg h2]
  · rw [e, if_neg (show ¬ nI 1 = 0 by decide)]
    by_cases h2 : xI R 0 19 (2 * n + 1) = 32768
    · rw [if_pos h2, if_pos h2]
    · rw [if_neg h2, if_neg h2]
theorem REL.rdy {E : Nat → Nat → Prop} {X : xS → xS → Prop} {N : xN} {S R : xS} (h : REL E X N S R) {n : Nat} (hn : inN n N) {d d' : Int32} (e : d = d') : REL E X N (cRdy S n d) (rRdy R n d') := by
  subst e
  unfold cRdy rRdy cRdy1 rRdy1
  by_cases h1 : d &&& 1 = 0
  · rw [if_pos h1, if_pos h1, h.g_f0 hn]
    by_cases h2 : xI R 0 19 (2 * n) = 32768
    · rw [if_pos h2, if_pos h2]; exact (h.s_f0 hn rfl).s_b0 hn rfl
    · rw [if_neg h2, if_neg h2]; exact (h.pw hn (by rw [h.g_b0 hn]) rfl).s_b0 hn rfl
  · rw [if_neg h1, if_neg h1, h.g_f1 hn]
    by_cases h2 : xI R 0 19 (2 * n + 1) = 32768
    · rw [if_pos h2, if_pos h2]; exact (h.s_f1 hn rfl).s_b1 hn rfl
    · rw [if_neg h2, if_neg h2]; exact (h.pw hn (by rw [h.g_b1 hn]) rfl).s_b1 hn rfl
