/-! CHECKED results, and what two operands give -/
theorem sg_self (a : Int32) : a = sg a ↔ ¬ a < (-32768 : Int32) ∧ a ≤ (32767 : Int32) := by
  have h := sg_int a
  have hc := toInt_cases a
  have hA := adr_lt a
  have hn : a.toBitVec.toNat < 4294967296 := a.toBitVec.isLt
  have e1 : (-32768 : Int32).toInt = -32768 := by decide
  have e2 : (32767 : Int32).toInt = 32767 := by decide
  have hb : -2147483648 ≤ a.toInt ∧ a.toInt < 2147483648 := ⟨Int32.le_toInt a, Int32.toInt_lt a⟩
  rw [Int32.lt_iff_toInt_lt, Int32.le_iff_toInt_le, e1, e2]
  constructor
  · intro e
    have e3 : a.toInt = (sg a).toInt := by rw [← e]
    unfold sg at e3
    rw [h] at e3
    unfold adr at e3 hA
    omega
  · intro ⟨h1, h2⟩
    apply Int32.toInt_inj.mp
    unfold sg
    rw [h]
    unfold adr
    omega
def cChk (S : xS) (n : Nat) (v : Int32) : xS := if v = sg v then S else sI S n 1 6 1
def rChk (R : xS) (n : Nat) (v : Int32) : xS := if v = sg v then R else sI R 0 16 n 1
theorem c7_checked_n (n : Nat) (S : xS) (v : Int32) : c7_checked n S v = some (v &&& 65535, cChk S n v) := by
  unfold c7_checked cChk
  rw [c11_signed_n, Option.bind_some]
  by_cases h : v = sg v
  · rw [if_pos h, if_pos h]
  · rw [if_neg h, if_neg h]; rfl
theorem r_checked_n (R : xS) {n : Nat} (hn : n < 8) (v : Int32) : r_checked R (nI n) v = some (v &&& 65535, rChk R n v) := by
  unfold r_checked r_checked_b14 rChk
  simp only [gI hn, cl8 hn]
  by_cases h : v = sg v
  · rw [if_neg ((sg_self v).mp h).1, if_pos ((sg_self v).mp h).2, if_pos h]
  · rw [if_neg h]
    by_cases h1 : v < -32768
    · rw [if_pos h1]; rfl
    · rw [if_neg h1, if_neg (fun z => h ((sg_self v).mpr ⟨h1, z⟩))]; rfl
theorem REL.chk {E : Nat → Nat → Prop} {X : xS → xS → Prop} {N : xN} {S R : xS} (h : REL E X N S R) {n : Nat} (hn : inN n N) {v v' : Int32} (e : v = v') : REL E X N (cChk S n v) (rChk R n v') := by
  subst e
  unfold cChk rChk
  by_cases e : v = sg v
  · rw [if_pos e, if_pos e]; exact h
  · rw [if_neg e, if_neg e]; exact h.s_err hn rfl (Or.inr rfl)
def cTwo (S : xS) (n : Nat) (v : Int32) : xS := (fun S1 => sI S1 n 4 1 (xI S1 n 4 2)) (sI S n 4 0 (v &&& 65535))
def rTwo (R : xS) (n : Nat) (v : Int32) : xS := (fun R1 => sI R1 0 6 n (xI R1 0 7 n)) (sI R 0 5 n (v &&& 65535))
theorem c9_replaceTwo_n (n : Nat) (S : xS) (v : Int32) : c9_replaceTwo n 4 S v = some (cTwo S n v) := rfl
theorem r_gives_n (R : xS) {n : Nat} (hn : n < 8) (v : Int32) : r_gives R (nI n) v = some (1, rTwo R n v) := by
  unfold r_gives rTwo
  simp only [gI hn, cl8 hn, xnm]
theorem REL.two {E : Nat → Nat → Prop} {X : xS → xS → Prop} {N : xN} {S R : xS} (h : REL E X N S R) {n : Nat} (hn : inN n N) (ok : okE E n) {v v' : Int32} (e : v &&& 65535 = v' &&& 65535) : REL E X N (cTwo S n v) (rTwo R n v') := by
  have h1 := h.s_A hn e (w16 v')
  exact h1.s_B hn (h1.g_C hn ok.2.2) (h1.w_C hn ok.2.2)
