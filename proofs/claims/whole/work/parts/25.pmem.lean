/-! reading and writing memory on both sides -/
abbrev inM (A : Nat) : Prop := 32768 ≤ A ∧ A < 36864
def RM (N : Nat) (S R : xS) : Prop := ∀ n, n < N → ∀ x, x < 4096 → cB S n 3 x = rB R n x
-- the class
def cGb (S : xS) (n : Nat) (a : Int32) : Int32 := if inM (adr a) then nI (cB S n 3 (adr a - 32768)) else 0
def cGw (S : xS) (n : Nat) (a : Int32) : Int32 := if inM (adw a) then nI (cB S n 3 (adw a - 32768) + 256 * cB S n 3 (adw a - 32768 + 1)) else 0
def cTb (S : xS) (n : Nat) (a : Int32) : xS := if inM (adr a) then S else sI S n 2 1 1
def cTw (S : xS) (n : Nat) (a : Int32) : xS := if inM (adw a) then S else sI S n 2 1 1
def cPb (S : xS) (n : Nat) (a v : Int32) : xS := if inM (adr a) then cSB S n 3 (adr a - 32768) v else sI S n 2 1 1
def cPw (S : xS) (n : Nat) (a v : Int32) : xS := if inM (adw a) then cSW S n 3 (adw a - 32768) v else sI S n 2 1 1
theorem c5_byteAt_n (n : Nat) (S : xS) (a : Int32) : c5_byteAt n 2 S a = some (cGb S n a, cTb S n a) := by
  rw [c5_byteAt_eq]; unfold cGb cTb; by_cases h : inM (adr a)
  · rw [if_pos h, if_pos h, if_pos h]
  · rw [if_neg h, if_neg h, if_neg h]
theorem c5_wordAt_n (n : Nat) (S : xS) (a : Int32) : c5_wordAt n 2 S a = some (cGw S n a, cTw S n a) := by
  rw [c5_wordAt_eq]; unfold cGw cTw; by_cases h : inM (adw a)
  · rw [if_pos h, if_pos h, if_pos h]
  · rw [if_neg h, if_neg h, if_neg h]
theorem c5_setByte_n (n : Nat) (S : xS) (a v : Int32) : c5_setByte n 2 S a v = some (cPb S n a v) := by
  rw [c5_setByte_eq]; rfl
theorem c5_setWord_n (n : Nat) (S : xS) (a v : Int32) : c5_setWord n 2 S a v = some (cPw S n a v) := by
  rw [c5_setWord_eq]; rfl
-- the reference
def rGb (R : xS) (n : Nat) (a : Int32) : Int32 := if inM (adr a) then nI (rB R n (adr a - 32768)) else 0
def rGw (R : xS) (n : Nat) (a : Int32) : Int32 := if inM (adw a) then nI (rB R n (adw a - 32768) + 256 * rB R n (adw a - 32768 + 1)) else 0
def rUb (R : xS) (n : Nat) (a : Int32) : xS := if inM (adr a) then R else sI R 0 18 n 1
def rUw (R : xS) (n : Nat) (a : Int32) : xS := if inM (adw a) then R else sI R 0 18 n 1
def rPb (R : xS) (n : Nat) (a v : Int32) : xS := if inM (adr a) then rSB R n (adr a - 32768) v else sI R 0 18 n 1
def rPw (R : xS) (n : Nat) (a v : Int32) : xS := if inM (adw a) then rSB (rSB R n (adw a - 32768) v) n (adw a - 32768 + 1) (v >>> ((8 : Int32) &&& 31)) else sI R 0 18 n 1
theorem r_byteAt_n (R : xS) {n : Nat} (hn : n < 8) (a : Int32) : r_byteAt R (nI n) a = some (rGb R n a, rUb R n a) := by
  rw [r_byteAt_eq R hn]; unfold rGb rUb; by_cases h : inM (adr a)
  · rw [if_pos h, if_pos h, if_pos h]
  · rw [if_neg h, if_neg h, if_neg h]
theorem r_word_n (R : xS) {n : Nat} (hn : n < 8) (a : Int32) : r_word R (nI n) a = some (rGw R n a, rUw R n a) := by
  rw [r_word_eq R hn]; unfold rGw rUw; by_cases h : inM (adw a)
  · rw [if_pos h, if_pos h, if_pos h]
  · rw [if_neg h, if_neg h, if_neg h]
theorem r_byteTo_n (R : xS) {n : Nat} (hn : n < 8) (a v : Int32) : r_byteTo R (nI n) a v = some (rPb R n a v) := by
  rw [r_byteTo_eq R hn]; rfl
theorem r_wordTo_n (R : xS) {n : Nat} (hn : n < 8) (a v : Int32) : r_wordTo R (nI n) a v = some (rPw R n a v) := by
  rw [r_wordTo_eq R hn]; rfl
-- alike
theorem gb_eq {N : Nat} {S R : xS} (h : RM N S R) {n : Nat} (hn : n < N) (a : Int32) : cGb S n a = rGb R n a := by
  unfold cGb rGb
  by_cases e : inM (adr a)
  · rw [if_pos e, if_pos e, h n hn _ (by omega)]
  · rw [if_neg e, if_neg e]
theorem gw_eq {N : Nat} {S R : xS} (h : RM N S R) {n : Nat} (hn : n < N) (a : Int32) : cGw S n a = rGw R n a := by
  unfold cGw rGw
  by_cases e : inM (adw a)
  · have h2 : adw a % 2 = 0 := by unfold adw; omega
    rw [if_pos e, if_pos e, h n hn _ (by omega), h n hn _ (by omega)]
  · rw [if_neg e, if_neg e]
theorem RM.cI {N : Nat} {S R : xS} (h : RM N S R) (n j k : Nat) (v : Int32) : RM N (sI S n j k v) R := h
theorem RM.rI {N : Nat} {S R : xS} (h : RM N S R) (j k : Nat) (v : Int32) (hj : j ≠ 4) : RM N S (sI R 0 j k v) := fun n hn x hx => by rw [rB_sI _ _ _ _ hj]; exact h n hn x hx
theorem RS.cSB {N : xN} {E : Nat → Nat → Prop} {S R : xS} (h : RS N E S R) (n j o : Nat) (v : Int32) : RS N E (cSB S n j o v) R := h
theorem RS.cSW {N : xN} {E : Nat → Nat → Prop} {S R : xS} (h : RS N E S R) (n j o : Nat) (v : Int32) : RS N E (cSW S n j o v) R := h
theorem RS.rSB {N : xN} {E : Nat → Nat → Prop} {S R : xS} (h : RS N E S R) (n o : Nat) (v : Int32) : RS N E S (rSB R n o v) := h.ref (by decide) _
theorem RM.pb {N : Nat} {S R : xS} (h : RM N S R) (n o : Nat) (v : Int32) (ho : o < 4096) : RM N (cSB S n 3 o v) (rSB R n o v) := by
  intro n' hn' x hx
  rw [cB_cSB, rB_rSB _ _ _ _ ho _ _ hx]
  by_cases e : n' = n ∧ x = o
  · rw [if_pos ⟨e.1, rfl, e.2⟩, if_pos e]
  · rw [if_neg (fun z => e ⟨z.1, z.2.2⟩), if_neg e, h n' hn' x hx]
theorem RM.pw {N : Nat} {S R : xS} (h : RM N S R) (n o : Nat) (v : Int32) (ho : o + 1 < 4096) (h2 : o % 2 = 0) : RM N (cSW S n 3 o v) (rSB (rSB R n o v) n (o + 1) (v >>> ((8 : Int32) &&& 31))) := by
  intro n' hn' x hx
  rw [cB_cSW _ _ _ _ _ h2, rB_rSB _ _ _ _ ho _ _ hx, rB_rSB _ _ _ _ (by omega) _ _ hx, shr8_byte]
  by_cases e : n' = n ∧ x = o
  · rw [if_pos ⟨e.1, rfl, e.2⟩, if_neg (by omega), if_pos e]
  · by_cases e2 : n' = n ∧ x = o + 1
    · rw [if_neg (fun z => e ⟨z.1, z.2.2⟩), if_pos ⟨e2.1, rfl, e2.2⟩, if_pos e2]
    · rw [if_neg (fun z => e ⟨z.1, z.2.2⟩), if_neg (fun z => e2 ⟨z.1, z.2.2⟩), if_neg e2, if_neg e, h n' hn' x hx]
