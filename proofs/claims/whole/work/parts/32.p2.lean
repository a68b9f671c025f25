/-! both sides at once -/
def P2 {α β : Type} (x : Option α) (y : Option β) (Q : α → β → Prop) : Prop := ∃ a b, x = some a ∧ y = some b ∧ Q a b
theorem P2.ret {α β : Type} {Q : α → β → Prop} {a : α} {b : β} (h : Q a b) : P2 (some a) (some b) Q := ⟨a, b, rfl, rfl, h⟩
theorem P2.eq {α β : Type} {Q : α → β → Prop} {x : Option α} {y : Option β} {a : α} {b : β} (hx : x = some a) (hy : y = some b) (h : Q a b) : P2 x y Q := ⟨a, b, hx, hy, h⟩
theorem P2.bind {α β γ δ : Type} {Q : α → β → Prop} {x : Option γ} {y : Option δ} {Q' : γ → δ → Prop} {f : γ → Option α} {g : δ → Option β} (h : P2 x y Q') (k : ∀ a b, Q' a b → P2 (f a) (g b) Q) : P2 (x.bind f) (y.bind g) Q := by
  obtain ⟨a, b, rfl, rfl, h⟩ := h
  exact k a b h
theorem P2.l {α β γ : Type} {Q : α → β → Prop} {x : Option γ} {a : γ} {f : γ → Option α} {y : Option β} (hx : x = some a) (k : P2 (f a) y Q) : P2 (x.bind f) y Q := by
  subst hx; exact k
theorem P2.r {α β δ : Type} {Q : α → β → Prop} {x : Option α} {y : Option δ} {b : δ} {g : δ → Option β} (hy : y = some b) (k : P2 x (g b) Q) : P2 x (y.bind g) Q := by
  subst hy; exact k
theorem P2.ite {α β : Type} {Q : α → β → Prop} {c d : Prop} [Decidable c] [Decidable d] {x x' : Option α} {y y' : Option β} (e : c ↔ d) (k1 : c → d → P2 x y Q) (k2 : ¬ c → ¬ d → P2 x' y' Q) : P2 (if c then x else x') (if d then y else y') Q := by
  by_cases hc : c
  · rw [if_pos hc, if_pos (e.mp hc)]; exact k1 hc (e.mp hc)
  · rw [if_neg hc, if_neg (fun z => hc (e.mpr z))]; exact k2 hc (fun z => hc (e.mpr z))
theorem P2.iten {α β : Type} {Q : α → β → Prop} {c d : Prop} [Decidable c] [Decidable d] {x x' : Option α} {y y' : Option β} (e : c ↔ ¬ d) (k1 : c → ¬ d → P2 x y' Q) (k2 : ¬ c → d → P2 x' y Q) : P2 (if c then x else x') (if d then y else y') Q := by
  by_cases hd : d
  · rw [if_pos hd, if_neg (fun z => e.mp z hd)]; exact k2 (fun z => e.mp z hd) hd
  · rw [if_neg hd, if_pos (e.mpr hd)]; exact k1 (e.mpr hd) hd
theorem P2.pl {α β : Type} {Q : α → β → Prop} {c : Prop} [Decidable c] {x x' : Option α} {y : Option β} (hc : c) (k : P2 x y Q) : P2 (if c then x else x') y Q := by rw [if_pos hc]; exact k
theorem P2.nl {α β : Type} {Q : α → β → Prop} {c : Prop} [Decidable c] {x x' : Option α} {y : Option β} (hc : ¬ c) (k : P2 x' y Q) : P2 (if c then x else x') y Q := by rw [if_neg hc]; exact k
theorem P2.pr {α β : Type} {Q : α → β → Prop} {c : Prop} [Decidable c] {x : Option α} {y y' : Option β} (hc : c) (k : P2 x y Q) : P2 x (if c then y else y') Q := by rw [if_pos hc]; exact k
theorem P2.nr {α β : Type} {Q : α → β → Prop} {c : Prop} [Decidable c] {x : Option α} {y y' : Option β} (hc : ¬ c) (k : P2 x y' Q) : P2 x (if c then y else y') Q := by rw [if_neg hc]; exact k
theorem P2.g {α β : Type} {Q : α → β → Prop} {x : Option α} {y : Option β} {n : Nat} (hn : n < 8) (k : P2 x y Q) : P2 x (gd (nI n) 8 y) Q := by rw [gI hn]; exact k
theorem P2.z {α β : Type} {Q : α → β → Prop} {x : Option α} {y : Option β} {v : Int32} (hv : v = 0 ∨ v = 1) (k : P2 x y Q) : P2 x (gz v y) Q := by unfold gz; rw [if_pos hv]; exact k
theorem P2.zl {α β : Type} {Q : α → β → Prop} {x : Option α} {y : Option β} {v : Int32} (hv : v = 0 ∨ v = 1) (k : P2 x y Q) : P2 (gz v x) y Q := by unfold gz; rw [if_pos hv]; exact k
theorem P2.mono {α β : Type} {Q Q' : α → β → Prop} {x : Option α} {y : Option β} (h : P2 x y Q) (k : ∀ a b, Q a b → Q' a b) : P2 x y Q' := by
  obtain ⟨a, b, hx, hy, h⟩ := h
  exact ⟨a, b, hx, hy, k a b h⟩
theorem P2.xl {α β : Type} {Q : α → β → Prop} {S : xS} {f : xS → Option α} {y : Option β} (k : P2 (f S) y Q) : P2 (xnm S f) y Q := k
theorem P2.xr {α β : Type} {Q : α → β → Prop} {R : xS} {x : Option α} {g : xS → Option β} (k : P2 x (g R) Q) : P2 x (xnm R g) Q := k
theorem P2.xx {α β : Type} {Q : α → β → Prop} {S R : xS} {f : xS → Option α} {g : xS → Option β} {K : xS → xS → Prop} (h : K S R) (k : ∀ S1 R1, K S1 R1 → P2 (f S1) (g R1) Q) : P2 (xnm S f) (xnm R g) Q := k S R h
theorem gz1 {α : Type} (k : Option α) : gz 1 k = k := if_pos (Or.inr rfl)
theorem gz0 {α : Type} (k : Option α) : gz 0 k = k := if_pos (Or.inl rfl)
theorem nar1 : vp_nar .boolean (1 : Int32) = 1 := rfl
theorem nar0 : vp_nar .boolean (0 : Int32) = 0 := rfl
/-- an operation was done on both sides -/
def Qo (X : xS → xS → Prop) (N : xN) (o p : Int32 × xS) : Prop := o.1 = 1 ∧ p.1 = 1 ∧ REL E0 X N o.2 p.2
theorem Qo.mk {X : xS → xS → Prop} {N : xN} {S R : xS} (h : REL E0 X N S R) : Qo X N (1, S) (1, R) := ⟨rfl, rfl, h⟩
theorem P2.done {X : xS → xS → Prop} {N : xN} {S R : xS} (h : REL E0 X N S R) : P2 (some ((1 : Int32), S)) (some ((1 : Int32), R)) (Qo X N) := P2.ret ⟨rfl, rfl, h⟩
/-- what the reference's dispatch adds -/
theorem P2.gzr {X : xS → xS → Prop} {N : xN} {x y : Option (Int32 × xS)} (h : P2 x y (Qo X N)) : P2 x (y.bind (fun (r, S) => gz r (some (r, S)))) (Qo X N) := by
  obtain ⟨a, b, rfl, rfl, h1, h2, h3⟩ := h
  obtain ⟨b1, b2⟩ := b
  cases h2
  exact ⟨a, (1, b2), rfl, gz1 _, h1, rfl, h3⟩
/-! arithmetic of 16 bits -/
theorem tn_lt (a : Int32) : a.toBitVec.toNat < 4294967296 := a.toBitVec.isLt
theorem m16_iff (a b : Int32) : a &&& 65535 = b &&& 65535 ↔ adr a = adr b := by
  rw [i_65535, i_65535]
  constructor
  · intro h
    have h2 := congrArg adr h
    have e1 := adr_nI (Nat.mod_lt a.toBitVec.toNat (by decide : 65536 > 0))
    have e2 := adr_nI (Nat.mod_lt b.toBitVec.toNat (by decide : 65536 > 0))
    rw [e1, e2] at h2
    exact h2
  · intro h
    unfold adr at h
    rw [h]
theorem adr_add (a b : Int32) : adr (a + b) = (adr a + adr b) % 65536 := by
  unfold adr
  rw [Int32.toBitVec_add, BitVec.toNat_add]
  omega
theorem adr_sub (a b : Int32) : adr (a - b) = (adr a + (65536 - adr b)) % 65536 := by
  have h1 := tn_lt a
  have h2 := tn_lt b
  unfold adr
  rw [Int32.toBitVec_sub, BitVec.toNat_sub]
  omega
theorem adr_mul (a b : Int32) : adr (a * b) = (adr a * adr b) % 65536 := by
  unfold adr
  rw [Int32.toBitVec_mul, BitVec.toNat_mul, Nat.mod_mod_of_dvd _ (by decide : 65536 ∣ 2 ^ 32), Nat.mul_mod]
theorem adr_sg (a : Int32) : adr (sg a) = adr a := by
  have h := sg_int a
  have hc := toInt_cases (sg a)
  have hA := adr_lt a
  have hn := tn_lt (sg a)
  unfold sg at hc hn ⊢
  rw [h] at hc
  generalize a.toInt16.toInt32 = z at hc hn ⊢
  unfold adr at hc hA ⊢
  split at hc <;> omega
theorem m16_add {a b c d : Int32} (h1 : a &&& 65535 = b &&& 65535) (h2 : c &&& 65535 = d &&& 65535) : (a + c) &&& 65535 = (b + d) &&& 65535 := by
  rw [m16_iff] at h1 h2 ⊢
  rw [adr_add, adr_add, h1, h2]
theorem m16_sub {a b c d : Int32} (h1 : a &&& 65535 = b &&& 65535) (h2 : c &&& 65535 = d &&& 65535) : (a - c) &&& 65535 = (b - d) &&& 65535 := by
  rw [m16_iff] at h1 h2 ⊢
  rw [adr_sub, adr_sub, h1, h2]
theorem m16_mul {a b c d : Int32} (h1 : a &&& 65535 = b &&& 65535) (h2 : c &&& 65535 = d &&& 65535) : (a * c) &&& 65535 = (b * d) &&& 65535 := by
  rw [m16_iff] at h1 h2 ⊢
  rw [adr_mul, adr_mul, h1, h2]
theorem m16_sg (a : Int32) : sg a &&& 65535 = a &&& 65535 := by
  rw [m16_iff, adr_sg]
theorem w16_cGw (S : xS) (n : Nat) (a : Int32) : cGw S n a &&& 65535 = cGw S n a := by
  unfold cGw
  by_cases h : inM (adw a)
  · rw [if_pos h]
    have h1 := lB_lt (xJ S n 3 ((adw a - 32768) / 8)) ((adw a - 32768) % 8)
    have h2 := lB_lt (xJ S n 3 ((adw a - 32768 + 1) / 8)) ((adw a - 32768 + 1) % 8)
    rw [i_65535]
    have e := adr_nI (A := cB S n 3 (adw a - 32768) + 256 * cB S n 3 (adw a - 32768 + 1)) (by unfold cB; omega)
    unfold adr at e
    rw [e]
  · rw [if_neg h]; rfl
theorem w16_rGw (R : xS) (n : Nat) (a : Int32) : rGw R n a &&& 65535 = rGw R n a := by
  unfold rGw
  by_cases h : inM (adw a)
  · rw [if_pos h]
    have h1 := rB_lt R n (adw a - 32768)
    have h2 := rB_lt R n (adw a - 32768 + 1)
    rw [i_65535]
    have e := adr_nI (A := rB R n (adw a - 32768) + 256 * rB R n (adw a - 32768 + 1)) (by omega)
    unfold adr at e
    rw [e]
  · rw [if_neg h]; rfl
theorem rGb_nat (R : xS) (n : Nat) (a : Int32) : ∃ k, k < 256 ∧ rGb R n a = nI k := by
  unfold rGb
  by_cases h : inM (adr a)
  · rw [if_pos h]; exact ⟨_, rB_lt R n _, rfl⟩
  · rw [if_neg h]; exact ⟨0, by decide, rfl⟩
theorem w16_nI {k : Nat} (h : k < 65536) : nI k &&& 65535 = nI k := by
  rw [i_65535]
  have e := adr_nI h
  unfold adr at e
  rw [e]
theorem w16_rGb (R : xS) (n : Nat) (a : Int32) : rGb R n a &&& 65535 = rGb R n a := by
  obtain ⟨k, hk, e⟩ := rGb_nat R n a
  rw [e]
  exact w16_nI (by omega)
/-- an int of 16 bits is its number -/
theorem w16_nat {v : Int32} (h : v &&& 65535 = v) : ∃ k, k < 65536 ∧ v = nI k := by
  rw [i_65535] at h
  exact ⟨_, Nat.mod_lt _ (by decide), h.symm⟩
theorem w14_nat {v : Int32} (h : v &&& 65534 = v) : ∃ k, k < 32768 ∧ v = nI (2 * k) := by
  rw [i_65534] at h
  refine ⟨v.toBitVec.toNat % 65536 / 2, by omega, ?_⟩
  rw [Nat.mul_comm]
  exact h.symm
theorem w14_w16 {v : Int32} (h : v &&& 65534 = v) : v &&& 65535 = v := by
  obtain ⟨k, hk, rfl⟩ := w14_nat h
  exact w16_nI (by omega)
