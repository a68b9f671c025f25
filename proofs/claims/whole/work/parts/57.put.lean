/-! bits that are put -/
/-- one end has put a bit -/
def PB (D : Nat) (s r s' r' : xS) (n j e : Nat) : Prop := (∀ a b, ¬ (a = n ∧ b = j) → xI s' a b = xI s a b) ∧ s'.2 = s.2 ∧ xI s' n j 1 = xI s n j 1 ∧ (∀ jj ee, ¬ (ee = e ∧ (jj = 34 ∨ jj = 35 ∨ jj = 36 ∨ jj = 37 ∨ jj = 40)) → xI r' 0 jj ee = xI r 0 jj ee) ∧ EPp D (xI s' n j) (rr r' e)
def QB (D : Nat) (E : Nat → Nat → Prop) (N : xN) (s r : xS) (n j e : Nat) (o : xS) (p : Int32 × xS) : Prop := ∃ s' r', PB D s r s' r' n j e ∧ REL E (XV s' r') N o (sI p.2 0 34 e p.1)
theorem pk_bit (x : Nat) (h : x < 2 ^ 31) : nI x &&& 1 = nI (x % 2) := by
  rw [pk_and _ 1 (by decide), pk_tn (by omega)]
theorem pk_half (x : Nat) (h : x < 2 ^ 31) : nI x >>> ((1 : Int32) &&& 31) = nI (x / 2) := pk_shrN h _ 1 (by decide)
theorem bit01 {x : Nat} (h : x < 2) : nI x = 0 ∨ nI x = 1 := by
  rcases (show x = 0 ∨ x = 1 by omega) with e | e <;> rw [e]
  · exact Or.inl rfl
  · exact Or.inr rfl
theorem g33x {α : Type} {i : Nat} {k : Option α} (h : i ≤ 32) : gd (nI i) 33 k = k := gd_nI (by omega) (by decide)
theorem nI_0' : nI 0 = 0 := rfl
/-- a packet goes on -/
theorem p_b34 {D : Nat} {E : Nat → Nat → Prop} {N : xN} {S R s r : xS} (hx : REL E (XV s r) N S R) {n j e : Nat} (hj : 16 ≤ j) (he : e ≤ 32) (hE : EPp D (xI s n j) (rr r e)) {z u w : Nat} (hz : z = 2 ∨ z = 11) (hu : u < z) (hw : w < 2 ^ z) (c3 : xI r 0 36 e = nI z) (c4 : xI r 0 37 e = nI u) (c2 : xI s n j 2 = nI (w / 2 ^ u)) (r2 : xI r 0 35 e = nI w) : P2 (c2_putNextBit_b34 n j S) (r_puts_b112 (nI e) R) (QB D E N s r n j e) := by
  have hw2 : w < 2 ^ 11 := by
    rcases hz with z2 | z2 <;> subst z2
    · have : (2 : Nat) ^ 2 ≤ 2 ^ 11 := by decide
      omega
    · exact hw
  have hd : w / 2 ^ u ≤ w := Nat.div_le_self _ _
  obtain ⟨b3, b4, b5, b6, b7, b8, b9, w1, w8, w5, w6, w7, wp⟩ := hE
  have b3' : xI s n j 3 = nI z := b3.trans c3
  have b4' : xI s n j 4 = nI u := b4.trans c4
  unfold c2_putNextBit_b34 r_puts_b112
  simp only [g33x he, nI_clamp (show e < 2 ^ 31 by omega), xnm]
  simp (disch := omega) only [xI_ne, xI_eq]
  rw [hx.c_eq (k := 2) (by omega), hx.c_eq (k := 3) (by omega), hx.c_eq (k := 4) (by omega), hx.r_eq (j := 35) (by omega), hx.r_eq (j := 36) (by omega), hx.r_eq (j := 37) (by omega)]
  rw [b3', b4', c2, c3, c4, r2, pk_bit _ (by omega), pk_half _ (by omega), nI_1, pk_shrN (by omega) _ u (sh32 u (by omega)), pk_bit _ (by omega)]
  have e2 : w / 2 ^ u / 2 = w / 2 ^ (u + 1) := by rw [Nat.div_div_eq_div_mul, ← Nat.pow_succ]
  have hb : w / 2 ^ u % 2 < 2 := Nat.mod_lt _ (by decide)
  rw [if_neg (nI_ne0 (by omega) (by omega)), e2]
  generalize hv : nI (w / 2 ^ u % 2) = v
  have hv01 : v = 0 ∨ v = 1 := by rw [← hv]; exact bit01 hb
  have h1 := (hx.cv (n := n) (j := j) (k := 5) (by omega) v).cv (n := n) (j := j) (k := 2) (by omega) (nI (w / 2 ^ (u + 1)))
  by_cases c : u + 1 = z
  · have ce : nI (u + 1) = nI z := by rw [c]
    rw [if_pos ce, if_pos ce]
    have hp0 : w / 2 ^ (u + 1) = 0 := by rw [c]; exact Nat.div_eq_of_lt hw
    have h2 := (((((h1.cv (n := n) (j := j) (k := 4) (by omega) (nI (u + 1))).cv (n := n) (j := j) (k := 4) (by omega) 0).cv (n := n) (j := j) (k := 3) (by omega) 0).rv (j := 37) (k := e) (by omega) (nI (u + 1))).rv (j := 36) (k := e) (by omega) 0).rv (j := 37) (k := e) (by omega) 0
    refine P2.ret ⟨_, _, ⟨?_, ?_, ?_, ?_, ?_⟩, h2.rv (j := 34) (k := e) (by omega) v⟩
    · intro a b hab
      simp (disch := omega) only [xI_fn_ne]
    · rfl
    · simp (disch := omega) only [xI_ne]
    · intro jj ee hh
      simp (disch := omega) only [xI_ne]
    · unfold EPp
      simp (disch := omega) only [rr, xI_ne, xI_eq]
      refine ⟨trivial, trivial, trivial, b6, b7, b8, b9, hv01, w8, w5, w6, w7, Or.inl ⟨rfl, rfl, ?_⟩⟩
      rw [hp0]; rfl
  · have ce : ¬ nI (u + 1) = nI z := fun q => c ((nI_eq (by omega) (by omega)).mp q)
    rw [if_neg ce, if_neg ce]
    have h2 := (h1.cv (n := n) (j := j) (k := 4) (by omega) (nI (u + 1))).rv (j := 37) (k := e) (by omega) (nI (u + 1))
    refine P2.ret ⟨_, _, ⟨?_, ?_, ?_, ?_, ?_⟩, h2.rv (j := 34) (k := e) (by omega) v⟩
    · intro a b hab
      simp (disch := omega) only [xI_fn_ne]
    · rfl
    · simp (disch := omega) only [xI_ne]
    · intro jj ee hh
      simp (disch := omega) only [xI_ne]
    · unfold EPp
      simp (disch := omega) only [rr, xI_ne, xI_eq]
      exact ⟨b3, trivial, trivial, b6, b7, b8, b9, hv01, w8, w5, w6, w7, Or.inr ⟨z, u + 1, w, hz, by omega, hw, c3, rfl, r2, rfl⟩⟩
theorem nI_nle0 {d : Nat} (h : d ≠ 0) (h2 : d < 2 ^ 31) : ¬ nI d ≤ 0 := nI_nle (by omega) h2
/-- a bit of an end that begins no data -/
theorem p_put0 {D : Nat} (hD : D < 1073741824) {E : Nat → Nat → Prop} {N : xN} {S R s r : xS} (hx : REL E (XV s r) N S R) {n j e : Nat} (hj : 16 ≤ j) (he : e ≤ 32) (hE : EPp D (xI s n j) (rr r e)) (hno : ¬ xI r 0 36 e = 0 ∨ ¬ xI r 0 40 e = 0 ∨ ¬ xI r 0 41 e = 0 ∨ xI r 0 45 e ≤ 0) : P2 (c2_putNextBit n j S) (r_puts R (nI e)) (QB D E N s r n j e) := by
  have hE0 := hE
  obtain ⟨b3, b4, b5, b6, b7, b8, b9, w1, w8, w5, w6, w7, wp⟩ := hE
  have b3' : xI s n j 3 = xI r 0 36 e := b3
  have b6' : xI s n j 6 = xI r 0 40 e := b6
  unfold c2_putNextBit r_puts
  simp only [g33x he, nI_clamp (show e < 2 ^ 31 by omega), nar1]
  rw [hx.c_eq (k := 3) (by omega), hx.r_eq (j := 36) (by omega), b3', hx.c_eq (k := 6) (by omega), b6']
  rcases wp with ⟨p1, p2, p3⟩ | ⟨z, u, w, hz, hu, hw, p1, p2, p3, p4⟩
  · have p1' : xI r 0 36 e = 0 := p1
    have p2' : xI r 0 37 e = 0 := p2
    rw [if_pos p1', if_pos p1']
    have h37 : sI R 0 37 e 0 = R := by
      have := sI_id R 0 37 e
      rw [hx.r_eq (by omega), p2'] at this
      exact this
    rw [h37]
    refine P2.xr ?_
    rw [hx.r_eq (j := 40) (by omega), hx.r_eq (j := 41) (by omega), hx.r_eq (j := 45) (by omega)]
    obtain ⟨d, hd, ed⟩ := w7
    have ed' : xI r 0 40 e = nI d := ed
    by_cases d0 : d = 0
    · have e0 : xI r 0 40 e = 0 := by rw [ed', d0]; rfl
      have e0' : xI r 0 40 e ≤ 0 := by rw [e0]; decide
      rw [if_pos e0', if_pos e0']
      have fin : P2 (c2_putNextBit_b34 n j S) (some ((0 : Int32), R)) (QB D E N s r n j e) := by
        unfold c2_putNextBit_b34
        simp only [xnm]
        simp (disch := omega) only [xI_ne, xI_eq]
        have p3' : xI s n j 2 = 0 := p3
        rw [hx.c_eq (k := 2) (by omega), hx.c_eq (k := 3) (by omega), b3', p3', if_pos p1', show (0 : Int32) &&& 1 = 0 from by decide, show (0 : Int32) >>> ((1 : Int32) &&& 31) = 0 from by decide]
        have h2 := ((hx.cv (n := n) (j := j) (k := 5) (by omega) 0).cv (n := n) (j := j) (k := 2) (by omega) 0).rv (j := 34) (k := e) (by omega) 0
        refine P2.ret ⟨_, _, ⟨?_, ?_, ?_, ?_, ?_⟩, h2⟩
        · intro a b hab
          simp (disch := omega) only [xI_fn_ne]
        · rfl
        · simp (disch := omega) only [xI_ne]
        · intro jj ee hh
          simp (disch := omega) only [xI_ne]
        · unfold EPp
          simp (disch := omega) only [rr, xI_ne, xI_eq]
          exact ⟨b3, b4, trivial, b6, b7, b8, b9, Or.inl trivial, w8, w5, w6, ⟨d, hd, ed⟩, Or.inl ⟨p1, p2, rfl⟩⟩
      by_cases f0 : xI r 0 41 e = 0
      · rw [if_pos f0]
        have hm : xI r 0 45 e ≤ 0 := by
          rcases hno with q | q | q | q
          · exact absurd p1' q
          · exact absurd e0 q
          · exact absurd f0 q
          · exact q
        rw [if_pos hm]
        exact fin
      · rw [if_neg f0]
        exact fin
    · have e0' : ¬ xI r 0 40 e ≤ 0 := by rw [ed']; exact nI_nle0 d0 (by omega)
      rw [if_neg e0', if_neg e0']
      have e1 : xI r 0 40 e - 1 = nI (d - 1) := by rw [ed']; exact pk_sub (b := 1) (by omega)
      rw [e1]
      refine P2.xl (P2.xl (P2.xl (P2.xr (P2.xr (P2.xr ?_)))))
      have h2 := (((((hx.cv (n := n) (j := j) (k := 6) (by omega) (nI (d - 1))).cv (n := n) (j := j) (k := 2) (by omega) 1).cv (n := n) (j := j) (k := 3) (by omega) 2).rv (j := 40) (k := e) (by omega) (nI (d - 1))).rv (j := 35) (k := e) (by omega) 1).rv (j := 36) (k := e) (by omega) 2
      have hE2 : EPp D (xI (sI (sI (sI s n j 6 (nI (d - 1))) n j 2 1) n j 3 2) n j) (rr (sI (sI (sI r 0 40 e (nI (d - 1))) 0 35 e 1) 0 36 e 2) e) := by
        unfold EPp
        simp (disch := omega) only [rr, xI_ne, xI_eq]
        exact ⟨trivial, b4, b5, trivial, b7, b8, b9, w1, w8, w5, w6, ⟨d - 1, by omega, rfl⟩, Or.inr ⟨2, 0, 1, Or.inl rfl, by decide, by decide, rfl, p2, rfl, rfl⟩⟩
      refine P2.mono (p_b34 h2 hj he hE2 (z := 2) (u := 0) (w := 1) (Or.inl rfl) (by decide) (by decide) ?_ ?_ ?_ ?_) (fun o p q => ?_)
      · simp (disch := omega) only [xI_ne, xI_eq]; rfl
      · simp (disch := omega) only [xI_ne, xI_eq]; exact p2
      · simp (disch := omega) only [xI_ne, xI_eq]; rfl
      · simp (disch := omega) only [xI_ne, xI_eq]; rfl
      · obtain ⟨s', r', ⟨q1, q2, q3, q4, q5⟩, q6⟩ := q
        refine ⟨s', r', ⟨fun a b hab => ?_, q2, ?_, fun jj ee hh => ?_, q5⟩, q6⟩
        · rw [q1 a b hab]
          simp (disch := omega) only [xI_fn_ne]
        · rw [q3]
          simp (disch := omega) only [xI_ne]
        · rw [q4 jj ee hh]
          simp (disch := omega) only [xI_ne]
  · have p1' : xI r 0 36 e = nI z := p1
    have ne : ¬ xI r 0 36 e = 0 := by rw [p1']; exact nI_ne0 (by omega) (by omega)
    rw [if_neg ne, if_neg ne]
    exact p_b34 hx hj he hE0 hz hu hw p1 p2 p4 p3
/-- a bit of an end that begins a byte -/
theorem p_put1 {D : Nat} {E : Nat → Nat → Prop} {N : xN} {S R s r : xS} (hx : REL E (XV s r) N S R) {n j e : Nat} (hj : 16 ≤ j) (he : e ≤ 32) (hE : EPp D (xI s n j) (rr r e)) (h0 : xI r 0 36 e = 0) {v : Nat} (hv : v < 256) : P2 ((c2_beginData n j S (nI v)).bind (fun S10 => c2_putNextBit n j S10)) (gd (nI e) 33 (xnm (sI (sI (sI R 0 41 e 1) 0 42 e 1) 0 35 e ((3 : Int32) ||| (nI v <<< ((2 : Int32) &&& 31)))) (fun S13 => gd (nI e) 33 (xnm (sI S13 0 36 e (11 : Int32)) (fun S14 => r_puts_b112 (nI e) S14))))) (QB D E N (sI s n j 7 1) (sI (sI r 0 41 e 1) 0 42 e 1) n j e) := by
  obtain ⟨b3, b4, b5, b6, b7, b8, b9, w1, w8, w5, w6, w7, wp⟩ := hE
  have hpk : (3 : Int32) ||| (nI v <<< ((2 : Int32) &&& 31)) = nI (4 * v + 3) := by
    rw [pk_shlN _ 2 (by decide) (by omega)]
    refine i_ext (by omega) ?_
    rw [Int32.toBitVec_or, BitVec.toNat_or, pk_tn (by omega), show (3 : Int32).toBitVec.toNat = 3 from rfl, Nat.or_comm]
    have := Nat.two_pow_add_eq_or_of_lt (i := 2) (b := 3) (by decide) v
    rw [Nat.mul_comm]
    exact this.symm
  have p2 : xI r 0 37 e = 0 := by
    rcases wp with ⟨p1, p2, p3⟩ | ⟨z, u, w, hz, hu, hw, p1, p2, p3, p4⟩
    · exact p2
    · exact absurd h0 (by show ¬ rr r e 3 = 0; rw [p1]; exact nI_ne0 (by omega) (by omega))
  simp only [g33x he, xnm]
  rw [hpk]
  refine P2.l rfl ?_
  rw [hpk]
  unfold c2_putNextBit
  simp (disch := omega) only [xI_ne, xI_eq]
  refine P2.nl (by decide) ?_
  have h2 := (((((hx.cv (n := n) (j := j) (k := 2) (by omega) (nI (4 * v + 3))).cv (n := n) (j := j) (k := 3) (by omega) 11).cv (n := n) (j := j) (k := 7) (by omega) 1).rv (j := 41) (k := e) (by omega) 1).rv (j := 42) (k := e) (by omega) 1)
  have h3 := (h2.rv (j := 35) (k := e) (by omega) (nI (4 * v + 3))).rv (j := 36) (k := e) (by omega) 11
  have hE2 : EPp D (xI (sI (sI (sI s n j 2 (nI (4 * v + 3))) n j 3 11) n j 7 1) n j) (rr (sI (sI (sI (sI r 0 41 e 1) 0 42 e 1) 0 35 e (nI (4 * v + 3))) 0 36 e 11) e) := by
    unfold EPp
    simp (disch := omega) only [rr, xI_ne, xI_eq]
    exact ⟨trivial, b4, b5, b6, trivial, b8, b9, w1, Or.inr trivial, w5, w6, w7, Or.inr ⟨11, 0, 4 * v + 3, Or.inr rfl, by decide, by omega, rfl, p2, rfl, by rw [Nat.pow_zero, Nat.div_one]⟩⟩
  refine P2.mono (p_b34 h3 hj he hE2 (z := 11) (u := 0) (w := 4 * v + 3) (Or.inr rfl) (by decide) (by omega) ?_ ?_ ?_ ?_) (fun o p q => ?_)
  · simp (disch := omega) only [xI_ne, xI_eq]; rfl
  · simp (disch := omega) only [xI_ne, xI_eq]; exact p2
  · simp (disch := omega) only [xI_ne, xI_eq]; rw [Nat.pow_zero, Nat.div_one]
  · simp (disch := omega) only [xI_ne, xI_eq]
  · obtain ⟨s', r', ⟨q1, q2, q3, q4, q5⟩, q6⟩ := q
    refine ⟨s', r', ⟨fun a b hab => ?_, q2, ?_, fun jj ee hh => ?_, q5⟩, q6⟩
    · rw [q1 a b hab]
      simp (disch := omega) only [xI_fn_ne]
    · rw [q3]
      simp (disch := omega) only [xI_ne]
    · rw [q4 jj ee hh]
      by_cases c : jj = 41 ∧ ee = e
      · obtain ⟨rfl, rfl⟩ := c
        simp (disch := omega) only [xI_ne, xI_eq]
      · by_cases c2 : jj = 42 ∧ ee = e
        · obtain ⟨rfl, rfl⟩ := c2
          simp (disch := omega) only [xI_ne, xI_eq]
        · simp (disch := omega) only [xI_ne]
