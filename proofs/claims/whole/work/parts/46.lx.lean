/-! what is alike beside the processors: links, boots, timers, host, wires -/
def rr (R : xS) (e : Nat) : Nat → Int32 := fun i => xI R 0 (33 + i) e
def rb (R : xS) (n : Nat) : Nat → Int32 := fun i => xI R 0 (52 + i) n
/-- a packet of which u bits are put -/
def PKp (p q s t : Int32) : Prop := (s = 0 ∧ t = 0 ∧ p = 0) ∨ ∃ z u w, (z = 2 ∨ z = 11) ∧ u < z ∧ w < 2 ^ z ∧ s = nI z ∧ t = nI u ∧ q = nI w ∧ p = nI (w / 2 ^ u)
/-- an end -/
def EPp (D : Nat) (e r : Nat → Int32) : Prop := e 3 = r 3 ∧ e 4 = r 4 ∧ e 5 = r 1 ∧ e 6 = r 7 ∧ e 7 = r 8 ∧ e 8 = r 5 ∧ e 9 = r 6 ∧ (r 1 = 0 ∨ r 1 = 1) ∧ (r 8 = 0 ∨ r 8 = 1) ∧ (∃ m, m ≤ 10 ∧ r 5 = nI m) ∧ (∃ b, b < 256 ∧ r 6 = nI b) ∧ (∃ d, d ≤ D ∧ r 7 = nI d) ∧ PKp (e 2) (r 2) (r 3) (r 4)
/-- a link's input -/
def INp (l r : Nat → Int32) : Prop := (r 14 = -1 ∧ r 15 = 0) ∨ (r 14 &&& 65535 = r 14 ∧ (∃ m, 1 ≤ m ∧ m ≤ 4096 ∧ r 15 = nI m) ∧ l 9 &&& 65535 = r 16)
/-- a link's output: nobody's, a process's, the answer to a PEEK -/
def OUp (l r b q : Nat → Int32) (k : Nat) : Prop := (r 11 = -1 ∧ r 12 = 0 ∧ r 10 = 0 ∧ l 5 = -1 ∧ ¬ (r 8 = 1 ∧ r 9 = 1)) ∨ (r 11 &&& 65535 = r 11 ∧ (∃ m, 1 ≤ m ∧ m ≤ 4096 ∧ r 12 = nI m) ∧ r 10 = 0 ∧ l 5 = -1 ∧ l 4 &&& 65535 = r 13 ∧ q 0 = 0) ∨ (r 11 = -1 ∧ r 10 = 1 ∧ (∃ w, w < 65536 ∧ r 13 = nI w ∧ ((r 12 = 2 ∧ l 5 = nI w) ∨ (r 12 = 1 ∧ l 5 = nI (w / 256)))) ∧ q 0 = 1 ∧ b 4 = nI k ∧ b 5 = 1 ∧ b 8 = 1 ∧ q 1 = nI k ∧ q 2 = 1)
def LKp (D : Nat) (l e r b q : Nat → Int32) (k : Nat) : Prop := EPp D e r ∧ (l 2 = r 11 ∧ l 3 = r 12 ∧ l 7 = r 14 ∧ l 8 = r 15 ∧ l 10 = r 17 ∧ l 11 = r 18) ∧ ((l 6 = 1 ∧ r 8 = 1 ∧ r 9 = 0) ∨ (l 6 = 0 ∧ (r 8 = 0 ∨ r 9 = 1))) ∧ (r 17 = -1 ∨ ∃ v, v < 256 ∧ r 17 = nI v) ∧ (r 18 = -1 ∨ r 18 &&& 65535 = r 18) ∧ INp l r ∧ OUp l r b q k ∧ (q 0 = 1 → r 14 = -1 ∧ r 18 = -1)
/-- the bytes of a POKE or PEEK so far -/
def GAp (b q : Nat → Int32) (m : Nat) : Prop := ∃ a w, a < 2 ^ (8 * min m 2) ∧ w < 2 ^ (8 * (m - 2)) ∧ q 4 = nI a ∧ q 5 = nI w ∧ b 7 = nI (a + 65536 * w)
/-- how a node boots; t k is what link k has still to send; w: an answered PEEK may not be left yet -/
def BTp (w : Prop) (b q : Nat → Int32) (t : Nat → Int32) : Prop := b 3 = q 0 ∧ (q 0 = 0 ∨ (q 0 = 1 ∧ ((b 4 = -1 ∧ b 5 = -1 ∧ b 6 = 0 ∧ b 7 = 0 ∧ b 8 = 0 ∧ q 1 = -1 ∧ q 2 = -1) ∨ (∃ k c m, k < 4 ∧ c < 256 ∧ b 4 = nI k ∧ q 1 = nI k ∧ b 8 = 0 ∧ b 5 = nI c ∧ q 2 = nI c ∧ b 6 = nI m ∧ q 3 = nI m ∧ ((2 ≤ c ∧ m < c ∧ b 7 = 0) ∨ (c = 0 ∧ m < 4 ∧ GAp b q m) ∨ (c = 1 ∧ m < 2 ∧ GAp b q m))) ∨ (∃ k, k < 4 ∧ b 4 = nI k ∧ b 5 = 1 ∧ b 8 = 1 ∧ ((q 1 = nI k ∧ q 2 = 1 ∧ ¬ t k = 0) ∨ (w ∧ q 1 = -1 ∧ q 2 = -1 ∧ t k = 0))))))
def TMp (S R : xS) (n : Nat) : Prop := ∀ t, t < 64 → xI S n 9 t = xI R 0 31 (64 * n + t) ∧ xI S n 10 t = xI R 0 32 (64 * n + t)
def NKp (D : Nat) (z w : Prop) (S R : xS) (n : Nat) : Prop := (z ↔ rb R n 0 = 1) ∧ (∀ k, k < 4 → LKp D (xI S n (12 + k)) (xI S n (16 + k)) (rr R (4 * n + k)) (xI S n 0) (rb R n) k) ∧ BTp w (xI S n 0) (rb R n) (fun k => xI S n (12 + k) 3) ∧ TMp S R n
def HOp (D : Nat) (S R : xS) : Prop := EPp D (xI S 8 16) (rr R 32) ∧ ∃ f m c, f < 4096 ∧ m ≤ 4096 ∧ c ≤ 4096 ∧ xI S 8 0 2 = nI f ∧ xI S 8 0 3 = nI m ∧ xI S 8 0 5 = nI c ∧ rr R 32 12 = nI m ∧ xI R 0 0 59 &&& 4095 = nI f ∧ xI R 0 0 60 = xI R 0 0 59 + nI m ∧ xI R 0 0 61 = nI c ∧ (rr R 32 8 = 1 → rr R 32 9 = 1 ∧ 1 ≤ m) ∧ (∀ x, x < 4096 → cB S 8 3 x = (xI R 0 58 x).toBitVec.toNat % 256) ∧ (∀ x, x < 4096 → cB S 8 5 x = (xI R 0 59 x).toBitVec.toNat % 256)
def endOk (N n k : Nat) : Prop := (n < N ∧ k < 4) ∨ (n = 8 ∧ k = 0)
def WIp (N : Nat) (S R : xS) : Prop := ∀ n k, endOk N n k → (xE S n (16 + k) = none ∧ rr R (4 * n + k) 0 = -1 ∧ xI S n (16 + k) 1 = -1) ∨ ∃ n' k', endOk N n' k' ∧ xE S n (16 + k) = some (n', 16 + k') ∧ rr R (4 * n + k) 0 = nI (4 * n' + k') ∧ xI S n (16 + k) 1 = nI n'
def TKp (N : Nat) (S R : xS) : Prop := xI S 9 0 2 = xI R 0 0 2 ∧ xI R 0 0 1 = nI N
def LX (D : Nat) (N : xN) (S R : xS) : Prop := (∀ n, n < N.1 → NKp D (N.2 n) (N.2 (8 + n)) S R n) ∧ HOp D S R ∧ WIp N.1 S R ∧ TKp N.1 S R
-- the view shows all of it
theorem rr_v (R : xS) (e : Nat) : rr (vR R) e = rr R e := by
  funext i
  exact vR_I (by omega)
theorem rb_v (R : xS) (n : Nat) : rb (vR R) n = rb R n := by
  funext i
  exact vR_I (by omega)
theorem r_v (R : xS) {j : Nat} (h : useR j) : xI (vR R) 0 j = xI R 0 j := by
  funext i
  exact vR_I h
theorem c_v (S : xS) {n j : Nat} (h : 8 ≤ n ∨ j = 0 ∨ 9 ≤ j) : xI (vS S) n j = xI S n j := by
  funext k
  exact vS_I h
theorem cB_v (S : xS) {n : Nat} (h : 8 ≤ n) (j x : Nat) : cB (vS S) n j x = cB S n j x := by
  unfold cB
  rw [vS_J h]
theorem LX_v (D : Nat) (N : xN) (S R : xS) : LX D N (vS S) (vR R) = LX D N S R := by
  have e1 : ∀ n k, xI (vS S) n (12 + k) = xI S n (12 + k) := fun n k => c_v S (by omega)
  have e2 : ∀ n k, xI (vS S) n (16 + k) = xI S n (16 + k) := fun n k => c_v S (by omega)
  have e3 : ∀ n, xI (vS S) n 0 = xI S n 0 := fun n => c_v S (by omega)
  have e4 : ∀ n, xI (vS S) n 9 = xI S n 9 := fun n => c_v S (by omega)
  have e5 : ∀ n, xI (vS S) n 10 = xI S n 10 := fun n => c_v S (by omega)
  have e6 : ∀ j, xI (vS S) 8 j = xI S 8 j := fun n => c_v S (by omega)
  have e7 : ∀ j, xI (vS S) 9 j = xI S 9 j := fun n => c_v S (by omega)
  have e8 : ∀ n j, xE (vS S) n j = xE S n j := fun n j => rfl
  have e9 : ∀ j x, cB (vS S) 8 j x = cB S 8 j x := fun j x => cB_v S (by decide) j x
  unfold LX NKp HOp WIp TKp TMp
  simp only [rr_v, rb_v, e1, e2, e3, e4, e5, e6, e7, e8, e9, r_v R (show useR 31 by decide), r_v R (show useR 32 by decide), r_v R (show useR 0 by decide), r_v R (show useR 58 by decide), r_v R (show useR 59 by decide)]
/-- the view is this one -/
def XV (s r : xS) (s' r' : xS) : Prop := s' = s ∧ r' = r
theorem REL.lx {E : Nat → Nat → Prop} {N : xN} {D : Nat} {S R : xS} (h : REL E (LX D N) N S R) : LX D N S R := by
  have := h.2.2.2
  rw [LX_v] at this
  exact this
theorem REL.xv {E : Nat → Nat → Prop} {X : xS → xS → Prop} {N : xN} {S R : xS} (h : REL E X N S R) : REL E (XV (vS S) (vR R)) N S R := ⟨h.1, h.2.1, h.2.2.1, rfl, rfl⟩
theorem REL.un {E : Nat → Nat → Prop} {N : xN} {D : Nat} {S R s r : xS} (h : REL E (XV s r) N S R) (hl : LX D N s r) : REL E (LX D N) N S R := ⟨h.1, h.2.1, h.2.2.1, by rw [h.2.2.2.1, h.2.2.2.2]; exact hl⟩
theorem vS_sIv {S : xS} {n j k : Nat} (h : useC n j k) (v : Int32) : vS (sI S n j k v) = sI (vS S) n j k v := by
  refine Prod.ext ?_ rfl
  funext a b c
  show (if useC a b c then xI (sI S n j k v) a b c else 0) = xI (sI (vS S) n j k v) a b c
  rw [xI_sI, xI_sI]
  by_cases e : a = n ∧ b = j ∧ c = k
  · obtain ⟨rfl, rfl, rfl⟩ := e
    rw [if_pos h, if_pos ⟨rfl, rfl, rfl⟩, if_pos ⟨rfl, rfl, rfl⟩]
  · rw [if_neg e, if_neg e]
    rfl
theorem vR_sIv {R : xS} {j k : Nat} (h : useR j) (v : Int32) : vR (sI R 0 j k v) = sI (vR R) 0 j k v := by
  refine Prod.ext ?_ rfl
  funext a b c
  show (if a = 0 ∧ useR b then xI (sI R 0 j k v) a b c else 0) = xI (sI (vR R) 0 j k v) a b c
  rw [xI_sI, xI_sI]
  by_cases e : a = 0 ∧ b = j ∧ c = k
  · obtain ⟨rfl, rfl, rfl⟩ := e
    rw [if_pos (show 0 = 0 ∧ useR b from ⟨rfl, h⟩), if_pos ⟨rfl, rfl, rfl⟩, if_pos ⟨rfl, rfl, rfl⟩]
  · rw [if_neg e, if_neg e]
    rfl
theorem tB_j : (tB.all fun t => decide (1 ≤ t.1 ∧ t.1 ≤ 8 ∧ 5 ≤ t.2.2.1 ∧ t.2.2.1 ≤ 30)) = true := by decide +kernel
theorem tB_c {t : tE} (h : t ∈ tB) : 1 ≤ t.1 ∧ t.1 ≤ 8 ∧ 5 ≤ t.2.2.1 ∧ t.2.2.1 ≤ 30 := by
  have h1 := List.all_eq_true.mp tB_j t h
  simpa only [decide_eq_true_eq] using h1
/-- the class writes what the view shows -/
theorem REL.cv {E : Nat → Nat → Prop} {N : xN} {S R s r : xS} (h : REL E (XV s r) N S R) {n j k : Nat} (hj : j = 0 ∨ 9 ≤ j) (v : Int32) : REL E (XV (sI s n j k v) r) N (sI S n j k v) R := ⟨h.1, h.2.1.cls (fun t ht z => by have := tB_c ht; omega) v, h.2.2.1.cI n j k v, by rw [vS_sIv (by omega), h.2.2.2.1], h.2.2.2.2⟩
/-- the reference writes what the view shows -/
theorem REL.rv {E : Nat → Nat → Prop} {N : xN} {S R s r : xS} (h : REL E (XV s r) N S R) {j k : Nat} (hj : j = 0 ∨ 31 ≤ j) (v : Int32) : REL E (XV s (sI r 0 j k v)) N S (sI R 0 j k v) := ⟨h.1, h.2.1.ref (fun t ht z => by have := tB_c ht; omega) v, h.2.2.1.rI j k v (by omega), h.2.2.2.1, by rw [vR_sIv (by omega), h.2.2.2.2]⟩
theorem REL.c_eq {E : Nat → Nat → Prop} {N : xN} {S R s r : xS} (h : REL E (XV s r) N S R) {n j k : Nat} (hj : j = 0 ∨ 9 ≤ j) : xI S n j k = xI s n j k := by
  rw [← h.2.2.2.1]
  exact (vS_I (by omega)).symm
theorem REL.r_eq {E : Nat → Nat → Prop} {N : xN} {S R s r : xS} (h : REL E (XV s r) N S R) {j k : Nat} (hj : j = 0 ∨ 31 ≤ j) : xI R 0 j k = xI r 0 j k := by
  rw [← h.2.2.2.2]
  exact (vR_I (by omega)).symm
theorem EPp.mono {D D' : Nat} {e r : Nat → Int32} (h : EPp D e r) (hD : D ≤ D') : EPp D' e r := by
  obtain ⟨h1, h2, h3, h4, h5, h6, h7, h8, h9, h10, h11, ⟨d, hd, ed⟩, h13⟩ := h
  exact ⟨h1, h2, h3, h4, h5, h6, h7, h8, h9, h10, h11, ⟨d, by omega, ed⟩, h13⟩
theorem LX.mono {D D' : Nat} {N : xN} {s r : xS} (h : LX D N s r) (hD : D ≤ D') : LX D' N s r := by
  obtain ⟨a1, a2, a3⟩ := h
  refine ⟨fun n hn => ?_, ⟨a2.1.mono hD, a2.2⟩, a3⟩
  obtain ⟨b1, b2, b3⟩ := a1 n hn
  exact ⟨b1, fun k hk => ⟨(b2 k hk).1.mono hD, (b2 k hk).2⟩, b3⟩
theorem REL.mono_D {E : Nat → Nat → Prop} {D D' : Nat} {N : xN} {S R : xS} (h : REL E (LX D N) N S R) (hD : D ≤ D') : REL E (LX D' N) N S R := h.x (fun z => z.mono hD)
/-- one link is changed -/
theorem LX.link {N : xN} {D0 D : Nat} {s r s' r' : xS} (h0 : LX D0 N s r) (hD : D0 ≤ D) {n k : Nat} (hn : n < N.1) (hk : k < 4) (f1 : ∀ a b, ¬ (a = n ∧ (b = 12 + k ∨ b = 16 + k)) → xI s' a b = xI s a b) (f2 : s'.2 = s.2) (f3 : ∀ j e, ¬ (e = 4 * n + k ∧ 34 ≤ j ∧ j ≤ 51) → xI r' 0 j e = xI r 0 j e) (f4 : xI s' n (16 + k) 1 = xI s n (16 + k) 1) (hN : N.1 ≤ 8)
    (h1 : LKp D (xI s' n (12 + k)) (xI s' n (16 + k)) (rr r' (4 * n + k)) (xI s n 0) (rb r n) k) (h2 : (xI s' n (12 + k) 3 = 0 ↔ xI s n (12 + k) 3 = 0) ∨ rb r n 0 = 0) : LX D N s' r' := by
  have h := h0.mono hD
  obtain ⟨a1, a2, a3, a4⟩ := h
  have eb : ∀ m, rb r' m = rb r m := fun m => funext fun i => f3 _ _ (by omega)
  have er : ∀ e, e ≠ 4 * n + k → rr r' e = rr r e := fun e he => funext fun i => f3 _ _ (by omega)
  have er0 : ∀ e, rr r' e 0 = rr r e 0 := fun e => f3 _ _ (by omega)
  have ex : ∀ a b, xE s' a b = xE s a b := fun a b => by unfold xE; rw [f2]
  have eB : ∀ a b x, cB s' a b x = cB s a b x := fun a b x => by unfold cB xJ; rw [f2]
  refine ⟨fun m hm => ?_, ?_, ?_, ?_⟩
  · obtain ⟨b1, b2, b3, b4⟩ := a1 m hm
    refine ⟨by rw [eb]; exact b1, fun k' hk' => ?_, ?_, fun t ht => ?_⟩
    · rw [eb, f1 m 0 (by omega)]
      by_cases e : m = n ∧ k' = k
      · obtain ⟨rfl, rfl⟩ := e
        exact h1
      · rw [f1 m (12 + k') (by omega), f1 m (16 + k') (by omega), er _ (by omega)]
        exact b2 k' hk'
    · rw [eb, f1 m 0 (by omega)]
      by_cases e : m = n
      · subst e
        rcases h2 with h2 | h2
        · obtain ⟨c1, c2⟩ := b3
          refine ⟨c1, c2.imp id (fun c2 => ⟨c2.1, c2.2.imp id (fun c2 => c2.imp id ?_)⟩)⟩
          rintro ⟨k', d1, d2, d3, d4, d5⟩
          refine ⟨k', d1, d2, d3, d4, ?_⟩
          have e2 : xI s' m (12 + k') 3 = 0 ↔ xI s m (12 + k') 3 = 0 := by
            by_cases e3 : k' = k
            · subst e3; exact h2
            · rw [f1 m (12 + k') (by omega)]
          exact d5.imp (fun d => ⟨d.1, d.2.1, fun z => d.2.2 (e2.mp z)⟩) (fun d => ⟨d.1, d.2.1, d.2.2.1, e2.mpr d.2.2.2⟩)
        · exact ⟨b3.1, Or.inl h2⟩
      · have e2 : (fun k' => xI s' m (12 + k') 3) = fun k' => xI s m (12 + k') 3 := funext fun k' => by rw [f1 m (12 + k') (by omega)]
        rw [e2]
        exact b3
    · rw [f1 m 9 (by omega), f1 m 10 (by omega), f3 _ _ (by omega), f3 _ _ (by omega)]
      exact b4 t ht
  · obtain ⟨b1, f, m, c, c1, c2, c3, c4, c5, c6, c7, c8, c9, c10, c11, c12, c13⟩ := a2
    have e32 : rr r' 32 = rr r 32 := er 32 (by omega)
    unfold HOp
    rw [e32, f1 8 16 (by omega), f1 8 0 (by omega), f3 0 59 (by omega), f3 0 60 (by omega), f3 0 61 (by omega)]
    exact ⟨b1, f, m, c, c1, c2, c3, c4, c5, c6, c7, c8, c9, c10, c11, fun x hx => by rw [eB, f3 58 x (by omega)]; exact c12 x hx, fun x hx => by rw [eB, f3 59 x (by omega)]; exact c13 x hx⟩
  · intro a b hab
    have e1 : xI s' a (16 + b) 1 = xI s a (16 + b) 1 := by
      by_cases e : a = n ∧ 16 + b = 16 + k
      · obtain ⟨rfl, e⟩ := e
        rw [e]
        exact f4
      · rw [f1 a (16 + b) (by rcases hab with h | h <;> omega)]
    rw [ex, er0, e1]
    exact a3 a b hab
  · refine ⟨?_, ?_⟩
    · rw [f1 9 0 (by omega), f3 0 2 (by omega)]
      exact a4.1
    · rw [f3 0 1 (by omega)]
      exact a4.2
