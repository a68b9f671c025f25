/-! a tick -/
theorem tdq (z : Int) (d : Nat) (hd : 0 < d) : ∃ q r : Int, z.tdiv d = q ∧ z = q * d + r ∧ -(d:Int) < r ∧ r < d ∧ (r = 0 ↔ z % d = 0) ∧ (0 ≤ z → 0 ≤ q ∧ 0 ≤ r) ∧ (z ≤ 0 → q ≤ 0 ∧ r ≤ 0) := by
  refine ⟨z.tdiv d, z.tmod d, rfl, ?_, ?_, ?_, ?_, ?_, ?_⟩
  · have := Int.tmod_add_mul_tdiv z d
    rw [Int.mul_comm (z.tdiv d)]; omega
  · have := Int.lt_tmod_of_pos z (show (0:Int) < d by omega); omega
  · exact Int.tmod_lt_of_pos z (by omega)
  · rw [← Int.dvd_iff_emod_eq_zero]
    exact ⟨Int.dvd_of_tmod_eq_zero, Int.tmod_eq_zero_of_dvd⟩
  · intro h
    exact ⟨Int.tdiv_nonneg h (by omega), Int.tmod_nonneg _ h⟩
  · intro h
    have h1 := Int.neg_tdiv (a := z) (b := d)
    have h2 := Int.tdiv_nonneg (a := -z) (b := d) (by omega) (by omega)
    have h3 := Int.tmod_nonneg (a := -z) d (by omega)
    rw [Int.neg_tmod] at h3
    omega
theorem jr4 (x : Int32) : jrem x 4 = 0 ↔ x.toBitVec.toNat % 4 = 0 := by
  have hx := x.toInt_lt
  have hx2 := x.le_toInt
  obtain ⟨q, r, h1, h2, h3, h4, h5, h6, h7⟩ := tdq x.toInt 4 (by decide)
  have e1 : (x / 4).toInt = q := by
    rw [Int32.toInt_div]
    show (x.toInt.tdiv (4 : Nat)).bmod _ = _
    rw [h1, Int.bmod_eq_of_le] <;> simp <;> omega
  have e2 : (x / 4 * 4).toInt = q * 4 := by
    rw [Int32.toInt_mul, e1]
    show (q * 4).bmod _ = _
    rw [Int.bmod_eq_of_le] <;> simp <;> omega
  have e3 : jrem x 4 = 0 ↔ x.toInt = q * 4 := by
    unfold jrem
    rw [← e2, Int32.toInt_inj]
    constructor
    · intro h
      have := congrArg (· + x / 4 * 4) h
      simpa [Int32.sub_add_cancel] using this
    · intro h
      rw [← h]; exact Int32.sub_self _
  rw [e3]
  have e4 : x.toInt = x.toBitVec.toInt := rfl
  have e5 := BitVec.toInt_eq_toNat_cond x.toBitVec
  rw [← e4] at e5
  split at e5 <;> omega
theorem jr64 (x : Int32) : jrem x 64 = 0 ↔ x.toBitVec.toNat % 64 = 0 := by
  have hx := x.toInt_lt
  have hx2 := x.le_toInt
  obtain ⟨q, r, h1, h2, h3, h4, h5, h6, h7⟩ := tdq x.toInt 64 (by decide)
  have e1 : (x / 64).toInt = q := by
    rw [Int32.toInt_div]
    show (x.toInt.tdiv (64 : Nat)).bmod _ = _
    rw [h1, Int.bmod_eq_of_le] <;> simp <;> omega
  have e2 : (x / 64 * 64).toInt = q * 64 := by
    rw [Int32.toInt_mul, e1]
    show (q * 64).bmod _ = _
    rw [Int.bmod_eq_of_le] <;> simp <;> omega
  have e3 : jrem x 64 = 0 ↔ x.toInt = q * 64 := by
    unfold jrem
    rw [← e2, Int32.toInt_inj]
    constructor
    · intro h
      have := congrArg (· + x / 64 * 64) h
      simpa [Int32.sub_add_cancel] using this
    · intro h
      rw [← h]; exact Int32.sub_self _
  rw [e3]
  have e4 : x.toInt = x.toBitVec.toInt := rfl
  have e5 := BitVec.toInt_eq_toNat_cond x.toBitVec
  rw [← e4] at e5
  split at e5 <;> omega
theorem nI_tn (x : Int32) : nI x.toBitVec.toNat = x := Int32.toBitVec_inj.mp (BitVec.eq_of_toNat_eq (pk_tn x.toBitVec.isLt))
def strongA (N : xN) : Prop := ∀ m, m < N.1 → ¬ N.2 (8 + m)
/-- a PEEK that is answered may not be left yet, at any node -/
def weakN (N : xN) : xN := (N.1, fun m => N.2 m ∨ 8 ≤ m)
theorem REL.weak {D : Nat} {N : xN} {S R : xS} (h : REL E0 (LX D N) N S R) : REL E0 (LX D (weakN N)) (weakN N) S R := by
  have hN := h.1
  refine (h.reN (N' := weakN N) rfl (fun m hm z => z.elim id (fun q => absurd q (by omega)))).x (fun z => ?_)
  obtain ⟨a1, a2⟩ := z
  refine ⟨fun n hn => ?_, a2⟩
  have hn' : n < N.1 := hn
  obtain ⟨b1, b2, b3, b4⟩ := a1 n hn
  refine ⟨?_, b2, ?_, b4⟩
  · exact (show (weakN N).2 n ↔ N.2 n from ⟨fun z => z.elim id (fun q => absurd q (by omega)), Or.inl⟩).trans b1
  · obtain ⟨c1, c2⟩ := b3
    refine ⟨c1, c2.imp id (fun c => ⟨c.1, c.2.imp id (fun c => c.imp id ?_)⟩)⟩
    rintro ⟨k, d1, d2, d3, d4, d5⟩
    exact ⟨k, d1, d2, d3, d4, d5.imp id (fun d => ⟨Or.inr (Nat.le_add_right 8 n), d.2⟩)⟩
theorem LX.frame {D : Nat} {N : xN} {s r s' r' : xS} (h : LX D N s r) (hN : N.1 ≤ 8) (f1 : ∀ a b, a ≤ 8 → xI s' a b = xI s a b) (f2 : s'.2 = s.2) (f3 : ∀ j e, ¬ (j = 0 ∧ (e = 0 ∨ e = 2)) → xI r' 0 j e = xI r 0 j e) (ht : xI s' 9 0 2 = xI r' 0 0 2) : LX D N s' r' := by
  obtain ⟨a1, a2, a3, a4⟩ := h
  have eb : ∀ m, rb r' m = rb r m := fun m => funext fun i => f3 _ _ (by omega)
  have er : ∀ e, rr r' e = rr r e := fun e => funext fun i => f3 _ _ (by omega)
  have ex : ∀ a b, xE s' a b = xE s a b := fun a b => by unfold xE; rw [f2]
  have eB : ∀ a b x, cB s' a b x = cB s a b x := fun a b x => by unfold cB xJ; rw [f2]
  refine ⟨fun m hm => ?_, ?_, ?_, ?_⟩
  · obtain ⟨b1, b2, b3, b4⟩ := a1 m hm
    refine ⟨by rw [eb]; exact b1, fun k hk => ?_, ?_, fun t ht => ?_⟩
    · rw [eb, er, f1 m 0 (by omega), f1 m (12 + k) (by omega), f1 m (16 + k) (by omega)]
      exact b2 k hk
    · have e2 : (fun k => xI s' m (12 + k) 3) = fun k => xI s m (12 + k) 3 := funext fun k => by rw [f1 m (12 + k) (by omega)]
      rw [eb, f1 m 0 (by omega), e2]
      exact b3
    · rw [f1 m 9 (by omega), f1 m 10 (by omega), f3 _ _ (by omega), f3 _ _ (by omega)]
      exact b4 t ht
  · obtain ⟨b1, f, m, c, c1, c2, c3, c4, c5, c6, c7, c8, c9, c10, c11, c12, c13⟩ := a2
    unfold HOp
    rw [er, f1 8 16 (by omega), f1 8 0 (by omega), f3 0 59 (by omega), f3 0 60 (by omega), f3 0 61 (by omega)]
    exact ⟨b1, f, m, c, c1, c2, c3, c4, c5, c6, c7, c8, c9, c10, c11, fun x hx => by rw [eB, f3 58 x (by omega)]; exact c12 x hx, fun x hx => by rw [eB, f3 59 x (by omega)]; exact c13 x hx⟩
  · intro a b hab
    rw [ex, er, f1 a (16 + b) (by rcases hab with h | h <;> omega)]
    exact a3 a b hab
  · refine ⟨ht, ?_⟩
    rw [f3 0 1 (by omega)]
    exact a4.2
theorem REL.tick {E : Nat → Nat → Prop} {D : Nat} {N : xN} {S R : xS} (h : REL E (LX D N) N S R) : REL E (LX D N) N (sI S 9 0 2 (xI S 9 0 2 + 1)) (sI R 0 0 2 (xI R 0 0 2 + 1)) := by
  obtain ⟨s, r, hx, hl⟩ := h.opn
  have h1 := (hx.cv (n := 9) (j := 0) (k := 2) (Or.inl rfl) (xI S 9 0 2 + 1)).rv (j := 0) (k := 2) (Or.inl rfl) (xI R 0 0 2 + 1)
  refine h1.un (hl.frame h.1 (fun a b ha => ?_) rfl (fun j e hj => xI_ne _ _ (by omega)) ?_)
  · funext c
    exact xI_ne _ _ (by omega)
  · rw [xI_eq, xI_eq, h.lx.2.2.2.1]
def bF (T n : Nat) (R : xS) : Option xS := (bB n R).bind (fun R => (bCk T n R).bind (fun R => bY n R))
theorem node_loop {M : Nat} {K : Int32 → Int32 → xS → Option (Int32 × xS)} {v1 v2 : Int32} {T : Nat} (hT : T < 2 ^ 32) : ∀ (j g n D : Nat) (N : xN) (S R : xS), N.1 = M → REL E0 (LX D N) N S R → xI R 0 0 2 = nI T → (∀ m, m < n → ¬ N.2 (8 + m)) → n + j = M → j < g → ∃ S' R' N', N'.1 = M ∧ strongA N' ∧ REL E0 (LX (D + j) N') N' S' R' ∧ c11_run_b46 M K g v1 v2 (nI M) (nI n) S = c11_run_b91 M K 100000 v1 v2 (nI M) 0 S' ∧ runF (bF T) n j R = some R'
  | _, 0, _, _, _, _, _, _, _, _, _, _, hg => absurd hg (by omega)
  | 0, g + 1, n, D, N, S, R, e, h, ht, hs, hn, hg => by
    refine ⟨S, R, N, e, fun m hm => hs m (by omega), h, ?_, rfl⟩
    have hN := h.1
    unfold c11_run_b46
    rw [if_pos (nI_le (by omega) (by omega))]
    rfl
  | j + 1, g + 1, n, D, N, S, R, e, h, ht, hs, hn, hg => by
    have hN := h.1
    have hn1 : n < N.1 := by omega
    obtain ⟨S1, R1, x1, x2, ⟨N1, e1, e2, e3, h1⟩, t1⟩ := p_node h hn1 hT ht
    obtain ⟨S2, R2, N2, y1, y2, y3, y4, y5⟩ := node_loop (M := M) (K := K) (v1 := v1) (v2 := v2) hT j g (n + 1) (D + 1) N1 S1 R1 (e1.trans e) h1 t1 (fun m hm => by
      by_cases em : m = n
      · subst em; exact e3
      · exact fun z => hs m (by omega) (e2 _ z)) (by omega) (by omega)
    refine ⟨S2, R2, N2, y1, y2, ?_, ?_, ?_⟩
    · rw [show D + (j + 1) = D + 1 + j by omega]
      exact y3
    · unfold c11_run_b46
      rw [if_neg (nI_ge (by omega) (by omega)), gd_nI (i := n) (by omega) (by omega), nI_clamp (show n < 2 ^ 31 by omega)]
      rw [← y4, nI_1]
      cases hq : c6_takeBootByte n S with
      | none => rw [hq] at x1; cases x1
      | some Sa =>
        rw [hq, Option.bind_some] at x1
        rw [Option.bind_some, x1, Option.bind_some]
    · unfold runF
      rw [show bF T n R = some R1 from x2]
      exact y5
theorem loc_C0 (T : Nat) : LOC (bC0 T) := by
  intro n hn A B R R' h
  unfold bC0
  rw [h.g (j := 21) (by unfold Wn; omega)]
  exact P2.ite Iff.rfl (fun _ _ => ag_sets hn h (Or.inl rfl) _) (fun _ _ => P2.ret h)
theorem loc_C1 (T : Nat) : LOC (bC1 T) := by
  intro n hn A B R R' h
  unfold bC1
  rw [h.g (j := 21) (by unfold Wn; omega)]
  exact P2.ite Iff.rfl (fun _ _ => ag_sets hn h (Or.inr rfl) _) (fun _ _ => P2.ret h)
theorem LOC.fr {f : Nat → xS → Option xS} (hf : LOC f) {n : Nat} (hn : n < 8) {R o : xS} (hok : OKn n R) (h : f n R = some o) (c : Nat) : xI o 0 0 c = xI R 0 0 c := (hf.self hn hok h).1 0 0 c (fun z => by have := z.2; unfold Wn at this; omega)
theorem run_fr {f : Nat → xS → Option xS} (hf : LOC f) {M : Nat} (hM : M ≤ 8) (c : Nat) : ∀ (j i : Nat) (R o : xS), i + j ≤ M → OKa M R → runF f i j R = some o → xI o 0 0 c = xI R 0 0 c
  | 0, i, R, o, _, hok, h => by cases h; rfl
  | j + 1, i, R, o, hi, hok, h => by
    unfold runF at h
    cases hq : f i R with
    | none => rw [hq] at h; cases h
    | some R1 =>
      rw [hq, Option.bind_some] at h
      rw [run_fr hf hM c j (i + 1) R1 o (by omega) (hf.ok hM (by omega) hok hq) h, hf.fr (by omega) (hok i (by omega)) hq]
theorem ref_boot {M : Nat} (hM : M ≤ 8) : ∀ (j fu n : Nat) (R R1 : xS), OKa M R → xI R 0 0 1 = nI M → n + j = M → j < fu → runF bB n j R = some R1 → r_tick_b135 fu (nI n) R = r_tick_b165 100000 0 R1
  | _, 0, _, _, _, _, _, _, hf, _ => absurd hf (by omega)
  | 0, fu + 1, n, R, R1, ok, hm, hn, hf, h => by
    cases h
    unfold r_tick_b135
    rw [hm, if_pos (nI_le (by omega) (by omega))]
  | j + 1, fu + 1, n, R, R1, ok, hm, hn, hf, h => by
    have h8 : n < 8 := by omega
    unfold runF at h
    unfold r_tick_b135
    rw [hm, if_neg (nI_ge (by omega) (by omega)), gI h8, cl8 h8]
    cases hq : bB n R with
    | none => rw [hq] at h; cases h
    | some Ra =>
      rw [hq, Option.bind_some] at h
      have ih := ref_boot hM j fu (n + 1) Ra R1 (loc_B.ok hM (by omega) ok hq) ((loc_B.fr h8 (ok n (by omega)) hq 1).trans hm) (by omega) (by omega) h
      unfold r_tick_b157
      unfold bB at hq
      by_cases e : xI R 0 52 n = 0
      · rw [if_pos e] at hq
        cases hq
        rw [if_pos e, nI_1]
        exact ih
      · rw [if_neg e] at hq
        rw [if_neg e, hq, Option.bind_some, nI_1]
        exact ih
theorem ref_clock {M : Nat} (hM : M ≤ 8) {T : Nat} (hT : T < 2 ^ 32) : ∀ (j fu n : Nat) (R R1 : xS), OKa M R → xI R 0 0 1 = nI M → xI R 0 0 2 = nI T → n + j = M → j < fu → runF (bCk T) n j R = some R1 → r_tick_b165 fu (nI n) R = r_tick_b234 100000 0 R1
  | _, 0, _, _, _, _, _, _, _, hf, _ => absurd hf (by omega)
  | 0, fu + 1, n, R, R1, ok, hm, ht, hn, hf, h => by
    cases h
    unfold r_tick_b165
    rw [hm, if_pos (nI_le (by omega) (by omega))]
  | j + 1, fu + 1, n, R, R1, ok, hm, ht, hn, hf, h => by
    have h8 : n < 8 := by omega
    have c4 : jrem (nI T) 4 = 0 ↔ T % 4 = 0 := by rw [jr4, pk_tn hT]
    have c64 : jrem (nI T) 64 = 0 ↔ T % 64 = 0 := by rw [jr64, pk_tn hT]
    unfold runF at h
    unfold r_tick_b165
    rw [hm, if_neg (nI_ge (by omega) (by omega)), ht]
    cases hq : bCk T n R with
    | none => rw [hq] at h; cases h
    | some Ra =>
      rw [hq, Option.bind_some] at h
      have ih := ref_clock hM hT j fu (n + 1) Ra R1 ((loc_C T).ok hM (by omega) ok hq) (((loc_C T).fr h8 (ok n (by omega)) hq 1).trans hm) (((loc_C T).fr h8 (ok n (by omega)) hq 2).trans ht) (by omega) (by omega) h
      rw [← nI_1] at ih
      unfold bCk at hq
      cases hq0 : bC0 T n R with
      | none => rw [hq0] at hq; cases hq
      | some Rb =>
        rw [hq0, Option.bind_some] at hq
        have tb : xI Rb 0 0 2 = nI T := ((loc_C0 T).fr h8 (ok n (by omega)) hq0 2).trans ht
        have fin : r_tick_b198 (r_tick_b165 fu) (nI n) Rb = r_tick_b234 100000 0 R1 := by
          unfold r_tick_b198 r_tick_b226
          rw [tb, ix20, ix21, gQ1 h8, clQ1 h8]
          unfold bC1 at hq
          by_cases e : T % 64 = 0
          · rw [if_pos e] at hq
            rw [if_pos (c64.mpr e), hq, Option.bind_some]
            exact ih
          · rw [if_neg e] at hq
            cases hq
            rw [if_neg (fun z => e (c64.mp z))]
            exact ih
        unfold bC0 at hq0
        by_cases e : T % 4 = 0
        · rw [if_pos e] at hq0
          rw [if_pos (c4.mpr e), ix20, gQ0 h8, clQ0 h8, hq0, Option.bind_some]
          exact fin
        · rw [if_neg e] at hq0
          cases hq0
          rw [if_neg (fun z => e (c4.mp z))]
          exact fin
theorem ref_bey {M : Nat} (hM : M ≤ 8) : ∀ (j fu n : Nat) (R R1 : xS), OKa M R → xI R 0 0 1 = nI M → n + j = M → j < fu → runF bY n j R = some R1 → r_tick_b234 fu (nI n) R = r_tick_b272 100000 0 R1
  | _, 0, _, _, _, _, _, _, hf, _ => absurd hf (by omega)
  | 0, fu + 1, n, R, R1, ok, hm, hn, hf, h => by
    cases h
    unfold r_tick_b234
    rw [hm, if_pos (nI_le (by omega) (by omega))]
  | j + 1, fu + 1, n, R, R1, ok, hm, hn, hf, h => by
    have h8 : n < 8 := by omega
    unfold runF at h
    have hq : bY n R = some (rBey R n) := rfl
    rw [hq, Option.bind_some] at h
    have ih := ref_bey hM j fu (n + 1) (rBey R n) R1 (loc_Y.ok hM (by omega) ok hq) ((loc_Y.fr h8 (ok n (by omega)) hq 1).trans hm) (by omega) (by omega) h
    rw [← nI_1] at ih
    unfold r_tick_b234 r_tick_b257
    rw [hm, if_neg (nI_ge (by omega) (by omega))]
    simp only [gI h8, cl8 h8, nar0]
    unfold rBey at ih
    by_cases e : xI R 0 18 n = 0
    · rw [if_pos e] at ih ⊢
      exact ih
    · rw [if_neg e] at ih ⊢
      rw [r_stop_n _ h8]
      exact ih
theorem turns_loop {N : xN} {K : Int32 → Int32 → xS → Option (Int32 × xS)} {v1 v2 : Int32} : ∀ (j g fu n D : Nat) (S R : xS), REL E0 (LX D N) N S R → n + j = N.1 → j < g → j < fu → ∃ S' R', REL E0 (LX (D + j) N) N S' R' ∧ c11_run_b91 N.1 K g v1 v2 (nI N.1) (nI n) S = K v1 (v2 + 1) S' ∧ r_tick_b272 fu (nI n) R = some R'
  | _, 0, _, _, _, _, _, _, _, hg, _ => absurd hg (by omega)
  | _, _ + 1, 0, _, _, _, _, _, _, _, hf => absurd hf (by omega)
  | 0, g + 1, fu + 1, n, D, S, R, h, hn, hg, hf => by
    have hN := h.1
    refine ⟨S, R, h, ?_, ?_⟩
    · unfold c11_run_b91
      rw [if_pos (nI_le (by omega) (by omega))]
    · unfold r_tick_b272
      rw [h.num, if_pos (nI_le (by omega) (by omega))]
  | j + 1, g + 1, fu + 1, n, D, S, R, h, hn, hg, hf => by
    have hN := h.1
    obtain ⟨S1, R1, x1, x2, h1⟩ := p_turn' h (n := n) (by omega)
    obtain ⟨S2, R2, y1, y2, y3⟩ := turns_loop (K := K) (v1 := v1) (v2 := v2) j g fu (n + 1) (D + 1) S1 R1 h1 (by omega) (by omega) (by omega)
    refine ⟨S2, R2, ?_, ?_, ?_⟩
    · rw [show D + (j + 1) = D + 1 + j by omega]
      exact y1
    · unfold c11_run_b91
      rw [if_neg (nI_ge (by omega) (by omega)), gd_nI (i := n) (by omega) (by omega), nI_clamp (show n < 2 ^ 31 by omega), ← y2, ← nI_1]
      cases hq : c6_prepareTurn n S with
      | none => rw [hq] at x1; cases x1
      | some q =>
        obtain ⟨q1, q2⟩ := q
        rw [hq, Option.bind_some] at x1
        dsimp only at x1
        show (if q1 = 0 then _ else _) = _
        by_cases e : q1 = 0
        · rw [if_pos e] at x1 ⊢
          cases x1
          rfl
        · rw [if_neg e] at x1 ⊢
          rw [x1]
          rfl
    · unfold r_tick_b272
      rw [h.num, if_neg (nI_ge (by omega) (by omega)), x2, Option.bind_some, nI_1]
      exact y3
theorem tick_ref {M : Nat} (hM : M ≤ 8) {T : Nat} (hT : T < 2 ^ 32) {R2 R3 : xS} (ok : OKa M R2) (hm : xI R2 0 0 1 = nI M) (ht : xI R2 0 0 2 = nI T) (y5 : runF (bF T) 0 M R2 = some R3) : r_tick_b135 100000 0 R2 = r_tick_b272 100000 0 R3 := by
  obtain ⟨Ra, Rb, z1, z2, z3⟩ := phases loc_B (loc_C T) loc_Y hM M 0 R2 R3 (by omega) ok y5
  have oka := run_ok loc_B hM M 0 R2 Ra (by omega) ok z1
  have okb := run_ok (loc_C T) hM M 0 Ra Rb (by omega) oka z2
  have ma := (run_fr loc_B hM 1 M 0 R2 Ra (by omega) ok z1).trans hm
  have ta := (run_fr loc_B hM 2 M 0 R2 Ra (by omega) ok z1).trans ht
  have mb := (run_fr (loc_C T) hM 1 M 0 Ra Rb (by omega) oka z2).trans ma
  have w1 := ref_boot hM M 100000 0 R2 Ra ok hm (by omega) (by omega) z1
  have w2 := ref_clock hM hT M 100000 0 Ra Rb oka ma ta (by omega) (by omega) z2
  have w3 := ref_bey hM M 100000 0 Rb R3 okb mb (by omega) (by omega) z3
  rw [nI_0'] at w1 w2 w3
  rw [w1, w2, w3]
