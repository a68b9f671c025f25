/-! booting stays at its node -/
theorem AG.w {n : Nat} {A B R R' : xS} (h : AG n A B R R') {j : Nat} (hj : 52 ≤ j ∧ j ≤ 57) : xI R' 0 j n = xI R 0 j n := h.g (by unfold Wn; omega)
theorem ag_b298 {n k : Nat} (hn : n < 8) (hk : k < 4) {A B R R' : xS} (h : AG n A B R R') (m : Int32) : P2 (r_boot_b298 (nI n) (nI (4 * n + k)) m R) (r_boot_b298 (nI n) (nI (4 * n + k)) m R') (AG n A B) := by
  have he : 4 * n + k ≤ 32 := by omega
  unfold r_boot_b298
  simp only [gI hn, cl8 hn, g33x he, nI_clamp (show 4 * n + k < 2 ^ 31 by omega), nar1]
  rw [h.w (by omega)]
  refine P2.ite Iff.rfl (fun _ _ => ?_) (fun _ _ => P2.ret h)
  refine P2.ite Iff.rfl (fun _ _ => ?_) (fun _ _ => P2.ret h)
  refine P2.xl (P2.xr ?_)
  have h1 := h.s (j := 43) (k := 4 * n + k) (by unfold Wn; omega) (by decide) (by decide) (v := 1) rfl
  rw [h1.w (by omega)]
  refine P2.l (r_word_n _ hn _) (P2.r (r_word_n _ hn _) ?_)
  rw [h1.gw]
  refine P2.xl (P2.xl (P2.xr (P2.xr (P2.ret ?_))))
  exact ((h1.uw _).s (by unfold Wn; omega) (by decide) (by decide) rfl).s (by unfold Wn; omega) (by decide) (by decide) rfl
theorem ag_b252 {n k : Nat} (hn : n < 8) (hk : k < 4) {A B R R' : xS} (h : AG n A B R R') (m : Int32) : P2 (r_boot_b252 (nI n) (nI (4 * n + k)) m R) (r_boot_b252 (nI n) (nI (4 * n + k)) m R') (AG n A B) := by
  unfold r_boot_b252
  simp only [gI hn, cl8 hn]
  rw [h.w (j := 54) (by omega)]
  refine P2.ite Iff.rfl (fun _ _ => ?_) (fun _ _ => ag_b298 hn hk h m)
  refine P2.ite Iff.rfl (fun _ _ => ?_) (fun _ _ => ag_b298 hn hk h m)
  rw [h.w (j := 56) (by omega), h.w (j := 57) (by omega)]
  refine P2.l (r_wordTo_n _ hn _ _) (P2.r (r_wordTo_n _ hn _ _) ?_)
  refine P2.xl (P2.xl (P2.xr (P2.xr ?_)))
  exact ag_b298 hn hk (((h.pw _ _).s53 (Or.inl rfl)).s (j := 54) (k := n) (by unfold Wn; omega) (by decide) (by decide) rfl) m
theorem ag_begins {n : Nat} (hn : n < 8) {A B R R' : xS} (h : AG n A B R R') (e : Int32) : P2 (r_begins R (nI n) e) (r_begins R' (nI n) e) (AG n A B) := by
  unfold r_begins
  simp only [gI hn, cl8 hn, nar0]
  have h3 := ((h.s52).s (j := 11) (k := n) (by unfold Wn; omega) (by decide) (by decide) (v := 1) rfl).s (j := 9) (k := n) (by unfold Wn; omega) (by decide) (by decide) (v := 32804) rfl
  refine P2.xl (P2.xl (P2.xl (P2.xr (P2.xr (P2.xr ?_)))))
  rw [h3.w (by omega)]
  refine P2.xl (P2.xl (P2.xl (P2.xl (P2.xl (P2.xl (P2.xr (P2.xr (P2.xr (P2.xr (P2.xr (P2.xr (P2.ret ?_))))))))))))
  exact (((((h3.s (by unfold Wn; omega) (by decide) (by decide) rfl).s (by unfold Wn; omega) (by decide) (by decide) rfl).s (by unfold Wn; omega) (by decide) (by decide) rfl).s (by unfold Wn; omega) (by decide) (by decide) rfl).s (by unfold Wn; omega) (by decide) (by decide) rfl).s (by unfold Wn; omega) (by decide) (by decide) rfl
theorem ag_b43 {n : Nat} (hn : n < 8) {A B R R' : xS} (h : AG n A B R R') (h52 : ¬ xI R 0 52 n = 0) : P2 (r_boot_b43 (nI n) R) (r_boot_b43 (nI n) R') (AG n A B) := by
  unfold r_boot_b43
  simp only [gI hn, cl8 hn]
  rw [h.w (j := 53) (by omega)]
  rcases h.2.2.2.2.2.1.resolve_left h52 with q | ⟨k, hk, q⟩
  · rw [q]
    refine P2.pl (by first | rfl | trivial) (P2.pr (by first | rfl | trivial) (P2.ret h))
  · have he : 4 * n + k ≤ 32 := by omega
    have ix : (4 : Int32) * nI n + nI k = nI (4 * n + k) := by rw [show (4 : Int32) = nI 4 from rfl, pk_mul, nI_add]
    have hW : ∀ j, 33 ≤ j → j ≤ 51 → Wn n j (4 * n + k) := fun j h1 h2 => by unfold Wn; omega
    rw [q, ix]
    simp only [g33x he, nI_clamp (show 4 * n + k < 2 ^ 31 by omega)]
    rw [h.g (hW 50 (by decide) (by decide)), h.g (hW 43 (by decide) (by decide))]
    refine P2.ite Iff.rfl (fun _ _ => P2.ret h) (fun _ _ => ?_)
    refine P2.ite Iff.rfl (fun _ _ => P2.ret h) (fun _ _ => ?_)
    refine P2.ite Iff.rfl (fun _ _ => ?_) (fun _ _ => P2.ret h)
    generalize xI R 0 50 (4 * n + k) = v
    have h1 := h.s (hW 50 (by decide) (by decide)) (by decide) (by decide) (v := -1) rfl
    refine P2.xl (P2.xr ?_)
    rw [h1.g (hW 40 (by decide) (by decide))]
    have h2 := h1.s (hW 40 (by decide) (by decide)) (by decide) (by decide) (v := xI (sI R 0 50 (4 * n + k) (-1)) 0 40 (4 * n + k) + 1) rfl
    refine P2.xl (P2.xr ?_)
    revert h2
    generalize sI (sI R 0 50 (4 * n + k) (-1)) 0 40 (4 * n + k) (xI (sI R 0 50 (4 * n + k) (-1)) 0 40 (4 * n + k) + 1) = R6
    generalize sI (sI R' 0 50 (4 * n + k) (-1)) 0 40 (4 * n + k) (xI (sI R 0 50 (4 * n + k) (-1)) 0 40 (4 * n + k) + 1) = R6'
    intro h2
    rw [h2.w (j := 54) (by omega)]
    refine P2.ite Iff.rfl (fun _ _ => ?_) (fun _ _ => ?_)
    · refine P2.xl (P2.xl (P2.xl (P2.xl (P2.xr (P2.xr (P2.xr (P2.xr (P2.ret ?_))))))))
      exact (((h2.s (by unfold Wn; omega) (by decide) (by decide) rfl).s (by unfold Wn; omega) (by decide) (by decide) rfl).s (by unfold Wn; omega) (by decide) (by decide) rfl).s (by unfold Wn; omega) (by decide) (by decide) rfl
    · rw [h2.w (j := 55) (by omega)]
      have h3 := h2.s (j := 55) (k := n) (by unfold Wn; omega) (by decide) (by decide) (v := xI R6 0 55 n + 1) rfl
      refine P2.xl (P2.xr ?_)
      rw [h3.w (j := 54) (by omega), h3.w (j := 56) (by omega), h3.w (j := 57) (by omega)]
      generalize xI R6 0 55 n = m at h3 ⊢
      refine P2.ite Iff.rfl (fun _ _ => ?_) (fun _ _ => ?_)
      · refine P2.ite Iff.rfl (fun _ _ => ?_) (fun _ _ => ?_)
        · exact P2.xl (P2.xr (ag_b252 hn hk (h3.s (by unfold Wn; omega) (by decide) (by decide) rfl) _))
        · exact P2.xl (P2.xr (ag_b252 hn hk (h3.s (by unfold Wn; omega) (by decide) (by decide) rfl) _))
      · refine P2.l (r_byteTo_n _ hn _ _) (P2.r (r_byteTo_n _ hn _ _) ?_)
        have h4 := h3.pb ((32804 : Int32) + m) v
        rw [h4.w (j := 54) (by omega), h4.w (j := 55) (by omega)]
        refine P2.ite Iff.rfl (fun _ _ => ?_) (fun _ _ => P2.ret h4)
        exact P2.some_l (P2.some_r (ag_begins hn h4 _))
/-- a class's state that shows the bytes that node n's links keep -/
def kS (R : xS) (n : Nat) : xS := (fun _ b _ => xI R 0 50 (4 * n + (b - 12)), fun _ _ _ => 0, fun _ _ => none)
theorem ag_boot {n : Nat} (hn : n < 8) {A B R R' : xS} (h : AG n A B R R') (h52 : ¬ xI R 0 52 n = 0) : P2 (r_boot R (nI n)) (r_boot R' (nI n)) (AG n A B) := by
  unfold r_boot
  rw [gI hn, gI hn, cl8 hn, h.w (j := 53) (by omega)]
  refine P2.ite Iff.rfl (fun _ _ => ?_) (fun _ _ => ag_b43 hn h h52)
  have e0 : ∀ k, k < 4 → xI (kS R n) n (12 + k) 10 = xI R 0 50 (4 * n + k) := fun k hk => by
    show xI R 0 50 (4 * n + (12 + k - 12)) = _
    rw [show 12 + k - 12 = k by omega]
  have e1 : ∀ k, k < 4 → xI (kS R n) n (12 + k) 10 = xI R' 0 50 (4 * n + k) := fun k hk => by
    rw [h.g (by unfold Wn; omega)]
    exact e0 k hk
  rcases first_link hn e0 with ⟨x1, x2⟩ | ⟨k, hk, x0, x1, x2⟩
  · rcases first_link hn e1 with ⟨y1, y2⟩ | ⟨k', hk', y0, y1, y2⟩
    · rw [x2, y2]
      exact ag_b43 hn h h52
    · rw [x1] at y1
      have := congrArg (fun o => o.map Prod.fst) y1
      simp only [Option.map_some, Option.some.injEq] at this
      exact absurd this.symm (ne_m1 (w16_nI (by omega)))
  · rcases first_link hn e1 with ⟨y1, y2⟩ | ⟨k', hk', y0, y1, y2⟩
    · rw [x1] at y1
      have := congrArg (fun o => o.map Prod.fst) y1
      simp only [Option.map_some, Option.some.injEq] at this
      exact absurd this (ne_m1 (w16_nI (by omega)))
    · rw [x1] at y1
      have := congrArg (fun o => o.map Prod.fst) y1
      simp only [Option.map_some, Option.some.injEq] at this
      have ek : k = k' := (nI_eq (by omega) (by omega)).mp this
      subst ek
      rw [x2, y2]
      exact ag_b43 hn (h.s53 (Or.inr ⟨k, hk, rfl⟩)) (by rw [xI_ne _ _ (by omega)]; exact h52)
