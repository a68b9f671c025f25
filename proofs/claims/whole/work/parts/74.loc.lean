/-! what the reference does at one node stays there -/
def Wn (n b c : Nat) : Prop := (b = 4 ∧ 4096 * n ≤ c ∧ c < 4096 * n + 4096) ∨ (((5 ≤ b ∧ b ≤ 18) ∨ (22 ≤ b ∧ b ≤ 30) ∨ (52 ≤ b ∧ b ≤ 57)) ∧ c = n) ∨ (19 ≤ b ∧ b ≤ 21 ∧ (c = 2 * n ∨ c = 2 * n + 1)) ∨ ((b = 31 ∨ b = 32) ∧ 64 * n ≤ c ∧ c < 64 * n + 64) ∨ (33 ≤ b ∧ b ≤ 51 ∧ 4 * n ≤ c ∧ c < 4 * n + 4)
theorem Wn_dj {n m b c : Nat} (h : n ≠ m) (h1 : Wn n b c) (h2 : Wn m b c) : False := by
  unfold Wn at h1 h2
  omega
def OKn (n : Nat) (R : xS) : Prop := (xI R 0 52 n = 0 ∨ xI R 0 53 n = -1 ∨ ∃ k, k < 4 ∧ xI R 0 53 n = nI k) ∧ ∃ c, c ≤ 64 ∧ xI R 0 30 n = nI c
/-- R behind A, R' behind B: changed at node n alone, and alike there -/
def AG (n : Nat) (A B R R' : xS) : Prop := (∀ b c, Wn n b c → xI R' 0 b c = xI R 0 b c) ∧ (∀ a b c, ¬ (a = 0 ∧ Wn n b c) → xI R a b c = xI A a b c) ∧ R.2 = A.2 ∧ (∀ a b c, ¬ (a = 0 ∧ Wn n b c) → xI R' a b c = xI B a b c) ∧ R'.2 = B.2 ∧ OKn n R
theorem AG.g {n : Nat} {A B R R' : xS} (h : AG n A B R R') {j k : Nat} (hw : Wn n j k) : xI R' 0 j k = xI R 0 j k := h.1 j k hw
theorem AG.s' {n : Nat} {A B R R' : xS} (h : AG n A B R R') {j k : Nat} (hw : Wn n j k) {v w : Int32} (e : v = w) (hok : OKn n (sI R 0 j k v)) : AG n A B (sI R 0 j k v) (sI R' 0 j k w) := by
  subst e
  obtain ⟨h1, h2, h3, h4, h5, h6⟩ := h
  refine ⟨fun b c hb => ?_, fun a b c hb => ?_, h3, fun a b c hb => ?_, h5, hok⟩
  · rw [xI_sI, xI_sI]
    by_cases z : 0 = 0 ∧ b = j ∧ c = k
    · rw [if_pos z, if_pos z]
    · rw [if_neg z, if_neg z]; exact h1 b c hb
  · rw [xI_ne _ _ (fun z => hb ⟨z.1, by rw [z.2.1, z.2.2]; exact hw⟩)]; exact h2 a b c hb
  · rw [xI_ne _ _ (fun z => hb ⟨z.1, by rw [z.2.1, z.2.2]; exact hw⟩)]; exact h4 a b c hb
theorem AG.s {n : Nat} {A B R R' : xS} (h : AG n A B R R') {j k : Nat} (hw : Wn n j k) (h1 : j ≠ 53 ∧ j ≠ 52) (h2 : j ≠ 30) {v w : Int32} (e : v = w) : AG n A B (sI R 0 j k v) (sI R' 0 j k w) := by
  refine h.s' hw e ?_
  unfold OKn
  rw [xI_ne _ _ (by omega), xI_ne _ _ (by omega), xI_ne _ _ (by omega)]
  exact h.2.2.2.2.2
theorem AG.s53 {n : Nat} {A B R R' : xS} (h : AG n A B R R') {v : Int32} (hv : v = -1 ∨ ∃ k, k < 4 ∧ v = nI k) : AG n A B (sI R 0 53 n v) (sI R' 0 53 n v) := by
  refine h.s' (by unfold Wn; omega) rfl ?_
  unfold OKn
  rw [xI_ne _ _ (by omega), xI_eq, xI_ne _ _ (by omega)]
  exact ⟨Or.inr hv, h.2.2.2.2.2.2⟩
theorem AG.s52 {n : Nat} {A B R R' : xS} (h : AG n A B R R') : AG n A B (sI R 0 52 n 0) (sI R' 0 52 n 0) := by
  refine h.s' (by unfold Wn; omega) rfl ?_
  unfold OKn
  rw [xI_eq, xI_ne _ _ (by omega), xI_ne _ _ (by omega)]
  exact ⟨Or.inl rfl, h.2.2.2.2.2.2⟩
theorem AG.s30 {n : Nat} {A B R R' : xS} (h : AG n A B R R') {l : Nat} (hl : l ≤ 64) : AG n A B (sI R 0 30 n (nI l)) (sI R' 0 30 n (nI l)) := by
  refine h.s' (by unfold Wn; omega) rfl ?_
  unfold OKn
  rw [xI_ne _ _ (by omega), xI_ne _ _ (by omega), xI_eq]
  exact ⟨h.2.2.2.2.2.1, l, hl, rfl⟩
theorem AG.mb {n : Nat} {A B R R' : xS} (h : AG n A B R R') {x : Nat} (hx : x < 4096) : rB R' n x = rB R n x := by
  unfold rB
  rw [h.g (by unfold Wn; omega)]
theorem AG.gw {n : Nat} {A B R R' : xS} (h : AG n A B R R') (a : Int32) : rGw R' n a = rGw R n a := by
  unfold rGw
  by_cases e : inM (adw a)
  · have h2 : adw a % 2 = 0 := by unfold adw; omega
    rw [if_pos e, if_pos e, h.mb (by omega), h.mb (by omega)]
  · rw [if_neg e, if_neg e]
theorem AG.uw {n : Nat} {A B R R' : xS} (h : AG n A B R R') (a : Int32) : AG n A B (rUw R n a) (rUw R' n a) := by
  unfold rUw
  by_cases e : inM (adw a)
  · rw [if_pos e, if_pos e]; exact h
  · rw [if_neg e, if_neg e]; exact h.s (by unfold Wn; omega) (by decide) (by decide) rfl
theorem AG.pb {n : Nat} {A B R R' : xS} (h : AG n A B R R') (a v : Int32) : AG n A B (rPb R n a v) (rPb R' n a v) := by
  unfold rPb rSB
  by_cases e : inM (adr a)
  · rw [if_pos e, if_pos e]; exact h.s (by unfold Wn; omega) (by decide) (by decide) rfl
  · rw [if_neg e, if_neg e]; exact h.s (by unfold Wn; omega) (by decide) (by decide) rfl
theorem AG.pw {n : Nat} {A B R R' : xS} (h : AG n A B R R') (a v : Int32) : AG n A B (rPw R n a v) (rPw R' n a v) := by
  unfold rPw rSB
  by_cases e : inM (adw a)
  · have h2 : adw a % 2 = 0 := by unfold adw; omega
    rw [if_pos e, if_pos e]; exact (h.s (by unfold Wn; omega) (by decide) (by decide) rfl).s (by unfold Wn; omega) (by decide) (by decide) rfl
  · rw [if_neg e, if_neg e]; exact h.s (by unfold Wn; omega) (by decide) (by decide) rfl
theorem AG.rdy1 {n : Nat} {A B R R' : xS} (h : AG n A B R R') {q : Nat} (hq : q = 2 * n ∨ q = 2 * n + 1) (x : Int32) : AG n A B (rRdy1 R n q x) (rRdy1 R' n q x) := by
  unfold rRdy1
  rw [h.g (j := 19) (by unfold Wn; omega), h.g (j := 20) (by unfold Wn; omega)]
  by_cases e : xI R 0 19 q = 32768
  · rw [if_pos e, if_pos e]; exact (h.s (by unfold Wn; omega) (by decide) (by decide) rfl).s (by unfold Wn; omega) (by decide) (by decide) rfl
  · rw [if_neg e, if_neg e]; exact (h.pw _ _).s (by unfold Wn; omega) (by decide) (by decide) rfl
theorem AG.rdy {n : Nat} {A B R R' : xS} (h : AG n A B R R') (d : Int32) : AG n A B (rRdy R n d) (rRdy R' n d) := by
  unfold rRdy
  by_cases e : d &&& 1 = 0
  · rw [if_pos e, if_pos e]; exact h.rdy1 (Or.inl rfl) _
  · rw [if_neg e, if_neg e]; exact h.rdy1 (Or.inr rfl) _
theorem AG.stop {n : Nat} {A B R R' : xS} (h : AG n A B R R') (w : Int32) : AG n A B (rStop R n w) (rStop R' n w) := by
  unfold rStop
  rw [h.g (j := 13) (by unfold Wn; omega)]
  by_cases e : xI R 0 13 n = 0
  · rw [if_pos e, if_pos e]; exact h.s (by unfold Wn; omega) (by decide) (by decide) rfl
  · rw [if_neg e, if_neg e]; exact h
theorem AG.bey {n : Nat} {A B R R' : xS} (h : AG n A B R R') : AG n A B (rBey R n) (rBey R' n) := by
  unfold rBey
  rw [h.g (j := 18) (by unfold Wn; omega)]
  by_cases e : xI R 0 18 n = 0
  · rw [if_pos e, if_pos e]; exact h.s (by unfold Wn; omega) (by decide) (by decide) rfl
  · rw [if_neg e, if_neg e]; exact (h.stop 2).s (by unfold Wn; omega) (by decide) (by decide) rfl
theorem ag_sets_loop {n : Nat} (hn : n < 8) {A B : xS} (p w : Int32) {c : Nat} (hc : c ≤ 64) : ∀ (j fu k l : Nat) (R R' : xS), AG n A B R R' → k + j = c → l ≤ k → j < fu → P2 (r_sets_b31 fu (nI n) p w (nI l) (nI c) (nI (64 * n + k)) R) (r_sets_b31 fu (nI n) p w (nI l) (nI c) (nI (64 * n + k)) R') (AG n A B)
  | _, 0, _, _, _, _, _, _, _, hf => absurd hf (by omega)
  | 0, fu + 1, k, l, R, R', h, hk, hl, hf => by
    unfold r_sets_b31
    simp only [gI hn, cl8 hn]
    rw [ix64, if_pos (nI_le (by omega) (by omega)), if_pos (nI_le (by omega) (by omega))]
    exact P2.ret (h.s30 (by omega))
  | j + 1, fu + 1, k, l, R, R', h, hk, hl, hf => by
    have l1 : 64 * n + k < 512 := by omega
    have l2 : 64 * n + l < 512 := by omega
    unfold r_sets_b31
    rw [ix64, if_neg (nI_ge (by omega) (by omega)), if_neg (nI_ge (by omega) (by omega))]
    simp only [g512 l1, nI_clamp (show 64 * n + k < 2 ^ 31 by omega)]
    rw [h.g (j := 31) (by unfold Wn; omega), h.g (j := 32) (by unfold Wn; omega)]
    have keep : P2 (r_sets_b114 (r_sets_b31 fu) (nI n) p w (nI l) (nI c) (nI (64 * n + k)) (xI R 0 31 (64 * n + k)) R) (r_sets_b114 (r_sets_b31 fu) (nI n) p w (nI l) (nI c) (nI (64 * n + k)) (xI R 0 31 (64 * n + k)) R') (AG n A B) := by
      unfold r_sets_b114 r_sets_b150
      rw [ix64]
      simp only [g512 l1, g512 l2, nI_clamp (show 64 * n + l < 2 ^ 31 by omega), nI_clamp (show 64 * n + k < 2 ^ 31 by omega)]
      have h1 := h.s (j := 31) (k := 64 * n + l) (by unfold Wn; omega) (by decide) (by decide) (v := xI R 0 31 (64 * n + k)) rfl
      have h2 := h1.s (j := 32) (k := 64 * n + l) (by unfold Wn; omega) (by decide) (by decide) (h1.g (j := 32) (k := 64 * n + k) (by unfold Wn; omega)).symm
      refine P2.xl (P2.xl (P2.xr (P2.xr ?_)))
      rw [nI_1, nI_1]
      exact ag_sets_loop hn p w hc j fu (k + 1) (l + 1) _ _ h2 (by omega) (by omega) (by omega)
    refine P2.ite Iff.rfl (fun _ _ => ?_) (fun _ _ => keep)
    refine P2.l (r_isLater_n _ _) (P2.r (r_isLater_n _ _) ?_)
    refine P2.ite Iff.rfl (fun _ _ => keep) (fun _ _ => ?_)
    refine P2.l (r_wordTo_n _ hn _ _) (P2.r (r_wordTo_n _ hn _ _) ?_)
    refine P2.l (r_wordTo_n _ hn _ _) (P2.r (r_wordTo_n _ hn _ _) ?_)
    refine P2.l (r_ready_n _ hn _) (P2.r (r_ready_n _ hn _) ?_)
    unfold r_sets_b150
    rw [nI_1]
    exact ag_sets_loop hn p w hc j fu (k + 1) l _ _ (((h.pw _ _).pw _ _).rdy _) (by omega) (by omega) (by omega)
theorem ag_sets {n : Nat} (hn : n < 8) {A B R R' : xS} (h : AG n A B R R') {p : Int32} (hp : p = 0 ∨ p = 1) (v : Int32) : P2 (r_sets R (nI n) p v) (r_sets R' (nI n) p v) (AG n A B) := by
  have key : ∀ q, q = 2 * n ∨ q = 2 * n + 1 → P2 (xnm (sI R 0 21 q (v &&& 65535)) (fun S1 => r_sets_b31 100000 (nI n) p v 0 (xI S1 0 30 n) ((64 : Int32) * nI n) S1)) (xnm (sI R' 0 21 q (v &&& 65535)) (fun S1 => r_sets_b31 100000 (nI n) p v 0 (xI S1 0 30 n) ((64 : Int32) * nI n) S1)) (AG n A B) := by
    intro q hq
    have h1 := h.s (j := 21) (k := q) (by unfold Wn; omega) (by decide) (by decide) (v := v &&& 65535) rfl
    obtain ⟨c, hc, e⟩ := h1.2.2.2.2.2.2
    have e2 : (64 : Int32) * nI n = nI (64 * n + 0) := by rw [← ix64]; exact (Int32.add_zero _).symm
    refine P2.xl (P2.xr ?_)
    rw [h1.g (j := 30) (by unfold Wn; omega), e, e2]
    exact ag_sets_loop hn p v hc c 100000 0 0 _ _ h1 (by omega) (by omega) (by omega)
  unfold r_sets
  rcases hp with e | e <;> subst e
  · rw [ix20, Int32.add_zero, gQ0 hn, gQ0 hn, clQ0 hn]
    simp only [gI hn, cl8 hn]
    exact key _ (Or.inl rfl)
  · rw [ix20, ix21, gQ1 hn, gQ1 hn, clQ1 hn]
    simp only [gI hn, cl8 hn]
    exact key _ (Or.inr rfl)
