/-! those that wait for a time -/
theorem LX.tm {N : xN} {D : Nat} {s r s' r' : xS} (h : LX D N s r) (f1 : ∀ a b, b ≠ 9 → b ≠ 10 → xI s' a b = xI s a b) (f2 : s'.2 = s.2) (f3 : ∀ j e, j ≠ 31 → j ≠ 32 → xI r' 0 j e = xI r 0 j e) (h1 : ∀ n, n < N.1 → TMp s' r' n) : LX D N s' r' := by
  obtain ⟨a1, a2, a3, a4⟩ := h
  have eb : ∀ m, rb r' m = rb r m := fun m => funext fun i => f3 _ _ (by omega) (by omega)
  have er : ∀ e, rr r' e = rr r e := fun e => funext fun i => f3 _ _ (by omega) (by omega)
  have ex : ∀ a b, xE s' a b = xE s a b := fun a b => by unfold xE; rw [f2]
  have eB : ∀ a b x, cB s' a b x = cB s a b x := fun a b x => by unfold cB xJ; rw [f2]
  refine ⟨fun m hm => ?_, ?_, ?_, ?_⟩
  · obtain ⟨b1, b2, b3, b4⟩ := a1 m hm
    refine ⟨by rw [eb]; exact b1, fun k hk => ?_, ?_, h1 m hm⟩
    · rw [eb, er, f1 m 0 (by omega) (by omega), f1 m (12 + k) (by omega) (by omega), f1 m (16 + k) (by omega) (by omega)]
      exact b2 k hk
    · have e2 : (fun k => xI s' m (12 + k) 3) = fun k => xI s m (12 + k) 3 := funext fun k => by rw [f1 m (12 + k) (by omega) (by omega)]
      rw [eb, f1 m 0 (by omega) (by omega), e2]
      exact b3
  · obtain ⟨b1, f, m, c, c1, c2, c3, c4, c5, c6, c7, c8, c9, c10, c11, c12, c13⟩ := a2
    unfold HOp
    rw [er, f1 8 16 (by omega) (by omega), f1 8 0 (by omega) (by omega), f3 0 59 (by omega) (by omega), f3 0 60 (by omega) (by omega), f3 0 61 (by omega) (by omega)]
    exact ⟨b1, f, m, c, c1, c2, c3, c4, c5, c6, c7, c8, c9, c10, c11, fun x hx => by rw [eB, f3 58 x (by omega) (by omega)]; exact c12 x hx, fun x hx => by rw [eB, f3 59 x (by omega) (by omega)]; exact c13 x hx⟩
  · intro a b hab
    rw [ex, er, f1 a (16 + b) (by omega) (by omega)]
    exact a3 a b hab
  · refine ⟨?_, ?_⟩
    · rw [f1 9 0 (by omega) (by omega), f3 0 2 (by omega) (by omega)]
      exact a4.1
    · rw [f3 0 1 (by omega) (by omega)]
      exact a4.2
theorem xI_fn_ne (S : xS) {n j k : Nat} (v : Int32) {a b : Nat} (h : ¬ (a = n ∧ b = j)) : xI (sI S n j k v) a b = xI S a b := sI_off S n j k v h
theorem LX.t9 {N : xN} {D : Nat} {s r : xS} (h : LX D N s r) {n t : Nat} (ht : t < 64) (v : Int32) : LX D N (sI s n 9 t v) (sI r 0 31 (64 * n + t) v) := by
  refine h.tm (fun a b h1 h2 => xI_fn_ne _ _ (by omega)) rfl (fun j e h1 h2 => xI_ne _ _ (by omega)) (fun m hm t' ht' => ?_)
  have h0 := (h.1 m hm).2.2.2 t' ht'
  rw [xI_ne (b := 10) _ _ (by omega), xI_ne (b := 32) _ _ (by omega)]
  refine ⟨?_, h0.2⟩
  by_cases e : m = n ∧ t' = t
  · obtain ⟨rfl, rfl⟩ := e
    rw [xI_eq, xI_eq]
  · rw [xI_ne _ _ (by omega), xI_ne _ _ (by omega)]
    exact h0.1
theorem LX.t10 {N : xN} {D : Nat} {s r : xS} (h : LX D N s r) {n t : Nat} (ht : t < 64) (v : Int32) : LX D N (sI s n 10 t v) (sI r 0 32 (64 * n + t) v) := by
  refine h.tm (fun a b h1 h2 => xI_fn_ne _ _ (by omega)) rfl (fun j e h1 h2 => xI_ne _ _ (by omega)) (fun m hm t' ht' => ?_)
  have h0 := (h.1 m hm).2.2.2 t' ht'
  rw [xI_ne (b := 9) _ _ (by omega), xI_ne (b := 31) _ _ (by omega)]
  refine ⟨h0.1, ?_⟩
  by_cases e : m = n ∧ t' = t
  · obtain ⟨rfl, rfl⟩ := e
    rw [xI_eq, xI_eq]
  · rw [xI_ne _ _ (by omega), xI_ne _ _ (by omega)]
    exact h0.2
theorem LX.ofv {N : xN} {D : Nat} {S R : xS} (h : LX D N S R) : LX D N (vS S) (vR R) := by rw [LX_v]; exact h
/-- a rest that shows those who wait for a time, and lets them be changed on both sides -/
def TX (X : xS → xS → Prop) (n : Nat) : Prop := (∀ s r, X s r → TMp s r n) ∧ (∀ s r t v, t < 64 → X s r → X (sI s n 9 t v) (sI r 0 31 (64 * n + t) v)) ∧ (∀ s r t v, t < 64 → X s r → X (sI s n 10 t v) (sI r 0 32 (64 * n + t) v))
theorem TX_LX (D : Nat) (N : xN) {n : Nat} (hn : n < N.1) : TX (LX D N) n := ⟨fun s r h => (h.1 n hn).2.2.2, fun s r t v ht h => h.t9 ht v, fun s r t v ht h => h.t10 ht v⟩
theorem REL.s_t9 {E : Nat → Nat → Prop} {X : xS → xS → Prop} {N : xN} {S R : xS} (h : REL E X N S R) {n : Nat} (hT : TX X n) {t : Nat} (ht : t < 64) {v w : Int32} (e : v = w) : REL E X N (sI S n 9 t v) (sI R 0 31 (64 * n + t) w) := by
  subst e
  have h1 := (h.xv.cv (n := n) (j := 9) (k := t) (by omega) v).rv (j := 31) (k := 64 * n + t) (by omega) v
  exact ⟨h1.1, h1.2.1, h1.2.2.1, by rw [h1.2.2.2.1, h1.2.2.2.2]; exact hT.2.1 _ _ _ _ ht h.2.2.2⟩
theorem REL.s_t10 {E : Nat → Nat → Prop} {X : xS → xS → Prop} {N : xN} {S R : xS} (h : REL E X N S R) {n : Nat} (hT : TX X n) {t : Nat} (ht : t < 64) {v w : Int32} (e : v = w) : REL E X N (sI S n 10 t v) (sI R 0 32 (64 * n + t) w) := by
  subst e
  have h1 := (h.xv.cv (n := n) (j := 10) (k := t) (by omega) v).rv (j := 32) (k := 64 * n + t) (by omega) v
  exact ⟨h1.1, h1.2.1, h1.2.2.1, by rw [h1.2.2.2.1, h1.2.2.2.2]; exact hT.2.2 _ _ _ _ ht h.2.2.2⟩
theorem REL.g_t9 {E : Nat → Nat → Prop} {X : xS → xS → Prop} {N : xN} {S R : xS} (h : REL E X N S R) {n : Nat} (hT : TX X n) {t : Nat} (ht : t < 64) : xI S n 9 t = xI R 0 31 (64 * n + t) := by
  have h1 := (hT.1 _ _ h.2.2.2 t ht).1
  rw [vS_I (by omega), vR_I (by decide)] at h1
  exact h1
theorem REL.g_t10 {E : Nat → Nat → Prop} {X : xS → xS → Prop} {N : xN} {S R : xS} (h : REL E X N S R) {n : Nat} (hT : TX X n) {t : Nat} (ht : t < 64) : xI S n 10 t = xI R 0 32 (64 * n + t) := by
  have h1 := (hT.1 _ _ h.2.2.2 t ht).2
  rw [vS_I (by omega), vR_I (by decide)] at h1
  exact h1
theorem ix64 (n k : Nat) : (64 : Int32) * nI n + nI k = nI (64 * n + k) := by
  rw [show (64 : Int32) = nI 64 from rfl, pk_mul, nI_add]
theorem g512 {α : Type} {i : Nat} {k : Option α} (h : i < 512) : gd (nI i) 512 k = k := gd_nI h (by decide)
theorem g64 {α : Type} {i : Nat} {k : Option α} (h : i < 64) : gd (nI i) 64 k = k := gd_nI h (by decide)
theorem c10_keep_n (n : Nat) (S : xS) {a b : Nat} (ha : a < 64) (hb : b < 64) : c10_keep n S (nI a) (nI b) = some (sI (sI S n 9 b (xI S n 9 a)) n 10 b (xI (sI S n 9 b (xI S n 9 a)) n 10 a)) := by
  unfold c10_keep
  rw [if_neg (nI_pos (by omega)), if_neg (show ¬ (64 : Int32) ≤ nI a from nI_ge (b := 64) ha (by decide)), if_neg (nI_pos (by omega)), if_pos (show nI b < (64 : Int32) from nI_lt (b := 64) hb (by decide)), g64 ha, g64 hb, nI_clamp (n := a) (by omega), nI_clamp (n := b) (by omega)]
  simp only [xnm, g64 ha, g64 hb]
/-- related, and the reference's priority is v -/
def Qv (E : Nat → Nat → Prop) (X : xS → xS → Prop) (N : xN) (n : Nat) (v : Int32) (o p : xS) : Prop := REL E X N o p ∧ xI p 0 11 n = v
theorem drop_loop {E : Nat → Nat → Prop} {X : xS → xS → Prop} {N : xN} {n : Nat} (hT : TX X n) (hn : inN n N) (d : Int32) {c : Nat} (hc : c ≤ 64) {v : Int32} : ∀ (j fu k l : Nat) (S R : xS), REL E X N S R → xI R 0 11 n = v → xI R 0 30 n = nI c → k + j = c → l ≤ k → j < fu → P2 (c10_drop_b4 n fu d (nI l) (nI k) S) (r_forget_b8 fu (nI n) d (nI l) (nI (64 * n + k)) R) (Qv E X N n v)
  | _, 0, _, _, _, _, _, _, _, _, _, hf => absurd hf (by omega)
  | 0, fu + 1, k, l, S, R, h, hv, e, hk, hl, hf => by
    have h8 := h.le8 hn
    unfold c10_drop_b4 r_forget_b8
    simp only [gI h8, cl8 h8]
    rw [h.g_tim hn, e, ix64, if_pos (nI_le (by omega) (by omega)), if_pos (nI_le (by omega) (by omega))]
    exact P2.ret ⟨h.s_tim hn rfl ⟨l, by omega, rfl⟩, by rw [xI_ne _ _ (by omega)]; exact hv⟩
  | j + 1, fu + 1, k, l, S, R, h, hv, e, hk, hl, hf => by
    have h8 := h.le8 hn
    have l1 : 64 * n + k < 512 := by omega
    have l2 : 64 * n + l < 512 := by omega
    unfold c10_drop_b4 r_forget_b8 c10_drop_b37 r_forget_b77
    simp only [gI h8, cl8 h8]
    rw [h.g_tim hn, e, ix64, if_neg (nI_ge (by omega) (by omega)), if_neg (nI_ge (by omega) (by omega)), if_neg (show ¬ (64 : Int32) ≤ nI k from nI_ge (b := 64) (by omega) (by decide)), g64 (by omega), nI_clamp (n := k) (by omega), h.g_t9 hT (by omega), g512 l1, nI_clamp (n := 64 * n + k) (by omega)]
    refine P2.ite Iff.rfl (fun _ _ => ?_) (fun _ _ => ?_)
    · rw [nI_1, nI_1]
      exact drop_loop hT hn d hc j fu (k + 1) l S R h hv e (by omega) (by omega) (by omega)
    · rw [ix64, nI_clamp (n := 64 * n + l) (by omega)]
      simp only [g512 l1, g512 l2, xnm]
      refine P2.l (c10_keep_n n S (by omega) (by omega)) ?_
      rw [nI_1, nI_1, nI_1]
      have h1 := h.s_t9 hT (t := l) (by omega) (h.g_t9 hT (t := k) (by omega))
      have h2 := h1.s_t10 hT (t := l) (by omega) (h1.g_t10 hT (t := k) (by omega))
      refine drop_loop hT hn d hc j fu (k + 1) (l + 1) _ _ h2 (by rw [xI_ne _ _ (by omega), xI_ne _ _ (by omega)]; exact hv) ?_ (by omega) (by omega) (by omega)
      rw [xI_ne _ _ (by omega), xI_ne _ _ (by omega)]
      exact e
theorem p_drop {E : Nat → Nat → Prop} {X : xS → xS → Prop} {N : xN} {S R : xS} (h : REL E X N S R) {n : Nat} (hT : TX X n) (hn : inN n N) (d : Int32) : P2 (c10_drop n S d) (r_forget R (nI n) d) (Qv E X N n (xI R 0 11 n)) := by
  obtain ⟨c, hc, e⟩ := h.w_tim hn
  unfold c10_drop r_forget
  have e2 : (64 : Int32) * nI n = nI (64 * n + 0) := by rw [← ix64]; exact (Int32.add_zero _).symm
  rw [e2]
  exact drop_loop hT hn d hc c 100000 0 0 S R h rfl e (by omega) (by omega) (by omega)
theorem xI_rRdy (R : xS) (n : Nat) (d : Int32) (j k : Nat) (h1 : j ≠ 4) (h2 : j ≠ 18) (h3 : j ≠ 19) (h4 : j ≠ 20) : xI (rRdy R n d) 0 j k = xI R 0 j k := by
  unfold rRdy rRdy1
  by_cases h : d &&& 1 = 0
  · rw [if_pos h]
    by_cases e : xI R 0 19 (2 * n) = 32768
    · rw [if_pos e, xI_ne _ _ (by omega), xI_ne _ _ (by omega)]
    · rw [if_neg e, xI_ne _ _ (by omega), xI_rPw _ _ _ _ _ _ h1 h2]
  · rw [if_neg h]
    by_cases e : xI R 0 19 (2 * n + 1) = 32768
    · rw [if_pos e, xI_ne _ _ (by omega), xI_ne _ _ (by omega)]
    · rw [if_neg e, xI_ne _ _ (by omega), xI_rPw _ _ _ _ _ _ h1 h2]
/-- one is woken by a partner: alert and finds -/
theorem p_finds {E : Nat → Nat → Prop} {X : xS → xS → Prop} {N : xN} {S R : xS} (h : REL E X N S R) {n : Nat} (hT : TX X n) (hn : inN n N) (d st : Int32) : P2 (c1_alert_b39 n d ((d &&& (65534 : Int32)) - (6 : Int32)) st S) (r_finds R (nI n) d st) (fun o p => o.1 = 1 ∧ Qv E X N n (xI R 0 11 n) o.2 p) := by
  have h8 := h.le8 hn
  unfold c1_alert_b39 r_finds
  refine P2.l (c5_setWord_n _ _ _ _) (P2.r (r_wordTo_n _ h8 _ _) ?_)
  refine P2.bind (p_drop (h.pw hn rfl rfl) hT hn d) (fun a b q => ?_)
  refine P2.ite Iff.rfl (fun _ _ => ?_) (fun _ _ => P2.ret ⟨rfl, q.1, q.2.trans (xI_rPw _ _ _ _ _ _ (by decide) (by decide))⟩)
  refine P2.l (c1_makeReady_n _ _ _) (P2.r (r_ready_n _ h8 _) ?_)
  exact P2.ret ⟨rfl, q.1.rdy hn rfl, (xI_rRdy _ _ _ _ _ (by decide) (by decide) (by decide) (by decide)).trans (q.2.trans (xI_rPw _ _ _ _ _ _ (by decide) (by decide)))⟩
/-- one comes to wait for a time -/
theorem p_add {E : Nat → Nat → Prop} {X : xS → xS → Prop} {N : xN} {S R : xS} (h : REL E X N S R) {n : Nat} (hT : TX X n) (hn : inN n N) (d t : Int32) : P2 ((c10_add n S d t).bind (fun (r_3, S3) => if r_3 = 0 then ((c1_stopWith n S3 (4 : Int32)).bind (fun S5 => some S5)) else (some S3))) (r_waitsFor R (nI n) d t) (REL E X N) := by
  have h8 := h.le8 hn
  obtain ⟨c, hc, e⟩ := h.w_tim hn
  unfold c10_add r_waitsFor
  simp only [gI h8, cl8 h8]
  rw [h.g_tim hn, e, if_neg (nI_pos (by omega))]
  by_cases e2 : c = 64
  · rw [if_neg (show ¬ nI c < (64 : Int32) from nI_nlt (b := 64) (by omega) (by omega)), if_pos (show nI c = (64 : Int32) by rw [e2]; rfl)]
    refine P2.l rfl (P2.pl rfl ?_)
    refine P2.l (c1_stopWith_n _ _ _) (P2.r (r_stop_n _ h8 _) (P2.ret (h.stop hn 4)))
  · have l1 : 64 * n + c < 512 := by omega
    have ne : ¬ nI c = (64 : Int32) := fun z => e2 ((nI_eq (b := 64) (by omega) (by decide)).mp z)
    rw [if_pos (show nI c < (64 : Int32) from nI_lt (b := 64) (by omega) (by decide)), if_neg ne, ix64, g512 l1, nI_clamp (n := 64 * n + c) (by omega), g64 (by omega), nI_clamp (n := c) (by omega)]
    simp only [xnm]
    have h1 := h.s_t9 hT (t := c) (by omega) (v := d) rfl
    have e3 : xI (sI R 0 31 (64 * n + c) d) 0 30 n = nI c := by rw [xI_ne _ _ (by omega)]; exact e
    rw [e3, ix64, g512 l1, nI_clamp (n := 64 * n + c) (by omega), h1.g_tim hn, e3, g64 (by omega), nI_clamp (n := c) (by omega)]
    have h2 := h1.s_t10 hT (t := c) (by omega) (v := t) rfl
    have e4 : xI (sI (sI R 0 31 (64 * n + c) d) 0 32 (64 * n + c) t) 0 30 n = nI c := by rw [xI_ne _ _ (by omega)]; exact e3
    rw [h2.g_tim hn, e4]
    refine P2.l rfl (P2.nl n10 ?_)
    exact P2.ret (h2.s_tim hn rfl ⟨c + 1, by omega, nI_1 c⟩)
theorem p_waitTime {E : Nat → Nat → Prop} {X : xS → xS → Prop} {N : xN} {S R : xS} (h : REL E X N S R) {n : Nat} (hT : TX X n) (hn : inN n N) (hp : xI R 0 11 n = 0 ∨ xI R 0 11 n = 1) (t : Int32) : P2 (c1_waitForTime n S t) (r_waitsFor (rWaits R n) (nI n) (rOwn R n) t) (REL E X N) := by
  unfold c1_waitForTime
  refine P2.l (c1_own_n _ _) (P2.l (c1_leaveWaiting_n _ _) ?_)
  rw [h.own hn hp]
  exact p_add (h.waits hn) hT hn _ _
