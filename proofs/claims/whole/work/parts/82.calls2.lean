/-! the calls: put, send, start -/
theorem ss8 (x : BitVec 64) {s : Nat} (hs : s ≤ 56) : (x.sshiftRight s).toNat % 256 = (x >>> s).toNat % 256 := by
  have h : (x.sshiftRight s).setWidth 8 = (x >>> s).setWidth 8 := by
    apply BitVec.eq_of_getLsbD_eq
    intro i hi
    simp only [BitVec.getLsbD_setWidth, BitVec.getLsbD_sshiftRight, BitVec.getLsbD_ushiftRight]
    have : ¬ 64 ≤ i := by omega
    simp [this, show s + i < 64 by omega, hi]
  have h2 := congrArg BitVec.toNat h
  simpa [BitVec.toNat_setWidth] using h2
theorem jlshr_bv (x : Int64) (s : Nat) (hs : s < 64) : (jlshr x (nI s)).toBitVec = x.toBitVec.sshiftRight s := by
  unfold jlshr
  show (x.toBitVec.sshiftRight (((nI s).toInt64 &&& 63).toBitVec.smod 64).toNat) = _
  rw [sh_63 s hs]
theorem jl_byte (x : Int64) {m : Nat} (hm : m < 8) : ((jlshr x (nI (8 * m))).toInt32).toBitVec.toNat % 256 = lB x m := by
  rw [Int64.toBitVec_toInt32, BitVec.signExtend_eq_setWidth_of_le _ (by decide), BitVec.toNat_setWidth, Nat.mod_mod_of_dvd _ (by decide : 256 ∣ 2 ^ 32), jlshr_bv _ _ (by omega), ss8 _ (by omega), BitVec.toNat_ushiftRight, Nat.shiftRight_eq_div_pow]
  rfl
theorem lu_byte (x : Int64) {m : Nat} (hm : m < 8) : ((lush x (nI (8 * m))).toInt32 &&& (255 : Int32)).toBitVec.toNat % 256 = lB x m := by
  have h := lB_lt x m
  rw [lush_byte _ _ hm, pk_tn (by omega), Nat.mod_eq_of_lt h]
theorem p8 (n : Nat) : (8 : Int32) * nI n = nI (8 * n) := pk_mul 8 n
theorem REL.pb2 {E : Nat → Nat → Prop} {X : xS → xS → Prop} {N : xN} {S R : xS} (h : REL E X N S R) {n : Nat} (hn : n < 8) {o : Nat} (ho : o < 4096) {v w : Int32} (e : v.toBitVec.toNat % 256 = w.toBitVec.toNat % 256) : REL E X N (cSB S n 3 o v) (rSB R n o w) := by
  have ha : adr (nI (32768 + o)) = 32768 + o := adr_nI (by omega)
  have hi : inM (adr (nI (32768 + o))) := by rw [ha]; exact ⟨by omega, by omega⟩
  have e1 : cPb S n (nI (32768 + o)) v = cSB S n 3 o v := by unfold cPb; rw [if_pos hi, ha, show 32768 + o - 32768 = o by omega]
  have e2 : rPb R n (nI (32768 + o)) w = rSB R n o w := by unfold rPb; rw [if_pos hi, ha, show 32768 + o - 32768 = o by omega]
  refine ⟨h.1, (h.2.1.cSB n 3 o v).rSB n o w, fun m hm x hx => ?_, ?_⟩
  · rw [cB_cSB, rB_rSB _ _ _ _ ho _ _ hx]
    by_cases c : m = n ∧ x = o
    · rw [if_pos ⟨c.1, rfl, c.2⟩, if_pos c, e]
    · rw [if_neg (fun z => c ⟨z.1, z.2.2⟩), if_neg c]
      exact h.2.2.1 m hm x hx
  · rw [← e1, ← e2, vS_cPb hn, vR_rPb]
    exact h.2.2.2
theorem put_loop {M : Nat} {N : xN} {D n b : Nat} (hn : n < 8) (hb : b + 8 ≤ 4096) (v3 : Int64) : ∀ (j fu i : Nat) (S R : xS), REL E0 (LX D N) N S R → i + j = 8 → j < fu → P2 (c11_put_b30 M fu (nI (32768 + b)) v3 n (nI i) S) (r_put_b31 fu (nI n) (nI (32768 + b)) v3 (nI i) R) (fun o p => o.1 = p.1 ∧ REL E0 (LX D N) N o.2 p.2)
  | _, 0, _, _, _, _, _, hf => absurd hf (by omega)
  | 0, fu + 1, i, S, R, h, hi, hf => by
    unfold c11_put_b30 r_put_b31
    rw [if_pos (show (8 : Int32) ≤ nI i from nI_le (a := 8) (by omega) (by omega)), if_pos (show (8 : Int32) ≤ nI i from nI_le (a := 8) (by omega) (by omega))]
    exact P2.ret ⟨rfl, h⟩
  | j + 1, fu + 1, i, S, R, h, hi, hf => by
    unfold c11_put_b30 r_put_b31
    rw [if_neg (show ¬ (8 : Int32) ≤ nI i from nI_ge (b := 8) (by omega) (by decide)), if_neg (show ¬ (8 : Int32) ≤ nI i from nI_ge (b := 8) (by omega) (by decide))]
    have ha : adr (nI (32768 + b + i)) = 32768 + (b + i) := by rw [adr_nI (by omega)]; omega
    have hm : inM (adr (nI (32768 + b + i))) := by rw [ha]; exact ⟨by omega, by omega⟩
    have ei : (4096 : Int32) * nI n + nI (32768 + b) - 32768 + nI i = nI (4096 * n + (b + i)) := by
      rw [show (4096 : Int32) * nI n = nI (4096 * n) from pk_mul 4096 n, nI_add, show (32768 : Int32) = nI 32768 from rfl, pk_sub (by omega), nI_add]
      exact congrArg nI (by omega)
    rw [c5_setByte_n, Option.bind_some, nI_add, ei, gd_nI (show 4096 * n + (b + i) < 32768 by omega) (by decide), nI_clamp (show 4096 * n + (b + i) < 2 ^ 31 by omega), p8, pk_vb]
    refine P2.xr ?_
    unfold cPb
    rw [if_pos hm, ha, show 32768 + (b + i) - 32768 = b + i by omega, nI_1]
    exact put_loop hn hb v3 j fu (i + 1) _ _ (h.pb2 hn (show b + i < 4096 by omega) ((lu_byte v3 (by omega)).trans (jl_byte v3 (by omega)).symm)) (by omega) (by omega)
theorem q_put {M D : Nat} {S R : xS} (h : WR M D S R) (a1 a2 : Int32) (a3 : Int64) : P2 (c11_put M S a1 a2 a3) (r_put R a1 a2 a3) (QA M D) := by
  have h1 := h.thr
  unfold c11_put r_put
  refine P2.xr ?_
  generalize sI R 0 0 0 0 = R1 at h1 ⊢
  rcases node_cases h1 a1 with ⟨x1, x2⟩ | ⟨n, hn, e, x1, x2⟩
  · rw [x1, x2]
    exact h1.ans rfl
  subst e
  rw [x1, x2]
  dsimp only [Option.bind_some, xcs]
  rw [gqp ⟨hn, rfl⟩, if_neg n10]
  unfold c11_isInMemory
  by_cases c1 : a2 < 32768
  · rw [if_pos c1, if_pos c1]
    exact h1.ans rfl
  rw [if_neg c1, if_neg c1]
  by_cases c2 : (36864 : Int32) ≤ a2
  · rw [if_pos c2]
    dsimp only [Option.bind_some]
    rw [if_pos rfl, if_neg (fun z => absurd (Int32.le_trans c2 z) (by decide))]
    exact h1.ans rfl
  rw [if_neg c2]
  obtain ⟨x, hx, e⟩ := in_mem c1 c2
  subst e
  dsimp only [Option.bind_some]
  rw [if_neg n10]
  by_cases c3 : nI (32768 + x) ≤ 36856
  · rw [if_pos c3, if_pos c3]
    have hx2 : 32768 + x ≤ 36856 := (nI_leI (b := 36856) (by omega) (by decide)).mp c3
    obtain ⟨N, eN, hs, q⟩ := id h1
    have hN := q.1
    have r := put_loop (M := M) (n := n) (b := x) (by omega) (by omega) a3 8 100000 0 S R1 q (by omega) (by omega)
    rw [nI_0'] at r
    exact r.mono (fun a b z => ⟨z.1, N, eN, hs, z.2⟩)
  · rw [if_neg c3, if_neg c3]
    exact h1.ans rfl
theorem REL.app {N : xN} {D : Nat} {S R : xS} (h : REL E0 (LX D N) N S R) {m : Nat} (hm : xI R 0 45 32 = nI m) (hm2 : m < 4096) {v w : Int32} (hvw : v.toBitVec.toNat % 256 = w.toBitVec.toNat % 256) : ∃ S1 x, c3_append S v = some S1 ∧ x < 4096 ∧ xI R 0 0 60 &&& 4095 = nI x ∧ REL E0 (LX D N) N S1 (sI (sI (sI R 0 58 x w) 0 0 60 (xI R 0 0 60 + 1)) 0 45 32 (nI (m + 1))) := by
  obtain ⟨s, r, hx, hl⟩ := h.opn
  obtain ⟨o1, f, m', c, c1, c2, c3, c4, c5, c6, c7, c8, c9, c10, c11, c12, c13⟩ := hl.2.1
  have c7' : xI r 0 45 32 = nI m' := c7
  rw [hx.r_eq (by omega), c7'] at hm
  have em : m' = m := (nI_eq (by omega) (by omega)).mp hm
  subst em
  have l2 : xI S 8 0 2 = nI f := by rw [hx.c_eq (by omega), c4]
  have l3 : xI S 8 0 3 = nI m' := by rw [hx.c_eq (by omega), c5]
  have l60 : xI R 0 0 60 = xI r 0 0 60 := hx.r_eq (by omega)
  have hq : (f + m') % 4096 < 4096 := Nat.mod_lt _ (by decide)
  refine ⟨sI (cSB S 8 3 ((f + m') % 4096) v) 8 0 3 (nI (m' + 1)), (f + m') % 4096, ?_, hq, ?_, ?_⟩
  · unfold c3_append
    rw [l2, l3, nI_add, rem4096 (by omega), c5_setByte_h 2 S hq, Option.bind_some]
    show some (sI (cSB S 8 3 _ v) 8 0 3 (xI (cSB S 8 3 _ v) 8 0 3 + 1)) = _
    rw [show xI (cSB S 8 3 ((f + m') % 4096) v) 8 0 3 = xI S 8 0 3 from rfl, l3, nI_1]
  · rw [l60, c9]
    exact and4095_add m' c8 c1
  · rw [l60]
    have h2 := ((((hx.cvB 3 ((f + m') % 4096) v).cv (n := 8) (j := 0) (k := 3) (by omega) (nI (m' + 1))).rv (j := 58) (k := (f + m') % 4096) (by omega) w).rv (j := 0) (k := 60) (by omega) (xI r 0 0 60 + 1)).rv (j := 45) (k := 32) (by omega) (nI (m' + 1))
    refine h2.un (hl.host (Nat.le_refl D) h.1 (fun a b hab => ?_) rfl (fun j e he h58 h59 h0 => ?_) ?_ ⟨?_, f, m' + 1, c, c1, by omega, c3, ?_, ?_, ?_, ?_, ?_, ?_, ?_, ?_, fun x hx => ?_, fun x hx => ?_⟩)
    · simp (disch := omega) only [xI_fn_ne]
      rfl
    · simp (disch := omega) only [xI_ne]
    · simp (disch := omega) only [xI_ne]
      rfl
    · obtain ⟨b3, b4, b5, b6, b7, b8, b9, w1, w8, w5, w6, w7, wp⟩ := o1
      unfold EPp
      simp (disch := omega) only [rr, xI_ne]
      exact ⟨b3, b4, b5, b6, b7, b8, b9, w1, w8, w5, w6, w7, wp⟩
    · simp (disch := omega) only [xI_ne]
      exact c4
    · rw [xI_eq]
    · simp (disch := omega) only [xI_ne]
      exact c6
    · simp (disch := omega) only [rr, xI_eq]
    · simp (disch := omega) only [xI_ne]
      exact c8
    · simp (disch := omega) only [xI_ne, xI_eq]
      rw [c9, Int32.add_assoc, nI_1]
    · simp (disch := omega) only [xI_ne]
      exact c10
    · simp (disch := omega) only [rr, xI_ne]
      exact fun z => ⟨(c11 z).1, by omega⟩
    · rw [xI_ne _ _ (by omega), xI_ne _ _ (by omega), cB_sI, cB_cSB, xI_sI]
      by_cases e : x = (f + m') % 4096
      · rw [if_pos ⟨rfl, rfl, e⟩, if_pos ⟨rfl, rfl, e⟩, hvw]
      · rw [if_neg (fun z => e z.2.2), if_neg (fun z => e z.2.2)]
        exact c12 x hx
    · rw [xI_ne _ _ (by omega), xI_ne _ _ (by omega), xI_ne _ _ (by omega), cB_sI, cB_cSB, if_neg (by omega)]
      exact c13 x hx
theorem send_loop {M : Nat} {N : xN} {D m c : Nat} (hc : c ≤ 8) (hm : m + c ≤ 4096) (v1 : Int64) : ∀ (j fu i : Nat) (S R : xS), REL E0 (LX D N) N S (sI R 0 45 32 (nI (m + i))) → xI R 0 45 32 = nI m → i + j = c → j < fu → P2 (c11_send_b26 M fu v1 (nI c) (nI i) S) (r_send_b35 fu v1 (nI c) (nI i) R) (fun o p => o.1 = p.1 ∧ REL E0 (LX D N) N o.2 p.2)
  | _, 0, _, _, _, _, _, _, hf => absurd hf (by omega)
  | 0, fu + 1, i, S, R, h, e, hi, hf => by
    unfold c11_send_b26 r_send_b35
    rw [if_pos (nI_le (by omega) (by omega)), if_pos (nI_le (by omega) (by omega)), show (32 : Int32) = nI 32 from rfl, gd_nI (by decide) (by decide), gd_nI (by decide) (by decide), nI_clamp (show 32 < 2 ^ 31 by decide), e, nI_add]
    refine P2.xr (P2.ret ⟨rfl, ?_⟩)
    rw [show m + c = m + i by omega]
    exact h
  | j + 1, fu + 1, i, S, R, h, e, hi, hf => by
    obtain ⟨S1, x, x1, hx, x2, h1⟩ := h.app (m := m + i) (xI_eq _ _ _ _ _) (by omega) (v := (lush v1 (nI (8 * i))).toInt32 &&& 255) (w := ((jlshr v1 (nI (8 * i))).toInt32).toInt8.toInt32) (by rw [lu_byte v1 (by omega), i8_byte, jl_byte v1 (by omega)])
    rw [xI_ne _ _ (by omega)] at x2 h1
    unfold c11_send_b26 r_send_b35
    rw [if_neg (nI_ge (by omega) (by omega)), if_neg (nI_ge (by omega) (by omega)), p8, x1, Option.bind_some, x2, gd_nI hx (by decide), nI_clamp (show x < 2 ^ 31 by omega), pk_vb]
    refine P2.xr (P2.xr ?_)
    rw [nI_1]
    refine send_loop hc hm v1 j fu (i + 1) _ _ ?_ ?_ (by omega) (by omega)
    · rw [xI_ne _ _ (by omega)]
      have e1 : sI (sI (sI (sI R 0 45 32 (nI (m + i))) 0 58 x ((jlshr v1 (nI (8 * i))).toInt32).toInt8.toInt32) 0 0 60 (xI R 0 0 60 + 1)) 0 45 32 (nI (m + i + 1)) = sI (sI (sI R 0 58 x ((jlshr v1 (nI (8 * i))).toInt32).toInt8.toInt32) 0 0 60 (xI R 0 0 60 + 1)) 0 45 32 (nI (m + (i + 1))) := by
        rw [sI_comm R (nI (m + i)) _ (by omega), sI_comm (sI R 0 58 x _) (nI (m + i)) _ (by omega), sI_idem]
        rfl
      rw [e1] at h1
      exact h1
    · rw [xI_ne _ _ (by omega), xI_ne _ _ (by omega)]
      exact e
theorem q_send {M D : Nat} {S R : xS} (h : WR M D S R) (a1 : Int64) (a2 : Int32) : P2 (c11_send M S a1 a2) (r_send R a1 a2) (QA M D) := by
  have h1 := h.thr
  unfold c11_send r_send c3_hasRoomFor
  refine P2.xr ?_
  generalize sI R 0 0 0 0 = R1 at h1 ⊢
  by_cases c1 : a2 < 0
  · rw [if_pos c1, if_pos c1]
    exact h1.ans rfl
  rw [if_neg c1, if_neg c1]
  by_cases c2 : 8 < a2
  · rw [if_pos c2, if_pos c2]
    exact h1.ans rfl
  rw [if_neg c2, if_neg c2]
  obtain ⟨c, hc, e⟩ := nI_of2 (n := 8) (M := 8) (by decide) c1 (Int32.not_lt.mp c2)
  subst e
  obtain ⟨N, eN, hs, q⟩ := id h1
  obtain ⟨_, f, m, cc, g1, g2, g3, g4, g5, g6, g7, _⟩ := q.lx.2.1
  have g7 : xI R1 0 45 32 = nI m := g7
  rw [g5, show (32 : Int32) = nI 32 from rfl, gd_nI (by decide) (by decide), nI_clamp (show 32 < 2 ^ 31 by decide), g7, nI_add]
  by_cases c3 : m + c ≤ 4096
  · rw [if_neg (show ¬ (4096 : Int32) < nI (m + c) from nI_nlt (b := m + c) (a := 4096) c3 (by decide)), if_pos (show nI (m + c) ≤ 4096 from nI_le (b := 4096) c3 (by decide))]
    dsimp only [Option.bind_some]
    rw [if_neg n10]
    have r := send_loop (M := M) (m := m) hc c3 a1 c 100000 0 S R1 (by
      rw [Nat.add_zero, ← g7, sI_id]
      exact q) g7 (by omega) (by omega)
    rw [nI_0'] at r
    exact r.mono (fun a b z => ⟨z.1, N, eN, hs, z.2⟩)
  · rw [if_pos (show (4096 : Int32) < nI (m + c) from nI_lt (a := 4096) (by omega) (by omega)), if_neg (show ¬ nI (m + c) ≤ 4096 from nI_ge (a := 4096) (by omega) (by omega))]
    exact h1.ans rfl
theorem isWord_n (a : Int32) : c11_isWord a = some (if a < 0 ∨ 65535 < a then 0 else 1) := by
  unfold c11_isWord
  by_cases c : a < 0
  · rw [if_pos c, if_pos (Or.inl c)]
  · rw [if_neg c]
    by_cases d : 65535 < a
    · rw [if_pos d, if_pos (Or.inr d)]
    · rw [if_neg d, if_neg (fun z => z.elim c d)]
theorem q_start {M D : Nat} {S R : xS} (h : WR M D S R) (a1 a2 a3 a4 : Int32) : P2 (c11_start M S a1 a2 a3 a4) (r_start R a1 a2 a3 a4) (QA M D) := by
  have h1 := h.thr
  unfold c11_start r_start
  refine P2.xr ?_
  generalize sI R 0 0 0 0 = R1 at h1 ⊢
  rcases node_cases h1 a1 with ⟨x1, x2⟩ | ⟨n, hn, e, x1, x2⟩
  · rw [x1, x2]
    exact h1.ans rfl
  subst e
  rw [x1, x2]
  dsimp only [Option.bind_some, xcs]
  rw [gqp ⟨hn, rfl⟩, if_neg n10, isWord_n, isWord_n]
  dsimp only [Option.bind_some]
  obtain ⟨N, eN, hs, q⟩ := id h1
  have hN := q.1
  have h8 : n < 8 := by omega
  simp only [gI h8, cl8 h8, nar0]
  by_cases w2 : a2 < 0 ∨ 65535 < a2
  · rw [if_pos w2, if_pos rfl]
    rcases w2 with w | w
    · simp only [if_pos w, ite_self]
      exact h1.ans rfl
    · simp only [if_pos w, ite_self]
      exact h1.ans rfl
  rw [if_neg w2, if_neg n10]
  by_cases w3 : a3 < 0 ∨ 65535 < a3
  · rw [if_pos w3, if_pos rfl]
    rcases w3 with w | w
    · simp only [if_pos w, ite_self]
      exact h1.ans rfl
    · simp only [if_pos w, ite_self]
      exact h1.ans rfl
  rw [if_neg w3, if_neg n10]
  have u2 : ¬ a2 < 0 := fun z => w2 (Or.inl z)
  have v2 : ¬ 65535 < a2 := fun z => w2 (Or.inr z)
  have u3 : ¬ a3 < 0 := fun z => w3 (Or.inl z)
  have v3 : ¬ 65535 < a3 := fun z => w3 (Or.inr z)
  rw [if_neg u2, if_neg v2, if_neg u3, if_neg v3]
  by_cases w4 : a4 = 0 ∨ a4 = 1
  · have u4 : ¬ a4 < 0 := by rcases w4 with rfl | rfl <;> decide
    have v4 : a4 ≤ 1 := by rcases w4 with rfl | rfl <;> decide
    rw [if_neg u4, if_pos v4]
    have ec : (if a4 = 0 then c11_start_b39 M a2 a3 a4 n S else if a4 = 1 then c11_start_b39 M a2 a3 a4 n S else some (0, S)) = c11_start_b39 M a2 a3 a4 n S := by
      rcases w4 with w | w
      · rw [if_pos w]
      · rw [if_pos w, ite_self]
    rw [ec]
    unfold c11_start_b39 c6_isStartable
    obtain ⟨hz, hL, hB, hT⟩ := q.lx.1 n (by omega)
    have b3 : xI S n 0 3 = xI R1 0 52 n := hB.1
    by_cases z0 : xI R1 0 52 n = 0
    · rw [if_pos (b3.trans z0), if_pos z0]
      exact h1.ans rfl
    · rw [if_neg (fun z => z0 (b3.symm.trans z)), if_neg z0]
      rcases hB.2 with hB | ⟨q0, hB⟩
      · exact absurd hB z0
      have q0 : xI R1 0 52 n = 1 := q0
      rcases hB with ⟨b4, b5, b6, b7, b8, q1, q2⟩ | ⟨k, c, m, hk, _, b4, q1, _⟩ | ⟨k, hk, b4, b5, b8, ha⟩
      · have q1 : xI R1 0 53 n = -1 := q1
        rw [if_pos b4, if_pos q1]
        dsimp only [Option.bind_some]
        rw [if_neg n10]
        -- the process begins
        have hin := in_less (N := N) (n := n) (by omega)
        obtain ⟨s, r, hx, hl⟩ := q.opn
        have h3 := ((hx.less n).cv (n := n) (j := 0) (k := 3) (by omega) 0).rv (j := 52) (k := n) (by omega) 0
        have wi : a2 &&& 65535 = a2 := by
          obtain ⟨k, hk, e⟩ := nI_of2 (n := 65535) (M := 65535) (by decide) u2 (Int32.not_lt.mp v2)
          rw [e]
          exact w16_nI (by omega)
        have h4 := h3.launch hin (i := a2) (w := a3) (p := a4) (a := 0) (b := 0) (c := 0) wi (by rcases w4 with w | w; exact Or.inl w; exact Or.inr (Or.inl w)) (by decide) (by decide) (by decide)
        refine P2.ret ⟨rfl, goN N n, eN, fun m hm z => hs m hm z.1, ?_⟩
        refine (h4.reN (N' := goN N n) rfl (fun m _ z => ⟨z.1, z.2.1⟩)).un ?_
        have hL' := (hl.1 n (by omega)).2.1
        have hB' := (hl.1 n (by omega)).2.2.1
        have q0' : rb r n 0 = 1 := (hx.r_eq (j := 52) (k := n) (by omega)).symm.trans q0
        have b8' : xI s n 0 8 = 0 := (hx.c_eq (n := n) (j := 0) (k := 8) (by omega)).symm.trans b8
        refine hl.node2 (Nat.le_refl D) q.1 rfl (n := n) (by omega) (fun m hm hne => gN_zz N h8 m (by omega) hne) (fun a b hab => ?_) rfl (fun j e he => ?_) (fun k hk => ?_) ?_ (fun k hk => ?_) ?_
        · rw [xI_fn_ne _ _ (by omega)]
        · rw [xI_ne _ _ (by omega)]
        · rw [xI_ne _ _ (by omega)]
        · simp (disch := omega) only [rb, xI_eq]
          exact ⟨fun z => absurd rfl z.2.1, fun z => absurd z (by decide)⟩
        · have l0 := (hL' k hk).bq (b' := xI (sI s n 0 3 0) n 0) (q' := rb (sI r 0 52 n 0) n) q0' b8'
          rw [xI_fn_ne _ _ (by omega), xI_fn_ne _ _ (by omega)]
          refine l0.cr (fun i hi => ?_)
          exact xI_ne _ _ (by omega)
        · refine ⟨?_, Or.inl ?_⟩
          · simp (disch := omega) only [rb, xI_eq]
          · simp (disch := omega) only [rb, xI_eq]
      · have q1 : xI R1 0 53 n = nI k := q1
        rw [if_neg (show ¬ xI S n 0 4 = -1 by rw [b4]; exact nIm1 (by omega)), if_neg (by rw [q1]; exact nIm1 (by omega))]
        exact h1.ans rfl
      · rcases ha with ⟨q1, _, _⟩ | ⟨w, _⟩
        · have q1 : xI R1 0 53 n = nI k := q1
          rw [if_neg (show ¬ xI S n 0 4 = -1 by rw [b4]; exact nIm1 (by omega)), if_neg (by rw [q1]; exact nIm1 (by omega))]
          exact h1.ans rfl
        · exact absurd w (hs n (by omega))
  · have u4 : ¬ a4 = 0 := fun z => w4 (Or.inl z)
    have v4 : ¬ a4 = 1 := fun z => w4 (Or.inr z)
    rw [if_neg u4, if_neg v4]
    by_cases c4 : a4 < 0
    · simp only [if_pos c4, ite_self]
      exact h1.ans rfl
    · have d4 : ¬ a4 ≤ 1 := fun z => by
        obtain ⟨k, hk, e⟩ := nI_of2 (n := 1) (M := 1) (by decide) c4 z
        have : k = 0 ∨ k = 1 := by omega
        rcases this with rfl | rfl
        · exact u4 e
        · exact v4 e
      simp only [if_neg d4, ite_self]
      exact h1.ans rfl
