/-! a link takes a bit, whole -/
theorem n12 : ¬ (-1 : Int32) = -2 := by decide
theorem P2_bind_some {α β : Type} {x : Option (α × β)} {a : α × β} (h : x = some a) : (x.bind (fun (r_12, S12) => some (r_12, S12))) = some a := by
  subst h
  rfl
theorem lk_rb {D : Nat} {N : xN} {s r s' r' : xS} (hl : LX D N s r) (hN : N.1 ≤ 8) {n k : Nat} (hn : n < N.1) (hk : k < 4) (rbb : RB D s r s' r' n (16 + k) (4 * n + k)) : LX D N s' r' := by
  obtain ⟨g1, g2, g3, g4, g5⟩ := rbb
  obtain ⟨o1, ⟨o2, o3, o4, o5, o6, o7⟩, o8, o9, o10, o11, o12, o13⟩ := (hl.1 n hn).2.1 k hk
  have er : ∀ i, 7 ≤ i → rr r' (4 * n + k) i = rr r (4 * n + k) i := fun i hi => g4 _ _ (by omega)
  refine lk_end hl hN hn hk g1 g2 g3 (fun jj ee hh => g4 jj ee (by omega)) g5 ?_ ?_
  · rw [g4 41 _ (by omega), g4 42 _ (by omega)]
    exact o8
  · exact o12.c ⟨rfl, rfl⟩ ⟨er 8 (by decide), er 9 (by decide), er 10 (by decide), er 11 (by decide), er 12 (by decide), er 13 (by decide)⟩
theorem p_takeLink {N : xN} {D : Nat} {S R : xS} (h : REL E0 (LX D N) N S R) {n : Nat} (hn : n < N.1) (hww : N.2 (8 + n)) {k : Nat} (hk : k < 4) {t : Nat} (ht : t < 2) (hh : c2_readNextBit N.1 n (16 + k) S = c2_readNextBit_b18 N.1 n (16 + k) (nI t) S) : P2 (c4_takeBit N.1 n (12 + k) S) (r_reads R (nI (4 * n + k)) (nI t)) (REL E0 (LX (D + 1) N) N) := by
  have h8 : n < 8 := Nat.lt_of_lt_of_le hn h.1
  have he : 4 * n + k ≤ 32 := by omega
  have ne32 : ¬ nI (4 * n + k) = 32 := fun z => absurd ((nI_eq (b := 32) (by omega) (by decide)).mp z) (by omega)
  obtain ⟨s, r, hx, hl⟩ := h.opn
  have nk := hl.1 n hn
  have old := nk.2.1 k hk
  unfold c4_takeBit
  rw [show 12 + k + 4 = 16 + k by omega, hh]
  rcases read_cases hx (j := 16 + k) (by omega) he old.1 N.1 ht with ⟨S', R', s', r', x1, x2, x3, x4⟩ | ⟨x1, x2⟩ | ⟨b, hb, eb, x1, x2⟩
  · rw [x1, x2]
    refine P2.l rfl (P2.nl (by decide) (P2.pl rfl (P2.ret ?_)))
    exact (x3.un (lk_rb hl h.1 hn hk x4)).mono_D (Nat.le_succ D)
  · rw [x1, x2]
    obtain ⟨o1, ⟨o2, o3, o4, o5, o6, o7⟩, o8, o9, o10, o11, o12, o13⟩ := old
    have c7 : xI S n (16 + k) 7 = xI r 0 41 (4 * n + k) := by rw [hx.c_eq (by omega)]; exact o1.2.2.2.2.1
    have w8 : xI r 0 41 (4 * n + k) = 0 ∨ xI r 0 41 (4 * n + k) = 1 := o1.2.2.2.2.2.2.2.2.1
    unfold c2_endOfAcknowledgement r_acknowledged
    simp (disch := omega) only [xI_ne, xI_eq, g33x he, nI_clamp (show 4 * n + k < 2 ^ 31 by omega), nar0]
    rw [c7, hx.r_eq (j := 41) (by omega)]
    have h2 := ((hx.cv (n := n) (j := 16 + k) (k := 8) (by omega) 0).cv (n := n) (j := 16 + k) (k := 7) (by omega) 0).rv (j := 38) (k := 4 * n + k) (by omega) 0
    rcases w8 with e | e
    · rw [if_pos e]
      refine P2.l (P2_bind_some (show xnm (sI (sI S n (16 + k) 8 0) n (16 + k) 7 0) (fun S1 => if xI r 0 41 (4 * n + k) = 0 then some ((-1 : Int32), S1) else some ((-2 : Int32), S1)) = some (-1, sI (sI S n (16 + k) 8 0) n (16 + k) 7 0) from if_pos e)) (P2.nl n12 (P2.pl rfl (P2.r rfl (P2.ret ?_))))
      have h6 : xI s n (12 + k) 6 = 0 := by
        rcases o8 with q | q
        · exact absurd (show xI r 0 41 (4 * n + k) = 1 from q.2.1) (by rw [e]; decide)
        · exact q.1
      have h3 := lk_ack0 hl h.1 hn hk h6
      have e4 : sI (sI r 0 38 (4 * n + k) 0) 0 41 (4 * n + k) 0 = sI r 0 38 (4 * n + k) 0 := by
        have := sI_id (sI r 0 38 (4 * n + k) 0) 0 41 (4 * n + k)
        rw [xI_ne _ _ (by omega), e] at this
        exact this
      rw [e4] at h3
      exact (h2.un h3).mono_D (Nat.le_succ D)
    · have n1 : ¬ xI r 0 41 (4 * n + k) = 0 := by rw [e]; decide
      rw [if_neg n1]
      refine P2.l (P2_bind_some (show xnm (sI (sI S n (16 + k) 8 0) n (16 + k) 7 0) (fun S1 => if xI r 0 41 (4 * n + k) = 0 then some ((-1 : Int32), S1) else some ((-2 : Int32), S1)) = some (-2, sI (sI S n (16 + k) 8 0) n (16 + k) 7 0) from if_neg n1)) (P2.pl rfl ?_)
      refine P2.some_l (P2.some_r (P2.xr ?_))
      simp (disch := omega) only [xI_ne, xI_eq]
      rw [hx.r_eq (j := 42) (by omega)]
      have h3 := h2.rv (j := 41) (k := 4 * n + k) (by omega) 0
      rcases o8 with q | q
      · have q42 : xI r 0 42 (4 * n + k) = 0 := q.2.2
        rw [if_pos q42]
        unfold c4_acknowledge
        have q6 : ¬ xI (sI (sI S n (16 + k) 8 0) n (16 + k) 7 0) n (12 + k) 6 = 0 := by
          simp (disch := omega) only [xI_ne]
          rw [hx.c_eq (by omega), show xI s n (12 + k) 6 = 1 from q.1]
          decide
        refine P2.nl q6 (P2.xl (P2.ret ?_))
        have h4 := h3.cv (n := n) (j := 12 + k) (k := 6) (by omega) 0
        exact (h4.un (lk_stray hl h.1 hn hk)).mono_D (Nat.le_succ D)
      · have q42 : xI r 0 42 (4 * n + k) = 1 := by
          rcases q.2 with z | z
          · exact absurd z n1
          · exact z
        rw [if_neg (by rw [q42]; decide)]
        have h4 := h3.un (lk_ack0 hl h.1 hn hk q.1)
        have q45 : ¬ xI r 0 45 (4 * n + k) = 0 := by
          rcases o12 with z | z | z
          · exact absurd ⟨e, q42⟩ z.2.2.2.2
          · obtain ⟨m, hm1, hm2, em⟩ := z.2.1
            rw [show xI r 0 45 (4 * n + k) = nI m from em]
            exact nI_ne0 (by omega) (by omega)
          · obtain ⟨w, hw, z1, z2⟩ := z.2.2.1
            rcases z2 with z2 | z2
            · rw [show xI r 0 45 (4 * n + k) = 2 from z2.1]; decide
            · rw [show xI r 0 45 (4 * n + k) = 1 from z2.1]; decide
        have h5 := p_ack h4 hn hww hk (by simp (disch := omega) only [xI_ne]; rw [hx.c_eq (by omega)]; exact q.1) (xI_eq _ _ _ _ _) (by simp (disch := omega) only [xI_ne]; rw [hx.r_eq (by omega)]; exact q45)
        simp (disch := omega) only [xI_ne] at h5 ⊢
        exact P2.mono h5 (fun a b q => q.mono_D (Nat.le_succ D))
  · rw [x1, x2]
    obtain ⟨o1, ⟨o2, o3, o4, o5, o6, o7⟩, o8, o9, o10, o11, o12, o13⟩ := old
    obtain ⟨b3, b4, b5, b6, b7, b8, b9, w1, w8, w5, w6, w7, wp⟩ := o1
    have h2 := (hx.cv (n := n) (j := 16 + k) (k := 8) (by omega) 0).rv (j := 38) (k := 4 * n + k) (by omega) 0
    have h3 : LX D N (sI s n (16 + k) 8 0) (sI r 0 38 (4 * n + k) 0) := by
      refine lk_rb hl h.1 hn hk ⟨fun a b hab => xI_fn_ne _ _ (by omega), rfl, xI_ne _ _ (by omega), fun jj ee hh => xI_ne _ _ (by omega), ?_⟩
      unfold EPp
      simp (disch := omega) only [rr, xI_ne, xI_eq]
      exact ⟨b3, b4, b5, b6, b7, trivial, b9, w1, w8, ⟨0, by decide, rfl⟩, w6, w7, wp⟩
    have nb : ∀ c : Int32, c = -2 ∨ c = -1 → ¬ nI b = c := by
      intro c hc z
      have w := w16_nI (k := b) (by omega)
      rw [z] at w
      rcases hc with e | e <;> rw [e] at w <;> exact absurd w (by decide)
    refine P2.l rfl (P2.nl (nb _ (Or.inl rfl)) (P2.nl (nb _ (Or.inr rfl)) ?_))
    exact P2.some_l (P2.some_r (p_comes (h2.un h3) hn hk hb))
