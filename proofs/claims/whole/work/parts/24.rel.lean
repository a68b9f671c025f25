/-! which int of the class is which int of the reference: (cell, place, row, times, plus) -/
abbrev tE : Type := Nat × Nat × Nat × Nat × Nat
def tB : List tE := [(4, 0, 5, 1, 0), (4, 1, 6, 1, 0), (4, 2, 7, 1, 0), (4, 3, 8, 1, 0), (4, 4, 9, 1, 0), (4, 5, 10, 1, 0), (4, 6, 11, 1, 0), (4, 7, 12, 1, 0), (1, 8, 13, 1, 0), (1, 9, 14, 1, 0), (1, 10, 15, 1, 0), (1, 6, 16, 1, 0), (1, 7, 17, 1, 0), (2, 1, 18, 1, 0), (6, 0, 19, 2, 0), (7, 0, 19, 2, 1), (6, 1, 20, 2, 0), (7, 1, 20, 2, 1), (8, 3, 21, 2, 0), (8, 4, 21, 2, 1), (8, 2, 30, 1, 0), (5, 0, 23, 1, 0), (5, 1, 24, 1, 0), (5, 2, 25, 1, 0), (5, 3, 26, 1, 0), (5, 4, 27, 1, 0), (5, 5, 28, 1, 0), (5, 7, 29, 1, 0), (0, 3, 52, 1, 0), (0, 4, 53, 1, 0), (0, 5, 54, 1, 0), (16, 3, 36, 4, 0), (16, 4, 37, 4, 0), (16, 5, 34, 4, 0), (16, 6, 40, 4, 0), (16, 7, 41, 4, 0), (16, 8, 38, 4, 0), (16, 9, 39, 4, 0), (12, 2, 44, 4, 0), (12, 3, 45, 4, 0), (12, 7, 47, 4, 0), (12, 8, 48, 4, 0), (12, 10, 50, 4, 0), (12, 11, 51, 4, 0), (17, 3, 36, 4, 1), (17, 4, 37, 4, 1), (17, 5, 34, 4, 1), (17, 6, 40, 4, 1), (17, 7, 41, 4, 1), (17, 8, 38, 4, 1), (17, 9, 39, 4, 1), (13, 2, 44, 4, 1), (13, 3, 45, 4, 1), (13, 7, 47, 4, 1), (13, 8, 48, 4, 1), (13, 10, 50, 4, 1), (13, 11, 51, 4, 1), (18, 3, 36, 4, 2), (18, 4, 37, 4, 2), (18, 5, 34, 4, 2), (18, 6, 40, 4, 2), (18, 7, 41, 4, 2), (18, 8, 38, 4, 2), (18, 9, 39, 4, 2), (14, 2, 44, 4, 2), (14, 3, 45, 4, 2), (14, 7, 47, 4, 2), (14, 8, 48, 4, 2), (14, 10, 50, 4, 2), (14, 11, 51, 4, 2), (19, 3, 36, 4, 3), (19, 4, 37, 4, 3), (19, 5, 34, 4, 3), (19, 6, 40, 4, 3), (19, 7, 41, 4, 3), (19, 8, 38, 4, 3), (19, 9, 39, 4, 3), (15, 2, 44, 4, 3), (15, 3, 45, 4, 3), (15, 7, 47, 4, 3), (15, 8, 48, 4, 3), (15, 10, 50, 4, 3), (15, 11, 51, 4, 3)]
def RS (N : Nat) (S R : xS) : Prop := ∀ n, n < N → ∀ t ∈ tB, xI S n t.1 t.2.1 = xI R 0 t.2.2.1 (t.2.2.2.1 * n + t.2.2.2.2)
theorem tB_ok : (tB.all fun t => decide (t.2.2.2.2 < t.2.2.2.1) && tB.all fun u => decide ((t.1 = u.1 ∧ t.2.1 = u.2.1 → t = u) ∧ (t.2.2.1 = u.2.2.1 → t.2.2.2.1 = u.2.2.2.1 ∧ (t.2.2.2.2 = u.2.2.2.2 → t = u)))) = true := by decide +kernel
theorem tB_lt {t : tE} (h : t ∈ tB) : t.2.2.2.2 < t.2.2.2.1 := by
  have h1 := List.all_eq_true.mp tB_ok t h
  simp only [Bool.and_eq_true, decide_eq_true_eq] at h1
  exact h1.1
theorem tB_eq {t u : tE} (h : t ∈ tB) (hu : u ∈ tB) : (t.1 = u.1 ∧ t.2.1 = u.2.1 → t = u) ∧ (t.2.2.1 = u.2.2.1 → t.2.2.2.1 = u.2.2.2.1 ∧ (t.2.2.2.2 = u.2.2.2.2 → t = u)) := by
  have h1 := List.all_eq_true.mp tB_ok t h
  simp only [Bool.and_eq_true] at h1
  have h2 := List.all_eq_true.mp h1.2 u hu
  simpa only [decide_eq_true_eq] using h2
/-- both change one and the same int -/
theorem RS.set {N : Nat} {S R : xS} (h : RS N S R) {n : Nat} {t : tE} (ht : t ∈ tB) (v : Int32) : RS N (sI S n t.1 t.2.1 v) (sI R 0 t.2.2.1 (t.2.2.2.1 * n + t.2.2.2.2) v) := by
  intro n' hn' u hu
  rw [xI_sI, xI_sI]
  by_cases e : n' = n ∧ u = t
  · obtain ⟨rfl, rfl⟩ := e
    rw [if_pos ⟨rfl, rfl, rfl⟩, if_pos ⟨rfl, rfl, rfl⟩]
  · have q := tB_eq hu ht
    have l1 := tB_lt hu
    have l2 := tB_lt ht
    rw [if_neg (fun z => e ⟨z.1, q.1 z.2⟩), if_neg, h n' hn' u hu]
    rintro ⟨-, z1, z2⟩
    obtain ⟨q1, q2⟩ := q.2 z1
    rw [q1] at z2 l1
    have hm := congrArg (fun x => x % t.2.2.2.1) z2
    simp only [Nat.mul_add_mod, Nat.mod_eq_of_lt l1, Nat.mod_eq_of_lt l2] at hm
    have ht2 := q2 hm
    subst ht2
    refine e ⟨?_, rfl⟩
    have : u.2.2.2.1 * n' = u.2.2.2.1 * n := by omega
    exact Nat.eq_of_mul_eq_mul_left (by omega) this
/-- a place of the class that is no row's -/
theorem RS.cls {N : Nat} {S R : xS} (h : RS N S R) {n j k : Nat} (hk : ∀ t ∈ tB, ¬ (t.1 = j ∧ t.2.1 = k)) (v : Int32) : RS N (sI S n j k v) R := by
  intro n' hn' u hu
  rw [xI_sI, if_neg (fun z => hk u hu z.2)]
  exact h n' hn' u hu
/-- a row of the reference that is none's -/
theorem RS.ref {N : Nat} {S R : xS} (h : RS N S R) {j k : Nat} (hk : ∀ t ∈ tB, t.2.2.1 ≠ j) (v : Int32) : RS N S (sI R 0 j k v) := by
  intro n' hn' u hu
  rw [xI_sI, if_neg (fun z => hk u hu z.2.1)]
  exact h n' hn' u hu
theorem RS.g_A {N : Nat} {S R : xS} (h : RS N S R) {n : Nat} (hn : n < N) : xI S n 4 0 = xI R 0 5 (n) := by
  have := h n hn (4, 0, 5, 1, 0) (by decide)
  simpa using this
theorem RS.s_A {N : Nat} {S R : xS} (h : RS N S R) {n : Nat} (v : Int32) : RS N (sI S n 4 0 v) (sI R 0 5 (n) v) := by
  have := h.set (n := n) (t := (4, 0, 5, 1, 0)) (by decide) v
  simpa using this
theorem RS.g_B {N : Nat} {S R : xS} (h : RS N S R) {n : Nat} (hn : n < N) : xI S n 4 1 = xI R 0 6 (n) := by
  have := h n hn (4, 1, 6, 1, 0) (by decide)
  simpa using this
theorem RS.s_B {N : Nat} {S R : xS} (h : RS N S R) {n : Nat} (v : Int32) : RS N (sI S n 4 1 v) (sI R 0 6 (n) v) := by
  have := h.set (n := n) (t := (4, 1, 6, 1, 0)) (by decide) v
  simpa using this
theorem RS.g_C {N : Nat} {S R : xS} (h : RS N S R) {n : Nat} (hn : n < N) : xI S n 4 2 = xI R 0 7 (n) := by
  have := h n hn (4, 2, 7, 1, 0) (by decide)
  simpa using this
theorem RS.s_C {N : Nat} {S R : xS} (h : RS N S R) {n : Nat} (v : Int32) : RS N (sI S n 4 2 v) (sI R 0 7 (n) v) := by
  have := h.set (n := n) (t := (4, 2, 7, 1, 0)) (by decide) v
  simpa using this
theorem RS.g_O {N : Nat} {S R : xS} (h : RS N S R) {n : Nat} (hn : n < N) : xI S n 4 3 = xI R 0 8 (n) := by
  have := h n hn (4, 3, 8, 1, 0) (by decide)
  simpa using this
theorem RS.s_O {N : Nat} {S R : xS} (h : RS N S R) {n : Nat} (v : Int32) : RS N (sI S n 4 3 v) (sI R 0 8 (n) v) := by
  have := h.set (n := n) (t := (4, 3, 8, 1, 0)) (by decide) v
  simpa using this
theorem RS.g_I {N : Nat} {S R : xS} (h : RS N S R) {n : Nat} (hn : n < N) : xI S n 4 4 = xI R 0 9 (n) := by
  have := h n hn (4, 4, 9, 1, 0) (by decide)
  simpa using this
theorem RS.s_I {N : Nat} {S R : xS} (h : RS N S R) {n : Nat} (v : Int32) : RS N (sI S n 4 4 v) (sI R 0 9 (n) v) := by
  have := h.set (n := n) (t := (4, 4, 9, 1, 0)) (by decide) v
  simpa using this
theorem RS.g_W {N : Nat} {S R : xS} (h : RS N S R) {n : Nat} (hn : n < N) : xI S n 4 5 = xI R 0 10 (n) := by
  have := h n hn (4, 5, 10, 1, 0) (by decide)
  simpa using this
theorem RS.s_W {N : Nat} {S R : xS} (h : RS N S R) {n : Nat} (v : Int32) : RS N (sI S n 4 5 v) (sI R 0 10 (n) v) := by
  have := h.set (n := n) (t := (4, 5, 10, 1, 0)) (by decide) v
  simpa using this
theorem RS.g_P {N : Nat} {S R : xS} (h : RS N S R) {n : Nat} (hn : n < N) : xI S n 4 6 = xI R 0 11 (n) := by
  have := h n hn (4, 6, 11, 1, 0) (by decide)
  simpa using this
theorem RS.s_P {N : Nat} {S R : xS} (h : RS N S R) {n : Nat} (v : Int32) : RS N (sI S n 4 6 v) (sI R 0 11 (n) v) := by
  have := h.set (n := n) (t := (4, 6, 11, 1, 0)) (by decide) v
  simpa using this
theorem RS.g_L {N : Nat} {S R : xS} (h : RS N S R) {n : Nat} (hn : n < N) : xI S n 4 7 = xI R 0 12 (n) := by
  have := h n hn (4, 7, 12, 1, 0) (by decide)
  simpa using this
theorem RS.s_L {N : Nat} {S R : xS} (h : RS N S R) {n : Nat} (v : Int32) : RS N (sI S n 4 7 v) (sI R 0 12 (n) v) := by
  have := h.set (n := n) (t := (4, 7, 12, 1, 0)) (by decide) v
  simpa using this
theorem RS.g_out {N : Nat} {S R : xS} (h : RS N S R) {n : Nat} (hn : n < N) : xI S n 1 8 = xI R 0 13 (n) := by
  have := h n hn (1, 8, 13, 1, 0) (by decide)
  simpa using this
theorem RS.s_out {N : Nat} {S R : xS} (h : RS N S R) {n : Nat} (v : Int32) : RS N (sI S n 1 8 v) (sI R 0 13 (n) v) := by
  have := h.set (n := n) (t := (1, 8, 13, 1, 0)) (by decide) v
  simpa using this
theorem RS.g_busy {N : Nat} {S R : xS} (h : RS N S R) {n : Nat} (hn : n < N) : xI S n 1 9 = xI R 0 14 (n) := by
  have := h n hn (1, 9, 14, 1, 0) (by decide)
  simpa using this
theorem RS.s_busy {N : Nat} {S R : xS} (h : RS N S R) {n : Nat} (v : Int32) : RS N (sI S n 1 9 v) (sI R 0 14 (n) v) := by
  have := h.set (n := n) (t := (1, 9, 14, 1, 0)) (by decide) v
  simpa using this
theorem RS.g_exe {N : Nat} {S R : xS} (h : RS N S R) {n : Nat} (hn : n < N) : xI S n 1 10 = xI R 0 15 (n) := by
  have := h n hn (1, 10, 15, 1, 0) (by decide)
  simpa using this
theorem RS.s_exe {N : Nat} {S R : xS} (h : RS N S R) {n : Nat} (v : Int32) : RS N (sI S n 1 10 v) (sI R 0 15 (n) v) := by
  have := h.set (n := n) (t := (1, 10, 15, 1, 0)) (by decide) v
  simpa using this
theorem RS.g_err {N : Nat} {S R : xS} (h : RS N S R) {n : Nat} (hn : n < N) : xI S n 1 6 = xI R 0 16 (n) := by
  have := h n hn (1, 6, 16, 1, 0) (by decide)
  simpa using this
theorem RS.s_err {N : Nat} {S R : xS} (h : RS N S R) {n : Nat} (v : Int32) : RS N (sI S n 1 6 v) (sI R 0 16 (n) v) := by
  have := h.set (n := n) (t := (1, 6, 16, 1, 0)) (by decide) v
  simpa using this
theorem RS.g_halt {N : Nat} {S R : xS} (h : RS N S R) {n : Nat} (hn : n < N) : xI S n 1 7 = xI R 0 17 (n) := by
  have := h n hn (1, 7, 17, 1, 0) (by decide)
  simpa using this
theorem RS.s_halt {N : Nat} {S R : xS} (h : RS N S R) {n : Nat} (v : Int32) : RS N (sI S n 1 7 v) (sI R 0 17 (n) v) := by
  have := h.set (n := n) (t := (1, 7, 17, 1, 0)) (by decide) v
  simpa using this
theorem RS.g_bey {N : Nat} {S R : xS} (h : RS N S R) {n : Nat} (hn : n < N) : xI S n 2 1 = xI R 0 18 (n) := by
  have := h n hn (2, 1, 18, 1, 0) (by decide)
  simpa using this
theorem RS.s_bey {N : Nat} {S R : xS} (h : RS N S R) {n : Nat} (v : Int32) : RS N (sI S n 2 1 v) (sI R 0 18 (n) v) := by
  have := h.set (n := n) (t := (2, 1, 18, 1, 0)) (by decide) v
  simpa using this
theorem RS.g_f0 {N : Nat} {S R : xS} (h : RS N S R) {n : Nat} (hn : n < N) : xI S n 6 0 = xI R 0 19 (2 * n) := by
  have := h n hn (6, 0, 19, 2, 0) (by decide)
  simpa using this
theorem RS.s_f0 {N : Nat} {S R : xS} (h : RS N S R) {n : Nat} (v : Int32) : RS N (sI S n 6 0 v) (sI R 0 19 (2 * n) v) := by
  have := h.set (n := n) (t := (6, 0, 19, 2, 0)) (by decide) v
  simpa using this
theorem RS.g_f1 {N : Nat} {S R : xS} (h : RS N S R) {n : Nat} (hn : n < N) : xI S n 7 0 = xI R 0 19 (2 * n + 1) := by
  have := h n hn (7, 0, 19, 2, 1) (by decide)
  simpa using this
theorem RS.s_f1 {N : Nat} {S R : xS} (h : RS N S R) {n : Nat} (v : Int32) : RS N (sI S n 7 0 v) (sI R 0 19 (2 * n + 1) v) := by
  have := h.set (n := n) (t := (7, 0, 19, 2, 1)) (by decide) v
  simpa using this
theorem RS.g_b0 {N : Nat} {S R : xS} (h : RS N S R) {n : Nat} (hn : n < N) : xI S n 6 1 = xI R 0 20 (2 * n) := by
  have := h n hn (6, 1, 20, 2, 0) (by decide)
  simpa using this
theorem RS.s_b0 {N : Nat} {S R : xS} (h : RS N S R) {n : Nat} (v : Int32) : RS N (sI S n 6 1 v) (sI R 0 20 (2 * n) v) := by
  have := h.set (n := n) (t := (6, 1, 20, 2, 0)) (by decide) v
  simpa using this
theorem RS.g_b1 {N : Nat} {S R : xS} (h : RS N S R) {n : Nat} (hn : n < N) : xI S n 7 1 = xI R 0 20 (2 * n + 1) := by
  have := h n hn (7, 1, 20, 2, 1) (by decide)
  simpa using this
theorem RS.s_b1 {N : Nat} {S R : xS} (h : RS N S R) {n : Nat} (v : Int32) : RS N (sI S n 7 1 v) (sI R 0 20 (2 * n + 1) v) := by
  have := h.set (n := n) (t := (7, 1, 20, 2, 1)) (by decide) v
  simpa using this
theorem RS.g_c0 {N : Nat} {S R : xS} (h : RS N S R) {n : Nat} (hn : n < N) : xI S n 8 3 = xI R 0 21 (2 * n) := by
  have := h n hn (8, 3, 21, 2, 0) (by decide)
  simpa using this
theorem RS.s_c0 {N : Nat} {S R : xS} (h : RS N S R) {n : Nat} (v : Int32) : RS N (sI S n 8 3 v) (sI R 0 21 (2 * n) v) := by
  have := h.set (n := n) (t := (8, 3, 21, 2, 0)) (by decide) v
  simpa using this
theorem RS.g_c1 {N : Nat} {S R : xS} (h : RS N S R) {n : Nat} (hn : n < N) : xI S n 8 4 = xI R 0 21 (2 * n + 1) := by
  have := h n hn (8, 4, 21, 2, 1) (by decide)
  simpa using this
theorem RS.s_c1 {N : Nat} {S R : xS} (h : RS N S R) {n : Nat} (v : Int32) : RS N (sI S n 8 4 v) (sI R 0 21 (2 * n + 1) v) := by
  have := h.set (n := n) (t := (8, 4, 21, 2, 1)) (by decide) v
  simpa using this
theorem RS.g_tim {N : Nat} {S R : xS} (h : RS N S R) {n : Nat} (hn : n < N) : xI S n 8 2 = xI R 0 30 (n) := by
  have := h n hn (8, 2, 30, 1, 0) (by decide)
  simpa using this
theorem RS.s_tim {N : Nat} {S R : xS} (h : RS N S R) {n : Nat} (v : Int32) : RS N (sI S n 8 2 v) (sI R 0 30 (n) v) := by
  have := h.set (n := n) (t := (8, 2, 30, 1, 0)) (by decide) v
  simpa using this
theorem RS.g_oA {N : Nat} {S R : xS} (h : RS N S R) {n : Nat} (hn : n < N) : xI S n 5 0 = xI R 0 23 (n) := by
  have := h n hn (5, 0, 23, 1, 0) (by decide)
  simpa using this
theorem RS.s_oA {N : Nat} {S R : xS} (h : RS N S R) {n : Nat} (v : Int32) : RS N (sI S n 5 0 v) (sI R 0 23 (n) v) := by
  have := h.set (n := n) (t := (5, 0, 23, 1, 0)) (by decide) v
  simpa using this
theorem RS.g_oB {N : Nat} {S R : xS} (h : RS N S R) {n : Nat} (hn : n < N) : xI S n 5 1 = xI R 0 24 (n) := by
  have := h n hn (5, 1, 24, 1, 0) (by decide)
  simpa using this
theorem RS.s_oB {N : Nat} {S R : xS} (h : RS N S R) {n : Nat} (v : Int32) : RS N (sI S n 5 1 v) (sI R 0 24 (n) v) := by
  have := h.set (n := n) (t := (5, 1, 24, 1, 0)) (by decide) v
  simpa using this
theorem RS.g_oC {N : Nat} {S R : xS} (h : RS N S R) {n : Nat} (hn : n < N) : xI S n 5 2 = xI R 0 25 (n) := by
  have := h n hn (5, 2, 25, 1, 0) (by decide)
  simpa using this
theorem RS.s_oC {N : Nat} {S R : xS} (h : RS N S R) {n : Nat} (v : Int32) : RS N (sI S n 5 2 v) (sI R 0 25 (n) v) := by
  have := h.set (n := n) (t := (5, 2, 25, 1, 0)) (by decide) v
  simpa using this
theorem RS.g_oO {N : Nat} {S R : xS} (h : RS N S R) {n : Nat} (hn : n < N) : xI S n 5 3 = xI R 0 26 (n) := by
  have := h n hn (5, 3, 26, 1, 0) (by decide)
  simpa using this
theorem RS.s_oO {N : Nat} {S R : xS} (h : RS N S R) {n : Nat} (v : Int32) : RS N (sI S n 5 3 v) (sI R 0 26 (n) v) := by
  have := h.set (n := n) (t := (5, 3, 26, 1, 0)) (by decide) v
  simpa using this
theorem RS.g_oI {N : Nat} {S R : xS} (h : RS N S R) {n : Nat} (hn : n < N) : xI S n 5 4 = xI R 0 27 (n) := by
  have := h n hn (5, 4, 27, 1, 0) (by decide)
  simpa using this
theorem RS.s_oI {N : Nat} {S R : xS} (h : RS N S R) {n : Nat} (v : Int32) : RS N (sI S n 5 4 v) (sI R 0 27 (n) v) := by
  have := h.set (n := n) (t := (5, 4, 27, 1, 0)) (by decide) v
  simpa using this
theorem RS.g_oW {N : Nat} {S R : xS} (h : RS N S R) {n : Nat} (hn : n < N) : xI S n 5 5 = xI R 0 28 (n) := by
  have := h n hn (5, 5, 28, 1, 0) (by decide)
  simpa using this
theorem RS.s_oW {N : Nat} {S R : xS} (h : RS N S R) {n : Nat} (v : Int32) : RS N (sI S n 5 5 v) (sI R 0 28 (n) v) := by
  have := h.set (n := n) (t := (5, 5, 28, 1, 0)) (by decide) v
  simpa using this
theorem RS.g_oL {N : Nat} {S R : xS} (h : RS N S R) {n : Nat} (hn : n < N) : xI S n 5 7 = xI R 0 29 (n) := by
  have := h n hn (5, 7, 29, 1, 0) (by decide)
  simpa using this
theorem RS.s_oL {N : Nat} {S R : xS} (h : RS N S R) {n : Nat} (v : Int32) : RS N (sI S n 5 7 v) (sI R 0 29 (n) v) := by
  have := h.set (n := n) (t := (5, 7, 29, 1, 0)) (by decide) v
  simpa using this
theorem RS.g_boots {N : Nat} {S R : xS} (h : RS N S R) {n : Nat} (hn : n < N) : xI S n 0 3 = xI R 0 52 (n) := by
  have := h n hn (0, 3, 52, 1, 0) (by decide)
  simpa using this
theorem RS.s_boots {N : Nat} {S R : xS} (h : RS N S R) {n : Nat} (v : Int32) : RS N (sI S n 0 3 v) (sI R 0 52 (n) v) := by
  have := h.set (n := n) (t := (0, 3, 52, 1, 0)) (by decide) v
  simpa using this
theorem RS.g_blink {N : Nat} {S R : xS} (h : RS N S R) {n : Nat} (hn : n < N) : xI S n 0 4 = xI R 0 53 (n) := by
  have := h n hn (0, 4, 53, 1, 0) (by decide)
  simpa using this
theorem RS.s_blink {N : Nat} {S R : xS} (h : RS N S R) {n : Nat} (v : Int32) : RS N (sI S n 0 4 v) (sI R 0 53 (n) v) := by
  have := h.set (n := n) (t := (0, 4, 53, 1, 0)) (by decide) v
  simpa using this
theorem RS.g_bcom {N : Nat} {S R : xS} (h : RS N S R) {n : Nat} (hn : n < N) : xI S n 0 5 = xI R 0 54 (n) := by
  have := h n hn (0, 5, 54, 1, 0) (by decide)
  simpa using this
theorem RS.s_bcom {N : Nat} {S R : xS} (h : RS N S R) {n : Nat} (v : Int32) : RS N (sI S n 0 5 v) (sI R 0 54 (n) v) := by
  have := h.set (n := n) (t := (0, 5, 54, 1, 0)) (by decide) v
  simpa using this
theorem RS.g_pbits0 {N : Nat} {S R : xS} (h : RS N S R) {n : Nat} (hn : n < N) : xI S n 16 3 = xI R 0 36 (4 * n) := by
  have := h n hn (16, 3, 36, 4, 0) (by decide)
  simpa using this
theorem RS.s_pbits0 {N : Nat} {S R : xS} (h : RS N S R) {n : Nat} (v : Int32) : RS N (sI S n 16 3 v) (sI R 0 36 (4 * n) v) := by
  have := h.set (n := n) (t := (16, 3, 36, 4, 0)) (by decide) v
  simpa using this
theorem RS.g_pput0 {N : Nat} {S R : xS} (h : RS N S R) {n : Nat} (hn : n < N) : xI S n 16 4 = xI R 0 37 (4 * n) := by
  have := h n hn (16, 4, 37, 4, 0) (by decide)
  simpa using this
theorem RS.s_pput0 {N : Nat} {S R : xS} (h : RS N S R) {n : Nat} (v : Int32) : RS N (sI S n 16 4 v) (sI R 0 37 (4 * n) v) := by
  have := h.set (n := n) (t := (16, 4, 37, 4, 0)) (by decide) v
  simpa using this
theorem RS.g_bit0 {N : Nat} {S R : xS} (h : RS N S R) {n : Nat} (hn : n < N) : xI S n 16 5 = xI R 0 34 (4 * n) := by
  have := h n hn (16, 5, 34, 4, 0) (by decide)
  simpa using this
theorem RS.s_bit0 {N : Nat} {S R : xS} (h : RS N S R) {n : Nat} (v : Int32) : RS N (sI S n 16 5 v) (sI R 0 34 (4 * n) v) := by
  have := h.set (n := n) (t := (16, 5, 34, 4, 0)) (by decide) v
  simpa using this
theorem RS.g_owed0 {N : Nat} {S R : xS} (h : RS N S R) {n : Nat} (hn : n < N) : xI S n 16 6 = xI R 0 40 (4 * n) := by
  have := h n hn (16, 6, 40, 4, 0) (by decide)
  simpa using this
theorem RS.s_owed0 {N : Nat} {S R : xS} (h : RS N S R) {n : Nat} (v : Int32) : RS N (sI S n 16 6 v) (sI R 0 40 (4 * n) v) := by
  have := h.set (n := n) (t := (16, 6, 40, 4, 0)) (by decide) v
  simpa using this
theorem RS.g_fly0 {N : Nat} {S R : xS} (h : RS N S R) {n : Nat} (hn : n < N) : xI S n 16 7 = xI R 0 41 (4 * n) := by
  have := h n hn (16, 7, 41, 4, 0) (by decide)
  simpa using this
theorem RS.s_fly0 {N : Nat} {S R : xS} (h : RS N S R) {n : Nat} (v : Int32) : RS N (sI S n 16 7 v) (sI R 0 41 (4 * n) v) := by
  have := h.set (n := n) (t := (16, 7, 41, 4, 0)) (by decide) v
  simpa using this
theorem RS.g_rmany0 {N : Nat} {S R : xS} (h : RS N S R) {n : Nat} (hn : n < N) : xI S n 16 8 = xI R 0 38 (4 * n) := by
  have := h n hn (16, 8, 38, 4, 0) (by decide)
  simpa using this
theorem RS.s_rmany0 {N : Nat} {S R : xS} (h : RS N S R) {n : Nat} (v : Int32) : RS N (sI S n 16 8 v) (sI R 0 38 (4 * n) v) := by
  have := h.set (n := n) (t := (16, 8, 38, 4, 0)) (by decide) v
  simpa using this
theorem RS.g_rbyte0 {N : Nat} {S R : xS} (h : RS N S R) {n : Nat} (hn : n < N) : xI S n 16 9 = xI R 0 39 (4 * n) := by
  have := h n hn (16, 9, 39, 4, 0) (by decide)
  simpa using this
theorem RS.s_rbyte0 {N : Nat} {S R : xS} (h : RS N S R) {n : Nat} (v : Int32) : RS N (sI S n 16 9 v) (sI R 0 39 (4 * n) v) := by
  have := h.set (n := n) (t := (16, 9, 39, 4, 0)) (by decide) v
  simpa using this
theorem RS.g_who0 {N : Nat} {S R : xS} (h : RS N S R) {n : Nat} (hn : n < N) : xI S n 12 2 = xI R 0 44 (4 * n) := by
  have := h n hn (12, 2, 44, 4, 0) (by decide)
  simpa using this
theorem RS.s_who0 {N : Nat} {S R : xS} (h : RS N S R) {n : Nat} (v : Int32) : RS N (sI S n 12 2 v) (sI R 0 44 (4 * n) v) := by
  have := h.set (n := n) (t := (12, 2, 44, 4, 0)) (by decide) v
  simpa using this
theorem RS.g_many0 {N : Nat} {S R : xS} (h : RS N S R) {n : Nat} (hn : n < N) : xI S n 12 3 = xI R 0 45 (4 * n) := by
  have := h n hn (12, 3, 45, 4, 0) (by decide)
  simpa using this
theorem RS.s_many0 {N : Nat} {S R : xS} (h : RS N S R) {n : Nat} (v : Int32) : RS N (sI S n 12 3 v) (sI R 0 45 (4 * n) v) := by
  have := h.set (n := n) (t := (12, 3, 45, 4, 0)) (by decide) v
  simpa using this
theorem RS.g_inw0 {N : Nat} {S R : xS} (h : RS N S R) {n : Nat} (hn : n < N) : xI S n 12 7 = xI R 0 47 (4 * n) := by
  have := h n hn (12, 7, 47, 4, 0) (by decide)
  simpa using this
theorem RS.s_inw0 {N : Nat} {S R : xS} (h : RS N S R) {n : Nat} (v : Int32) : RS N (sI S n 12 7 v) (sI R 0 47 (4 * n) v) := by
  have := h.set (n := n) (t := (12, 7, 47, 4, 0)) (by decide) v
  simpa using this
theorem RS.g_inm0 {N : Nat} {S R : xS} (h : RS N S R) {n : Nat} (hn : n < N) : xI S n 12 8 = xI R 0 48 (4 * n) := by
  have := h n hn (12, 8, 48, 4, 0) (by decide)
  simpa using this
theorem RS.s_inm0 {N : Nat} {S R : xS} (h : RS N S R) {n : Nat} (v : Int32) : RS N (sI S n 12 8 v) (sI R 0 48 (4 * n) v) := by
  have := h.set (n := n) (t := (12, 8, 48, 4, 0)) (by decide) v
  simpa using this
theorem RS.g_kept0 {N : Nat} {S R : xS} (h : RS N S R) {n : Nat} (hn : n < N) : xI S n 12 10 = xI R 0 50 (4 * n) := by
  have := h n hn (12, 10, 50, 4, 0) (by decide)
  simpa using this
theorem RS.s_kept0 {N : Nat} {S R : xS} (h : RS N S R) {n : Nat} (v : Int32) : RS N (sI S n 12 10 v) (sI R 0 50 (4 * n) v) := by
  have := h.set (n := n) (t := (12, 10, 50, 4, 0)) (by decide) v
  simpa using this
theorem RS.g_grd0 {N : Nat} {S R : xS} (h : RS N S R) {n : Nat} (hn : n < N) : xI S n 12 11 = xI R 0 51 (4 * n) := by
  have := h n hn (12, 11, 51, 4, 0) (by decide)
  simpa using this
theorem RS.s_grd0 {N : Nat} {S R : xS} (h : RS N S R) {n : Nat} (v : Int32) : RS N (sI S n 12 11 v) (sI R 0 51 (4 * n) v) := by
  have := h.set (n := n) (t := (12, 11, 51, 4, 0)) (by decide) v
  simpa using this
theorem RS.g_pbits1 {N : Nat} {S R : xS} (h : RS N S R) {n : Nat} (hn : n < N) : xI S n 17 3 = xI R 0 36 (4 * n + 1) := by
  have := h n hn (17, 3, 36, 4, 1) (by decide)
  simpa using this
theorem RS.s_pbits1 {N : Nat} {S R : xS} (h : RS N S R) {n : Nat} (v : Int32) : RS N (sI S n 17 3 v) (sI R 0 36 (4 * n + 1) v) := by
  have := h.set (n := n) (t := (17, 3, 36, 4, 1)) (by decide) v
  simpa using this
theorem RS.g_pput1 {N : Nat} {S R : xS} (h : RS N S R) {n : Nat} (hn : n < N) : xI S n 17 4 = xI R 0 37 (4 * n + 1) := by
  have := h n hn (17, 4, 37, 4, 1) (by decide)
  simpa using this
theorem RS.s_pput1 {N : Nat} {S R : xS} (h : RS N S R) {n : Nat} (v : Int32) : RS N (sI S n 17 4 v) (sI R 0 37 (4 * n + 1) v) := by
  have := h.set (n := n) (t := (17, 4, 37, 4, 1)) (by decide) v
  simpa using this
theorem RS.g_bit1 {N : Nat} {S R : xS} (h : RS N S R) {n : Nat} (hn : n < N) : xI S n 17 5 = xI R 0 34 (4 * n + 1) := by
  have := h n hn (17, 5, 34, 4, 1) (by decide)
  simpa using this
theorem RS.s_bit1 {N : Nat} {S R : xS} (h : RS N S R) {n : Nat} (v : Int32) : RS N (sI S n 17 5 v) (sI R 0 34 (4 * n + 1) v) := by
  have := h.set (n := n) (t := (17, 5, 34, 4, 1)) (by decide) v
  simpa using this
theorem RS.g_owed1 {N : Nat} {S R : xS} (h : RS N S R) {n : Nat} (hn : n < N) : xI S n 17 6 = xI R 0 40 (4 * n + 1) := by
  have := h n hn (17, 6, 40, 4, 1) (by decide)
  simpa using this
theorem RS.s_owed1 {N : Nat} {S R : xS} (h : RS N S R) {n : Nat} (v : Int32) : RS N (sI S n 17 6 v) (sI R 0 40 (4 * n + 1) v) := by
  have := h.set (n := n) (t := (17, 6, 40, 4, 1)) (by decide) v
  simpa using this
theorem RS.g_fly1 {N : Nat} {S R : xS} (h : RS N S R) {n : Nat} (hn : n < N) : xI S n 17 7 = xI R 0 41 (4 * n + 1) := by
  have := h n hn (17, 7, 41, 4, 1) (by decide)
  simpa using this
theorem RS.s_fly1 {N : Nat} {S R : xS} (h : RS N S R) {n : Nat} (v : Int32) : RS N (sI S n 17 7 v) (sI R 0 41 (4 * n + 1) v) := by
  have := h.set (n := n) (t := (17, 7, 41, 4, 1)) (by decide) v
  simpa using this
theorem RS.g_rmany1 {N : Nat} {S R : xS} (h : RS N S R) {n : Nat} (hn : n < N) : xI S n 17 8 = xI R 0 38 (4 * n + 1) := by
  have := h n hn (17, 8, 38, 4, 1) (by decide)
  simpa using this
theorem RS.s_rmany1 {N : Nat} {S R : xS} (h : RS N S R) {n : Nat} (v : Int32) : RS N (sI S n 17 8 v) (sI R 0 38 (4 * n + 1) v) := by
  have := h.set (n := n) (t := (17, 8, 38, 4, 1)) (by decide) v
  simpa using this
theorem RS.g_rbyte1 {N : Nat} {S R : xS} (h : RS N S R) {n : Nat} (hn : n < N) : xI S n 17 9 = xI R 0 39 (4 * n + 1) := by
  have := h n hn (17, 9, 39, 4, 1) (by decide)
  simpa using this
theorem RS.s_rbyte1 {N : Nat} {S R : xS} (h : RS N S R) {n : Nat} (v : Int32) : RS N (sI S n 17 9 v) (sI R 0 39 (4 * n + 1) v) := by
  have := h.set (n := n) (t := (17, 9, 39, 4, 1)) (by decide) v
  simpa using this
theorem RS.g_who1 {N : Nat} {S R : xS} (h : RS N S R) {n : Nat} (hn : n < N) : xI S n 13 2 = xI R 0 44 (4 * n + 1) := by
  have := h n hn (13, 2, 44, 4, 1) (by decide)
  simpa using this
theorem RS.s_who1 {N : Nat} {S R : xS} (h : RS N S R) {n : Nat} (v : Int32) : RS N (sI S n 13 2 v) (sI R 0 44 (4 * n + 1) v) := by
  have := h.set (n := n) (t := (13, 2, 44, 4, 1)) (by decide) v
  simpa using this
theorem RS.g_many1 {N : Nat} {S R : xS} (h : RS N S R) {n : Nat} (hn : n < N) : xI S n 13 3 = xI R 0 45 (4 * n + 1) := by
  have := h n hn (13, 3, 45, 4, 1) (by decide)
  simpa using this
theorem RS.s_many1 {N : Nat} {S R : xS} (h : RS N S R) {n : Nat} (v : Int32) : RS N (sI S n 13 3 v) (sI R 0 45 (4 * n + 1) v) := by
  have := h.set (n := n) (t := (13, 3, 45, 4, 1)) (by decide) v
  simpa using this
theorem RS.g_inw1 {N : Nat} {S R : xS} (h : RS N S R) {n : Nat} (hn : n < N) : xI S n 13 7 = xI R 0 47 (4 * n + 1) := by
  have := h n hn (13, 7, 47, 4, 1) (by decide)
  simpa using this
theorem RS.s_inw1 {N : Nat} {S R : xS} (h : RS N S R) {n : Nat} (v : Int32) : RS N (sI S n 13 7 v) (sI R 0 47 (4 * n + 1) v) := by
  have := h.set (n := n) (t := (13, 7, 47, 4, 1)) (by decide) v
  simpa using this
theorem RS.g_inm1 {N : Nat} {S R : xS} (h : RS N S R) {n : Nat} (hn : n < N) : xI S n 13 8 = xI R 0 48 (4 * n + 1) := by
  have := h n hn (13, 8, 48, 4, 1) (by decide)
  simpa using this
theorem RS.s_inm1 {N : Nat} {S R : xS} (h : RS N S R) {n : Nat} (v : Int32) : RS N (sI S n 13 8 v) (sI R 0 48 (4 * n + 1) v) := by
  have := h.set (n := n) (t := (13, 8, 48, 4, 1)) (by decide) v
  simpa using this
theorem RS.g_kept1 {N : Nat} {S R : xS} (h : RS N S R) {n : Nat} (hn : n < N) : xI S n 13 10 = xI R 0 50 (4 * n + 1) := by
  have := h n hn (13, 10, 50, 4, 1) (by decide)
  simpa using this
theorem RS.s_kept1 {N : Nat} {S R : xS} (h : RS N S R) {n : Nat} (v : Int32) : RS N (sI S n 13 10 v) (sI R 0 50 (4 * n + 1) v) := by
  have := h.set (n := n) (t := (13, 10, 50, 4, 1)) (by decide) v
  simpa using this
theorem RS.g_grd1 {N : Nat} {S R : xS} (h : RS N S R) {n : Nat} (hn : n < N) : xI S n 13 11 = xI R 0 51 (4 * n + 1) := by
  have := h n hn (13, 11, 51, 4, 1) (by decide)
  simpa using this
theorem RS.s_grd1 {N : Nat} {S R : xS} (h : RS N S R) {n : Nat} (v : Int32) : RS N (sI S n 13 11 v) (sI R 0 51 (4 * n + 1) v) := by
  have := h.set (n := n) (t := (13, 11, 51, 4, 1)) (by decide) v
  simpa using this
theorem RS.g_pbits2 {N : Nat} {S R : xS} (h : RS N S R) {n : Nat} (hn : n < N) : xI S n 18 3 = xI R 0 36 (4 * n + 2) := by
  have := h n hn (18, 3, 36, 4, 2) (by decide)
  simpa using this
theorem RS.s_pbits2 {N : Nat} {S R : xS} (h : RS N S R) {n : Nat} (v : Int32) : RS N (sI S n 18 3 v) (sI R 0 36 (4 * n + 2) v) := by
  have := h.set (n := n) (t := (18, 3, 36, 4, 2)) (by decide) v
  simpa using this
theorem RS.g_pput2 {N : Nat} {S R : xS} (h : RS N S R) {n : Nat} (hn : n < N) : xI S n 18 4 = xI R 0 37 (4 * n + 2) := by
  have := h n hn (18, 4, 37, 4, 2) (by decide)
  simpa using this
theorem RS.s_pput2 {N : Nat} {S R : xS} (h : RS N S R) {n : Nat} (v : Int32) : RS N (sI S n 18 4 v) (sI R 0 37 (4 * n + 2) v) := by
  have := h.set (n := n) (t := (18, 4, 37, 4, 2)) (by decide) v
  simpa using this
theorem RS.g_bit2 {N : Nat} {S R : xS} (h : RS N S R) {n : Nat} (hn : n < N) : xI S n 18 5 = xI R 0 34 (4 * n + 2) := by
  have := h n hn (18, 5, 34, 4, 2) (by decide)
  simpa using this
theorem RS.s_bit2 {N : Nat} {S R : xS} (h : RS N S R) {n : Nat} (v : Int32) : RS N (sI S n 18 5 v) (sI R 0 34 (4 * n + 2) v) := by
  have := h.set (n := n) (t := (18, 5, 34, 4, 2)) (by decide) v
  simpa using this
theorem RS.g_owed2 {N : Nat} {S R : xS} (h : RS N S R) {n : Nat} (hn : n < N) : xI S n 18 6 = xI R 0 40 (4 * n + 2) := by
  have := h n hn (18, 6, 40, 4, 2) (by decide)
  simpa using this
theorem RS.s_owed2 {N : Nat} {S R : xS} (h : RS N S R) {n : Nat} (v : Int32) : RS N (sI S n 18 6 v) (sI R 0 40 (4 * n + 2) v) := by
  have := h.set (n := n) (t := (18, 6, 40, 4, 2)) (by decide) v
  simpa using this
theorem RS.g_fly2 {N : Nat} {S R : xS} (h : RS N S R) {n : Nat} (hn : n < N) : xI S n 18 7 = xI R 0 41 (4 * n + 2) := by
  have := h n hn (18, 7, 41, 4, 2) (by decide)
  simpa using this
theorem RS.s_fly2 {N : Nat} {S R : xS} (h : RS N S R) {n : Nat} (v : Int32) : RS N (sI S n 18 7 v) (sI R 0 41 (4 * n + 2) v) := by
  have := h.set (n := n) (t := (18, 7, 41, 4, 2)) (by decide) v
  simpa using this
theorem RS.g_rmany2 {N : Nat} {S R : xS} (h : RS N S R) {n : Nat} (hn : n < N) : xI S n 18 8 = xI R 0 38 (4 * n + 2) := by
  have := h n hn (18, 8, 38, 4, 2) (by decide)
  simpa using this
theorem RS.s_rmany2 {N : Nat} {S R : xS} (h : RS N S R) {n : Nat} (v : Int32) : RS N (sI S n 18 8 v) (sI R 0 38 (4 * n + 2) v) := by
  have := h.set (n := n) (t := (18, 8, 38, 4, 2)) (by decide) v
  simpa using this
theorem RS.g_rbyte2 {N : Nat} {S R : xS} (h : RS N S R) {n : Nat} (hn : n < N) : xI S n 18 9 = xI R 0 39 (4 * n + 2) := by
  have := h n hn (18, 9, 39, 4, 2) (by decide)
  simpa using this
theorem RS.s_rbyte2 {N : Nat} {S R : xS} (h : RS N S R) {n : Nat} (v : Int32) : RS N (sI S n 18 9 v) (sI R 0 39 (4 * n + 2) v) := by
  have := h.set (n := n) (t := (18, 9, 39, 4, 2)) (by decide) v
  simpa using this
theorem RS.g_who2 {N : Nat} {S R : xS} (h : RS N S R) {n : Nat} (hn : n < N) : xI S n 14 2 = xI R 0 44 (4 * n + 2) := by
  have := h n hn (14, 2, 44, 4, 2) (by decide)
  simpa using this
theorem RS.s_who2 {N : Nat} {S R : xS} (h : RS N S R) {n : Nat} (v : Int32) : RS N (sI S n 14 2 v) (sI R 0 44 (4 * n + 2) v) := by
  have := h.set (n := n) (t := (14, 2, 44, 4, 2)) (by decide) v
  simpa using this
theorem RS.g_many2 {N : Nat} {S R : xS} (h : RS N S R) {n : Nat} (hn : n < N) : xI S n 14 3 = xI R 0 45 (4 * n + 2) := by
  have := h n hn (14, 3, 45, 4, 2) (by decide)
  simpa using this
theorem RS.s_many2 {N : Nat} {S R : xS} (h : RS N S R) {n : Nat} (v : Int32) : RS N (sI S n 14 3 v) (sI R 0 45 (4 * n + 2) v) := by
  have := h.set (n := n) (t := (14, 3, 45, 4, 2)) (by decide) v
  simpa using this
theorem RS.g_inw2 {N : Nat} {S R : xS} (h : RS N S R) {n : Nat} (hn : n < N) : xI S n 14 7 = xI R 0 47 (4 * n + 2) := by
  have := h n hn (14, 7, 47, 4, 2) (by decide)
  simpa using this
theorem RS.s_inw2 {N : Nat} {S R : xS} (h : RS N S R) {n : Nat} (v : Int32) : RS N (sI S n 14 7 v) (sI R 0 47 (4 * n + 2) v) := by
  have := h.set (n := n) (t := (14, 7, 47, 4, 2)) (by decide) v
  simpa using this
theorem RS.g_inm2 {N : Nat} {S R : xS} (h : RS N S R) {n : Nat} (hn : n < N) : xI S n 14 8 = xI R 0 48 (4 * n + 2) := by
  have := h n hn (14, 8, 48, 4, 2) (by decide)
  simpa using this
theorem RS.s_inm2 {N : Nat} {S R : xS} (h : RS N S R) {n : Nat} (v : Int32) : RS N (sI S n 14 8 v) (sI R 0 48 (4 * n + 2) v) := by
  have := h.set (n := n) (t := (14, 8, 48, 4, 2)) (by decide) v
  simpa using this
theorem RS.g_kept2 {N : Nat} {S R : xS} (h : RS N S R) {n : Nat} (hn : n < N) : xI S n 14 10 = xI R 0 50 (4 * n + 2) := by
  have := h n hn (14, 10, 50, 4, 2) (by decide)
  simpa using this
theorem RS.s_kept2 {N : Nat} {S R : xS} (h : RS N S R) {n : Nat} (v : Int32) : RS N (sI S n 14 10 v) (sI R 0 50 (4 * n + 2) v) := by
  have := h.set (n := n) (t := (14, 10, 50, 4, 2)) (by decide) v
  simpa using this
theorem RS.g_grd2 {N : Nat} {S R : xS} (h : RS N S R) {n : Nat} (hn : n < N) : xI S n 14 11 = xI R 0 51 (4 * n + 2) := by
  have := h n hn (14, 11, 51, 4, 2) (by decide)
  simpa using this
theorem RS.s_grd2 {N : Nat} {S R : xS} (h : RS N S R) {n : Nat} (v : Int32) : RS N (sI S n 14 11 v) (sI R 0 51 (4 * n + 2) v) := by
  have := h.set (n := n) (t := (14, 11, 51, 4, 2)) (by decide) v
  simpa using this
theorem RS.g_pbits3 {N : Nat} {S R : xS} (h : RS N S R) {n : Nat} (hn : n < N) : xI S n 19 3 = xI R 0 36 (4 * n + 3) := by
  have := h n hn (19, 3, 36, 4, 3) (by decide)
  simpa using this
theorem RS.s_pbits3 {N : Nat} {S R : xS} (h : RS N S R) {n : Nat} (v : Int32) : RS N (sI S n 19 3 v) (sI R 0 36 (4 * n + 3) v) := by
  have := h.set (n := n) (t := (19, 3, 36, 4, 3)) (by decide) v
  simpa using this
theorem RS.g_pput3 {N : Nat} {S R : xS} (h : RS N S R) {n : Nat} (hn : n < N) : xI S n 19 4 = xI R 0 37 (4 * n + 3) := by
  have := h n hn (19, 4, 37, 4, 3) (by decide)
  simpa using this
theorem RS.s_pput3 {N : Nat} {S R : xS} (h : RS N S R) {n : Nat} (v : Int32) : RS N (sI S n 19 4 v) (sI R 0 37 (4 * n + 3) v) := by
  have := h.set (n := n) (t := (19, 4, 37, 4, 3)) (by decide) v
  simpa using this
theorem RS.g_bit3 {N : Nat} {S R : xS} (h : RS N S R) {n : Nat} (hn : n < N) : xI S n 19 5 = xI R 0 34 (4 * n + 3) := by
  have := h n hn (19, 5, 34, 4, 3) (by decide)
  simpa using this
theorem RS.s_bit3 {N : Nat} {S R : xS} (h : RS N S R) {n : Nat} (v : Int32) : RS N (sI S n 19 5 v) (sI R 0 34 (4 * n + 3) v) := by
  have := h.set (n := n) (t := (19, 5, 34, 4, 3)) (by decide) v
  simpa using this
theorem RS.g_owed3 {N : Nat} {S R : xS} (h : RS N S R) {n : Nat} (hn : n < N) : xI S n 19 6 = xI R 0 40 (4 * n + 3) := by
  have := h n hn (19, 6, 40, 4, 3) (by decide)
  simpa using this
theorem RS.s_owed3 {N : Nat} {S R : xS} (h : RS N S R) {n : Nat} (v : Int32) : RS N (sI S n 19 6 v) (sI R 0 40 (4 * n + 3) v) := by
  have := h.set (n := n) (t := (19, 6, 40, 4, 3)) (by decide) v
  simpa using this
theorem RS.g_fly3 {N : Nat} {S R : xS} (h : RS N S R) {n : Nat} (hn : n < N) : xI S n 19 7 = xI R 0 41 (4 * n + 3) := by
  have := h n hn (19, 7, 41, 4, 3) (by decide)
  simpa using this
theorem RS.s_fly3 {N : Nat} {S R : xS} (h : RS N S R) {n : Nat} (v : Int32) : RS N (sI S n 19 7 v) (sI R 0 41 (4 * n + 3) v) := by
  have := h.set (n := n) (t := (19, 7, 41, 4, 3)) (by decide) v
  simpa using this
theorem RS.g_rmany3 {N : Nat} {S R : xS} (h : RS N S R) {n : Nat} (hn : n < N) : xI S n 19 8 = xI R 0 38 (4 * n + 3) := by
  have := h n hn (19, 8, 38, 4, 3) (by decide)
  simpa using this
theorem RS.s_rmany3 {N : Nat} {S R : xS} (h : RS N S R) {n : Nat} (v : Int32) : RS N (sI S n 19 8 v) (sI R 0 38 (4 * n + 3) v) := by
  have := h.set (n := n) (t := (19, 8, 38, 4, 3)) (by decide) v
  simpa using this
theorem RS.g_rbyte3 {N : Nat} {S R : xS} (h : RS N S R) {n : Nat} (hn : n < N) : xI S n 19 9 = xI R 0 39 (4 * n + 3) := by
  have := h n hn (19, 9, 39, 4, 3) (by decide)
  simpa using this
theorem RS.s_rbyte3 {N : Nat} {S R : xS} (h : RS N S R) {n : Nat} (v : Int32) : RS N (sI S n 19 9 v) (sI R 0 39 (4 * n + 3) v) := by
  have := h.set (n := n) (t := (19, 9, 39, 4, 3)) (by decide) v
  simpa using this
theorem RS.g_who3 {N : Nat} {S R : xS} (h : RS N S R) {n : Nat} (hn : n < N) : xI S n 15 2 = xI R 0 44 (4 * n + 3) := by
  have := h n hn (15, 2, 44, 4, 3) (by decide)
  simpa using this
theorem RS.s_who3 {N : Nat} {S R : xS} (h : RS N S R) {n : Nat} (v : Int32) : RS N (sI S n 15 2 v) (sI R 0 44 (4 * n + 3) v) := by
  have := h.set (n := n) (t := (15, 2, 44, 4, 3)) (by decide) v
  simpa using this
theorem RS.g_many3 {N : Nat} {S R : xS} (h : RS N S R) {n : Nat} (hn : n < N) : xI S n 15 3 = xI R 0 45 (4 * n + 3) := by
  have := h n hn (15, 3, 45, 4, 3) (by decide)
  simpa using this
theorem RS.s_many3 {N : Nat} {S R : xS} (h : RS N S R) {n : Nat} (v : Int32) : RS N (sI S n 15 3 v) (sI R 0 45 (4 * n + 3) v) := by
  have := h.set (n := n) (t := (15, 3, 45, 4, 3)) (by decide) v
  simpa using this
theorem RS.g_inw3 {N : Nat} {S R : xS} (h : RS N S R) {n : Nat} (hn : n < N) : xI S n 15 7 = xI R 0 47 (4 * n + 3) := by
  have := h n hn (15, 7, 47, 4, 3) (by decide)
  simpa using this
theorem RS.s_inw3 {N : Nat} {S R : xS} (h : RS N S R) {n : Nat} (v : Int32) : RS N (sI S n 15 7 v) (sI R 0 47 (4 * n + 3) v) := by
  have := h.set (n := n) (t := (15, 7, 47, 4, 3)) (by decide) v
  simpa using this
theorem RS.g_inm3 {N : Nat} {S R : xS} (h : RS N S R) {n : Nat} (hn : n < N) : xI S n 15 8 = xI R 0 48 (4 * n + 3) := by
  have := h n hn (15, 8, 48, 4, 3) (by decide)
  simpa using this
theorem RS.s_inm3 {N : Nat} {S R : xS} (h : RS N S R) {n : Nat} (v : Int32) : RS N (sI S n 15 8 v) (sI R 0 48 (4 * n + 3) v) := by
  have := h.set (n := n) (t := (15, 8, 48, 4, 3)) (by decide) v
  simpa using this
theorem RS.g_kept3 {N : Nat} {S R : xS} (h : RS N S R) {n : Nat} (hn : n < N) : xI S n 15 10 = xI R 0 50 (4 * n + 3) := by
  have := h n hn (15, 10, 50, 4, 3) (by decide)
  simpa using this
theorem RS.s_kept3 {N : Nat} {S R : xS} (h : RS N S R) {n : Nat} (v : Int32) : RS N (sI S n 15 10 v) (sI R 0 50 (4 * n + 3) v) := by
  have := h.set (n := n) (t := (15, 10, 50, 4, 3)) (by decide) v
  simpa using this
theorem RS.g_grd3 {N : Nat} {S R : xS} (h : RS N S R) {n : Nat} (hn : n < N) : xI S n 15 11 = xI R 0 51 (4 * n + 3) := by
  have := h n hn (15, 11, 51, 4, 3) (by decide)
  simpa using this
theorem RS.s_grd3 {N : Nat} {S R : xS} (h : RS N S R) {n : Nat} (v : Int32) : RS N (sI S n 15 11 v) (sI R 0 51 (4 * n + 3) v) := by
  have := h.set (n := n) (t := (15, 11, 51, 4, 3)) (by decide) v
  simpa using this
