/-! every operation -/
theorem Qo.mono_D {N : xN} {D : Nat} {o p : Int32 × xS} (q : Qo (LX D N) N o p) : Qo (LX (D + 1) N) N o p := ⟨q.1, q.2.1, q.2.2.mono_D (Nat.le_succ D)⟩
theorem g_Arithmetic {N : xN} {D : Nat} {S R : xS} (h : REL E0 (LX D N) N S R) {n : Nat} (hn : inN n N) (hp : xI R 0 11 n = 0 ∨ xI R 0 11 n = 1) (op : Int32) : P2 (c7_doArithmetic n S op) (r_operates R (nI n) op) (Qo (LX (D + 1) N) N) ∨ (c7_doArithmetic n S op = some (0, S) ∧ ¬ op = 2 ∧ ¬ op = 4 ∧ ¬ op = 5 ∧ ¬ op = 8 ∧ ¬ op = 9 ∧ ¬ op = 10 ∧ ¬ op = 12 ∧ ¬ op = 22 ∧ ¬ op = 31 ∧ ¬ op = 44 ∧ ¬ op = 52 ∧ ¬ op = 56 ∧ ¬ op = 82 ∧ ¬ op = 83) := by
  by_cases e2 : op = 2
  · subst e2; exact Or.inl (P2.mono (q_2 h hn hp) (fun a b q => q.mono_D))
  by_cases e4 : op = 4
  · subst e4; exact Or.inl (P2.mono (q_4 h hn hp) (fun a b q => q.mono_D))
  by_cases e5 : op = 5
  · subst e5; exact Or.inl (P2.mono (q_5 h hn hp) (fun a b q => q.mono_D))
  by_cases e8 : op = 8
  · subst e8; exact Or.inl (P2.mono (q_8 h hn hp) (fun a b q => q.mono_D))
  by_cases e9 : op = 9
  · subst e9; exact Or.inl (P2.mono (q_9 h hn hp) (fun a b q => q.mono_D))
  by_cases e10 : op = 10
  · subst e10; exact Or.inl (P2.mono (q_10 h hn hp) (fun a b q => q.mono_D))
  by_cases e12 : op = 12
  · subst e12; exact Or.inl (P2.mono (q_12 h hn hp) (fun a b q => q.mono_D))
  by_cases e22 : op = 22
  · subst e22; exact Or.inl (P2.mono (q_22 h hn hp) (fun a b q => q.mono_D))
  by_cases e31 : op = 31
  · subst e31; exact Or.inl (P2.mono (q_31 h hn hp) (fun a b q => q.mono_D))
  by_cases e44 : op = 44
  · subst e44; exact Or.inl (P2.mono (q_44 h hn hp) (fun a b q => q.mono_D))
  by_cases e52 : op = 52
  · subst e52; exact Or.inl (P2.mono (q_52 h hn hp) (fun a b q => q.mono_D))
  by_cases e56 : op = 56
  · subst e56; exact Or.inl (P2.mono (q_56 h hn hp) (fun a b q => q.mono_D))
  by_cases e82 : op = 82
  · subst e82; exact Or.inl (P2.mono (q_82 h hn hp) (fun a b q => q.mono_D))
  by_cases e83 : op = 83
  · subst e83; exact Or.inl (P2.mono (q_83 h hn hp) (fun a b q => q.mono_D))
  refine Or.inr ⟨?_, e2, e4, e5, e8, e9, e10, e12, e22, e31, e44, e52, e56, e82, e83⟩
  unfold c7_doArithmetic
  rw [c11_signed_n, Option.bind_some, c11_signed_n, Option.bind_some]
  rw [if_neg e2, if_neg e4, if_neg e5, if_neg e8, if_neg e9, if_neg e10, if_neg e12, if_neg e22, if_neg e31, if_neg e44, if_neg e52, if_neg e56, if_neg e82, if_neg e83]
theorem g_Logic {N : xN} {D : Nat} {S R : xS} (h : REL E0 (LX D N) N S R) {n : Nat} (hn : inN n N) (hp : xI R 0 11 n = 0 ∨ xI R 0 11 n = 1) (op : Int32) : P2 (c7_doLogic n S op) (r_operates R (nI n) op) (Qo (LX (D + 1) N) N) ∨ (c7_doLogic n S op = some (0, S) ∧ ¬ op = 50 ∧ ¬ op = 51 ∧ ¬ op = 58 ∧ ¬ op = 64 ∧ ¬ op = 65 ∧ ¬ op = 70 ∧ ¬ op = 75 ∧ ¬ op = 116 ∧ ¬ op = 117 ∧ ¬ op = 118 ∧ ¬ op = 119 ∧ ¬ op = 120) := by
  by_cases e50 : op = 50
  · subst e50; exact Or.inl (P2.mono (q_50 h hn hp) (fun a b q => q.mono_D))
  by_cases e51 : op = 51
  · subst e51; exact Or.inl (P2.mono (q_51 h hn hp) (fun a b q => q.mono_D))
  by_cases e58 : op = 58
  · subst e58; exact Or.inl (P2.mono (q_58 h hn hp) (fun a b q => q.mono_D))
  by_cases e64 : op = 64
  · subst e64; exact Or.inl (P2.mono (q_64 h hn hp) (fun a b q => q.mono_D))
  by_cases e65 : op = 65
  · subst e65; exact Or.inl (P2.mono (q_65 h hn hp) (fun a b q => q.mono_D))
  by_cases e70 : op = 70
  · subst e70; exact Or.inl (P2.mono (q_70 h hn hp) (fun a b q => q.mono_D))
  by_cases e75 : op = 75
  · subst e75; exact Or.inl (P2.mono (q_75 h hn hp) (fun a b q => q.mono_D))
  by_cases e116 : op = 116
  · subst e116; exact Or.inl (P2.mono (q_116 h hn hp) (fun a b q => q.mono_D))
  by_cases e117 : op = 117
  · subst e117; exact Or.inl (P2.mono (q_117 h hn hp) (fun a b q => q.mono_D))
  by_cases e118 : op = 118
  · subst e118; exact Or.inl (P2.mono (q_118 h hn hp) (fun a b q => q.mono_D))
  by_cases e119 : op = 119
  · subst e119; exact Or.inl (P2.mono (q_119 h hn hp) (fun a b q => q.mono_D))
  by_cases e120 : op = 120
  · subst e120; exact Or.inl (P2.mono (q_120 h hn hp) (fun a b q => q.mono_D))
  refine Or.inr ⟨?_, e50, e51, e58, e64, e65, e70, e75, e116, e117, e118, e119, e120⟩
  unfold c7_doLogic
  rw [if_neg e50, if_neg e51, if_neg e58, if_neg e64, if_neg e65, if_neg e70, if_neg e75, if_neg e116, if_neg e117, if_neg e118, if_neg e119, if_neg e120]
theorem g_DoubleWords {N : xN} {D : Nat} {S R : xS} (h : REL E0 (LX D N) N S R) {n : Nat} (hn : inN n N) (hp : xI R 0 11 n = 0 ∨ xI R 0 11 n = 1) (op : Int32) : P2 (c7_doDoubleWords n S op) (r_operates R (nI n) op) (Qo (LX (D + 1) N) N) ∨ (c7_doDoubleWords n S op = some (0, S) ∧ ¬ op = 25 ∧ ¬ op = 26 ∧ ¬ op = 29 ∧ ¬ op = 49 ∧ ¬ op = 53 ∧ ¬ op = 54 ∧ ¬ op = 55 ∧ ¬ op = 63 ∧ ¬ op = 79) := by
  by_cases e25 : op = 25
  · subst e25; exact Or.inl (P2.mono (q_25 h hn hp) (fun a b q => q.mono_D))
  by_cases e26 : op = 26
  · subst e26; exact Or.inl (P2.mono (q_26 h hn hp) (fun a b q => q.mono_D))
  by_cases e29 : op = 29
  · subst e29; exact Or.inl (P2.mono (q_29 h hn hp) (fun a b q => q.mono_D))
  by_cases e49 : op = 49
  · subst e49; exact Or.inl (P2.mono (q_49 h hn hp) (fun a b q => q.mono_D))
  by_cases e53 : op = 53
  · subst e53; exact Or.inl (P2.mono (q_53 h hn hp) (fun a b q => q.mono_D))
  by_cases e54 : op = 54
  · subst e54; exact Or.inl (P2.mono (q_54 h hn hp) (fun a b q => q.mono_D))
  by_cases e55 : op = 55
  · subst e55; exact Or.inl (P2.mono (q_55 h hn hp) (fun a b q => q.mono_D))
  by_cases e63 : op = 63
  · subst e63; exact Or.inl (P2.mono (q_63 h hn hp) (fun a b q => q.mono_D))
  by_cases e79 : op = 79
  · subst e79; exact Or.inl (P2.mono (q_79 h hn hp) (fun a b q => q.mono_D))
  refine Or.inr ⟨?_, e25, e26, e29, e49, e53, e54, e55, e63, e79⟩
  unfold c7_doDoubleWords
  rw [if_neg e25, if_neg e26, if_neg e29, if_neg e49, if_neg e53, if_neg e54, if_neg e55, if_neg e63, if_neg e79]
theorem g_Checks {N : xN} {D : Nat} {S R : xS} (h : REL E0 (LX D N) N S R) {n : Nat} (hn : inN n N) (hp : xI R 0 11 n = 0 ∨ xI R 0 11 n = 1) (op : Int32) : P2 (c7_doChecks n S op) (r_operates R (nI n) op) (Qo (LX (D + 1) N) N) ∨ (c7_doChecks n S op = some (0, S) ∧ ¬ op = 16 ∧ ¬ op = 19 ∧ ¬ op = 41 ∧ ¬ op = 76 ∧ ¬ op = 77 ∧ ¬ op = 85 ∧ ¬ op = 86 ∧ ¬ op = 87 ∧ ¬ op = 88 ∧ ¬ op = 89) := by
  by_cases e16 : op = 16
  · subst e16; exact Or.inl (P2.mono (q_16 h hn hp) (fun a b q => q.mono_D))
  by_cases e19 : op = 19
  · subst e19; exact Or.inl (P2.mono (q_19 h hn hp) (fun a b q => q.mono_D))
  by_cases e41 : op = 41
  · subst e41; exact Or.inl (P2.mono (q_41 h hn hp) (fun a b q => q.mono_D))
  by_cases e76 : op = 76
  · subst e76; exact Or.inl (P2.mono (q_76 h hn hp) (fun a b q => q.mono_D))
  by_cases e77 : op = 77
  · subst e77; exact Or.inl (P2.mono (q_77 h hn hp) (fun a b q => q.mono_D))
  by_cases e85 : op = 85
  · subst e85; exact Or.inl (P2.mono (q_85 h hn hp) (fun a b q => q.mono_D))
  by_cases e86 : op = 86
  · subst e86; exact Or.inl (P2.mono (q_86 h hn hp) (fun a b q => q.mono_D))
  by_cases e87 : op = 87
  · subst e87; exact Or.inl (P2.mono (q_87 h hn hp) (fun a b q => q.mono_D))
  by_cases e88 : op = 88
  · subst e88; exact Or.inl (P2.mono (q_88 h hn hp) (fun a b q => q.mono_D))
  by_cases e89 : op = 89
  · subst e89; exact Or.inl (P2.mono (q_89 h hn hp) (fun a b q => q.mono_D))
  refine Or.inr ⟨?_, e16, e19, e41, e76, e77, e85, e86, e87, e88, e89⟩
  unfold c7_doChecks
  rw [if_neg e16, if_neg e19, if_neg e41, if_neg e76, if_neg e77, if_neg e85, if_neg e86, if_neg e87, if_neg e88, if_neg e89]
theorem g_Moves {N : xN} {D : Nat} {S R : xS} (h : REL E0 (LX D N) N S R) {n : Nat} (hn : inN n N) (hp : xI R 0 11 n = 0 ∨ xI R 0 11 n = 1) (op : Int32) : P2 (c7_doMoves n S op) (r_operates R (nI n) op) (Qo (LX (D + 1) N) N) ∨ (c7_doMoves n S op = some (0, S) ∧ ¬ op = 0 ∧ ¬ op = 1 ∧ ¬ op = 6 ∧ ¬ op = 27 ∧ ¬ op = 30 ∧ ¬ op = 32 ∧ ¬ op = 33 ∧ ¬ op = 34 ∧ ¬ op = 59 ∧ ¬ op = 60 ∧ ¬ op = 66 ∧ ¬ op = 74 ∧ ¬ op = 84 ∧ ¬ op = 90) := by
  by_cases e0 : op = 0
  · subst e0; exact Or.inl (P2.mono (q_0 h hn hp) (fun a b q => q.mono_D))
  by_cases e1 : op = 1
  · subst e1; exact Or.inl (P2.mono (q_1 h hn hp) (fun a b q => q.mono_D))
  by_cases e6 : op = 6
  · subst e6; exact Or.inl (P2.mono (q_6 h hn hp) (fun a b q => q.mono_D))
  by_cases e27 : op = 27
  · subst e27; exact Or.inl (P2.mono (q_27 h hn hp) (fun a b q => q.mono_D))
  by_cases e30 : op = 30
  · subst e30; exact Or.inl (P2.mono (q_30 h hn hp) (fun a b q => q.mono_D))
  by_cases e32 : op = 32
  · subst e32; exact Or.inl (P2.mono (q_32 h hn hp) (fun a b q => q.mono_D))
  by_cases e33 : op = 33
  · subst e33; exact Or.inl (P2.mono (q_33 h hn hp) (fun a b q => q.mono_D))
  by_cases e34 : op = 34
  · subst e34; exact Or.inl (P2.mono (q_34 h hn hp) (fun a b q => q.mono_D))
  by_cases e59 : op = 59
  · subst e59; exact Or.inl (P2.mono (q_59 h hn hp) (fun a b q => q.mono_D))
  by_cases e60 : op = 60
  · subst e60; exact Or.inl (P2.mono (q_60 h hn hp) (fun a b q => q.mono_D))
  by_cases e66 : op = 66
  · subst e66; exact Or.inl (P2.mono (q_66 h hn hp) (fun a b q => q.mono_D))
  by_cases e74 : op = 74
  · subst e74; exact Or.inl (P2.mono (q_74 h hn hp) (fun a b q => q.mono_D))
  by_cases e84 : op = 84
  · subst e84; exact Or.inl (P2.mono (q_84 h hn hp) (fun a b q => q.mono_D))
  by_cases e90 : op = 90
  · subst e90; exact Or.inl (P2.mono (q_90 h hn hp) (fun a b q => q.mono_D))
  refine Or.inr ⟨?_, e0, e1, e6, e27, e30, e32, e33, e34, e59, e60, e66, e74, e84, e90⟩
  unfold c7_doMoves
  rw [if_neg e0, if_neg e1, if_neg e6, if_neg e27, if_neg e30, if_neg e32, if_neg e33, if_neg e34, if_neg e59, if_neg e60, if_neg e66, if_neg e74, if_neg e84, if_neg e90]
theorem g_Scheduling {N : xN} {D : Nat} {S R : xS} (h : REL E0 (LX D N) N S R) {n : Nat} (hn : inN n N) (hp : xI R 0 11 n = 0 ∨ xI R 0 11 n = 1) (op : Int32) : P2 (c7_doScheduling n S op) (r_operates R (nI n) op) (Qo (LX (D + 1) N) N) ∨ (c7_doScheduling n S op = some (0, S) ∧ ¬ op = 3 ∧ ¬ op = 13 ∧ ¬ op = 21 ∧ ¬ op = 23 ∧ ¬ op = 24 ∧ ¬ op = 28 ∧ ¬ op = 57 ∧ ¬ op = 61 ∧ ¬ op = 62 ∧ ¬ op = 80) := by
  by_cases e3 : op = 3
  · subst e3; exact Or.inl (P2.mono (q_3 h hn hp) (fun a b q => q.mono_D))
  by_cases e13 : op = 13
  · subst e13; exact Or.inl (P2.mono (q_13 h hn hp) (fun a b q => q.mono_D))
  by_cases e21 : op = 21
  · subst e21; exact Or.inl (P2.mono (q_21 h hn hp) (fun a b q => q.mono_D))
  by_cases e23 : op = 23
  · subst e23; exact Or.inl (P2.mono (q_23 h hn hp) (fun a b q => q.mono_D))
  by_cases e24 : op = 24
  · subst e24; exact Or.inl (P2.mono (q_24 h hn hp) (fun a b q => q.mono_D))
  by_cases e28 : op = 28
  · subst e28; exact Or.inl (P2.mono (q_28 h hn hp) (fun a b q => q.mono_D))
  by_cases e57 : op = 57
  · subst e57; exact Or.inl (P2.mono (q_57 h hn hp) (fun a b q => q.mono_D))
  by_cases e61 : op = 61
  · subst e61; exact Or.inl (P2.mono (q_61 h hn hp) (fun a b q => q.mono_D))
  by_cases e62 : op = 62
  · subst e62; exact Or.inl (P2.mono (q_62 h hn hp) (fun a b q => q.mono_D))
  by_cases e80 : op = 80
  · subst e80; exact Or.inl (P2.mono (q_80 h hn hp) (fun a b q => q.mono_D))
  refine Or.inr ⟨?_, e3, e13, e21, e23, e24, e28, e57, e61, e62, e80⟩
  unfold c7_doScheduling
  rw [if_neg e3, if_neg e13, if_neg e21, if_neg e23, if_neg e24, if_neg e28, if_neg e57, if_neg e61, if_neg e62, if_neg e80]
theorem g_Channels {N : xN} {D : Nat} {S R : xS} (h : REL E0 (LX D N) N S R) {n : Nat} (hn : inN n N) (hp : xI R 0 11 n = 0 ∨ xI R 0 11 n = 1) (op : Int32) : P2 (c7_doChannels n S op) (r_operates R (nI n) op) (Qo (LX (D + 1) N) N) ∨ (c7_doChannels n S op = some (0, S) ∧ ¬ op = 7 ∧ ¬ op = 11 ∧ ¬ op = 14 ∧ ¬ op = 15 ∧ ¬ op = 18 ∧ ¬ op = 43) := by
  by_cases e7 : op = 7
  · subst e7; exact Or.inl (q_7 h hn hp)
  by_cases e11 : op = 11
  · subst e11; exact Or.inl (P2.mono (q_11 h hn hp) (fun a b q => q.mono_D))
  by_cases e14 : op = 14
  · subst e14; exact Or.inl (P2.mono (q_14 h hn hp) (fun a b q => q.mono_D))
  by_cases e15 : op = 15
  · subst e15; exact Or.inl (P2.mono (q_15 h hn hp) (fun a b q => q.mono_D))
  by_cases e18 : op = 18
  · subst e18; exact Or.inl (P2.mono (q_18 h hn hp) (fun a b q => q.mono_D))
  by_cases e43 : op = 43
  · subst e43; exact Or.inl (P2.mono (q_43 h hn hp) (fun a b q => q.mono_D))
  refine Or.inr ⟨?_, e7, e11, e14, e15, e18, e43⟩
  unfold c7_doChannels
  rw [if_neg e7, if_neg e11, if_neg e14, if_neg e15, if_neg e18, if_neg e43]
theorem g_Alternatives {N : xN} {D : Nat} {S R : xS} (h : REL E0 (LX D N) N S R) {n : Nat} (hn : inN n N) (hp : xI R 0 11 n = 0 ∨ xI R 0 11 n = 1) (op : Int32) : P2 (c7_doAlternatives n S op) (r_operates R (nI n) op) (Qo (LX (D + 1) N) N) ∨ (c7_doAlternatives n S op = some (0, S) ∧ ¬ op = 46 ∧ ¬ op = 47 ∧ ¬ op = 48 ∧ ¬ op = 67 ∧ ¬ op = 68 ∧ ¬ op = 69 ∧ ¬ op = 71 ∧ ¬ op = 72 ∧ ¬ op = 73 ∧ ¬ op = 78 ∧ ¬ op = 81) := by
  by_cases e46 : op = 46
  · subst e46; exact Or.inl (P2.mono (q_46 h hn hp) (fun a b q => q.mono_D))
  by_cases e47 : op = 47
  · subst e47; exact Or.inl (P2.mono (q_47 h hn hp) (fun a b q => q.mono_D))
  by_cases e48 : op = 48
  · subst e48; exact Or.inl (P2.mono (q_48 h hn hp) (fun a b q => q.mono_D))
  by_cases e67 : op = 67
  · subst e67; exact Or.inl (P2.mono (q_67 h hn hp) (fun a b q => q.mono_D))
  by_cases e68 : op = 68
  · subst e68; exact Or.inl (P2.mono (q_68 h hn hp) (fun a b q => q.mono_D))
  by_cases e69 : op = 69
  · subst e69; exact Or.inl (P2.mono (q_69 h hn hp) (fun a b q => q.mono_D))
  by_cases e71 : op = 71
  · subst e71; exact Or.inl (P2.mono (q_71 h hn hp) (fun a b q => q.mono_D))
  by_cases e72 : op = 72
  · subst e72; exact Or.inl (P2.mono (q_72 h hn hp) (fun a b q => q.mono_D))
  by_cases e73 : op = 73
  · subst e73; exact Or.inl (P2.mono (q_73 h hn hp) (fun a b q => q.mono_D))
  by_cases e78 : op = 78
  · subst e78; exact Or.inl (P2.mono (q_78 h hn hp) (fun a b q => q.mono_D))
  by_cases e81 : op = 81
  · subst e81; exact Or.inl (P2.mono (q_81 h hn hp) (fun a b q => q.mono_D))
  refine Or.inr ⟨?_, e46, e47, e48, e67, e68, e69, e71, e72, e73, e78, e81⟩
  unfold c7_doAlternatives
  rw [if_neg e46, if_neg e47, if_neg e48, if_neg e67, if_neg e68, if_neg e69, if_neg e71, if_neg e72, if_neg e73, if_neg e78, if_neg e81]
theorem r_none (R : xS) {n : Nat} (h8 : n < 8) (op : Int32) (e0 : ¬ op = 0) (e1 : ¬ op = 1) (e2 : ¬ op = 2) (e3 : ¬ op = 3) (e4 : ¬ op = 4) (e5 : ¬ op = 5) (e6 : ¬ op = 6) (e7 : ¬ op = 7) (e8 : ¬ op = 8) (e9 : ¬ op = 9) (e10 : ¬ op = 10) (e11 : ¬ op = 11) (e12 : ¬ op = 12) (e13 : ¬ op = 13) (e14 : ¬ op = 14) (e15 : ¬ op = 15) (e16 : ¬ op = 16) (e18 : ¬ op = 18) (e19 : ¬ op = 19) (e21 : ¬ op = 21) (e22 : ¬ op = 22) (e23 : ¬ op = 23) (e24 : ¬ op = 24) (e25 : ¬ op = 25) (e26 : ¬ op = 26) (e27 : ¬ op = 27) (e28 : ¬ op = 28) (e29 : ¬ op = 29) (e30 : ¬ op = 30) (e31 : ¬ op = 31) (e32 : ¬ op = 32) (e33 : ¬ op = 33) (e34 : ¬ op = 34) (e41 : ¬ op = 41) (e43 : ¬ op = 43) (e44 : ¬ op = 44) (e46 : ¬ op = 46) (e47 : ¬ op = 47) (e48 : ¬ op = 48) (e49 : ¬ op = 49) (e50 : ¬ op = 50) (e51 : ¬ op = 51) (e52 : ¬ op = 52) (e53 : ¬ op = 53) (e54 : ¬ op = 54) (e55 : ¬ op = 55) (e56 : ¬ op = 56) (e57 : ¬ op = 57) (e58 : ¬ op = 58) (e59 : ¬ op = 59) (e60 : ¬ op = 60) (e61 : ¬ op = 61) (e62 : ¬ op = 62) (e63 : ¬ op = 63) (e64 : ¬ op = 64) (e65 : ¬ op = 65) (e66 : ¬ op = 66) (e67 : ¬ op = 67) (e68 : ¬ op = 68) (e69 : ¬ op = 69) (e70 : ¬ op = 70) (e71 : ¬ op = 71) (e72 : ¬ op = 72) (e73 : ¬ op = 73) (e74 : ¬ op = 74) (e75 : ¬ op = 75) (e76 : ¬ op = 76) (e77 : ¬ op = 77) (e78 : ¬ op = 78) (e79 : ¬ op = 79) (e80 : ¬ op = 80) (e81 : ¬ op = 81) (e82 : ¬ op = 82) (e83 : ¬ op = 83) (e84 : ¬ op = 84) (e85 : ¬ op = 85) (e86 : ¬ op = 86) (e87 : ¬ op = 87) (e88 : ¬ op = 88) (e89 : ¬ op = 89) (e90 : ¬ op = 90) (e116 : ¬ op = 116) (e117 : ¬ op = 117) (e118 : ¬ op = 118) (e119 : ¬ op = 119) (e120 : ¬ op = 120) : r_operates R (nI n) op = some (0, R) := by
  unfold r_operates
  rw [gI h8, gI h8, gI h8, if_neg e0, if_neg e1, if_neg e2, if_neg e4, if_neg e5, if_neg e6, if_neg e7, if_neg e8, if_neg e9, if_neg e10, if_neg e11, if_neg e12, if_neg e14, if_neg e15, if_neg e18, if_neg e22, if_neg e31, if_neg e43, if_neg e44, if_neg e46, if_neg e47, if_neg e48, if_neg e51, if_neg e56, if_neg e58, if_neg e64, if_neg e65, if_neg e67, if_neg e68, if_neg e69, if_neg e70, if_neg e71, if_neg e72, if_neg e73, if_neg e75, if_neg e78, if_neg e81, if_neg e82, if_neg e83, if_neg e118, if_neg e120]
  unfold r_others
  rw [if_neg e3, if_neg e13, if_neg e16, if_neg e19, if_neg e21, if_neg e23, if_neg e24, if_neg e25, if_neg e26, if_neg e27, if_neg e28, if_neg e29, if_neg e30, if_neg e32, if_neg e33, if_neg e34, if_neg e41, if_neg e49, if_neg e50, if_neg e52, if_neg e53, if_neg e54, if_neg e55, if_neg e80]
  unfold r_more
  rw [if_neg e57, if_neg e59, if_neg e60, if_neg e61, if_neg e62, if_neg e63, if_neg e66, if_neg e74, if_neg e76, if_neg e77, if_neg e79, if_neg e84, if_neg e85, if_neg e86, if_neg e87, if_neg e88, if_neg e89, if_neg e90, if_neg e116, if_neg e117, if_neg e119]
  rw [Option.bind_some]
  dsimp only
  rw [gz0, Option.bind_some]
  exact gz0 _
theorem ops_ok {N : xN} {D : Nat} {n : Nat} (hn : inN n N) : opsOk (LX D N) (LX (D + 1) N) N n := by
  intro S R op h hp
  have h8 := h.le8 hn
  unfold c7_isOperationDone
  rcases g_Arithmetic h hn hp op with ⟨a, b, x1, x2, x3, x4, x5⟩ | ⟨y_Arithmetic, e2, e4, e5, e8, e9, e10, e12, e22, e31, e44, e52, e56, e82, e83⟩
  · obtain ⟨a1, a2⟩ := a
    obtain ⟨b1, b2⟩ := b
    have x3 : a1 = 1 := x3
    have x4 : b1 = 1 := x4
    have x5 : REL E0 (LX (D + 1) N) N a2 b2 := x5
    subst x3; subst x4
    refine P2.l x1 (P2.nl n10 ?_)
    rw [x2]
    exact P2.ret ⟨Or.inr rfl, rfl, x5⟩
  rcases g_Logic h hn hp op with ⟨a, b, x1, x2, x3, x4, x5⟩ | ⟨y_Logic, e50, e51, e58, e64, e65, e70, e75, e116, e117, e118, e119, e120⟩
  · obtain ⟨a1, a2⟩ := a
    obtain ⟨b1, b2⟩ := b
    have x3 : a1 = 1 := x3
    have x4 : b1 = 1 := x4
    have x5 : REL E0 (LX (D + 1) N) N a2 b2 := x5
    subst x3; subst x4
    refine P2.l y_Arithmetic (P2.pl rfl ?_)
    refine P2.l x1 (P2.nl n10 ?_)
    rw [x2]
    exact P2.ret ⟨Or.inr rfl, rfl, x5⟩
  rcases g_DoubleWords h hn hp op with ⟨a, b, x1, x2, x3, x4, x5⟩ | ⟨y_DoubleWords, e25, e26, e29, e49, e53, e54, e55, e63, e79⟩
  · obtain ⟨a1, a2⟩ := a
    obtain ⟨b1, b2⟩ := b
    have x3 : a1 = 1 := x3
    have x4 : b1 = 1 := x4
    have x5 : REL E0 (LX (D + 1) N) N a2 b2 := x5
    subst x3; subst x4
    refine P2.l y_Arithmetic (P2.pl rfl ?_)
    refine P2.l y_Logic (P2.pl rfl ?_)
    refine P2.l x1 (P2.nl n10 ?_)
    rw [x2]
    exact P2.ret ⟨Or.inr rfl, rfl, x5⟩
  rcases g_Checks h hn hp op with ⟨a, b, x1, x2, x3, x4, x5⟩ | ⟨y_Checks, e16, e19, e41, e76, e77, e85, e86, e87, e88, e89⟩
  · obtain ⟨a1, a2⟩ := a
    obtain ⟨b1, b2⟩ := b
    have x3 : a1 = 1 := x3
    have x4 : b1 = 1 := x4
    have x5 : REL E0 (LX (D + 1) N) N a2 b2 := x5
    subst x3; subst x4
    refine P2.l y_Arithmetic (P2.pl rfl ?_)
    refine P2.l y_Logic (P2.pl rfl ?_)
    refine P2.l y_DoubleWords (P2.pl rfl ?_)
    refine P2.l x1 (P2.nl n10 ?_)
    rw [x2]
    exact P2.ret ⟨Or.inr rfl, rfl, x5⟩
  rcases g_Moves h hn hp op with ⟨a, b, x1, x2, x3, x4, x5⟩ | ⟨y_Moves, e0, e1, e6, e27, e30, e32, e33, e34, e59, e60, e66, e74, e84, e90⟩
  · obtain ⟨a1, a2⟩ := a
    obtain ⟨b1, b2⟩ := b
    have x3 : a1 = 1 := x3
    have x4 : b1 = 1 := x4
    have x5 : REL E0 (LX (D + 1) N) N a2 b2 := x5
    subst x3; subst x4
    refine P2.l y_Arithmetic (P2.pl rfl ?_)
    refine P2.l y_Logic (P2.pl rfl ?_)
    refine P2.l y_DoubleWords (P2.pl rfl ?_)
    refine P2.l y_Checks (P2.pl rfl ?_)
    refine P2.l x1 (P2.nl n10 ?_)
    rw [x2]
    exact P2.ret ⟨Or.inr rfl, rfl, x5⟩
  rcases g_Scheduling h hn hp op with ⟨a, b, x1, x2, x3, x4, x5⟩ | ⟨y_Scheduling, e3, e13, e21, e23, e24, e28, e57, e61, e62, e80⟩
  · obtain ⟨a1, a2⟩ := a
    obtain ⟨b1, b2⟩ := b
    have x3 : a1 = 1 := x3
    have x4 : b1 = 1 := x4
    have x5 : REL E0 (LX (D + 1) N) N a2 b2 := x5
    subst x3; subst x4
    refine P2.l y_Arithmetic (P2.pl rfl ?_)
    refine P2.l y_Logic (P2.pl rfl ?_)
    refine P2.l y_DoubleWords (P2.pl rfl ?_)
    refine P2.l y_Checks (P2.pl rfl ?_)
    refine P2.l y_Moves (P2.pl rfl ?_)
    refine P2.l x1 (P2.nl n10 ?_)
    rw [x2]
    exact P2.ret ⟨Or.inr rfl, rfl, x5⟩
  rcases g_Channels h hn hp op with ⟨a, b, x1, x2, x3, x4, x5⟩ | ⟨y_Channels, e7, e11, e14, e15, e18, e43⟩
  · obtain ⟨a1, a2⟩ := a
    obtain ⟨b1, b2⟩ := b
    have x3 : a1 = 1 := x3
    have x4 : b1 = 1 := x4
    have x5 : REL E0 (LX (D + 1) N) N a2 b2 := x5
    subst x3; subst x4
    refine P2.l y_Arithmetic (P2.pl rfl ?_)
    refine P2.l y_Logic (P2.pl rfl ?_)
    refine P2.l y_DoubleWords (P2.pl rfl ?_)
    refine P2.l y_Checks (P2.pl rfl ?_)
    refine P2.l y_Moves (P2.pl rfl ?_)
    refine P2.l y_Scheduling (P2.pl rfl ?_)
    refine P2.l x1 (P2.nl n10 ?_)
    rw [x2]
    exact P2.ret ⟨Or.inr rfl, rfl, x5⟩
  rcases g_Alternatives h hn hp op with ⟨a, b, x1, x2, x3, x4, x5⟩ | ⟨y_Alternatives, e46, e47, e48, e67, e68, e69, e71, e72, e73, e78, e81⟩
  · obtain ⟨a1, a2⟩ := a
    obtain ⟨b1, b2⟩ := b
    have x3 : a1 = 1 := x3
    have x4 : b1 = 1 := x4
    have x5 : REL E0 (LX (D + 1) N) N a2 b2 := x5
    subst x3; subst x4
    refine P2.l y_Arithmetic (P2.pl rfl ?_)
    refine P2.l y_Logic (P2.pl rfl ?_)
    refine P2.l y_DoubleWords (P2.pl rfl ?_)
    refine P2.l y_Checks (P2.pl rfl ?_)
    refine P2.l y_Moves (P2.pl rfl ?_)
    refine P2.l y_Scheduling (P2.pl rfl ?_)
    refine P2.l y_Channels (P2.pl rfl ?_)
    refine P2.l x1 (P2.nl n10 ?_)
    rw [x2]
    exact P2.ret ⟨Or.inr rfl, rfl, x5⟩
  refine P2.l y_Arithmetic (P2.pl rfl ?_)
  refine P2.l y_Logic (P2.pl rfl ?_)
  refine P2.l y_DoubleWords (P2.pl rfl ?_)
  refine P2.l y_Checks (P2.pl rfl ?_)
  refine P2.l y_Moves (P2.pl rfl ?_)
  refine P2.l y_Scheduling (P2.pl rfl ?_)
  refine P2.l y_Channels (P2.pl rfl ?_)
  refine P2.l y_Alternatives (P2.pl rfl ?_)
  rw [r_none R h8 op e0 e1 e2 e3 e4 e5 e6 e7 e8 e9 e10 e11 e12 e13 e14 e15 e16 e18 e19 e21 e22 e23 e24 e25 e26 e27 e28 e29 e30 e31 e32 e33 e34 e41 e43 e44 e46 e47 e48 e49 e50 e51 e52 e53 e54 e55 e56 e57 e58 e59 e60 e61 e62 e63 e64 e65 e66 e67 e68 e69 e70 e71 e72 e73 e74 e75 e76 e77 e78 e79 e80 e81 e82 e83 e84 e85 e86 e87 e88 e89 e90 e116 e117 e118 e119 e120]
  exact P2.ret ⟨Or.inl rfl, rfl, h.mono_D (Nat.le_succ D)⟩
