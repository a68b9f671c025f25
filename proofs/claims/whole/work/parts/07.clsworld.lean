def cDom (N n j : Nat) : Prop := (n < N ∧ j < 22) ∨ (n = 8 ∧ (j = 0 ∨ j = 2 ∨ j = 3 ∨ j = 4 ∨ j = 5 ∨ j = 16)) ∨ (n = 9 ∧ j < 2)
def fsX0 (ad : Nat → Nat → Nat) (n j : Nat) (i : Nat → Int32) (e : Option (Nat × Nat)) : List Value := [.ref (ad n 1), .ref (ad n 4), .ref (ad n 2), .ref (ad n 11)]
def fsX1 (ad : Nat → Nat → Nat) (n j : Nat) (i : Nat → Int32) (e : Option (Nat × Nat)) : List Value := [.ref (ad n 2), .ref (ad n 4), .ref (ad n 5), .ref (ad n 6), .ref (ad n 7), .ref (ad n 8), .int (i 6), .int (i 7), .int (i 8), .int (i 9), .int (i 10)]
def fsX2 (ad : Nat → Nat → Nat) (n j : Nat) (i : Nat → Int32) (e : Option (Nat × Nat)) : List Value := [xRv ad e, .int (i 1), .int (i 2), .int (i 3), .int (i 4), .int (i 5), .int (i 6), .int (i 7), .int (i 8), .int (i 9)]
def fsX3 (ad : Nat → Nat → Nat) (n j : Nat) (i : Nat → Int32) (e : Option (Nat × Nat)) : List Value := [.ref (ad 8 16), .ref (ad 8 2), .int (i 2), .int (i 3), .ref (ad 8 4), .int (i 5)]
def fsX4 (ad : Nat → Nat → Nat) (n j : Nat) (i : Nat → Int32) (e : Option (Nat × Nat)) : List Value := [.ref (ad n 1), .ref (ad n (j + 4)), .int (i 2), .int (i 3), .int (i 4), .int (i 5), .int (i 6), .int (i 7), .int (i 8), .int (i 9), .int (i 10), .int (i 11)]
def fsX5 (ad : Nat → Nat → Nat) (n j : Nat) (i : Nat → Int32) (e : Option (Nat × Nat)) : List Value := [.ref (ad n (j + 1)), .int (i 1)]
def fsX6 (ad : Nat → Nat → Nat) (n j : Nat) (i : Nat → Int32) (e : Option (Nat × Nat)) : List Value := [.ref (ad n 1), .ref (ad n 11), .ref (ad n 20), .int (i 3), .int (i 4), .int (i 5), .int (i 6), .int (i 7), .int (i 8)]
def fsX7 (ad : Nat → Nat → Nat) (n j : Nat) (i : Nat → Int32) (e : Option (Nat × Nat)) : List Value := [.ref (ad n 1), .ref (ad n 4), .ref (ad n 2), .ref (ad n 21)]
def fsX8 (ad : Nat → Nat → Nat) (n j : Nat) (i : Nat → Int32) (e : Option (Nat × Nat)) : List Value := [.int (i 0), .int (i 1)]
def fsX9 (ad : Nat → Nat → Nat) (n j : Nat) (i : Nat → Int32) (e : Option (Nat × Nat)) : List Value := [.int (i 0), .int (i 1), .int (i 2), .int (i 3), .int (i 4), .int (i 5), .int (i 6), .int (i 7)]
def fsX10 (ad : Nat → Nat → Nat) (n j : Nat) (i : Nat → Int32) (e : Option (Nat × Nat)) : List Value := [.ref (ad n 9), .ref (ad n 10), .int (i 2), .int (i 3), .int (i 4)]
def fsX11 (ad : Nat → Nat → Nat) (n j : Nat) (i : Nat → Int32) (e : Option (Nat × Nat)) : List Value := [.ref (ad 9 1), .ref (ad 8 0), .int (i 2)]
def cDn (ad : Nat → Nat → Nat) (cI cJ cL : ClassId) (i : Nat → Int32) (q : Nat → Int64) (e : Option (Nat × Nat)) (n j : Nat) : va_E := match j with
  | 0 => .inr (6, fsX6 ad n 0 i e)
  | 1 => .inr (1, fsX1 ad n 1 i e)
  | 2 => .inr (5, fsX5 ad n 2 i e)
  | 3 => .inl (cJ, 512, .inr (.inl q))
  | 4 => .inr (9, fsX9 ad n 4 i e)
  | 5 => .inr (9, fsX9 ad n 5 i e)
  | 6 => .inr (8, fsX8 ad n 6 i e)
  | 7 => .inr (8, fsX8 ad n 7 i e)
  | 8 => .inr (10, fsX10 ad n 8 i e)
  | 9 => .inl (cI, 64, .inl i)
  | 10 => .inl (cI, 64, .inl i)
  | 11 => .inl (cL, 4, .inr (.inr (.inr (.inr (fun k => some (ad n (12 + k)))))))
  | 12 => .inr (4, fsX4 ad n 12 i e)
  | 13 => .inr (4, fsX4 ad n 13 i e)
  | 14 => .inr (4, fsX4 ad n 14 i e)
  | 15 => .inr (4, fsX4 ad n 15 i e)
  | 16 => .inr (2, fsX2 ad n 16 i e)
  | 17 => .inr (2, fsX2 ad n 17 i e)
  | 18 => .inr (2, fsX2 ad n 18 i e)
  | 19 => .inr (2, fsX2 ad n 19 i e)
  | 20 => .inr (7, fsX7 ad n 20 i e)
  | _ => .inr (0, fsX0 ad n 21 i e)
def cDh (ad : Nat → Nat → Nat) (cJ : ClassId) (i : Nat → Int32) (q : Nat → Int64) (e : Option (Nat × Nat)) (j : Nat) : va_E := match j with
  | 0 => .inr (3, fsX3 ad 8 0 i e)
  | 2 => .inr (5, fsX5 ad 8 2 i e)
  | 3 => .inl (cJ, 512, .inr (.inl q))
  | 4 => .inr (5, fsX5 ad 8 4 i e)
  | 5 => .inl (cJ, 512, .inr (.inl q))
  | _ => .inr (2, fsX2 ad 8 16 i e)
def cDe (ad : Nat → Nat → Nat) (N : Nat) (cI cJ cL cN : ClassId) : xDe := fun i q e n j => if n = 9 then (if j = 0 then .inr (11, fsX11 ad 9 0 i e) else .inl (cN, N, .inr (.inr (.inr (.inr (fun k => some (ad k 0))))))) else if n = 8 then cDh ad cJ i q e j else cDn ad cI cJ cL i q e n j
abbrev cTy (cI cJ cL cN : ClassId) : List (ClassId × FieldType) := [(cI, .int), (cJ, .long), (cL, .object "TransputerNet$Link"), (cN, .object "TransputerNet$Node")]
def cNf : List xNf := [("TransputerNet$Core", 110, "TransputerNet$Memory", "wentBeyond", "Z", "TransputerNet"), ("TransputerNet$Channels", 33, "TransputerNet$Registers", "a", "I", "TransputerNet"), ("TransputerNet$Processor", 92, "TransputerNet$Registers", "a", "I", "TransputerNet"), ("TransputerNet$Core", 140, "TransputerNet$Registers", "a", "I", "TransputerNet"), ("TransputerNet$Channels", 39, "TransputerNet$Registers", "b", "I", "TransputerNet"), ("TransputerNet$Processor", 120, "TransputerNet$Registers", "b", "I", "TransputerNet"), ("TransputerNet$Core", 143, "TransputerNet$Registers", "b", "I", "TransputerNet"), ("TransputerNet$Channels", 42, "TransputerNet$Registers", "c", "I", "TransputerNet"), ("TransputerNet$Processor", 129, "TransputerNet$Registers", "c", "I", "TransputerNet"), ("TransputerNet$Core", 146, "TransputerNet$Registers", "c", "I", "TransputerNet"), ("TransputerNet$Processor", 60, "TransputerNet$Registers", "o", "I", "TransputerNet"), ("TransputerNet$Core", 149, "TransputerNet$Registers", "o", "I", "TransputerNet"), ("TransputerNet$Processor", 35, "TransputerNet$Registers", "i", "I", "TransputerNet"), ("TransputerNet$Core", 74, "TransputerNet$Registers", "i", "I", "TransputerNet"), ("TransputerNet$Core", 49, "TransputerNet$Registers", "w", "I", "TransputerNet"), ("TransputerNet$Processor", 85, "TransputerNet$Registers", "w", "I", "TransputerNet"), ("TransputerNet$Core", 45, "TransputerNet$Registers", "priority", "I", "TransputerNet"), ("TransputerNet$Processor", 54, "TransputerNet$Registers", "priority", "I", "TransputerNet"), ("TransputerNet$Processor", 57, "TransputerNet$Registers", "slice", "I", "TransputerNet"), ("TransputerNet$Core", 77, "TransputerNet$Registers", "slice", "I", "TransputerNet"), ("TransputerNet$Core", 68, "TransputerNet$Queue", "front", "I", "TransputerNet"), ("TransputerNet$Processor", 249, "TransputerNet$Queue", "front", "I", "TransputerNet"), ("TransputerNet$Core", 71, "TransputerNet$Queue", "back", "I", "TransputerNet"), ("TransputerNet$Processor", 241, "TransputerNet$Queue", "back", "I", "TransputerNet"), ("TransputerNet$Core", 155, "TransputerNet$Timers", "count", "I", "TransputerNet"), ("TransputerNet$Channels", 22, "TransputerNet$Core", "memory", "LTransputerNet$Memory;", "TransputerNet"), ("TransputerNet$Processor", 22, "TransputerNet$Core", "memory", "LTransputerNet$Memory;", "TransputerNet"), ("TransputerNet$Link", 45, "TransputerNet$Core", "memory", "LTransputerNet$Memory;", "TransputerNet"), ("TransputerNet", 73, "TransputerNet$Core", "memory", "LTransputerNet$Memory;", "TransputerNet"), ("TransputerNet$Node", 112, "TransputerNet$Core", "memory", "LTransputerNet$Memory;", "TransputerNet"), ("TransputerNet$Channels", 15, "TransputerNet$Core", "now", "LTransputerNet$Registers;", "TransputerNet"), ("TransputerNet$Processor", 15, "TransputerNet$Core", "now", "LTransputerNet$Registers;", "TransputerNet"), ("TransputerNet$Node", 34, "TransputerNet$Core", "now", "LTransputerNet$Registers;", "TransputerNet"), ("TransputerNet$Processor", 246, "TransputerNet$Core", "high", "LTransputerNet$Queue;", "TransputerNet"), ("TransputerNet$Processor", 236, "TransputerNet$Core", "low", "LTransputerNet$Queue;", "TransputerNet"), ("TransputerNet$Processor", 218, "TransputerNet$Core", "timers", "LTransputerNet$Timers;", "TransputerNet"), ("TransputerNet$Processor", 31, "TransputerNet$Core", "error", "Z", "TransputerNet"), ("TransputerNet$Processor", 79, "TransputerNet$Core", "halt", "Z", "TransputerNet"), ("TransputerNet$Node", 59, "TransputerNet$Core", "outcome", "I", "TransputerNet"), ("TransputerNet$Node", 56, "TransputerNet$Core", "busy", "I", "TransputerNet"), ("TransputerNet$Processor", 51, "TransputerNet$Core", "executed", "I", "TransputerNet"), ("TransputerNet$Link", 120, "TransputerNet$End", "otherNode", "I", "TransputerNet"), ("TransputerNet$Link", 114, "TransputerNet$End", "bitsPut", "I", "TransputerNet"), ("TransputerNet$Node", 88, "TransputerNet$End", "owed", "I", "TransputerNet"), ("TransputerNet$Host", 68, "TransputerNet$End", "owed", "I", "TransputerNet"), ("TransputerNet$Link", 104, "TransputerNet$End", "owed", "I", "TransputerNet"), ("TransputerNet$Link", 110, "TransputerNet$End", "waitsForAcknowledgement", "Z", "TransputerNet"), ("TransputerNet$Link", 117, "TransputerNet$End", "bitsRead", "I", "TransputerNet"), ("TransputerNet$Node", 84, "TransputerNet$Link", "end", "LTransputerNet$End;", "TransputerNet"), ("TransputerNet", 175, "TransputerNet$Link", "end", "LTransputerNet$End;", "TransputerNet"), ("TransputerNet$Channels", 117, "TransputerNet$Link", "sender", "I", "TransputerNet"), ("TransputerNet$Node", 100, "TransputerNet$Link", "toSend", "I", "TransputerNet"), ("TransputerNet$Channels", 100, "TransputerNet$Link", "receiver", "I", "TransputerNet"), ("TransputerNet$Node", 79, "TransputerNet$Link", "kept", "I", "TransputerNet"), ("TransputerNet$Channels", 108, "TransputerNet$Link", "kept", "I", "TransputerNet"), ("TransputerNet$Channels", 138, "TransputerNet$Link", "guard", "I", "TransputerNet"), ("TransputerNet", 69, "TransputerNet$Node", "core", "LTransputerNet$Core;", "TransputerNet"), ("TransputerNet", 171, "TransputerNet$Node", "links", "[LTransputerNet$Link;", "TransputerNet"), ("TransputerNet", 111, "TransputerNet$Node", "processor", "LTransputerNet$Processor;", "TransputerNet"), ("TransputerNet", 124, "TransputerNet$Node", "boots", "Z", "TransputerNet"), ("TransputerNet", 39, "TransputerNet$Host", "end", "LTransputerNet$End;", "TransputerNet")]
def cNm : List xNm := [("TransputerNet", 146, ⟨"TransputerNet$Core", "<init>", "()V"⟩, "TransputerNet"), ("TransputerNet$Core", 11, ⟨"TransputerNet$Memory", "<init>", "()V"⟩, "TransputerNet"), ("TransputerNet$Core", 20, ⟨"TransputerNet$Registers", "<init>", "()V"⟩, "TransputerNet"), ("TransputerNet$Core", 30, ⟨"TransputerNet$Queue", "<init>", "()V"⟩, "TransputerNet"), ("TransputerNet$Core", 40, ⟨"TransputerNet$Timers", "<init>", "()V"⟩, "TransputerNet"), ("TransputerNet$Link", 11, ⟨"TransputerNet$End", "<init>", "()V"⟩, "TransputerNet"), ("TransputerNet", 30, ⟨"TransputerNet$Host", "<init>", "()V"⟩, "TransputerNet"), ("TransputerNet$Host", 11, ⟨"TransputerNet$End", "<init>", "()V"⟩, "TransputerNet"), ("TransputerNet$Host", 20, ⟨"TransputerNet$Memory", "<init>", "()V"⟩, "TransputerNet"), ("TransputerNet$Timers", 37, ⟨"TransputerNet", "isLater", "(II)Z"⟩, "TransputerNet"), ("TransputerNet$Processor", 101, ⟨"TransputerNet", "signed", "(I)I"⟩, "TransputerNet"), ("TransputerNet$Channels", 146, ⟨"TransputerNet", "isLater", "(II)Z"⟩, "TransputerNet")]
abbrev isX5 (N n j : Nat) : Prop := (n < N ∧ j = 2) ∨ (n = 8 ∧ (j = 2 ∨ j = 4))
abbrev isX9 (N n j : Nat) : Prop := n < N ∧ (j = 4 ∨ j = 5)
abbrev isX8 (N n j : Nat) : Prop := n < N ∧ (j = 6 ∨ j = 7)
abbrev isX4 (N n j : Nat) : Prop := n < N ∧ 12 ≤ j ∧ j < 16
abbrev isX2 (N n j : Nat) : Prop := (n < N ∧ 16 ≤ j ∧ j < 20) ∨ (n = 8 ∧ j = 16)
theorem cd_dX6 {N n : Nat} (hn : n < N) : cDom N n 0 := Or.inl ⟨hn, by omega⟩
theorem cd_eX6 {ad : Nat → Nat → Nat} {N : Nat} {cI cJ cL cN : ClassId} {n : Nat} (hN : N ≤ 8) (hn : n < N) (i : Nat → Int32) (q : Nat → Int64) (e : Option (Nat × Nat)) : cDe ad N cI cJ cL cN i q e n 0 = .inr (6, fsX6 ad n 0 i e) := by
  unfold cDe; rw [if_neg (by omega), if_neg (by omega)]; rfl
theorem cd_dX1 {N n : Nat} (hn : n < N) : cDom N n 1 := Or.inl ⟨hn, by omega⟩
theorem cd_eX1 {ad : Nat → Nat → Nat} {N : Nat} {cI cJ cL cN : ClassId} {n : Nat} (hN : N ≤ 8) (hn : n < N) (i : Nat → Int32) (q : Nat → Int64) (e : Option (Nat × Nat)) : cDe ad N cI cJ cL cN i q e n 1 = .inr (1, fsX1 ad n 1 i e) := by
  unfold cDe; rw [if_neg (by omega), if_neg (by omega)]; rfl
theorem cd_dX10 {N n : Nat} (hn : n < N) : cDom N n 8 := Or.inl ⟨hn, by omega⟩
theorem cd_eX10 {ad : Nat → Nat → Nat} {N : Nat} {cI cJ cL cN : ClassId} {n : Nat} (hN : N ≤ 8) (hn : n < N) (i : Nat → Int32) (q : Nat → Int64) (e : Option (Nat × Nat)) : cDe ad N cI cJ cL cN i q e n 8 = .inr (10, fsX10 ad n 8 i e) := by
  unfold cDe; rw [if_neg (by omega), if_neg (by omega)]; rfl
theorem cd_dX7 {N n : Nat} (hn : n < N) : cDom N n 20 := Or.inl ⟨hn, by omega⟩
theorem cd_eX7 {ad : Nat → Nat → Nat} {N : Nat} {cI cJ cL cN : ClassId} {n : Nat} (hN : N ≤ 8) (hn : n < N) (i : Nat → Int32) (q : Nat → Int64) (e : Option (Nat × Nat)) : cDe ad N cI cJ cL cN i q e n 20 = .inr (7, fsX7 ad n 20 i e) := by
  unfold cDe; rw [if_neg (by omega), if_neg (by omega)]; rfl
theorem cd_dX0 {N n : Nat} (hn : n < N) : cDom N n 21 := Or.inl ⟨hn, by omega⟩
theorem cd_eX0 {ad : Nat → Nat → Nat} {N : Nat} {cI cJ cL cN : ClassId} {n : Nat} (hN : N ≤ 8) (hn : n < N) (i : Nat → Int32) (q : Nat → Int64) (e : Option (Nat × Nat)) : cDe ad N cI cJ cL cN i q e n 21 = .inr (0, fsX0 ad n 21 i e) := by
  unfold cDe; rw [if_neg (by omega), if_neg (by omega)]; rfl
theorem cd_dX3 {N : Nat} : cDom N 8 0 := Or.inr (Or.inl ⟨rfl, Or.inl rfl⟩)
theorem cd_eX3 {ad : Nat → Nat → Nat} {N : Nat} {cI cJ cL cN : ClassId} (i : Nat → Int32) (q : Nat → Int64) (e : Option (Nat × Nat)) : cDe ad N cI cJ cL cN i q e 8 0 = .inr (3, fsX3 ad 8 0 i e) := rfl
theorem cd_dX11 {N : Nat} : cDom N 9 0 := Or.inr (Or.inr ⟨rfl, by omega⟩)
theorem cd_eX11 {ad : Nat → Nat → Nat} {N : Nat} {cI cJ cL cN : ClassId} (i : Nat → Int32) (q : Nat → Int64) (e : Option (Nat × Nat)) : cDe ad N cI cJ cL cN i q e 9 0 = .inr (11, fsX11 ad 9 0 i e) := rfl
theorem cd_dAN {N : Nat} : cDom N 9 1 := Or.inr (Or.inr ⟨rfl, by omega⟩)
theorem cd_eAN {ad : Nat → Nat → Nat} {N : Nat} {cI cJ cL cN : ClassId} (i : Nat → Int32) (q : Nat → Int64) (e : Option (Nat × Nat)) : cDe ad N cI cJ cL cN i q e 9 1 = .inl (cN, N, .inr (.inr (.inr (.inr (fun k => some (ad k 0)))))) := rfl
theorem cd_dAL {N n : Nat} (hn : n < N) : cDom N n 11 := Or.inl ⟨hn, by omega⟩
theorem cd_eAL {ad : Nat → Nat → Nat} {N : Nat} {cI cJ cL cN : ClassId} {n : Nat} (hN : N ≤ 8) (hn : n < N) (i : Nat → Int32) (q : Nat → Int64) (e : Option (Nat × Nat)) : cDe ad N cI cJ cL cN i q e n 11 = .inl (cL, 4, .inr (.inr (.inr (.inr (fun k => some (ad n (12 + k))))))) := by
  unfold cDe; rw [if_neg (by omega), if_neg (by omega)]; rfl
theorem cd_dA9 {N n : Nat} (hn : n < N) : cDom N n 9 := Or.inl ⟨hn, by omega⟩
theorem cd_eA9 {ad : Nat → Nat → Nat} {N : Nat} {cI cJ cL cN : ClassId} {n : Nat} (hN : N ≤ 8) (hn : n < N) (i : Nat → Int32) (q : Nat → Int64) (e : Option (Nat × Nat)) : cDe ad N cI cJ cL cN i q e n 9 = .inl (cI, 64, .inl i) := by
  unfold cDe; rw [if_neg (by omega), if_neg (by omega)]; rfl
theorem cd_dA10 {N n : Nat} (hn : n < N) : cDom N n 10 := Or.inl ⟨hn, by omega⟩
theorem cd_eA10 {ad : Nat → Nat → Nat} {N : Nat} {cI cJ cL cN : ClassId} {n : Nat} (hN : N ≤ 8) (hn : n < N) (i : Nat → Int32) (q : Nat → Int64) (e : Option (Nat × Nat)) : cDe ad N cI cJ cL cN i q e n 10 = .inl (cI, 64, .inl i) := by
  unfold cDe; rw [if_neg (by omega), if_neg (by omega)]; rfl
theorem cd_dX5 {N n j : Nat} (h : isX5 N n j) : cDom N n j := by unfold cDom; omega
theorem cd_dX9 {N n j : Nat} (h : isX9 N n j) : cDom N n j := by unfold cDom; omega
theorem cd_dX8 {N n j : Nat} (h : isX8 N n j) : cDom N n j := by unfold cDom; omega
theorem cd_dX4 {N n j : Nat} (h : isX4 N n j) : cDom N n j := by unfold cDom; omega
theorem cd_dX2 {N n j : Nat} (h : isX2 N n j) : cDom N n j := by unfold cDom; omega
theorem cd_eX5 {ad : Nat → Nat → Nat} {N : Nat} {cI cJ cL cN : ClassId} {n j : Nat} (hN : N ≤ 8) (h : isX5 N n j) (i : Nat → Int32) (q : Nat → Int64) (e : Option (Nat × Nat)) : cDe ad N cI cJ cL cN i q e n j = .inr (5, fsX5 ad n j i e) := by
  rcases h with ⟨h, rfl⟩ | ⟨rfl, rfl | rfl⟩
  · unfold cDe; rw [if_neg (by omega), if_neg (by omega)]; rfl
  · rfl
  · rfl
theorem cd_dAJ {N n j : Nat} (h : isX5 N n j) : cDom N n (j + 1) := by unfold cDom; omega
theorem cd_eAJ {ad : Nat → Nat → Nat} {N : Nat} {cI cJ cL cN : ClassId} {n j : Nat} (hN : N ≤ 8) (h : isX5 N n j) (i : Nat → Int32) (q : Nat → Int64) (e : Option (Nat × Nat)) : cDe ad N cI cJ cL cN i q e n (j + 1) = .inl (cJ, 512, .inr (.inl q)) := by
  rcases h with ⟨h, rfl⟩ | ⟨rfl, rfl | rfl⟩
  · unfold cDe; rw [if_neg (by omega), if_neg (by omega)]; rfl
  · rfl
  · rfl
theorem cd_eX9 {ad : Nat → Nat → Nat} {N : Nat} {cI cJ cL cN : ClassId} {n j : Nat} (hN : N ≤ 8) (h : isX9 N n j) (i : Nat → Int32) (q : Nat → Int64) (e : Option (Nat × Nat)) : cDe ad N cI cJ cL cN i q e n j = .inr (9, fsX9 ad n j i e) := by
  rcases h with ⟨h, rfl | rfl⟩
  · unfold cDe; rw [if_neg (by omega), if_neg (by omega)]; rfl
  · unfold cDe; rw [if_neg (by omega), if_neg (by omega)]; rfl
theorem cd_eX8 {ad : Nat → Nat → Nat} {N : Nat} {cI cJ cL cN : ClassId} {n j : Nat} (hN : N ≤ 8) (h : isX8 N n j) (i : Nat → Int32) (q : Nat → Int64) (e : Option (Nat × Nat)) : cDe ad N cI cJ cL cN i q e n j = .inr (8, fsX8 ad n j i e) := by
  rcases h with ⟨h, rfl | rfl⟩
  · unfold cDe; rw [if_neg (by omega), if_neg (by omega)]; rfl
  · unfold cDe; rw [if_neg (by omega), if_neg (by omega)]; rfl
theorem cd_eX4 {ad : Nat → Nat → Nat} {N : Nat} {cI cJ cL cN : ClassId} {n j : Nat} (hN : N ≤ 8) (h : isX4 N n j) (i : Nat → Int32) (q : Nat → Int64) (e : Option (Nat × Nat)) : cDe ad N cI cJ cL cN i q e n j = .inr (4, fsX4 ad n j i e) := by
  obtain ⟨h, h1, h2⟩ := h
  rcases (show j = 12 ∨ j = 13 ∨ j = 14 ∨ j = 15 by omega) with rfl | rfl | rfl | rfl <;> (unfold cDe; rw [if_neg (by omega), if_neg (by omega)]; rfl)
theorem cd_eX2 {ad : Nat → Nat → Nat} {N : Nat} {cI cJ cL cN : ClassId} {n j : Nat} (hN : N ≤ 8) (h : isX2 N n j) (i : Nat → Int32) (q : Nat → Int64) (e : Option (Nat × Nat)) : cDe ad N cI cJ cL cN i q e n j = .inr (2, fsX2 ad n j i e) := by
  rcases h with ⟨h, h1, h2⟩ | ⟨rfl, rfl⟩
  · rcases (show j = 16 ∨ j = 17 ∨ j = 18 ∨ j = 19 by omega) with rfl | rfl | rfl | rfl <;> (unfold cDe; rw [if_neg (by omega), if_neg (by omega)]; rfl)
  · rfl
theorem is5n {N n : Nat} (hn : n < N) : isX5 N n 2 := Or.inl ⟨hn, rfl⟩
theorem is4k {N n k : Nat} (hn : n < N) (hk : k < 4) : isX4 N n (12 + k) := ⟨hn, by omega, by omega⟩
theorem is2l {N n j : Nat} (h : isX4 N n j) : isX2 N n (j + 4) := Or.inl ⟨h.1, by omega, by omega⟩
theorem kn_14 : ("TransputerNet$Core", 49, (TX9 5).1, (TX9 5).2.1, (TX9 5).2.2.1, "TransputerNet") ∈ cNf := List.mem_of_getElem? (i := 14) rfl
theorem kn_16 : ("TransputerNet$Core", 45, (TX9 6).1, (TX9 6).2.1, (TX9 6).2.2.1, "TransputerNet") ∈ cNf := List.mem_of_getElem? (i := 16) rfl
theorem kn_27 : ("TransputerNet$Link", 45, (TX1 0).1, (TX1 0).2.1, (TX1 0).2.2.1, "TransputerNet") ∈ cNf := List.mem_of_getElem? (i := 27) rfl
theorem kn_45 : ("TransputerNet$Link", 104, (TX2 6).1, (TX2 6).2.1, (TX2 6).2.2.1, "TransputerNet") ∈ cNf := List.mem_of_getElem? (i := 45) rfl
theorem kn_13 : ("TransputerNet$Core", 74, (TX9 4).1, (TX9 4).2.1, (TX9 4).2.2.1, "TransputerNet") ∈ cNf := List.mem_of_getElem? (i := 13) rfl
theorem kn_52 : ("TransputerNet$Channels", 100, (TX4 7).1, (TX4 7).2.1, (TX4 7).2.2.1, "TransputerNet") ∈ cNf := List.mem_of_getElem? (i := 52) rfl
theorem kn_54 : ("TransputerNet$Channels", 108, (TX4 10).1, (TX4 10).2.1, (TX4 10).2.2.1, "TransputerNet") ∈ cNf := List.mem_of_getElem? (i := 54) rfl
theorem kn_22 : ("TransputerNet$Core", 71, (TX8 1).1, (TX8 1).2.1, (TX8 1).2.2.1, "TransputerNet") ∈ cNf := List.mem_of_getElem? (i := 22) rfl
theorem kn_20 : ("TransputerNet$Core", 68, (TX8 0).1, (TX8 0).2.1, (TX8 0).2.2.1, "TransputerNet") ∈ cNf := List.mem_of_getElem? (i := 20) rfl
theorem kn_1 : ("TransputerNet$Channels", 33, (TX9 0).1, (TX9 0).2.1, (TX9 0).2.2.1, "TransputerNet") ∈ cNf := List.mem_of_getElem? (i := 1) rfl
theorem kn_4 : ("TransputerNet$Channels", 39, (TX9 1).1, (TX9 1).2.1, (TX9 1).2.2.1, "TransputerNet") ∈ cNf := List.mem_of_getElem? (i := 4) rfl
theorem kn_7 : ("TransputerNet$Channels", 42, (TX9 2).1, (TX9 2).2.1, (TX9 2).2.2.1, "TransputerNet") ∈ cNf := List.mem_of_getElem? (i := 7) rfl
theorem kn_50 : ("TransputerNet$Channels", 117, (TX4 2).1, (TX4 2).2.1, (TX4 2).2.2.1, "TransputerNet") ∈ cNf := List.mem_of_getElem? (i := 50) rfl
theorem kn_46 : ("TransputerNet$Link", 110, (TX2 7).1, (TX2 7).2.1, (TX2 7).2.2.1, "TransputerNet") ∈ cNf := List.mem_of_getElem? (i := 46) rfl
theorem kn_55 : ("TransputerNet$Channels", 138, (TX4 11).1, (TX4 11).2.1, (TX4 11).2.2.1, "TransputerNet") ∈ cNf := List.mem_of_getElem? (i := 55) rfl
theorem km_11 : ("TransputerNet$Channels", 146, yX11_isLater, "TransputerNet") ∈ cNm := List.mem_of_getElem? (i := 11) rfl
theorem kn_19 : ("TransputerNet$Core", 77, (TX9 7).1, (TX9 7).2.1, (TX9 7).2.2.1, "TransputerNet") ∈ cNf := List.mem_of_getElem? (i := 19) rfl
theorem kn_0 : ("TransputerNet$Core", 110, (TX5 1).1, (TX5 1).2.1, (TX5 1).2.2.1, "TransputerNet") ∈ cNf := List.mem_of_getElem? (i := 0) rfl
theorem km_9 : ("TransputerNet$Timers", 37, yX11_isLater, "TransputerNet") ∈ cNm := List.mem_of_getElem? (i := 9) rfl
theorem kn_3 : ("TransputerNet$Core", 140, (TX9 0).1, (TX9 0).2.1, (TX9 0).2.2.1, "TransputerNet") ∈ cNf := List.mem_of_getElem? (i := 3) rfl
theorem kn_6 : ("TransputerNet$Core", 143, (TX9 1).1, (TX9 1).2.1, (TX9 1).2.2.1, "TransputerNet") ∈ cNf := List.mem_of_getElem? (i := 6) rfl
theorem kn_9 : ("TransputerNet$Core", 146, (TX9 2).1, (TX9 2).2.1, (TX9 2).2.2.1, "TransputerNet") ∈ cNf := List.mem_of_getElem? (i := 9) rfl
theorem kn_11 : ("TransputerNet$Core", 149, (TX9 3).1, (TX9 3).2.1, (TX9 3).2.2.1, "TransputerNet") ∈ cNf := List.mem_of_getElem? (i := 11) rfl
theorem kn_24 : ("TransputerNet$Core", 155, (TX10 2).1, (TX10 2).2.1, (TX10 2).2.2.1, "TransputerNet") ∈ cNf := List.mem_of_getElem? (i := 24) rfl
theorem kn_44 : ("TransputerNet$Host", 68, (TX2 6).1, (TX2 6).2.1, (TX2 6).2.2.1, "TransputerNet") ∈ cNf := List.mem_of_getElem? (i := 44) rfl
theorem kn_42 : ("TransputerNet$Link", 114, (TX2 4).1, (TX2 4).2.1, (TX2 4).2.2.1, "TransputerNet") ∈ cNf := List.mem_of_getElem? (i := 42) rfl
theorem kn_47 : ("TransputerNet$Link", 117, (TX2 8).1, (TX2 8).2.1, (TX2 8).2.2.1, "TransputerNet") ∈ cNf := List.mem_of_getElem? (i := 47) rfl
theorem kn_41 : ("TransputerNet$Link", 120, (TX2 1).1, (TX2 1).2.1, (TX2 1).2.2.1, "TransputerNet") ∈ cNf := List.mem_of_getElem? (i := 41) rfl
theorem kn_32 : ("TransputerNet$Node", 34, (TX1 1).1, (TX1 1).2.1, (TX1 1).2.2.1, "TransputerNet") ∈ cNf := List.mem_of_getElem? (i := 32) rfl
theorem kn_39 : ("TransputerNet$Node", 56, (TX1 9).1, (TX1 9).2.1, (TX1 9).2.2.1, "TransputerNet") ∈ cNf := List.mem_of_getElem? (i := 39) rfl
theorem kn_38 : ("TransputerNet$Node", 59, (TX1 8).1, (TX1 8).2.1, (TX1 8).2.2.1, "TransputerNet") ∈ cNf := List.mem_of_getElem? (i := 38) rfl
theorem kn_51 : ("TransputerNet$Node", 100, (TX4 3).1, (TX4 3).2.1, (TX4 3).2.2.1, "TransputerNet") ∈ cNf := List.mem_of_getElem? (i := 51) rfl
theorem kn_53 : ("TransputerNet$Node", 79, (TX4 10).1, (TX4 10).2.1, (TX4 10).2.2.1, "TransputerNet") ∈ cNf := List.mem_of_getElem? (i := 53) rfl
theorem kn_29 : ("TransputerNet$Node", 112, (TX1 0).1, (TX1 0).2.1, (TX1 0).2.2.1, "TransputerNet") ∈ cNf := List.mem_of_getElem? (i := 29) rfl
theorem kn_48 : ("TransputerNet$Node", 84, (TX4 1).1, (TX4 1).2.1, (TX4 1).2.2.1, "TransputerNet") ∈ cNf := List.mem_of_getElem? (i := 48) rfl
theorem kn_43 : ("TransputerNet$Node", 88, (TX2 6).1, (TX2 6).2.1, (TX2 6).2.2.1, "TransputerNet") ∈ cNf := List.mem_of_getElem? (i := 43) rfl
theorem kn_10 : ("TransputerNet$Processor", 60, (TX9 3).1, (TX9 3).2.1, (TX9 3).2.2.1, "TransputerNet") ∈ cNf := List.mem_of_getElem? (i := 10) rfl
theorem kn_15 : ("TransputerNet$Processor", 85, (TX9 5).1, (TX9 5).2.1, (TX9 5).2.2.1, "TransputerNet") ∈ cNf := List.mem_of_getElem? (i := 15) rfl
theorem kn_2 : ("TransputerNet$Processor", 92, (TX9 0).1, (TX9 0).2.1, (TX9 0).2.2.1, "TransputerNet") ∈ cNf := List.mem_of_getElem? (i := 2) rfl
theorem km_10 : ("TransputerNet$Processor", 101, yX11_signed, "TransputerNet") ∈ cNm := List.mem_of_getElem? (i := 10) rfl
theorem kn_36 : ("TransputerNet$Processor", 31, (TX1 6).1, (TX1 6).2.1, (TX1 6).2.2.1, "TransputerNet") ∈ cNf := List.mem_of_getElem? (i := 36) rfl
theorem kn_12 : ("TransputerNet$Processor", 35, (TX9 4).1, (TX9 4).2.1, (TX9 4).2.2.1, "TransputerNet") ∈ cNf := List.mem_of_getElem? (i := 12) rfl
theorem kn_5 : ("TransputerNet$Processor", 120, (TX9 1).1, (TX9 1).2.1, (TX9 1).2.2.1, "TransputerNet") ∈ cNf := List.mem_of_getElem? (i := 5) rfl
theorem kn_8 : ("TransputerNet$Processor", 129, (TX9 2).1, (TX9 2).2.1, (TX9 2).2.2.1, "TransputerNet") ∈ cNf := List.mem_of_getElem? (i := 8) rfl
theorem kn_37 : ("TransputerNet$Processor", 79, (TX1 7).1, (TX1 7).2.1, (TX1 7).2.2.1, "TransputerNet") ∈ cNf := List.mem_of_getElem? (i := 37) rfl
theorem kn_17 : ("TransputerNet$Processor", 54, (TX9 6).1, (TX9 6).2.1, (TX9 6).2.2.1, "TransputerNet") ∈ cNf := List.mem_of_getElem? (i := 17) rfl
theorem kn_35 : ("TransputerNet$Processor", 218, (TX1 5).1, (TX1 5).2.1, (TX1 5).2.2.1, "TransputerNet") ∈ cNf := List.mem_of_getElem? (i := 35) rfl
theorem kn_21 : ("TransputerNet$Processor", 249, (TX8 0).1, (TX8 0).2.1, (TX8 0).2.2.1, "TransputerNet") ∈ cNf := List.mem_of_getElem? (i := 21) rfl
theorem kn_23 : ("TransputerNet$Processor", 241, (TX8 1).1, (TX8 1).2.1, (TX8 1).2.2.1, "TransputerNet") ∈ cNf := List.mem_of_getElem? (i := 23) rfl
theorem kn_34 : ("TransputerNet$Processor", 236, (TX1 4).1, (TX1 4).2.1, (TX1 4).2.2.1, "TransputerNet") ∈ cNf := List.mem_of_getElem? (i := 34) rfl
theorem kn_33 : ("TransputerNet$Processor", 246, (TX1 3).1, (TX1 3).2.1, (TX1 3).2.2.1, "TransputerNet") ∈ cNf := List.mem_of_getElem? (i := 33) rfl
theorem kn_40 : ("TransputerNet$Processor", 51, (TX1 10).1, (TX1 10).2.1, (TX1 10).2.2.1, "TransputerNet") ∈ cNf := List.mem_of_getElem? (i := 40) rfl
theorem kn_18 : ("TransputerNet$Processor", 57, (TX9 7).1, (TX9 7).2.1, (TX9 7).2.2.1, "TransputerNet") ∈ cNf := List.mem_of_getElem? (i := 18) rfl
theorem kn_57 : ("TransputerNet", 171, (TX6 1).1, (TX6 1).2.1, (TX6 1).2.2.1, "TransputerNet") ∈ cNf := List.mem_of_getElem? (i := 57) rfl
theorem kn_49 : ("TransputerNet", 175, (TX4 1).1, (TX4 1).2.1, (TX4 1).2.2.1, "TransputerNet") ∈ cNf := List.mem_of_getElem? (i := 49) rfl
theorem kn_60 : ("TransputerNet", 39, (TX3 0).1, (TX3 0).2.1, (TX3 0).2.2.1, "TransputerNet") ∈ cNf := List.mem_of_getElem? (i := 60) rfl
theorem kn_56 : ("TransputerNet", 69, (TX6 0).1, (TX6 0).2.1, (TX6 0).2.2.1, "TransputerNet") ∈ cNf := List.mem_of_getElem? (i := 56) rfl
theorem kn_28 : ("TransputerNet", 73, (TX1 0).1, (TX1 0).2.1, (TX1 0).2.2.1, "TransputerNet") ∈ cNf := List.mem_of_getElem? (i := 28) rfl
theorem kn_58 : ("TransputerNet", 111, (TX6 2).1, (TX6 2).2.1, (TX6 2).2.2.1, "TransputerNet") ∈ cNf := List.mem_of_getElem? (i := 58) rfl
theorem kn_59 : ("TransputerNet", 124, (TX6 3).1, (TX6 3).2.1, (TX6 3).2.2.1, "TransputerNet") ∈ cNf := List.mem_of_getElem? (i := 59) rfl
