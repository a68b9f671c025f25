def rTab : List (Nat × Nat) := [(9, 0), (9, 0), (9, 0), (9, 0), (2, 32768), (0, 8), (0, 8), (0, 8), (0, 8), (0, 8), (0, 8), (0, 8), (0, 8), (0, 8), (0, 8), (0, 8), (1, 8), (1, 8), (1, 8), (0, 16), (0, 16), (0, 16), (1, 8), (0, 8), (0, 8), (0, 8), (0, 8), (0, 8), (0, 8), (0, 8), (0, 8), (0, 512), (0, 512), (0, 33), (0, 33), (0, 33), (0, 33), (0, 33), (0, 33), (0, 33), (0, 33), (1, 33), (1, 33), (1, 33), (0, 33), (0, 33), (0, 33), (0, 33), (0, 33), (0, 33), (0, 33), (0, 33), (1, 8), (0, 8), (0, 8), (0, 8), (0, 8), (0, 8), (2, 4096), (2, 4096), (9, 0), (9, 0), (9, 0)]
def rDom (n j : Nat) : Prop := n = 0 ∧ (j = 0 ∨ (rTab.getD j (9, 0)).1 < 3)
def rFs (ad : Nat → Nat → Nat) (i : Nat → Int32) (_ : Option (Nat × Nat)) : List Value := [.int (i 0), .int (i 1), .int (i 2), .ref (ad 0 4), .ref (ad 0 5), .ref (ad 0 6), .ref (ad 0 7), .ref (ad 0 8), .ref (ad 0 9), .ref (ad 0 10), .ref (ad 0 11), .ref (ad 0 12), .ref (ad 0 13), .ref (ad 0 14), .ref (ad 0 15), .ref (ad 0 16), .ref (ad 0 17), .ref (ad 0 18), .ref (ad 0 19), .ref (ad 0 20), .ref (ad 0 21), .ref (ad 0 22), .ref (ad 0 23), .ref (ad 0 24), .ref (ad 0 25), .ref (ad 0 26), .ref (ad 0 27), .ref (ad 0 28), .ref (ad 0 29), .ref (ad 0 30), .ref (ad 0 31), .ref (ad 0 32), .ref (ad 0 33), .ref (ad 0 34), .ref (ad 0 35), .ref (ad 0 36), .ref (ad 0 37), .ref (ad 0 38), .ref (ad 0 39), .ref (ad 0 40), .ref (ad 0 41), .ref (ad 0 42), .ref (ad 0 43), .ref (ad 0 44), .ref (ad 0 45), .ref (ad 0 46), .ref (ad 0 47), .ref (ad 0 48), .ref (ad 0 49), .ref (ad 0 50), .ref (ad 0 51), .ref (ad 0 52), .ref (ad 0 53), .ref (ad 0 54), .ref (ad 0 55), .ref (ad 0 56), .ref (ad 0 57), .ref (ad 0 58), .ref (ad 0 59), .int (i 59), .int (i 60), .int (i 61)]
def rDe (ad : Nat → Nat → Nat) (cI cZ cB : ClassId) : xDe := fun i _ e _ j => match rTab.getD j (9, 0) with
  | (0, n) => .inl (cI, n, .inl i)
  | (1, n) => .inl (cZ, n, .inl i)
  | (2, n) => .inl (cB, n, .inl i)
  | _ => .inr (12, rFs ad i e)
abbrev rTy (cI cZ cB : ClassId) : List (ClassId × FieldType) := [(cI, .int), (cZ, .boolean), (cB, .byte)]
theorem rd_d0 : rDom 0 0 := ⟨rfl, Or.inl rfl⟩
theorem rd_0 {ad : Nat → Nat → Nat} {cI cZ cB : ClassId} (i : Nat → Int32) (q : Nat → Int64) (e : Option (Nat × Nat)) : rDe ad cI cZ cB i q e 0 0 = .inr (12, rFs ad i e) := rfl
theorem gf_X12_0 {ad : Nat → Nat → Nat} (i : Nat → Int32) (e : Option (Nat × Nat)) : (rFs ad i e)[0]? = some (.int (i 0)) := rfl
theorem gf_X12_1 {ad : Nat → Nat → Nat} (i : Nat → Int32) (e : Option (Nat × Nat)) : (rFs ad i e)[1]? = some (.int (i 1)) := rfl
theorem gf_X12_2 {ad : Nat → Nat → Nat} (i : Nat → Int32) (e : Option (Nat × Nat)) : (rFs ad i e)[2]? = some (.int (i 2)) := rfl
theorem rd_d4 : rDom 0 4 := ⟨rfl, Or.inr (by decide)⟩
theorem rd_4 {ad : Nat → Nat → Nat} {cI cZ cB : ClassId} (i : Nat → Int32) (q : Nat → Int64) (e : Option (Nat × Nat)) : rDe ad cI cZ cB i q e 0 4 = .inl (cB, 32768, .inl i) := rfl
theorem gf_X12_3 {ad : Nat → Nat → Nat} (i : Nat → Int32) (e : Option (Nat × Nat)) : (rFs ad i e)[3]? = some (.ref (ad 0 4)) := rfl
theorem rd_d5 : rDom 0 5 := ⟨rfl, Or.inr (by decide)⟩
theorem rd_5 {ad : Nat → Nat → Nat} {cI cZ cB : ClassId} (i : Nat → Int32) (q : Nat → Int64) (e : Option (Nat × Nat)) : rDe ad cI cZ cB i q e 0 5 = .inl (cI, 8, .inl i) := rfl
theorem gf_X12_4 {ad : Nat → Nat → Nat} (i : Nat → Int32) (e : Option (Nat × Nat)) : (rFs ad i e)[4]? = some (.ref (ad 0 5)) := rfl
theorem rd_d6 : rDom 0 6 := ⟨rfl, Or.inr (by decide)⟩
theorem rd_6 {ad : Nat → Nat → Nat} {cI cZ cB : ClassId} (i : Nat → Int32) (q : Nat → Int64) (e : Option (Nat × Nat)) : rDe ad cI cZ cB i q e 0 6 = .inl (cI, 8, .inl i) := rfl
theorem gf_X12_5 {ad : Nat → Nat → Nat} (i : Nat → Int32) (e : Option (Nat × Nat)) : (rFs ad i e)[5]? = some (.ref (ad 0 6)) := rfl
theorem rd_d7 : rDom 0 7 := ⟨rfl, Or.inr (by decide)⟩
theorem rd_7 {ad : Nat → Nat → Nat} {cI cZ cB : ClassId} (i : Nat → Int32) (q : Nat → Int64) (e : Option (Nat × Nat)) : rDe ad cI cZ cB i q e 0 7 = .inl (cI, 8, .inl i) := rfl
theorem gf_X12_6 {ad : Nat → Nat → Nat} (i : Nat → Int32) (e : Option (Nat × Nat)) : (rFs ad i e)[6]? = some (.ref (ad 0 7)) := rfl
theorem rd_d8 : rDom 0 8 := ⟨rfl, Or.inr (by decide)⟩
theorem rd_8 {ad : Nat → Nat → Nat} {cI cZ cB : ClassId} (i : Nat → Int32) (q : Nat → Int64) (e : Option (Nat × Nat)) : rDe ad cI cZ cB i q e 0 8 = .inl (cI, 8, .inl i) := rfl
theorem gf_X12_7 {ad : Nat → Nat → Nat} (i : Nat → Int32) (e : Option (Nat × Nat)) : (rFs ad i e)[7]? = some (.ref (ad 0 8)) := rfl
theorem rd_d9 : rDom 0 9 := ⟨rfl, Or.inr (by decide)⟩
theorem rd_9 {ad : Nat → Nat → Nat} {cI cZ cB : ClassId} (i : Nat → Int32) (q : Nat → Int64) (e : Option (Nat × Nat)) : rDe ad cI cZ cB i q e 0 9 = .inl (cI, 8, .inl i) := rfl
theorem gf_X12_8 {ad : Nat → Nat → Nat} (i : Nat → Int32) (e : Option (Nat × Nat)) : (rFs ad i e)[8]? = some (.ref (ad 0 9)) := rfl
theorem rd_d10 : rDom 0 10 := ⟨rfl, Or.inr (by decide)⟩
theorem rd_10 {ad : Nat → Nat → Nat} {cI cZ cB : ClassId} (i : Nat → Int32) (q : Nat → Int64) (e : Option (Nat × Nat)) : rDe ad cI cZ cB i q e 0 10 = .inl (cI, 8, .inl i) := rfl
theorem gf_X12_9 {ad : Nat → Nat → Nat} (i : Nat → Int32) (e : Option (Nat × Nat)) : (rFs ad i e)[9]? = some (.ref (ad 0 10)) := rfl
theorem rd_d11 : rDom 0 11 := ⟨rfl, Or.inr (by decide)⟩
theorem rd_11 {ad : Nat → Nat → Nat} {cI cZ cB : ClassId} (i : Nat → Int32) (q : Nat → Int64) (e : Option (Nat × Nat)) : rDe ad cI cZ cB i q e 0 11 = .inl (cI, 8, .inl i) := rfl
theorem gf_X12_10 {ad : Nat → Nat → Nat} (i : Nat → Int32) (e : Option (Nat × Nat)) : (rFs ad i e)[10]? = some (.ref (ad 0 11)) := rfl
theorem rd_d12 : rDom 0 12 := ⟨rfl, Or.inr (by decide)⟩
theorem rd_12 {ad : Nat → Nat → Nat} {cI cZ cB : ClassId} (i : Nat → Int32) (q : Nat → Int64) (e : Option (Nat × Nat)) : rDe ad cI cZ cB i q e 0 12 = .inl (cI, 8, .inl i) := rfl
theorem gf_X12_11 {ad : Nat → Nat → Nat} (i : Nat → Int32) (e : Option (Nat × Nat)) : (rFs ad i e)[11]? = some (.ref (ad 0 12)) := rfl
theorem rd_d13 : rDom 0 13 := ⟨rfl, Or.inr (by decide)⟩
theorem rd_13 {ad : Nat → Nat → Nat} {cI cZ cB : ClassId} (i : Nat → Int32) (q : Nat → Int64) (e : Option (Nat × Nat)) : rDe ad cI cZ cB i q e 0 13 = .inl (cI, 8, .inl i) := rfl
theorem gf_X12_12 {ad : Nat → Nat → Nat} (i : Nat → Int32) (e : Option (Nat × Nat)) : (rFs ad i e)[12]? = some (.ref (ad 0 13)) := rfl
theorem rd_d14 : rDom 0 14 := ⟨rfl, Or.inr (by decide)⟩
theorem rd_14 {ad : Nat → Nat → Nat} {cI cZ cB : ClassId} (i : Nat → Int32) (q : Nat → Int64) (e : Option (Nat × Nat)) : rDe ad cI cZ cB i q e 0 14 = .inl (cI, 8, .inl i) := rfl
theorem gf_X12_13 {ad : Nat → Nat → Nat} (i : Nat → Int32) (e : Option (Nat × Nat)) : (rFs ad i e)[13]? = some (.ref (ad 0 14)) := rfl
theorem rd_d15 : rDom 0 15 := ⟨rfl, Or.inr (by decide)⟩
theorem rd_15 {ad : Nat → Nat → Nat} {cI cZ cB : ClassId} (i : Nat → Int32) (q : Nat → Int64) (e : Option (Nat × Nat)) : rDe ad cI cZ cB i q e 0 15 = .inl (cI, 8, .inl i) := rfl
theorem gf_X12_14 {ad : Nat → Nat → Nat} (i : Nat → Int32) (e : Option (Nat × Nat)) : (rFs ad i e)[14]? = some (.ref (ad 0 15)) := rfl
theorem rd_d16 : rDom 0 16 := ⟨rfl, Or.inr (by decide)⟩
theorem rd_16 {ad : Nat → Nat → Nat} {cI cZ cB : ClassId} (i : Nat → Int32) (q : Nat → Int64) (e : Option (Nat × Nat)) : rDe ad cI cZ cB i q e 0 16 = .inl (cZ, 8, .inl i) := rfl
theorem gf_X12_15 {ad : Nat → Nat → Nat} (i : Nat → Int32) (e : Option (Nat × Nat)) : (rFs ad i e)[15]? = some (.ref (ad 0 16)) := rfl
theorem rd_d17 : rDom 0 17 := ⟨rfl, Or.inr (by decide)⟩
theorem rd_17 {ad : Nat → Nat → Nat} {cI cZ cB : ClassId} (i : Nat → Int32) (q : Nat → Int64) (e : Option (Nat × Nat)) : rDe ad cI cZ cB i q e 0 17 = .inl (cZ, 8, .inl i) := rfl
theorem gf_X12_16 {ad : Nat → Nat → Nat} (i : Nat → Int32) (e : Option (Nat × Nat)) : (rFs ad i e)[16]? = some (.ref (ad 0 17)) := rfl
theorem rd_d18 : rDom 0 18 := ⟨rfl, Or.inr (by decide)⟩
theorem rd_18 {ad : Nat → Nat → Nat} {cI cZ cB : ClassId} (i : Nat → Int32) (q : Nat → Int64) (e : Option (Nat × Nat)) : rDe ad cI cZ cB i q e 0 18 = .inl (cZ, 8, .inl i) := rfl
theorem gf_X12_17 {ad : Nat → Nat → Nat} (i : Nat → Int32) (e : Option (Nat × Nat)) : (rFs ad i e)[17]? = some (.ref (ad 0 18)) := rfl
theorem rd_d19 : rDom 0 19 := ⟨rfl, Or.inr (by decide)⟩
theorem rd_19 {ad : Nat → Nat → Nat} {cI cZ cB : ClassId} (i : Nat → Int32) (q : Nat → Int64) (e : Option (Nat × Nat)) : rDe ad cI cZ cB i q e 0 19 = .inl (cI, 16, .inl i) := rfl
theorem gf_X12_18 {ad : Nat → Nat → Nat} (i : Nat → Int32) (e : Option (Nat × Nat)) : (rFs ad i e)[18]? = some (.ref (ad 0 19)) := rfl
theorem rd_d20 : rDom 0 20 := ⟨rfl, Or.inr (by decide)⟩
theorem rd_20 {ad : Nat → Nat → Nat} {cI cZ cB : ClassId} (i : Nat → Int32) (q : Nat → Int64) (e : Option (Nat × Nat)) : rDe ad cI cZ cB i q e 0 20 = .inl (cI, 16, .inl i) := rfl
theorem gf_X12_19 {ad : Nat → Nat → Nat} (i : Nat → Int32) (e : Option (Nat × Nat)) : (rFs ad i e)[19]? = some (.ref (ad 0 20)) := rfl
theorem rd_d21 : rDom 0 21 := ⟨rfl, Or.inr (by decide)⟩
theorem rd_21 {ad : Nat → Nat → Nat} {cI cZ cB : ClassId} (i : Nat → Int32) (q : Nat → Int64) (e : Option (Nat × Nat)) : rDe ad cI cZ cB i q e 0 21 = .inl (cI, 16, .inl i) := rfl
theorem gf_X12_20 {ad : Nat → Nat → Nat} (i : Nat → Int32) (e : Option (Nat × Nat)) : (rFs ad i e)[20]? = some (.ref (ad 0 21)) := rfl
theorem rd_d22 : rDom 0 22 := ⟨rfl, Or.inr (by decide)⟩
theorem rd_22 {ad : Nat → Nat → Nat} {cI cZ cB : ClassId} (i : Nat → Int32) (q : Nat → Int64) (e : Option (Nat × Nat)) : rDe ad cI cZ cB i q e 0 22 = .inl (cZ, 8, .inl i) := rfl
theorem gf_X12_21 {ad : Nat → Nat → Nat} (i : Nat → Int32) (e : Option (Nat × Nat)) : (rFs ad i e)[21]? = some (.ref (ad 0 22)) := rfl
theorem rd_d23 : rDom 0 23 := ⟨rfl, Or.inr (by decide)⟩
theorem rd_23 {ad : Nat → Nat → Nat} {cI cZ cB : ClassId} (i : Nat → Int32) (q : Nat → Int64) (e : Option (Nat × Nat)) : rDe ad cI cZ cB i q e 0 23 = .inl (cI, 8, .inl i) := rfl
theorem gf_X12_22 {ad : Nat → Nat → Nat} (i : Nat → Int32) (e : Option (Nat × Nat)) : (rFs ad i e)[22]? = some (.ref (ad 0 23)) := rfl
theorem rd_d24 : rDom 0 24 := ⟨rfl, Or.inr (by decide)⟩
theorem rd_24 {ad : Nat → Nat → Nat} {cI cZ cB : ClassId} (i : Nat → Int32) (q : Nat → Int64) (e : Option (Nat × Nat)) : rDe ad cI cZ cB i q e 0 24 = .inl (cI, 8, .inl i) := rfl
theorem gf_X12_23 {ad : Nat → Nat → Nat} (i : Nat → Int32) (e : Option (Nat × Nat)) : (rFs ad i e)[23]? = some (.ref (ad 0 24)) := rfl
theorem rd_d25 : rDom 0 25 := ⟨rfl, Or.inr (by decide)⟩
theorem rd_25 {ad : Nat → Nat → Nat} {cI cZ cB : ClassId} (i : Nat → Int32) (q : Nat → Int64) (e : Option (Nat × Nat)) : rDe ad cI cZ cB i q e 0 25 = .inl (cI, 8, .inl i) := rfl
theorem gf_X12_24 {ad : Nat → Nat → Nat} (i : Nat → Int32) (e : Option (Nat × Nat)) : (rFs ad i e)[24]? = some (.ref (ad 0 25)) := rfl
theorem rd_d26 : rDom 0 26 := ⟨rfl, Or.inr (by decide)⟩
theorem rd_26 {ad : Nat → Nat → Nat} {cI cZ cB : ClassId} (i : Nat → Int32) (q : Nat → Int64) (e : Option (Nat × Nat)) : rDe ad cI cZ cB i q e 0 26 = .inl (cI, 8, .inl i) := rfl
theorem gf_X12_25 {ad : Nat → Nat → Nat} (i : Nat → Int32) (e : Option (Nat × Nat)) : (rFs ad i e)[25]? = some (.ref (ad 0 26)) := rfl
theorem rd_d27 : rDom 0 27 := ⟨rfl, Or.inr (by decide)⟩
theorem rd_27 {ad : Nat → Nat → Nat} {cI cZ cB : ClassId} (i : Nat → Int32) (q : Nat → Int64) (e : Option (Nat × Nat)) : rDe ad cI cZ cB i q e 0 27 = .inl (cI, 8, .inl i) := rfl
theorem gf_X12_26 {ad : Nat → Nat → Nat} (i : Nat → Int32) (e : Option (Nat × Nat)) : (rFs ad i e)[26]? = some (.ref (ad 0 27)) := rfl
theorem rd_d28 : rDom 0 28 := ⟨rfl, Or.inr (by decide)⟩
theorem rd_28 {ad : Nat → Nat → Nat} {cI cZ cB : ClassId} (i : Nat → Int32) (q : Nat → Int64) (e : Option (Nat × Nat)) : rDe ad cI cZ cB i q e 0 28 = .inl (cI, 8, .inl i) := rfl
theorem gf_X12_27 {ad : Nat → Nat → Nat} (i : Nat → Int32) (e : Option (Nat × Nat)) : (rFs ad i e)[27]? = some (.ref (ad 0 28)) := rfl
theorem rd_d29 : rDom 0 29 := ⟨rfl, Or.inr (by decide)⟩
theorem rd_29 {ad : Nat → Nat → Nat} {cI cZ cB : ClassId} (i : Nat → Int32) (q : Nat → Int64) (e : Option (Nat × Nat)) : rDe ad cI cZ cB i q e 0 29 = .inl (cI, 8, .inl i) := rfl
theorem gf_X12_28 {ad : Nat → Nat → Nat} (i : Nat → Int32) (e : Option (Nat × Nat)) : (rFs ad i e)[28]? = some (.ref (ad 0 29)) := rfl
theorem rd_d30 : rDom 0 30 := ⟨rfl, Or.inr (by decide)⟩
theorem rd_30 {ad : Nat → Nat → Nat} {cI cZ cB : ClassId} (i : Nat → Int32) (q : Nat → Int64) (e : Option (Nat × Nat)) : rDe ad cI cZ cB i q e 0 30 = .inl (cI, 8, .inl i) := rfl
theorem gf_X12_29 {ad : Nat → Nat → Nat} (i : Nat → Int32) (e : Option (Nat × Nat)) : (rFs ad i e)[29]? = some (.ref (ad 0 30)) := rfl
theorem rd_d31 : rDom 0 31 := ⟨rfl, Or.inr (by decide)⟩
theorem rd_31 {ad : Nat → Nat → Nat} {cI cZ cB : ClassId} (i : Nat → Int32) (q : Nat → Int64) (e : Option (Nat × Nat)) : rDe ad cI cZ cB i q e 0 31 = .inl (cI, 512, .inl i) := rfl
theorem gf_X12_30 {ad : Nat → Nat → Nat} (i : Nat → Int32) (e : Option (Nat × Nat)) : (rFs ad i e)[30]? = some (.ref (ad 0 31)) := rfl
theorem rd_d32 : rDom 0 32 := ⟨rfl, Or.inr (by decide)⟩
theorem rd_32 {ad : Nat → Nat → Nat} {cI cZ cB : ClassId} (i : Nat → Int32) (q : Nat → Int64) (e : Option (Nat × Nat)) : rDe ad cI cZ cB i q e 0 32 = .inl (cI, 512, .inl i) := rfl
theorem gf_X12_31 {ad : Nat → Nat → Nat} (i : Nat → Int32) (e : Option (Nat × Nat)) : (rFs ad i e)[31]? = some (.ref (ad 0 32)) := rfl
theorem rd_d33 : rDom 0 33 := ⟨rfl, Or.inr (by decide)⟩
theorem rd_33 {ad : Nat → Nat → Nat} {cI cZ cB : ClassId} (i : Nat → Int32) (q : Nat → Int64) (e : Option (Nat × Nat)) : rDe ad cI cZ cB i q e 0 33 = .inl (cI, 33, .inl i) := rfl
theorem gf_X12_32 {ad : Nat → Nat → Nat} (i : Nat → Int32) (e : Option (Nat × Nat)) : (rFs ad i e)[32]? = some (.ref (ad 0 33)) := rfl
theorem rd_d34 : rDom 0 34 := ⟨rfl, Or.inr (by decide)⟩
theorem rd_34 {ad : Nat → Nat → Nat} {cI cZ cB : ClassId} (i : Nat → Int32) (q : Nat → Int64) (e : Option (Nat × Nat)) : rDe ad cI cZ cB i q e 0 34 = .inl (cI, 33, .inl i) := rfl
theorem gf_X12_33 {ad : Nat → Nat → Nat} (i : Nat → Int32) (e : Option (Nat × Nat)) : (rFs ad i e)[33]? = some (.ref (ad 0 34)) := rfl
theorem rd_d35 : rDom 0 35 := ⟨rfl, Or.inr (by decide)⟩
theorem rd_35 {ad : Nat → Nat → Nat} {cI cZ cB : ClassId} (i : Nat → Int32) (q : Nat → Int64) (e : Option (Nat × Nat)) : rDe ad cI cZ cB i q e 0 35 = .inl (cI, 33, .inl i) := rfl
theorem gf_X12_34 {ad : Nat → Nat → Nat} (i : Nat → Int32) (e : Option (Nat × Nat)) : (rFs ad i e)[34]? = some (.ref (ad 0 35)) := rfl
theorem rd_d36 : rDom 0 36 := ⟨rfl, Or.inr (by decide)⟩
theorem rd_36 {ad : Nat → Nat → Nat} {cI cZ cB : ClassId} (i : Nat → Int32) (q : Nat → Int64) (e : Option (Nat × Nat)) : rDe ad cI cZ cB i q e 0 36 = .inl (cI, 33, .inl i) := rfl
theorem gf_X12_35 {ad : Nat → Nat → Nat} (i : Nat → Int32) (e : Option (Nat × Nat)) : (rFs ad i e)[35]? = some (.ref (ad 0 36)) := rfl
theorem rd_d37 : rDom 0 37 := ⟨rfl, Or.inr (by decide)⟩
theorem rd_37 {ad : Nat → Nat → Nat} {cI cZ cB : ClassId} (i : Nat → Int32) (q : Nat → Int64) (e : Option (Nat × Nat)) : rDe ad cI cZ cB i q e 0 37 = .inl (cI, 33, .inl i) := rfl
theorem gf_X12_36 {ad : Nat → Nat → Nat} (i : Nat → Int32) (e : Option (Nat × Nat)) : (rFs ad i e)[36]? = some (.ref (ad 0 37)) := rfl
theorem rd_d38 : rDom 0 38 := ⟨rfl, Or.inr (by decide)⟩
theorem rd_38 {ad : Nat → Nat → Nat} {cI cZ cB : ClassId} (i : Nat → Int32) (q : Nat → Int64) (e : Option (Nat × Nat)) : rDe ad cI cZ cB i q e 0 38 = .inl (cI, 33, .inl i) := rfl
theorem gf_X12_37 {ad : Nat → Nat → Nat} (i : Nat → Int32) (e : Option (Nat × Nat)) : (rFs ad i e)[37]? = some (.ref (ad 0 38)) := rfl
theorem rd_d39 : rDom 0 39 := ⟨rfl, Or.inr (by decide)⟩
theorem rd_39 {ad : Nat → Nat → Nat} {cI cZ cB : ClassId} (i : Nat → Int32) (q : Nat → Int64) (e : Option (Nat × Nat)) : rDe ad cI cZ cB i q e 0 39 = .inl (cI, 33, .inl i) := rfl
theorem gf_X12_38 {ad : Nat → Nat → Nat} (i : Nat → Int32) (e : Option (Nat × Nat)) : (rFs ad i e)[38]? = some (.ref (ad 0 39)) := rfl
theorem rd_d40 : rDom 0 40 := ⟨rfl, Or.inr (by decide)⟩
theorem rd_40 {ad : Nat → Nat → Nat} {cI cZ cB : ClassId} (i : Nat → Int32) (q : Nat → Int64) (e : Option (Nat × Nat)) : rDe ad cI cZ cB i q e 0 40 = .inl (cI, 33, .inl i) := rfl
theorem gf_X12_39 {ad : Nat → Nat → Nat} (i : Nat → Int32) (e : Option (Nat × Nat)) : (rFs ad i e)[39]? = some (.ref (ad 0 40)) := rfl
theorem rd_d41 : rDom 0 41 := ⟨rfl, Or.inr (by decide)⟩
theorem rd_41 {ad : Nat → Nat → Nat} {cI cZ cB : ClassId} (i : Nat → Int32) (q : Nat → Int64) (e : Option (Nat × Nat)) : rDe ad cI cZ cB i q e 0 41 = .inl (cZ, 33, .inl i) := rfl
theorem gf_X12_40 {ad : Nat → Nat → Nat} (i : Nat → Int32) (e : Option (Nat × Nat)) : (rFs ad i e)[40]? = some (.ref (ad 0 41)) := rfl
theorem rd_d42 : rDom 0 42 := ⟨rfl, Or.inr (by decide)⟩
theorem rd_42 {ad : Nat → Nat → Nat} {cI cZ cB : ClassId} (i : Nat → Int32) (q : Nat → Int64) (e : Option (Nat × Nat)) : rDe ad cI cZ cB i q e 0 42 = .inl (cZ, 33, .inl i) := rfl
theorem gf_X12_41 {ad : Nat → Nat → Nat} (i : Nat → Int32) (e : Option (Nat × Nat)) : (rFs ad i e)[41]? = some (.ref (ad 0 42)) := rfl
theorem rd_d43 : rDom 0 43 := ⟨rfl, Or.inr (by decide)⟩
theorem rd_43 {ad : Nat → Nat → Nat} {cI cZ cB : ClassId} (i : Nat → Int32) (q : Nat → Int64) (e : Option (Nat × Nat)) : rDe ad cI cZ cB i q e 0 43 = .inl (cZ, 33, .inl i) := rfl
theorem gf_X12_42 {ad : Nat → Nat → Nat} (i : Nat → Int32) (e : Option (Nat × Nat)) : (rFs ad i e)[42]? = some (.ref (ad 0 43)) := rfl
theorem rd_d44 : rDom 0 44 := ⟨rfl, Or.inr (by decide)⟩
theorem rd_44 {ad : Nat → Nat → Nat} {cI cZ cB : ClassId} (i : Nat → Int32) (q : Nat → Int64) (e : Option (Nat × Nat)) : rDe ad cI cZ cB i q e 0 44 = .inl (cI, 33, .inl i) := rfl
theorem gf_X12_43 {ad : Nat → Nat → Nat} (i : Nat → Int32) (e : Option (Nat × Nat)) : (rFs ad i e)[43]? = some (.ref (ad 0 44)) := rfl
theorem rd_d45 : rDom 0 45 := ⟨rfl, Or.inr (by decide)⟩
theorem rd_45 {ad : Nat → Nat → Nat} {cI cZ cB : ClassId} (i : Nat → Int32) (q : Nat → Int64) (e : Option (Nat × Nat)) : rDe ad cI cZ cB i q e 0 45 = .inl (cI, 33, .inl i) := rfl
theorem gf_X12_44 {ad : Nat → Nat → Nat} (i : Nat → Int32) (e : Option (Nat × Nat)) : (rFs ad i e)[44]? = some (.ref (ad 0 45)) := rfl
theorem rd_d46 : rDom 0 46 := ⟨rfl, Or.inr (by decide)⟩
theorem rd_46 {ad : Nat → Nat → Nat} {cI cZ cB : ClassId} (i : Nat → Int32) (q : Nat → Int64) (e : Option (Nat × Nat)) : rDe ad cI cZ cB i q e 0 46 = .inl (cI, 33, .inl i) := rfl
theorem gf_X12_45 {ad : Nat → Nat → Nat} (i : Nat → Int32) (e : Option (Nat × Nat)) : (rFs ad i e)[45]? = some (.ref (ad 0 46)) := rfl
theorem rd_d47 : rDom 0 47 := ⟨rfl, Or.inr (by decide)⟩
theorem rd_47 {ad : Nat → Nat → Nat} {cI cZ cB : ClassId} (i : Nat → Int32) (q : Nat → Int64) (e : Option (Nat × Nat)) : rDe ad cI cZ cB i q e 0 47 = .inl (cI, 33, .inl i) := rfl
theorem gf_X12_46 {ad : Nat → Nat → Nat} (i : Nat → Int32) (e : Option (Nat × Nat)) : (rFs ad i e)[46]? = some (.ref (ad 0 47)) := rfl
theorem rd_d48 : rDom 0 48 := ⟨rfl, Or.inr (by decide)⟩
theorem rd_48 {ad : Nat → Nat → Nat} {cI cZ cB : ClassId} (i : Nat → Int32) (q : Nat → Int64) (e : Option (Nat × Nat)) : rDe ad cI cZ cB i q e 0 48 = .inl (cI, 33, .inl i) := rfl
theorem gf_X12_47 {ad : Nat → Nat → Nat} (i : Nat → Int32) (e : Option (Nat × Nat)) : (rFs ad i e)[47]? = some (.ref (ad 0 48)) := rfl
theorem rd_d49 : rDom 0 49 := ⟨rfl, Or.inr (by decide)⟩
theorem rd_49 {ad : Nat → Nat → Nat} {cI cZ cB : ClassId} (i : Nat → Int32) (q : Nat → Int64) (e : Option (Nat × Nat)) : rDe ad cI cZ cB i q e 0 49 = .inl (cI, 33, .inl i) := rfl
theorem gf_X12_48 {ad : Nat → Nat → Nat} (i : Nat → Int32) (e : Option (Nat × Nat)) : (rFs ad i e)[48]? = some (.ref (ad 0 49)) := rfl
theorem rd_d50 : rDom 0 50 := ⟨rfl, Or.inr (by decide)⟩
theorem rd_50 {ad : Nat → Nat → Nat} {cI cZ cB : ClassId} (i : Nat → Int32) (q : Nat → Int64) (e : Option (Nat × Nat)) : rDe ad cI cZ cB i q e 0 50 = .inl (cI, 33, .inl i) := rfl
theorem gf_X12_49 {ad : Nat → Nat → Nat} (i : Nat → Int32) (e : Option (Nat × Nat)) : (rFs ad i e)[49]? = some (.ref (ad 0 50)) := rfl
theorem rd_d51 : rDom 0 51 := ⟨rfl, Or.inr (by decide)⟩
theorem rd_51 {ad : Nat → Nat → Nat} {cI cZ cB : ClassId} (i : Nat → Int32) (q : Nat → Int64) (e : Option (Nat × Nat)) : rDe ad cI cZ cB i q e 0 51 = .inl (cI, 33, .inl i) := rfl
theorem gf_X12_50 {ad : Nat → Nat → Nat} (i : Nat → Int32) (e : Option (Nat × Nat)) : (rFs ad i e)[50]? = some (.ref (ad 0 51)) := rfl
theorem rd_d52 : rDom 0 52 := ⟨rfl, Or.inr (by decide)⟩
theorem rd_52 {ad : Nat → Nat → Nat} {cI cZ cB : ClassId} (i : Nat → Int32) (q : Nat → Int64) (e : Option (Nat × Nat)) : rDe ad cI cZ cB i q e 0 52 = .inl (cZ, 8, .inl i) := rfl
theorem gf_X12_51 {ad : Nat → Nat → Nat} (i : Nat → Int32) (e : Option (Nat × Nat)) : (rFs ad i e)[51]? = some (.ref (ad 0 52)) := rfl
theorem rd_d53 : rDom 0 53 := ⟨rfl, Or.inr (by decide)⟩
theorem rd_53 {ad : Nat → Nat → Nat} {cI cZ cB : ClassId} (i : Nat → Int32) (q : Nat → Int64) (e : Option (Nat × Nat)) : rDe ad cI cZ cB i q e 0 53 = .inl (cI, 8, .inl i) := rfl
theorem gf_X12_52 {ad : Nat → Nat → Nat} (i : Nat → Int32) (e : Option (Nat × Nat)) : (rFs ad i e)[52]? = some (.ref (ad 0 53)) := rfl
theorem rd_d54 : rDom 0 54 := ⟨rfl, Or.inr (by decide)⟩
theorem rd_54 {ad : Nat → Nat → Nat} {cI cZ cB : ClassId} (i : Nat → Int32) (q : Nat → Int64) (e : Option (Nat × Nat)) : rDe ad cI cZ cB i q e 0 54 = .inl (cI, 8, .inl i) := rfl
theorem gf_X12_53 {ad : Nat → Nat → Nat} (i : Nat → Int32) (e : Option (Nat × Nat)) : (rFs ad i e)[53]? = some (.ref (ad 0 54)) := rfl
theorem rd_d55 : rDom 0 55 := ⟨rfl, Or.inr (by decide)⟩
theorem rd_55 {ad : Nat → Nat → Nat} {cI cZ cB : ClassId} (i : Nat → Int32) (q : Nat → Int64) (e : Option (Nat × Nat)) : rDe ad cI cZ cB i q e 0 55 = .inl (cI, 8, .inl i) := rfl
theorem gf_X12_54 {ad : Nat → Nat → Nat} (i : Nat → Int32) (e : Option (Nat × Nat)) : (rFs ad i e)[54]? = some (.ref (ad 0 55)) := rfl
theorem rd_d56 : rDom 0 56 := ⟨rfl, Or.inr (by decide)⟩
theorem rd_56 {ad : Nat → Nat → Nat} {cI cZ cB : ClassId} (i : Nat → Int32) (q : Nat → Int64) (e : Option (Nat × Nat)) : rDe ad cI cZ cB i q e 0 56 = .inl (cI, 8, .inl i) := rfl
theorem gf_X12_55 {ad : Nat → Nat → Nat} (i : Nat → Int32) (e : Option (Nat × Nat)) : (rFs ad i e)[55]? = some (.ref (ad 0 56)) := rfl
theorem rd_d57 : rDom 0 57 := ⟨rfl, Or.inr (by decide)⟩
theorem rd_57 {ad : Nat → Nat → Nat} {cI cZ cB : ClassId} (i : Nat → Int32) (q : Nat → Int64) (e : Option (Nat × Nat)) : rDe ad cI cZ cB i q e 0 57 = .inl (cI, 8, .inl i) := rfl
theorem gf_X12_56 {ad : Nat → Nat → Nat} (i : Nat → Int32) (e : Option (Nat × Nat)) : (rFs ad i e)[56]? = some (.ref (ad 0 57)) := rfl
theorem rd_d58 : rDom 0 58 := ⟨rfl, Or.inr (by decide)⟩
theorem rd_58 {ad : Nat → Nat → Nat} {cI cZ cB : ClassId} (i : Nat → Int32) (q : Nat → Int64) (e : Option (Nat × Nat)) : rDe ad cI cZ cB i q e 0 58 = .inl (cB, 4096, .inl i) := rfl
theorem gf_X12_57 {ad : Nat → Nat → Nat} (i : Nat → Int32) (e : Option (Nat × Nat)) : (rFs ad i e)[57]? = some (.ref (ad 0 58)) := rfl
theorem rd_d59 : rDom 0 59 := ⟨rfl, Or.inr (by decide)⟩
theorem rd_59 {ad : Nat → Nat → Nat} {cI cZ cB : ClassId} (i : Nat → Int32) (q : Nat → Int64) (e : Option (Nat × Nat)) : rDe ad cI cZ cB i q e 0 59 = .inl (cB, 4096, .inl i) := rfl
theorem gf_X12_58 {ad : Nat → Nat → Nat} (i : Nat → Int32) (e : Option (Nat × Nat)) : (rFs ad i e)[58]? = some (.ref (ad 0 59)) := rfl
theorem gf_X12_59 {ad : Nat → Nat → Nat} (i : Nat → Int32) (e : Option (Nat × Nat)) : (rFs ad i e)[59]? = some (.int (i 59)) := rfl
theorem gf_X12_60 {ad : Nat → Nat → Nat} (i : Nat → Int32) (e : Option (Nat × Nat)) : (rFs ad i e)[60]? = some (.int (i 60)) := rfl
theorem gf_X12_61 {ad : Nat → Nat → Nat} (i : Nat → Int32) (e : Option (Nat × Nat)) : (rFs ad i e)[61]? = some (.int (i 61)) := rfl
