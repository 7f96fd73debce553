theorem ge_3 {k : Nat} (h : k < 3) : ¬ (3 : Int32) ≤ nI k := nI_ge (b := 3) h (by decide)
theorem ge_4 {k : Nat} (h : k < 4) : ¬ (4 : Int32) ≤ nI k := nI_ge (b := 4) h (by decide)
theorem ge_6 {k : Nat} (h : k < 6) : ¬ (6 : Int32) ≤ nI k := nI_ge (b := 6) h (by decide)
theorem ge_8 {k : Nat} (h : k < 8) : ¬ (8 : Int32) ≤ nI k := nI_ge (b := 8) h (by decide)
theorem ge_20 {k : Nat} (h : k < 20) : ¬ (20 : Int32) ≤ nI k := nI_ge (b := 20) h (by decide)
theorem ge_96 {k : Nat} (h : k < 96) : ¬ (96 : Int32) ≤ nI k := nI_ge (b := 96) h (by decide)
theorem ifT {α : Type} {a b : α} {h : Decidable True} : @ite α True h a b = a := if_pos trivial
theorem ifF {α : Type} {a b : α} {h : Decidable False} : @ite α False h a b = b := if_neg (fun x => x)
