/-! experiments -/
theorem x1 (a b : Int32) (h : 0 ≤ a) (h1 : a ≤ 900) (h2 : 0 ≤ b) (h3 : b ≤ 999) : (b - a ≤ 29 ↔ b ≤ a + 29) := by grind
theorem x2 (a b : Int32) (h : 0 ≤ a.toInt) (h1 : a.toInt ≤ 900) (h2 : 0 ≤ b.toInt) (h3 : b.toInt ≤ 999) : (b - a ≤ 29 ↔ b ≤ a + 29) := by grind
theorem x3 (a b c : Int32) (h : a < b) (h2 : b < c) : ¬ c < a := by grind
theorem x4 (l : List Nat) (f : Nat → Bool) (h : ∀ x ∈ l, f x = true) : l.filter f = l := by grind
theorem x5 (p q r : Prop) (h : p ↔ q) (h2 : q ↔ r) : p ↔ r := by grind
theorem x6 (f : Nat → Int32) (i j : Nat) (v : Int32) (h : i ≠ j) : fup f i v j = f j := by grind [fup]
