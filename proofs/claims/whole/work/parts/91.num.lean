/-! LAYER 3: numbers as integers; sums and searches over places -/
theorem i_lt {a b : Int32} : a < b ↔ a.toInt < b.toInt := Int32.lt_iff_toInt_lt
theorem i_le {a b : Int32} : a ≤ b ↔ a.toInt ≤ b.toInt := Int32.le_iff_toInt_le
theorem i_eq {a b : Int32} : a = b ↔ a.toInt = b.toInt := ⟨fun e => by rw [e], fun e => Int32.toInt.inj e⟩
theorem i_add {a b : Int32} (h1 : -2147483648 ≤ a.toInt + b.toInt) (h2 : a.toInt + b.toInt < 2147483648) : (a + b).toInt = a.toInt + b.toInt := by
  rw [Int32.toInt_add, Int.bmod_eq_of_le (by omega) (by omega)]
theorem i_sub {a b : Int32} (h1 : -2147483648 ≤ a.toInt - b.toInt) (h2 : a.toInt - b.toInt < 2147483648) : (a - b).toInt = a.toInt - b.toInt := by
  rw [Int32.toInt_sub, Int.bmod_eq_of_le (by omega) (by omega)]
theorem in_iff {v lo hi : Int32} : f_r_in v lo hi = true ↔ lo.toInt ≤ v.toInt ∧ v.toInt ≤ hi.toInt := by
  unfold f_r_in
  by_cases h1 : v < lo
  · rw [if_pos h1]
    have h2 := i_lt.mp h1
    exact ⟨fun z => (nomatch z), fun z => absurd z.1 (by omega)⟩
  · rw [if_neg h1]
    have h2 := Int32.not_lt.mp h1
    rw [i_le] at h2
    by_cases h3 : hi < v
    · rw [if_pos h3]
      have h4 := i_lt.mp h3
      exact ⟨fun z => (nomatch z), fun z => absurd z.2 (by omega)⟩
    · rw [if_neg h3]
      have h4 := Int32.not_lt.mp h3
      rw [i_le] at h4
      exact ⟨fun _ => ⟨h2, h4⟩, fun _ => rfl⟩
theorem all_step {P : Nat → Prop} {j k : Nat} : (∀ e, j ≤ e → e < j + (k + 1) → P e) ↔ P j ∧ ∀ e, j + 1 ≤ e → e < j + 1 + k → P e := by
  constructor
  · intro h
    exact ⟨h j (Nat.le_refl _) (by omega), fun e h1 h2 => h e (by omega) (by omega)⟩
  · intro ⟨h0, h⟩ e h1 h2
    by_cases he : e = j
    · subst he
      exact h0
    · exact h e (by omega) (by omega)
theorem all_zero {P : Nat → Prop} {j : Nat} : (∀ e, j ≤ e → e < j + 0 → P e) ↔ True := ⟨fun _ => trivial, fun _ e h1 h2 => absurd h2 (by omega)⟩
/-! the setup between two works, in minutes -/
def suI (s a b : Int32) : Int := if a = b then 0 else s.toInt
theorem suI_comm {s a b : Int32} : suI s a b = suI s b a := by
  unfold suI
  by_cases e : a = b
  · rw [if_pos e, if_pos e.symm]
  · rw [if_neg e, if_neg (fun z => e z.symm)]
theorem suI_tri {s a b c : Int32} (h : 0 ≤ s.toInt) : suI s a c ≤ suI s a b + suI s b c := by
  unfold suI
  by_cases e1 : a = b
  · subst e1
    rw [if_pos rfl]
    omega
  · rw [if_neg e1]
    split <;> split <;> omega
theorem suI_nn {s a b : Int32} (h : 0 ≤ s.toInt) : 0 ≤ suI s a b := by
  unfold suI
  split <;> omega
theorem suI_le {s a b : Int32} (h : 0 ≤ s.toInt) : suI s a b ≤ s.toInt := by
  unfold suI
  split <;> omega
theorem setup_I {su : Nat → Int32} {m : Nat} {a b : Int32} : (f_r_setup su m a b).toInt = suI (su m) a b := by
  unfold f_r_setup suI
  by_cases e : a = b
  · rw [if_pos e, if_pos e]
    rfl
  · rw [if_neg e, if_neg e]
/-- days and minutes of entries below n -/
def EOk (n : Nat) (dy st le : Nat → Int32) : Prop := ∀ e, e < n → 0 ≤ (dy e).toInt ∧ (dy e).toInt ≤ 906 ∧ 0 ≤ (st e).toInt ∧ 1 ≤ (le e).toInt ∧ (st e).toInt + (le e).toInt ≤ 480
def SuOk (su : Nat → Int32) : Prop := ∀ m, 0 ≤ (su m).toInt ∧ (su m).toInt ≤ 30
/-- e ends, with the setup between, before f starts -/
def Bef (s : Int32) (st le wk : Nat → Int32) (e f : Nat) : Prop := (st e).toInt + (le e).toInt + suI s (wk e) (wk f) ≤ (st f).toInt
/-- the time S .. S + M of work V is free beside e -/
def Spd (s : Int32) (st le wk : Nat → Int32) (S M : Int) (V : Int32) (e : Nat) : Prop := (st e).toInt + (le e).toInt + suI s (wk e) V ≤ S ∨ S + M + suI s V (wk e) ≤ (st e).toInt
def act (x : Int32) : Prop := x = 98 ∨ x = 100
def Sep (n : Nat) (mo : Nat → Nat) (dy st le wk sta su : Nat → Int32) : Prop := ∀ e f, e < n → f < n → e ≠ f → act (sta e) → act (sta f) → mo e = mo f → dy e = dy f → Bef (su (mo e)) st le wk e f ∨ Bef (su (mo e)) st le wk f e
theorem tri1 {s : Int32} {st le wk : Nat → Int32} {S M : Int} {V : Int32} {e f : Nat} (hs : 0 ≤ s.toInt) (hf : 1 ≤ (le f).toInt) (hM : 1 ≤ M) (hB : Bef s st le wk e f) (h : (st f).toInt < S) (hP : Spd s st le wk S M V f) : Spd s st le wk S M V e := by
  unfold Spd Bef at *
  have h1 := suI_tri (a := wk e) (b := wk f) (c := V) hs
  have h2 := suI_nn (a := V) (b := wk f) hs
  rcases hP with hP | hP
  · exact Or.inl (by omega)
  · exact absurd hP (by omega)
theorem tri2 {s : Int32} {st le wk : Nat → Int32} {S M : Int} {V : Int32} {e f : Nat} (hs : 0 ≤ s.toInt) (he : 1 ≤ (le e).toInt) (hB : Bef s st le wk e f) (h : S ≤ (st e).toInt) (hP : Spd s st le wk S M V e) : Spd s st le wk S M V f := by
  unfold Spd Bef at *
  have h1 := suI_tri (a := V) (b := wk e) (c := wk f) hs
  have h2 := suI_nn (a := wk e) (b := V) hs
  rcases hP with hP | hP
  · exact absurd hP (by omega)
  · exact Or.inr (by omega)
