/-! tariffs: the class's linked layers and the reference's rows tell the same cost -/
def SortRel (c r : Int32) : Prop := (c = 1 ∧ r = 102) ∨ (c = 2 ∧ r = 99) ∨ (c = 3 ∧ r = 100) ∨ (c = 4 ∧ r = 112)
/-- layer l is the top of h layers as the rows have them -/
def ChainP (ly : Nat → Ly) (ls ln : Nat → Int32) : Nat → Nat → Prop
  | 0, _ => False
  | 1, l => lySort (ly l) = 0 ∧ lyAm (ly l) = ln 0 ∧ lyBel (ly l) = none ∧ lyHt (ly l) = 1
  | h + 2, l => SortRel (lySort (ly l)) (ls (h + 1)) ∧ lyAm (ly l) = ln (h + 1) ∧ lyHt (ly l) = nI (h + 2) ∧ ∃ b, lyBel (ly l) = some b ∧ ChainP ly ls ln (h + 1) b
def costR (ls ln : Nat → Int32) : Nat → Int32 → Int32
  | 0, _ => 0
  | 1, n => ln 0 * n
  | h + 2, n => if ls (h + 1) = 102 then costR ls ln (h + 1) n + ln (h + 1) else if ls (h + 1) = 99 then (if ln (h + 1) < costR ls ln (h + 1) n then ln (h + 1) else costR ls ln (h + 1) n) else if ls (h + 1) = 100 then costR ls ln (h + 1) (if ln (h + 1) < n then n + (n - ln (h + 1)) else n) else costR ls ln (h + 1) n - (costR ls ln (h + 1) n * ln (h + 1)) / 100
def dbl (ls ln : Nat → Int32) : Nat → Int32 → Int32
  | 0, n => n
  | k + 1, n => dbl ls ln k (if ls k = 100 then n + (if 0 < n - ln k then n - ln k else 0) else n + 0)
def upS (ls ln : Nat → Int32) (j : Nat) (am : Int32) : Int32 := if ls j = 102 then am + ln j else if ls j = 99 then (if ln j < am then ln j else am) else if ls j = 112 then am - (am * ln j) / 100 else am
def ups (ls ln : Nat → Int32) : Nat → Nat → Int32 → Int32
  | 0, _, am => am
  | k + 1, j, am => ups ls ln k (j + 1) (upS ls ln j am)
section CT
variable {ly : Nat → Ly} {ls ln : Nat → Int32} {lm : Nat → Nat} {Ls Lnum : Nat → Nat → Int32} {kd : Nat} {M : Int32}
theorem upS_1 {j : Nat} {am : Int32} (h : ls j = 102) : upS ls ln j am = am + ln j := by
  rw [upS, if_pos h]
theorem upS_2 {j : Nat} {am : Int32} (h : ls j = 99) : upS ls ln j am = if ln j < am then ln j else am := by
  rw [upS, if_neg (by rw [h]; decide), if_pos h]
theorem upS_3 {j : Nat} {am : Int32} (h : ls j = 100) : upS ls ln j am = am := by
  rw [upS, if_neg (by rw [h]; decide), if_neg (by rw [h]; decide), if_neg (by rw [h]; decide)]
theorem upS_4 {j : Nat} {am : Int32} (h : ls j = 112) : upS ls ln j am = am - (am * ln j) / 100 := by
  rw [upS, if_neg (by rw [h]; decide), if_neg (by rw [h]; decide), if_pos h]
theorem cR_1 {h : Nat} {n : Int32} (e : ls (h + 1) = 102) : costR ls ln (h + 2) n = costR ls ln (h + 1) n + ln (h + 1) := by
  rw [costR, if_pos e]
theorem cR_2 {h : Nat} {n : Int32} (e : ls (h + 1) = 99) : costR ls ln (h + 2) n = if ln (h + 1) < costR ls ln (h + 1) n then ln (h + 1) else costR ls ln (h + 1) n := by
  rw [costR, if_neg (by rw [e]; decide), if_pos e]
theorem cR_3 {h : Nat} {n : Int32} (e : ls (h + 1) = 100) : costR ls ln (h + 2) n = costR ls ln (h + 1) (if ln (h + 1) < n then n + (n - ln (h + 1)) else n) := by
  rw [costR, if_neg (by rw [e]; decide), if_neg (by rw [e]; decide), if_pos e]
theorem cR_4 {h : Nat} {n : Int32} (e : ls (h + 1) = 112) : costR ls ln (h + 2) n = costR ls ln (h + 1) n - (costR ls ln (h + 1) n * ln (h + 1)) / 100 := by
  rw [costR, if_neg (by rw [e]; decide), if_neg (by rw [e]; decide), if_neg (by rw [e]; decide)]
theorem dbl_n {k : Nat} {n : Int32} (e : ¬ ls k = 100) : dbl ls ln (k + 1) n = dbl ls ln k n := by
  rw [dbl, if_neg e, Int32.add_zero]
theorem dbl_d {k : Nat} {n : Int32} (e : ls k = 100) : dbl ls ln (k + 1) n = dbl ls ln k (n + (if 0 < n - ln k then n - ln k else 0)) := by
  rw [dbl, if_pos e]
section A1
variable {l : Nat} {n : Int32} {lv : Int32 → Int32}
theorem ask_0 (h6 : ¬ 6 < lyHt (ly l)) (e : lySort (ly l) = 0) : f_c_ask1 ly l n lv = lyAm (ly l) * n := by
  rw [f_c_ask1, if_neg h6, if_neg (by rw [e]; decide), if_neg (by rw [e]; decide), if_neg (by rw [e]; decide), if_neg (by rw [e]; decide)]
theorem ask_1 (h6 : ¬ 6 < lyHt (ly l)) (e : lySort (ly l) = 1) : f_c_ask1 ly l n lv = lv n + lyAm (ly l) := by
  rw [f_c_ask1, if_neg h6, if_pos e]
theorem ask_2 (h6 : ¬ 6 < lyHt (ly l)) (e : lySort (ly l) = 2) : f_c_ask1 ly l n lv = if lyAm (ly l) < lv n then lyAm (ly l) else lv n := by
  rw [f_c_ask1, if_neg h6, if_neg (by rw [e]; decide), if_pos e]
theorem ask_3 (h6 : ¬ 6 < lyHt (ly l)) (e : lySort (ly l) = 3) : f_c_ask1 ly l n lv = if lyAm (ly l) < n then lv (n + (n - lyAm (ly l))) else lv n := by
  rw [f_c_ask1, if_neg h6, if_neg (by rw [e]; decide), if_neg (by rw [e]; decide), if_pos e]
theorem ask_4 (h6 : ¬ 6 < lyHt (ly l)) (e : lySort (ly l) = 4) : f_c_ask1 ly l n lv = lv n - (lv n * lyAm (ly l)) / 100 := by
  rw [f_c_ask1, if_neg h6, if_neg (by rw [e]; decide), if_neg (by rw [e]; decide), if_neg (by rw [e]; decide), if_pos e]
end A1
theorem chain_ht : ∀ {h l : Nat}, ChainP ly ls ln h l → lyHt (ly l) = nI h
  | 0, l, c => c.elim
  | 1, l, c => c.2.2.2
  | h + 2, l, c => c.2.2.1
theorem chain_ask : ∀ (h l r : Nat) (n : Int32), ChainP ly ls ln h l → h ≤ 6 → h ≤ r → askF ly r (some l) n = costR ls ln h n
  | 0, l, r, n, c, _, _ => c.elim
  | 1, l, r, n, c, h6, hr => by
    obtain ⟨c1, c2, c3, c4⟩ := c
    obtain ⟨r', rfl⟩ := Nat.exists_eq_add_of_le' hr
    rw [askF, ask_0 (by rw [c4]; decide) c1, c2, costR]
  | h + 2, l, r, n, c, h6, hr => by
    obtain ⟨c1, c2, c3, b, c4, c5⟩ := c
    obtain ⟨r', rfl⟩ := Nat.exists_eq_add_of_le' (show 1 ≤ r by omega)
    have ih : ∀ x, askF ly r' (lyBel (ly l)) x = costR ls ln (h + 1) x := fun x => by rw [c4]; exact chain_ask (h + 1) b r' x c5 (by omega) (by omega)
    have h6' : ¬ 6 < lyHt (ly l) := by
      rw [c3, i_lt, nI_toInt (by omega)]
      show ¬ (6 : Int) < _
      omega
    rw [askF]
    rcases c1 with ⟨s1, s2⟩ | ⟨s1, s2⟩ | ⟨s1, s2⟩ | ⟨s1, s2⟩
    · rw [ask_1 h6' s1, cR_1 s2, c2, ih]
    · rw [ask_2 h6' s1, cR_2 s2, c2, ih]
    · rw [ask_3 h6' s1, cR_3 s2, c2]
      by_cases c : ln (h + 1) < n
      · rw [if_pos c, if_pos c, ih]
      · rw [if_neg c, if_neg c, ih]
    · rw [ask_4 h6' s1, cR_4 s2, c2, ih]
theorem ups_app : ∀ (k j : Nat) (am : Int32), ups ls ln (k + 1) j am = upS ls ln (j + k) (ups ls ln k j am)
  | 0, j, am => rfl
  | k + 1, j, am => by
    rw [ups, ups_app k (j + 1), show j + 1 + k = j + (k + 1) by omega, ups]
theorem cost_up (h0 : ¬ ls 0 = 100) (hln : ∀ i, 0 ≤ (ln i).toInt ∧ (ln i).toInt ≤ 9999) (hS : ∀ i, 1 ≤ i → ls i = 102 ∨ ls i = 99 ∨ ls i = 100 ∨ ls i = 112 ∨ True) : ∀ (h : Nat) (n : Int32), 0 ≤ n.toInt → n.toInt * 2 ^ h ≤ 1000000 → (∀ i, 1 ≤ i → i ≤ h → ls i = 102 ∨ ls i = 99 ∨ ls i = 100 ∨ ls i = 112) → costR ls ln (h + 1) n = ups ls ln h 1 (ln 0 * dbl ls ln (h + 1) n)
  | 0, n, _, _, _ => by
    rw [costR, ups, dbl_n h0, dbl]
  | h + 1, n, hn0, hn1, hs => by
    have hp : (1 : Int) ≤ 2 ^ h := by
      have : (1 : Nat) ≤ 2 ^ h := Nat.one_le_two_pow
      exact_mod_cast this
    have h2 : n.toInt * 2 ^ (h + 1) = 2 * (n.toInt * 2 ^ h) := by rw [Int.pow_succ]; generalize (2 : Int) ^ h = z; rw [← Int.mul_assoc]; omega
    have hb : n.toInt ≤ n.toInt * 2 ^ h := by
      have := Int.mul_le_mul_of_nonneg_left hp hn0
      omega
    rw [ups_app]
    have ih := fun (m : Int32) a b => cost_up h0 hln hS h m a b (fun i i1 i2 => hs i i1 (by omega))
    rw [show 1 + h = h + 1 by omega]
    rcases hs (h + 1) (by omega) (by omega) with s | s | s | s
    · rw [upS_1 s, cR_1 s, dbl_n (by rw [s]; decide), ih n hn0 (by omega)]
    · rw [upS_2 s, cR_2 s, dbl_n (by rw [s]; decide), ih n hn0 (by omega)]
    · rw [upS_3 s, cR_3 s, dbl_d s]
      obtain ⟨l0, l1⟩ := hln (h + 1)
      have e1 : (n - ln (h + 1)).toInt = n.toInt - (ln (h + 1)).toInt := i_sub (by omega) (by omega)
      have e0 : (0 : Int32).toInt = 0 := rfl
      by_cases c : ln (h + 1) < n
      · have c2 : 0 < n - ln (h + 1) := by
          rw [i_lt, e1, e0]
          rw [i_lt] at c
          omega
        have c' := i_lt.mp c
        have e3 : (n + (n - ln (h + 1))).toInt = n.toInt + (n.toInt - (ln (h + 1)).toInt) := by rw [i_add (by omega) (by omega), e1]
        rw [if_pos c, if_pos c2, ih (n + (n - ln (h + 1))) (by omega) (by
          rw [e3]
          have hz : (0 : Int) ≤ 2 ^ h := by omega
          have : (n.toInt + (n.toInt - (ln (h + 1)).toInt)) * 2 ^ h ≤ (2 * n.toInt) * 2 ^ h := Int.mul_le_mul_of_nonneg_right (by omega) hz
          have e : (2 * n.toInt) * 2 ^ h = 2 * (n.toInt * 2 ^ h) := Int.mul_assoc _ _ _
          omega)]
      · have c2 : ¬ 0 < n - ln (h + 1) := by
          rw [i_lt, e1, e0]
          rw [i_lt] at c
          omega
        rw [if_neg c, if_neg c2, Int32.add_zero, ih n hn0 (by omega)]
    · rw [upS_4 s, cR_4 s, dbl_n (by rw [s]; decide), ih n hn0 (by omega)]
theorem cost_L18 : ∀ (k : Nat) (n : Int32) (A : Nat → Int32), k ≤ 6 → (r_cost_L18 Lnum Ls kd M k n A).2 0 = if k = 0 then A 0 else dbl (Ls kd) (Lnum kd) k n
  | 0, n, A, _ => rfl
  | k + 1, n, A, h => by
    rw [r_cost_L18, if_neg (nI_pos (by omega)), if_neg (show ¬ k + 1 = 0 by omega), dbl]
    by_cases c : Ls kd k = 100
    · rw [if_pos c, if_pos c, cost_L18 k _ _ (by omega)]
      by_cases e : k = 0
      · subst e
        rw [if_pos rfl, fup_same, dbl]
      · rw [if_neg e]
    · rw [if_neg c, if_neg c, cost_L18 k _ _ (by omega)]
      by_cases e : k = 0
      · subst e
        rw [if_pos rfl, fup_same, dbl]
      · rw [if_neg e]
theorem cost_L89 : ∀ (k j : Nat) (am : Int32), (r_cost_L89 lm Lnum Ls kd M k j am).1 = ups (Ls kd) (Lnum kd) k j am
  | 0, j, am => rfl
  | k + 1, j, am => by
    rw [r_cost_L89, ups, upS]
    by_cases c1 : Ls kd j = 102
    · rw [if_pos c1, if_pos c1, cost_L89 k (j + 1)]
    · rw [if_neg c1, if_neg c1]
      by_cases c2 : Ls kd j = 99
      · rw [if_pos c2, if_pos c2, cost_L89 k (j + 1)]
      · rw [if_neg c2, if_neg c2]
        by_cases c3 : Ls kd j = 112
        · rw [if_pos c3, if_pos c3, cost_L89 k (j + 1)]
        · rw [if_neg c3, if_neg c3, cost_L89 k (j + 1)]
theorem chain_sort : ∀ {h l : Nat}, ChainP ly ls ln h l → ∀ i, 1 ≤ i → i < h → ls i = 102 ∨ ls i = 99 ∨ ls i = 100 ∨ ls i = 112
  | 0, l, c, i, _, _ => c.elim
  | 1, l, c, i, h1, h2 => by omega
  | h + 2, l, c, i, h1, h2 => by
    obtain ⟨c1, -, -, b, -, c5⟩ := c
    by_cases e : i = h + 1
    · subst e
      rcases c1 with ⟨-, s⟩ | ⟨-, s⟩ | ⟨-, s⟩ | ⟨-, s⟩
      · exact Or.inl s
      · exact Or.inr (Or.inl s)
      · exact Or.inr (Or.inr (Or.inl s))
      · exact Or.inr (Or.inr (Or.inr s))
    · exact chain_sort c5 i h1 (by omega)
/-- the tariffs of the four kinds -/
def TarOk (ly : Nat → Ly) (tf : Nat → Nat) (Ls Lnum : Nat → Nat → Int32) (lm : Nat → Nat) : Prop := ∀ k, k < 4 → ChainP ly (Ls k) (Lnum k) (lm k) (tf k) ∧ Ls k 0 = 114 ∧ ∀ i, 0 ≤ (Lnum k i).toInt ∧ (Lnum k i).toInt ≤ 9999
theorem cost_eq {tf : Nat → Nat} (hT : TarOk ly tf Ls Lnum lm) (hk : kd < 4) (hl : 1 ≤ lm kd ∧ lm kd ≤ 6) (h0 : 0 ≤ M.toInt) (h1 : M.toInt ≤ 480) : f_c_ask ly (tf kd) M = (f_r_cost lm Lnum Ls kd M).1 := by
  obtain ⟨c, c0, cn⟩ := hT kd hk
  unfold f_c_ask f_r_cost
  rw [cost_L89, chain_ask (lm kd) (tf kd) 6 M c hl.2 hl.2, cost_L18 (lm kd) M _ hl.2, if_neg (by omega)]
  obtain ⟨h, hh⟩ := Nat.exists_eq_add_of_le' hl.1
  rw [hh, Nat.add_sub_cancel]
  have hpow : (2 : Int) ^ h ≤ 2 ^ 5 := by
    have : (2 : Nat) ^ h ≤ 2 ^ 5 := Nat.pow_le_pow_right (by decide) (by omega)
    exact_mod_cast this
  exact cost_up (by rw [c0]; decide) cn (fun i _ => Or.inr (Or.inr (Or.inr (Or.inr trivial)))) h M h0 (by
    have : M.toInt * 2 ^ h ≤ M.toInt * 2 ^ 5 := Int.mul_le_mul_of_nonneg_left hpow h0
    omega) (fun i i1 i2 => chain_sort c i i1 (by omega))
/-- a chain stands, when rows change above it only, and layers beyond the old ones -/
theorem chain_keep {ly' : Nat → Ly} {ls' ln' : Nat → Int32} {N : Nat} (hly : ∀ l, l < N → ly' l = ly l) (hok : LyOk N ly) : ∀ {h l : Nat}, l < N → (∀ i, i < h → ls' i = ls i ∧ ln' i = ln i) → ChainP ly ls ln h l → ChainP ly' ls' ln' h l
  | 0, l, _, _, c => c.elim
  | 1, l, hl, hi, c => by
    unfold ChainP at *
    rw [hly l hl, (hi 0 (by omega)).2]
    exact c
  | h + 2, l, hl, hi, c => by
    obtain ⟨c1, c2, c3, b, c4, c5⟩ := c
    obtain ⟨k, -, -, -, k4⟩ := hok l hl
    rw [c4] at k4
    refine ⟨?_, ?_, ?_, b, ?_, chain_keep hly hok (by have := k4.1; omega) (fun i hi' => hi i (by omega)) c5⟩
    · rw [hly l hl, (hi (h + 1) (by omega)).1]
      exact c1
    · rw [hly l hl, (hi (h + 1) (by omega)).2]
      exact c2
    · rw [hly l hl]
      exact c3
    · rw [hly l hl]
      exact c4
end CT
theorem gr1 (a b c : Int32) : a + b - (c + b) = a - c := by grind
theorem gr2 (a b c d : Int32) : a - (b + (c + d)) = a - b - d - c := by grind
