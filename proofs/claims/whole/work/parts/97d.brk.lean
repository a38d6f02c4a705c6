/-! breakages: how a cost is shared, class and reference alike -/
theorem sN_add {f g : Nat → Nat} : ∀ k j, sN (fun q => f q + g q) k j = sN f k j + sN g k j
  | 0, j => rfl
  | k + 1, j => by
    rw [sN, sN, sN, sN_add k (j + 1)]
    omega
theorem sN_congr {f g : Nat → Nat} : ∀ k j, (∀ q, j ≤ q → q < j + k → f q = g q) → sN f k j = sN g k j
  | 0, _, _ => rfl
  | k + 1, j, h => by rw [sN, sN, h j (by omega) (by omega), sN_congr k (j + 1) (fun q h1 h2 => h q (by omega) (by omega))]
theorem sN_zero {f : Nat → Nat} : ∀ k j, (∀ q, j ≤ q → q < j + k → f q = 0) → sN f k j = 0
  | 0, _, _ => rfl
  | k + 1, j, h => by rw [sN, h j (by omega) (by omega), sN_zero k (j + 1) (fun q h1 h2 => h q (by omega) (by omega))]
theorem sN_le {f : Nat → Nat} {B : Nat} : ∀ k j, (∀ q, j ≤ q → q < j + k → f q ≤ B) → sN f k j ≤ B * k
  | 0, _, _ => Nat.zero_le _
  | k + 1, j, h => by
    have h1 := h j (by omega) (by omega)
    have h2 := sN_le k (j + 1) (fun q h1 h2 => h q (by omega) (by omega))
    rw [sN, Nat.mul_succ]
    omega
theorem sN_ge {f : Nat → Nat} {e : Nat} : ∀ k j, j ≤ e → e < j + k → f e ≤ sN f k j
  | 0, j, h1, h2 => absurd h2 (by omega)
  | k + 1, j, h1, h2 => by
    rw [sN]
    by_cases h : e = j
    · subst h
      omega
    · have := sN_ge (f := f) k (j + 1) (show j + 1 ≤ e by omega) (by omega)
      omega
theorem sN_single {a c : Nat} : ∀ k j, j ≤ a → a < j + k → sN (fun q => if a = q then c else 0) k j = c
  | 0, j, h1, h2 => absurd h2 (by omega)
  | k + 1, j, h1, h2 => by
    rw [sN]
    by_cases h : a = j
    · rw [if_pos h, sN_zero k (j + 1) (fun q q1 q2 => if_neg (by omega))]
      omega
    · rw [if_neg h, sN_single k (j + 1) (by omega) (by omega)]
      omega
/-- the order of summing does not matter -/
theorem sN_swap {Q : Nat → Bool} {ow f : Nat → Nat} {N : Nat} : ∀ k j, (∀ e, j ≤ e → e < j + k → ow e < N) → sN (fun m => sN (fun e => if Q e = true ∧ ow e = m then f e else 0) k j) N 0 = sN (fun e => if Q e = true then f e else 0) k j
  | 0, j, _ => sN_zero N 0 (fun _ _ _ => rfl)
  | k + 1, j, h => by
    have h1 : sN (fun m => sN (fun e => if Q e = true ∧ ow e = m then f e else 0) (k + 1) j) N 0 = sN (fun m => (if Q j = true ∧ ow j = m then f j else 0) + sN (fun e => if Q e = true ∧ ow e = m then f e else 0) k (j + 1)) N 0 := sN_congr N 0 (fun q _ _ => rfl)
    rw [h1, sN_add, sN_swap k (j + 1) (fun e e1 e2 => h e (by omega) (by omega)), sN]
    congr 1
    have hj := h j (by omega) (by omega)
    by_cases c : Q j = true
    · rw [if_pos c]
      refine Eq.trans (sN_congr N 0 (fun q _ _ => ?_)) (sN_single (a := ow j) (c := f j) N 0 (by omega) (by omega))
      by_cases c2 : ow j = q
      · rw [if_pos ⟨c, c2⟩, if_pos c2]
      · rw [if_neg (fun z => c2 z.2), if_neg c2]
    · rw [if_neg c]
      exact sN_zero N 0 (fun q _ _ => if_neg (fun z => c z.1))
/-- done on the machine in the week before -/
def QB (mo : Nat → Nat) (dy sta : Nat → Int32) (mc : Nat) (day : Int32) (e : Nat) : Bool := decide (sta e = 100 ∧ mo e = mc ∧ day.toInt - 7 ≤ (dy e).toInt ∧ (dy e).toInt ≤ day.toInt - 1)
section BR
variable {n mc : Nat} {ow mo : Nat → Nat} {dy st le sta : Nat → Int32} {day X : Int32}
theorem blame_s (hE : EOk n dy st le) (hd0 : 0 ≤ day.toInt) (hd1 : day.toInt ≤ 900) {m : Nat} : ∀ k j s, j + k ≤ n → c_blame_L5 day mo dy le ow sta m mc k j s = s + nI (sN (fun e => if QB mo dy sta mc day e = true ∧ ow e = m then sM le e else 0) k j)
  | 0, j, s, _ => by
    rw [c_blame_L5, sN]
    exact (Int32.add_zero _).symm
  | k + 1, j, s, h => by
    have ih := fun s => blame_s hE hd0 hd1 (m := m) k (j + 1) s (by omega)
    obtain ⟨-, -, -, -, k5⟩ := sM_I hE (show j < n by omega)
    have e7 : (day - 7).toInt = day.toInt - 7 := i_sub (by show _ ≤ _ - (7 : Int); omega) (by show _ - (7 : Int) < _; omega)
    rw [c_blame_L5, sN, ← nI_add]
    have no : ¬ (QB mo dy sta mc day j = true ∧ ow j = m) → s + nI (sN (fun e => if QB mo dy sta mc day e = true ∧ ow e = m then sM le e else 0) k (j + 1)) = s + (nI (if QB mo dy sta mc day j = true ∧ ow j = m then sM le j else 0) + nI (sN (fun e => if QB mo dy sta mc day e = true ∧ ow e = m then sM le e else 0) k (j + 1))) := fun z => by
      rw [if_neg z, nI_0, Int32.zero_add]
    by_cases c1 : sta j = 100
    · rw [if_pos c1]
      by_cases c2 : ow j = m
      · rw [if_pos c2]
        by_cases c3 : mo j = mc
        · rw [if_pos c3]
          by_cases c4 : dy j < day
          · rw [if_pos c4]
            have c4' := i_lt.mp c4
            by_cases c5 : dy j < day - 7
            · rw [if_pos c5, ih]
              rw [i_lt, e7] at c5
              exact no (fun z => by have := of_decide_eq_true z.1; omega)
            · rw [if_neg c5, ih]
              rw [i_lt, e7] at c5
              rw [if_pos ⟨decide_eq_true ⟨c1, c3, by omega, by omega⟩, c2⟩, ← Int32.add_assoc, ← k5]
          · rw [if_neg c4, ih]
            rw [i_lt] at c4
            exact no (fun z => by have := of_decide_eq_true z.1; omega)
        · rw [if_neg c3, ih]
          exact no (fun z => c3 (of_decide_eq_true z.1).2.1)
      · rw [if_neg c2, ih]
        exact no (fun z => c2 z.2)
    · rw [if_neg c1, ih]
      exact no (fun z => c1 (of_decide_eq_true z.1).1)
theorem r64_s (hE : EOk n dy st le) (hd0 : 0 ≤ day.toInt) (hd1 : day.toInt ≤ 900) : ∀ k j tot A, j + k ≤ n → (r_breakDown_L64 day dy le mo ow sta mc X k j tot A).1 = tot + nI (sN (fun e => if QB mo dy sta mc day e = true then sM le e else 0) k j) ∧ ∀ m, (r_breakDown_L64 day dy le mo ow sta mc X k j tot A).2 m = A m + nI (sN (fun e => if QB mo dy sta mc day e = true ∧ ow e = m then sM le e else 0) k j)
  | 0, j, tot, A, _ => by
    rw [r_breakDown_L64, sN]
    exact ⟨(Int32.add_zero _).symm, fun m => by rw [sN]; exact (Int32.add_zero _).symm⟩
  | k + 1, j, tot, A, h => by
    have ih := fun tot A => r64_s hE hd0 hd1 k (j + 1) tot A (by omega)
    obtain ⟨-, -, -, -, k5⟩ := sM_I hE (show j < n by omega)
    have e7 : (day - 7).toInt = day.toInt - 7 := i_sub (by show _ ≤ _ - (7 : Int); omega) (by show _ - (7 : Int) < _; omega)
    have e1 : (day - 1).toInt = day.toInt - 1 := i_sub (by show _ ≤ _ - (1 : Int); omega) (by show _ - (1 : Int) < _; omega)
    have no : ¬ (QB mo dy sta mc day j = true) → ((r_breakDown_L64 day dy le mo ow sta mc X k (j + 1) tot A).1 = tot + nI (sN (fun e => if QB mo dy sta mc day e = true then sM le e else 0) (k + 1) j) ∧ ∀ m, (r_breakDown_L64 day dy le mo ow sta mc X k (j + 1) tot A).2 m = A m + nI (sN (fun e => if QB mo dy sta mc day e = true ∧ ow e = m then sM le e else 0) (k + 1) j)) := fun z => by
      obtain ⟨i1, i2⟩ := ih tot A
      refine ⟨?_, fun m => ?_⟩
      · rw [i1, sN, if_neg z, Nat.zero_add]
      · rw [i2, sN, if_neg (fun q => z q.1), Nat.zero_add]
    rw [r_breakDown_L64]
    by_cases c1 : sta j = 100
    · rw [if_pos c1]
      by_cases c3 : mo j = mc
      · rw [if_pos c3]
        by_cases c4 : f_r_in (dy j) (day - 7) (day - 1) = true
        · rw [if_pos c4]
          rw [in_iff, e7, e1] at c4
          have hq : QB mo dy sta mc day j = true := decide_eq_true ⟨c1, c3, c4.1, c4.2⟩
          obtain ⟨i1, i2⟩ := ih (tot + le j) (fup A (ow j) (A (ow j) + le j))
          refine ⟨?_, fun m => ?_⟩
          · rw [i1, sN, if_pos hq, ← nI_add, ← Int32.add_assoc, ← k5]
          · rw [i2, sN]
            by_cases c2 : ow j = m
            · subst c2
              rw [fup_same, if_pos ⟨hq, rfl⟩, ← nI_add, ← Int32.add_assoc, ← k5]
            · rw [fup_ne (fun z => c2 z.symm), if_neg (fun z => c2 z.2), Nat.zero_add]
        · rw [if_neg c4]
          rw [in_iff, e7, e1] at c4
          exact no (fun z => c4 ⟨(of_decide_eq_true z).2.2.1, (of_decide_eq_true z).2.2.2⟩)
      · rw [if_neg c3]
        exact no (fun z => c3 (of_decide_eq_true z).2.1)
    · rw [if_neg c1]
      exact no (fun z => c1 (of_decide_eq_true z).1)
theorem l43_s {m : Nat → Nat} (hb : ∀ q, f_c_blame day mo dy le ow n sta q mc = nI (m q)) : ∀ k j tot A, (c_breakDown_L43 day mo dy le ow n sta mc X k j tot A).1 = tot + nI (sN m k j) ∧ ∀ q, (c_breakDown_L43 day mo dy le ow n sta mc X k j tot A).2 q = if j ≤ q ∧ q < j + k then nI (m q) else A q
  | 0, j, tot, A => by
    rw [c_breakDown_L43, sN]
    exact ⟨(Int32.add_zero _).symm, fun q => by rw [if_neg (by omega)]⟩
  | k + 1, j, tot, A => by
    obtain ⟨i1, i2⟩ := l43_s hb k (j + 1) (tot + ((fup A j (f_c_blame day mo dy le ow n sta j mc)) j)) (fup A j (f_c_blame day mo dy le ow n sta j mc))
    rw [c_breakDown_L43]
    refine ⟨?_, fun q => ?_⟩
    · rw [i1, sN, fup_same, hb, ← nI_add, ← Int32.add_assoc]
    · rw [i2]
      by_cases c : j + 1 ≤ q ∧ q < j + 1 + k
      · rw [if_pos c, if_pos (by omega)]
      · rw [if_neg c]
        by_cases e : q = j
        · subst e
          rw [fup_same, hb, if_pos (by omega)]
        · rw [fup_ne e, if_neg (by omega)]
end BR
/-! the quotients -/
section SP
variable {x T N : Nat} {m : Nat → Nat} {A2 : Nat → Int32}
theorem quo {a : Nat} (hx : x ≤ 100000) (ha : a ≤ 100000) (hT : 0 < T) (hT2 : T ≤ 100000) : (((nI x).toInt64 * (nI a).toInt64) / (nI T).toInt64).toInt32 = nI (x * a / T) ∧ ((nI x).toInt64 * (nI a).toInt64) - ((nI x).toInt64 * (nI a).toInt64) / (nI T).toInt64 * (nI T).toInt64 = lN (x * a % T) := by
  have hm : x * a ≤ 100000 * 100000 := Nat.mul_le_mul hx ha
  rw [nI_l (by omega), nI_l (by omega), nI_l (by omega), lN_mul, pk_lRem (by omega) hT (by omega), pk_lDiv (by omega) hT (by omega), lN_i]
  exact ⟨rfl, rfl⟩
theorem l23_s (hx : x ≤ 100000) (hm : ∀ q, m q ≤ 100000) (hT : 0 < T) (hT2 : T ≤ 100000) : ∀ k j lf A3 A4, j + k ≤ N → (∀ q, q < N → A2 q = nI (m q)) → (c_split_L23 (nI x) (nI T) N A2 k j lf A3 A4).1 = lf - nI (sN (fun q => x * m q / T) k j) ∧ (∀ q, (c_split_L23 (nI x) (nI T) N A2 k j lf A3 A4).2.1 q = if j ≤ q ∧ q < j + k then nI (x * m q / T) else A3 q) ∧ ∀ q, (c_split_L23 (nI x) (nI T) N A2 k j lf A3 A4).2.2 q = if j ≤ q ∧ q < j + k then nI (x * m q % T) else A4 q
  | 0, j, lf, A3, A4, _, _ => by
    rw [c_split_L23, sN]
    exact ⟨(Int32.sub_zero _).symm, fun q => by rw [if_neg (by omega)], fun q => by rw [if_neg (by omega)]⟩
  | k + 1, j, lf, A3, A4, h, hA => by
    obtain ⟨q1, q2⟩ := quo (x := x) (T := T) hx (hm j) hT hT2
    have h1 : c_split_L23 (nI x) (nI T) N A2 (k + 1) j lf A3 A4 = c_split_L23 (nI x) (nI T) N A2 k (j + 1) (lf - nI (x * m j / T)) (fup A3 j (nI (x * m j / T))) (fup A4 j (nI (x * m j % T))) := by
      rw [c_split_L23, fup_same, hA j (by omega), q1, q2, lN_i]
    obtain ⟨i1, i2, i3⟩ := l23_s hx hm hT hT2 k (j + 1) (lf - nI (x * m j / T)) (fup A3 j (nI (x * m j / T))) (fup A4 j (nI (x * m j % T))) (by omega) hA
    rw [h1]
    refine ⟨?_, fun q => ?_, fun q => ?_⟩
    · rw [i1, sN, ← nI_add]
      grind
    · rw [i2]
      by_cases c : j + 1 ≤ q ∧ q < j + 1 + k
      · rw [if_pos c, if_pos (by omega)]
      · rw [if_neg c]
        by_cases e : q = j
        · subst e
          rw [fup_same, if_pos (by omega)]
        · rw [fup_ne e, if_neg (by omega)]
    · rw [i3]
      by_cases c : j + 1 ≤ q ∧ q < j + 1 + k
      · rw [if_pos c, if_pos (by omega)]
      · rw [if_neg c]
        by_cases e : q = j
        · subst e
          rw [fup_same, if_pos (by omega)]
        · rw [fup_ne e, if_neg (by omega)]
theorem r194_s {brk n mc : Nat} {ow mo : Nat → Nat} {dy le sta : Nat → Int32} {day : Int32} (hx : x ≤ 100000) (hm : ∀ q, m q ≤ 100000) (hT : 0 < T) (hT2 : T ≤ 100000) (e1 : (r_breakDown_L64 day dy le mo ow sta mc (nI x) n 0 0 (fun _ => 0)).1 = nI T) (e2 : ∀ q, (r_breakDown_L64 day dy le mo ow sta mc (nI x) n 0 0 (fun _ => 0)).2 q = nI (m q)) : ∀ k j lf A7 Sh, (r_breakDown_L194 brk day dy n le mo ow sta mc (nI x) k j lf A7 Sh).1 = lf - nI (sN (fun q => x * m q / T) k j) ∧ (∀ q, (r_breakDown_L194 brk day dy n le mo ow sta mc (nI x) k j lf A7 Sh).2.1 q = if j ≤ q ∧ q < j + k then lN (x * m q % T) else A7 q) ∧ (∀ q, (r_breakDown_L194 brk day dy n le mo ow sta mc (nI x) k j lf A7 Sh).2.2 brk q = if j ≤ q ∧ q < j + k then nI (x * m q / T) else Sh brk q) ∧ ∀ b, b ≠ brk → (r_breakDown_L194 brk day dy n le mo ow sta mc (nI x) k j lf A7 Sh).2.2 b = Sh b
  | 0, j, lf, A7, Sh => by
    rw [r_breakDown_L194, sN]
    exact ⟨(Int32.sub_zero _).symm, fun q => by rw [if_neg (by omega)], fun q => by rw [if_neg (by omega)], fun b _ => rfl⟩
  | k + 1, j, lf, A7, Sh => by
    obtain ⟨q1, q2⟩ := quo (x := x) (T := T) hx (hm j) hT hT2
    have h1 : r_breakDown_L194 brk day dy n le mo ow sta mc (nI x) (k + 1) j lf A7 Sh = r_breakDown_L194 brk day dy n le mo ow sta mc (nI x) k (j + 1) (lf - nI (x * m j / T)) (fup A7 j (lN (x * m j % T))) (fup Sh brk (fup (Sh brk) j (nI (x * m j / T)))) := by
      rw [r_breakDown_L194, fup_same, fup_same, e1, e2, q1, q2]
    obtain ⟨i1, i2, i3, i4⟩ := r194_s (brk := brk) hx hm hT hT2 e1 e2 k (j + 1) (lf - nI (x * m j / T)) (fup A7 j (lN (x * m j % T))) (fup Sh brk (fup (Sh brk) j (nI (x * m j / T))))
    rw [h1]
    refine ⟨?_, fun q => ?_, fun q => ?_, fun b hb => ?_⟩
    · rw [i1, sN, ← nI_add]
      grind
    · rw [i2]
      by_cases c : j + 1 ≤ q ∧ q < j + 1 + k
      · rw [if_pos c, if_pos (by omega)]
      · rw [if_neg c]
        by_cases e : q = j
        · subst e
          rw [fup_same, if_pos (by omega)]
        · rw [fup_ne e, if_neg (by omega)]
    · rw [i3, fup_same]
      by_cases c : j + 1 ≤ q ∧ q < j + 1 + k
      · rw [if_pos c, if_pos (by omega)]
      · rw [if_neg c]
        by_cases e : q = j
        · subst e
          rw [fup_same, if_pos (by omega)]
        · rw [fup_ne e, if_neg (by omega)]
    · rw [i4 b hb, fup_ne hb]
end SP
/-! what is left is given out one by one -/
def FM (N : Nat) (v : Nat → Int) (b : Nat) : Prop := b < N ∧ 0 ≤ v b ∧ ∀ i, i < N → v i ≤ v b ∧ (v i = v b → b ≤ i)
theorem FM.uniq {N : Nat} {v : Nat → Int} {b b' : Nat} (h : FM N v b) (h' : FM N v b') : b = b' := by
  obtain ⟨h1, h2, h3⟩ := h
  obtain ⟨g1, g2, g3⟩ := h'
  have a1 := h3 b' g1
  have a2 := g3 b h1
  have e : v b = v b' := by omega
  have := a1.2 e.symm
  have := a2.2 e
  omega
section GV
variable {N brk p0 : Nat} {v : Nat → Int} {X : Int32}
theorem cg_loop {A4 : Nat → Int32} (hA : ∀ i, i < N → (A4 i).toInt = v i) : ∀ k j best, j + k = N → (best = none → ∀ i, i < j → v i < 0) → (∀ b, best = some b → b < j ∧ 0 ≤ v b ∧ ∀ i, i < j → v i ≤ v b ∧ (v i = v b → b ≤ i)) → (∃ i, i < N ∧ 0 ≤ v i) → ∃ b, c_greatest_L4 N A4 k j best = some b ∧ FM N v b
  | 0, j, best, hj, h0, h1, ⟨i, i1, i2⟩ => by
    cases best with
    | none => exact absurd (h0 rfl i (by omega)) (by omega)
    | some b =>
      obtain ⟨b1, b2, b3⟩ := h1 b rfl
      exact ⟨b, rfl, by omega, b2, fun i hi => b3 i (by omega)⟩
  | k + 1, j, best, hj, h0, h1, hex => by
    have ih := fun best a b => cg_loop hA k (j + 1) best (by omega) a b hex
    have hv := hA j (by omega)
    have e0 : (0 : Int32).toInt = 0 := rfl
    rw [c_greatest_L4]
    by_cases c : A4 j < 0
    · rw [if_pos c]
      rw [i_lt, e0, hv] at c
      refine ih best (fun e i hi => ?_) (fun b e => ?_)
      · by_cases ei : i = j
        · subst ei
          exact c
        · exact h0 e i (by omega)
      · obtain ⟨b1, b2, b3⟩ := h1 b e
        refine ⟨by omega, b2, fun i hi => ?_⟩
        by_cases ei : i = j
        · subst ei
          exact ⟨by omega, fun z => by omega⟩
        · exact b3 i (by omega)
    · rw [if_neg c]
      rw [i_lt, e0, hv] at c
      cases best with
      | none =>
        refine ih (some j) (fun e => (nomatch e)) (fun b e => ?_)
        cases e
        refine ⟨by omega, by omega, fun i hi => ?_⟩
        by_cases ei : i = j
        · subst ei
          exact ⟨Int.le_refl _, fun _ => Nat.le_refl _⟩
        · have := h0 rfl i (by omega)
          exact ⟨by omega, fun z => by omega⟩
      | some b =>
        obtain ⟨b1, b2, b3⟩ := h1 b rfl
        have hvb := hA b (by omega)
        show ∃ b', (if A4 b < A4 j then c_greatest_L4 N A4 k (j + 1) (some j) else c_greatest_L4 N A4 k (j + 1) (some b)) = some b' ∧ _
        by_cases c2 : A4 b < A4 j
        · rw [if_pos c2]
          rw [i_lt, hv, hvb] at c2
          refine ih (some j) (fun e => (nomatch e)) (fun b' e => ?_)
          cases e
          refine ⟨by omega, by omega, fun i hi => ?_⟩
          by_cases ei : i = j
          · subst ei
            exact ⟨Int.le_refl _, fun _ => Nat.le_refl _⟩
          · have := b3 i (by omega)
            exact ⟨by omega, fun z => by omega⟩
        · rw [if_neg c2]
          rw [i_lt, hv, hvb] at c2
          refine ih (some b) (fun e => (nomatch e)) (fun b' e => ?_)
          cases e
          refine ⟨by omega, b2, fun i hi => ?_⟩
          by_cases ei : i = j
          · subst ei
            exact ⟨by omega, fun _ => by omega⟩
          · exact b3 i (by omega)
theorem rg_loop {A7 : Nat → Int64} (hA : ∀ i, i < N → (A7 i).toInt = v i) : ∀ k j best, j + k = N → best < j → (∀ i, i < j → v i ≤ v best ∧ (v i = v best → best ≤ i)) → r_breakDown_L275 N p0 X A7 k j best < N ∧ ∀ i, i < N → v i ≤ v (r_breakDown_L275 N p0 X A7 k j best) ∧ (v i = v (r_breakDown_L275 N p0 X A7 k j best) → r_breakDown_L275 N p0 X A7 k j best ≤ i)
  | 0, j, best, hj, hb, h => by
    rw [r_breakDown_L275]
    exact ⟨by omega, fun i hi => h i (by omega)⟩
  | k + 1, j, best, hj, hb, h => by
    rw [r_breakDown_L275, if_pos (show j < N by omega)]
    have hv := hA j (by omega)
    have hvb := hA best (by omega)
    by_cases c : 0 < lg_cmp (A7 j) (A7 best)
    · rw [if_pos c]
      rw [lg_pos, Int64.lt_iff_toInt_lt, hv, hvb] at c
      refine rg_loop hA k (j + 1) j (by omega) (by omega) (fun i hi => ?_)
      by_cases ei : i = j
      · subst ei
        exact ⟨Int.le_refl _, fun _ => Nat.le_refl _⟩
      · have := h i (by omega)
        exact ⟨by omega, fun z => by omega⟩
    · rw [if_neg c]
      rw [lg_pos, Int64.lt_iff_toInt_lt, hv, hvb] at c
      refine rg_loop hA k (j + 1) best (by omega) (by omega) (fun i hi => ?_)
      by_cases ei : i = j
      · subst ei
        exact ⟨by omega, fun _ => by omega⟩
      · exact h i (by omega)
theorem cN_ex {p : Nat → Bool} : ∀ k j, 0 < cN p k j → ∃ i, j ≤ i ∧ i < j + k ∧ p i = true
  | 0, j, h => absurd h (by rw [cN]; omega)
  | k + 1, j, h => by
    rw [cN] at h
    by_cases c : p j = true
    · exact ⟨j, by omega, by omega, c⟩
    · rw [if_neg c, Nat.zero_add] at h
      obtain ⟨i, i1, i2, i3⟩ := cN_ex k (j + 1) h
      exact ⟨i, by omega, by omega, i3⟩
theorem cN_dec {p p' : Nat → Bool} {b : Nat} (h1 : p b = true) (h2 : p' b = false) (h : ∀ i, i ≠ b → p' i = p i) : ∀ k j, j ≤ b → b < j + k → cN p' k j + 1 = cN p k j
  | 0, j, b1, b2 => absurd b2 (by omega)
  | k + 1, j, b1, b2 => by
    rw [cN, cN]
    by_cases e : j = b
    · subst e
      rw [h1, h2, cN_congr k (j + 1) (fun q q1 q2 => h q (by omega)), if_pos rfl, if_neg (by decide)]
      omega
    · rw [h j e, ← cN_dec h1 h2 h k (j + 1) (by omega) (by omega)]
      omega
theorem give_eq {c t : Int32} {A2 : Nat → Int32} {l0 : Nat} (hl0 : (c_split_L23 c t N A2 N 0 c (fun _ => 0) (fun _ => 0)).1 = nI l0) (hl1 : l0 < 2 ^ 31) (hN : N ≤ 10) : ∀ (w jj : Nat) (A3 A4 : Nat → Int32) (A7 : Nat → Int64) (Sh : Nat → Nat → Int32) (v : Nat → Int), jj + w = l0 → w ≤ cN (fun i => decide (0 ≤ v i)) N 0 → (∀ i, i < N → (A4 i).toInt = v i) → (∀ i, i < N → (A7 i).toInt = v i) → (∀ i, i < N → A3 i = Sh brk i) →
    (∀ i, i < N → (c_split_L79 c t N A2 w jj A3 A4).1 i = (r_breakDown_L264 brk N p0 X w (nI w) A7 Sh).2.2 brk i) ∧ (∀ i, N ≤ i → (r_breakDown_L264 brk N p0 X w (nI w) A7 Sh).2.2 brk i = Sh brk i) ∧ ∀ b, b ≠ brk → (r_breakDown_L264 brk N p0 X w (nI w) A7 Sh).2.2 b = Sh b
  | 0, jj, A3, A4, A7, Sh, v, _, _, _, _, h3 => ⟨h3, fun i _ => rfl, fun b _ => rfl⟩
  | w + 1, jj, A3, A4, A7, Sh, v, hj, hw, h4, h7, h3 => by
    obtain ⟨i0, -, i2, i3⟩ := cN_ex N 0 (show 0 < cN (fun i => decide (0 ≤ v i)) N 0 by omega)
    have hex : ∃ i, i < N ∧ 0 ≤ v i := ⟨i0, by omega, of_decide_eq_true i3⟩
    obtain ⟨b, hb, hF⟩ := cg_loop h4 N 0 none (by omega) (fun _ i hi => absurd hi (by omega)) (fun b e => (nomatch e)) hex
    have hN1 : 1 ≤ N := by omega
    obtain ⟨g1, g2⟩ := rg_loop (p0 := p0) (X := X) h7 (N - 1) 1 0 (by omega) (by omega) (fun i hi => by
      have : i = 0 := by omega
      subst this
      exact ⟨Int.le_refl _, fun _ => Nat.le_refl _⟩)
    have hF2 : FM N v (r_breakDown_L275 N p0 X A7 (N - 1) 1 0) := ⟨g1, by have := (g2 i0 (by omega)).1; have := of_decide_eq_true i3; omega, g2⟩
    have hbb : r_breakDown_L275 N p0 X A7 (N - 1) 1 0 = b := FM.uniq hF2 hF
    obtain ⟨f1, f2, f3⟩ := hF
    have em1 : (-1 : Int32).toInt = -1 := rfl
    have em2 : (-1 : Int64).toInt = -1 := rfl
    have hc : c_split_L79 c t N A2 (w + 1) jj A3 A4 = c_split_L79 c t N A2 w (jj + 1) (fup A3 b (A3 b + 1)) (fup A4 b (-1)) := by
      rw [c_split_L79, hl0, if_pos ((nI_ltI (by omega) (by omega)).mpr (by omega))]
      unfold f_c_greatest
      rw [hb]
      rfl
    have hr : r_breakDown_L264 brk N p0 X (w + 1) (nI (w + 1)) A7 Sh = r_breakDown_L264 brk N p0 X w (nI w) (fup A7 b (-1)) (fup Sh brk (fup (Sh brk) b (Sh brk b + 1))) := by
      rw [r_breakDown_L264, if_pos (show 0 < nI (w + 1) from (nI_ltI (a := 0) (by omega) (by omega)).mpr (by omega)), hbb, pk_m1]
    have hdec := cN_dec (p := fun i => decide (0 ≤ v i)) (p' := fun i => decide (0 ≤ (if i = b then (-1 : Int) else v i))) (b := b) (decide_eq_true f2) (decide_eq_false (by rw [if_pos rfl]; omega)) (fun i hi => by show decide (0 ≤ (if i = b then (-1 : Int) else v i)) = _; rw [if_neg hi]) N 0 (by omega) (by omega)
    obtain ⟨r1, r2, r3⟩ := give_eq hl0 hl1 hN w (jj + 1) (fup A3 b (A3 b + 1)) (fup A4 b (-1)) (fup A7 b (-1)) (fup Sh brk (fup (Sh brk) b (Sh brk b + 1))) (fun i => if i = b then (-1 : Int) else v i) (by omega) (by omega) (fun i hi => by
      by_cases e : i = b
      · subst e
        rw [fup_same, if_pos rfl, em1]
      · rw [fup_ne e, if_neg e, h4 i hi]) (fun i hi => by
      by_cases e : i = b
      · subst e
        rw [fup_same, if_pos rfl, em2]
      · rw [fup_ne e, if_neg e, h7 i hi]) (fun i hi => by
      rw [fup_same]
      by_cases e : i = b
      · subst e
        rw [fup_same, fup_same, h3 i hi]
      · rw [fup_ne e, fup_ne e, h3 i hi])
    rw [hc, hr]
    refine ⟨r1, fun i hi => ?_, fun b' hb' => ?_⟩
    · rw [r2 i hi, fup_same, fup_ne (by omega)]
    · rw [r3 b' hb', fup_ne hb']
end GV
