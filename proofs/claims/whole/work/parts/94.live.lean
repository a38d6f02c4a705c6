/-! inductions, busy members, the letter of an entry: class and reference alike -/
def NeedOk (nb : Nat → Int32) (nd : Nat → Nat → Bool) : Prop := ∀ a b, a < 4 → b < 4 → (nb a &&& bt b = 0 ↔ nd a b = false)
def TakOk (tk : Nat → Nat → Int32) : Prop := ∀ m k, tk m k = -1 ∨ (0 ≤ (tk m k).toInt ∧ (tk m k).toInt ≤ 900)
theorem ex_step {P : Nat → Prop} {j k : Nat} : (∃ e, j ≤ e ∧ e < j + (k + 1) ∧ P e) ↔ P j ∨ ∃ e, j + 1 ≤ e ∧ e < j + 1 + k ∧ P e := by
  constructor
  · intro ⟨e, h1, h2, h3⟩
    by_cases he : e = j
    · subst he
      exact Or.inl h3
    · exact Or.inr ⟨e, by omega, by omega, h3⟩
  · intro h
    rcases h with h | ⟨e, h1, h2, h3⟩
    · exact ⟨j, by omega, by omega, h⟩
    · exact ⟨e, by omega, by omega, h3⟩
theorem ex_zero {P : Nat → Prop} {j : Nat} : ¬ ∃ e, j ≤ e ∧ e < j + 0 ∧ P e := fun ⟨e, h1, h2, _⟩ => by omega
section LV
variable {nb : Nat → Int32} {nd : Nat → Nat → Bool} {tk : Nat → Nat → Int32} {m kd : Nat} {D : Int32}
theorem nd_dec (h : NeedOk nb nd) {a b : Nat} (ha : a < 4) (hb : b < 4) : decide (nb a &&& bt b = 0) = !nd a b := by
  cases e : nd a b with
  | false => exact decide_eq_true ((h a b ha hb).mpr e)
  | true => exact decide_eq_false (fun z => by rw [(h a b ha hb).mp z] at e; cases e)
theorem live_L40f (lv : Nat → Bool) : ∀ k j, r_live1_L40 nd m kd D lv k j false = false
  | 0, _ => rfl
  | k + 1, j => by rw [r_live1_L40, if_neg (by decide)]
theorem live_L40 (lv : Nat → Bool) : ∀ k j, r_live1_L40 nd m kd D lv k j true = allN (fun q => !nd kd q || lv q) k j
  | 0, j => rfl
  | k + 1, j => by
    rw [r_live1_L40, if_pos rfl, allN]
    cases e : nd kd j with
    | false =>
      rw [if_neg (by decide), live_L40 lv k (j + 1)]
      rfl
    | true =>
      rw [if_pos rfl]
      cases e2 : lv j with
      | false =>
        rw [if_neg (by decide), live_L40f]
        rfl
      | true =>
        rw [if_pos rfl, live_L40 lv k (j + 1)]
        rfl
theorem allN_congr {f g : Nat → Bool} : ∀ k j, (∀ q, j ≤ q → q < j + k → f q = g q) → allN f k j = allN g k j
  | 0, _, _ => rfl
  | k + 1, j, h => by
    rw [allN, allN, h j (Nat.le_refl _) (by omega), allN_congr k (j + 1) (fun q h1 h2 => h q (by omega) (by omega))]
theorem allN_iff {f : Nat → Bool} : ∀ k j, allN f k j = true ↔ ∀ q, j ≤ q → q < j + k → f q = true
  | 0, j => ⟨fun _ q h1 h2 => absurd h2 (by omega), fun _ => rfl⟩
  | k + 1, j => by
    rw [allN, Bool.and_eq_true, allN_iff k (j + 1), all_step]
theorem fresh_eq {x : Int32} (hx : x = -1 ∨ (0 ≤ x.toInt ∧ x.toInt ≤ 900)) (h0 : 0 ≤ D.toInt) (h1 : D.toInt ≤ 999) : freshL x D = if x = -1 then false else f_r_in D x (x + 29) := by
  unfold freshL
  by_cases e : x = -1
  · rw [if_pos e, decide_eq_false (fun z => z e)]
    rfl
  · rw [if_neg e, decide_eq_true e, Bool.true_and]
    obtain ⟨x0, x1⟩ := hx.resolve_left e
    have e29 : (29 : Int32).toInt = 29 := rfl
    have e1 : (x + 29).toInt = x.toInt + 29 := by rw [i_add (by omega) (by omega), e29]
    have e2 : (D - x).toInt = D.toInt - x.toInt := i_sub (by omega) (by omega)
    refine Bool.eq_iff_iff.mpr ?_
    rw [in_iff, Bool.and_eq_true, decide_eq_true_iff, decide_eq_true_iff, i_le, i_le, e1, e2, e29]
    constructor
    · intro z
      omega
    · intro z
      omega
theorem live1_eq (hN : NeedOk nb nd) (hT : TakOk tk) (h0 : 0 ≤ D.toInt) (h1 : D.toInt ≤ 999) (hk : kd < 4) {lc lr : Nat → Bool} (h : ∀ q, q < 4 → lc q = lr q) : (freshL (tk m kd) D && allN (fun k => decide (nb kd &&& bt k = 0) || lc k) 4 0) = f_r_live1 nd tk m kd D lr := by
  unfold f_r_live1
  rw [fresh_eq (hT m kd) h0 h1]
  by_cases e : tk m kd = -1
  · rw [if_pos e, if_pos e, live_L40f, Bool.false_and]
  · rw [if_neg e, if_neg e]
    cases c : f_r_in D (tk m kd) (tk m kd + 29) with
    | false => rw [if_neg (by decide), live_L40f, Bool.false_and]
    | true =>
      rw [if_pos rfl, live_L40, Bool.true_and]
      exact allN_congr 4 0 (fun q _ hq => by rw [nd_dec hN hk (by omega), h q (by omega)])
theorem live_eq (hN : NeedOk nb nd) (hT : TakOk tk) (h0 : 0 ≤ D.toInt) (h1 : D.toInt ≤ 999) : ∀ (r kd : Nat), kd < 4 → liveF nb bt (tk m) D (r + 1) kd = r_live nd tk m D r kd
  | 0, kd, hk => by
    rw [liveF, r_live]
    exact live1_eq hN hT h0 h1 hk (fun q _ => rfl)
  | r + 1, kd, hk => by
    rw [liveF, r_live]
    exact live1_eq hN hT h0 h1 hk (fun q hq => live_eq hN hT h0 h1 r q hq)
theorem f_live_eq (hN : NeedOk nb nd) (hT : TakOk tk) (h0 : 0 ≤ D.toInt) (h1 : D.toInt ≤ 999) (hk : kd < 4) : f_c_live nb tk m kd D = f_r_live nd tk m kd D := live_eq hN hT h0 h1 3 kd hk
/-- deeper looks see no more than the depth of the needs -/
theorem live_deep (hN : NeedOk nb nd) {rk : Nat → Nat} (hrk : ∀ a b, a < 4 → b < 4 → nd a b = true → rk b < rk a) {ls : Nat → Int32} : ∀ (r kd : Nat), kd < 4 → rk kd < r → liveF nb bt ls D (r + 1) kd = liveF nb bt ls D r kd
  | 0, kd, _, h => absurd h (by omega)
  | r + 1, kd, hk, h => by
    rw [liveF, liveF]
    congr 1
    refine allN_congr 4 0 (fun q _ hq => ?_)
    rw [nd_dec hN hk (by omega)]
    cases e : nd kd q with
    | false => rfl
    | true => rw [live_deep hN hrk r q (by omega) (by have := hrk kd q hk (by omega) e; omega)]
theorem needsLive_eq (hN : NeedOk nb nd) (hA : Acy nd) (hT : TakOk tk) (h0 : 0 ≤ D.toInt) (h1 : D.toInt ≤ 999) (hk : kd < 4) : f_c_needsLive nb tk m kd D = true ↔ ∀ q, q < 4 → nd kd q = true → f_r_live nd tk m q D = true := by
  obtain ⟨rk, r1, r2⟩ := hA
  unfold f_c_needsLive
  rw [allN_iff]
  constructor
  · intro z q hq e
    have z := z q (by omega) (by omega)
    rw [nd_dec hN hk hq, e] at z
    have e2 := live_deep (D := D) (ls := tk m) hN r2 3 q hq (by have := r2 kd q hk hq e; have := r1 kd; omega)
    rw [← f_live_eq hN hT h0 h1 hq]
    exact e2.trans z
  · intro z q _ hq
    have hq : q < 4 := by omega
    rw [nd_dec hN hk hq]
    cases e : nd kd q with
    | false => rfl
    | true =>
      have e2 := live_deep (D := D) (ls := tk m) hN r2 3 q hq (by have := r2 kd q hk hq e; have := r1 kd; omega)
      have z := z q hq e
      rw [← f_live_eq hN hT h0 h1 hq] at z
      exact e2.symm.trans z
theorem induct_loop {m kd : Nat} : ∀ k j, (r_induct_L30 D nd tk m kd k j 0 = 0 ∨ r_induct_L30 D nd tk m kd k j 0 = 3) ∧ (r_induct_L30 D nd tk m kd k j 0 = 0 ↔ ∀ q, j ≤ q → q < j + k → nd kd q = true → f_r_live nd tk m q D = true)
  | 0, j => ⟨Or.inl rfl, ⟨fun _ q h1 h2 => absurd h2 (by omega), fun _ => rfl⟩⟩
  | k + 1, j => by
    have h3 : ∀ k j, r_induct_L30 D nd tk m kd k j 3 = 3 := by
      intro k j
      cases k with
      | zero => rfl
      | succ k => rw [r_induct_L30, if_neg (by decide)]
    obtain ⟨i1, i2⟩ := induct_loop (m := m) (kd := kd) k (j + 1)
    rw [r_induct_L30, if_pos rfl, all_step]
    cases e : nd kd j with
    | false =>
      rw [if_neg (by decide)]
      exact ⟨i1, i2.trans ⟨fun z => ⟨fun q => (nomatch q), z⟩, fun z => z.2⟩⟩
    | true =>
      rw [if_pos rfl]
      cases e2 : f_r_live nd tk m j D with
      | true =>
        rw [if_pos rfl]
        exact ⟨i1, i2.trans ⟨fun z => ⟨fun _ => rfl, z⟩, fun z => z.2⟩⟩
      | false =>
        rw [if_neg (by decide), h3]
        exact ⟨Or.inr rfl, ⟨fun z => absurd z (by decide), fun z => absurd (z.1 rfl) (by decide)⟩⟩
/-! needs that lead to needs -/
theorem needs_eq (hN : NeedOk nb nd) {a b : Nat} (ha : a < 4) (hb : b < 4) : f_c_needs nb a b = nd a b := by
  unfold f_c_needs
  by_cases e : nb a &&& bt b = 0
  · rw [if_pos e, (hN a b ha hb).mp e]
  · rw [if_neg e]
    cases e2 : nd a b with
    | true => rfl
    | false => exact absurd ((hN a b ha hb).mpr e2) e
theorem leads_L20 (hN : NeedOk nb nd) {a b c : Nat} (ha : a < 4) (lv : Nat → Bool) : ∀ k j, j + k ≤ 4 → (c_leads1_L20 nb a b c lv k j = true ↔ ∃ q, j ≤ q ∧ q < j + k ∧ nd a q = true ∧ lv q = true)
  | 0, j, _ => by
    rw [c_leads1_L20]
    exact ⟨fun z => (nomatch z), fun z => absurd z ex_zero⟩
  | k + 1, j, h => by
    rw [c_leads1_L20, needs_eq hN ha (by omega), ex_step, ← leads_L20 hN ha lv k (j + 1) (by omega)]
    cases e : nd a j with
    | false =>
      rw [if_neg (by decide)]
      exact ⟨fun z => Or.inr z, fun z => z.resolve_left (fun q => (nomatch q.1))⟩
    | true =>
      rw [if_pos rfl]
      cases e2 : lv j with
      | false =>
        rw [if_neg (by decide)]
        exact ⟨fun z => Or.inr z, fun z => z.resolve_left (fun q => (nomatch q.2))⟩
      | true =>
        rw [if_pos rfl]
        exact ⟨fun _ => Or.inl ⟨rfl, rfl⟩, fun _ => rfl⟩
theorem leads_step (hN : NeedOk nb nd) {a b r : Nat} (ha : a < 4) (hb : b < 4) : leadsF nb b (r + 1) a = true ↔ nd a b = true ∨ ∃ q, q < 4 ∧ nd a q = true ∧ leadsF nb b r q = true := by
  rw [leadsF, f_c_leads1, needs_eq hN ha hb]
  cases e : nd a b with
  | true =>
    rw [if_pos rfl]
    exact ⟨fun _ => Or.inl rfl, fun _ => rfl⟩
  | false =>
    rw [if_neg (by decide), leads_L20 hN ha _ 4 0 (by omega)]
    exact ⟨fun ⟨q, _, q2, q3⟩ => Or.inr ⟨q, by omega, q3⟩, fun z => by
      rcases z with z | ⟨q, q2, q3⟩
      · cases z
      · exact ⟨q, by omega, by omega, q3⟩⟩
theorem reach_L14 {a b : Nat} (lv : Nat → Bool) : ∀ k j is, r_reaches1_L14 nd a b lv k j is = true ↔ is = true ∨ ∃ q, j ≤ q ∧ q < j + k ∧ nd a q = true ∧ lv q = true
  | 0, j, is => by
    rw [r_reaches1_L14]
    exact ⟨fun z => Or.inl z, fun z => z.resolve_right ex_zero⟩
  | k + 1, j, is => by
    rw [r_reaches1_L14]
    cases is with
    | true =>
      rw [if_pos rfl]
      exact ⟨fun _ => Or.inl rfl, fun _ => rfl⟩
    | false =>
      rw [if_neg (by decide), ex_step]
      cases e : nd a j with
      | false =>
        rw [if_neg (by decide), reach_L14 lv k (j + 1) false]
        exact ⟨fun z => z.elim (fun q => (nomatch q)) (fun q => Or.inr (Or.inr q)), fun z => z.elim (fun q => (nomatch q)) (fun q => q.elim (fun q => (nomatch q.1)) Or.inr)⟩
      | true =>
        rw [if_pos rfl]
        cases e2 : lv j with
        | false =>
          rw [if_neg (by decide), reach_L14 lv k (j + 1) false]
          exact ⟨fun z => z.elim (fun q => (nomatch q)) (fun q => Or.inr (Or.inr q)), fun z => z.elim (fun q => (nomatch q)) (fun q => q.elim (fun q => (nomatch q.2)) Or.inr)⟩
        | true =>
          rw [if_pos rfl, reach_L14 lv k (j + 1) true]
          exact ⟨fun _ => Or.inr (Or.inl ⟨rfl, rfl⟩), fun _ => Or.inl rfl⟩
theorem reach1 {a b : Nat} (lv : Nat → Bool) : f_r_reaches1 nd a b lv = true ↔ a = b ∨ ∃ q, q < 4 ∧ nd a q = true ∧ lv q = true := by
  unfold f_r_reaches1
  have hx : (∃ q, 0 ≤ q ∧ q < 0 + 4 ∧ nd a q = true ∧ lv q = true) ↔ ∃ q, q < 4 ∧ nd a q = true ∧ lv q = true := ⟨fun ⟨q, _, q2, q3⟩ => ⟨q, by omega, q3⟩, fun ⟨q, q2, q3⟩ => ⟨q, by omega, by omega, q3⟩⟩
  by_cases e : a = b
  · rw [if_pos e, reach_L14]
    exact ⟨fun _ => Or.inl e, fun _ => Or.inl rfl⟩
  · rw [if_neg e, reach_L14, hx]
    exact ⟨fun z => z.elim (fun q => (nomatch q)) Or.inr, fun z => z.elim (fun q => absurd q e) Or.inr⟩
theorem reach_leads (hN : NeedOk nb nd) {rk : Nat → Nat} (hrk : ∀ a b, a < 4 → b < 4 → nd a b = true → rk b < rk a) {b : Nat} (hb : b < 4) : ∀ (r a : Nat), a < 4 → rk a ≤ r → (r_reaches nd b r a = true ↔ a = b ∨ leadsF nb b (r + 1) a = true)
  | 0, a, ha, h => by
    rw [r_reaches, reach1, leads_step hN ha hb]
    constructor
    · intro z
      rcases z with z | ⟨q, -, -, z⟩
      · exact Or.inl z
      · cases z
    · intro z
      rcases z with z | z | ⟨q, -, -, z⟩
      · exact Or.inl z
      · exact absurd (hrk a b ha hb z) (by omega)
      · cases z
  | r + 1, a, ha, h => by
    rw [r_reaches, reach1, leads_step hN ha hb]
    constructor
    · intro z
      rcases z with z | ⟨q, q1, q2, z⟩
      · exact Or.inl z
      · rcases (reach_leads hN hrk hb r q q1 (by have := hrk a q ha q1 q2; omega)).mp z with z | z
        · subst z
          exact Or.inr (Or.inl q2)
        · exact Or.inr (Or.inr ⟨q, q1, q2, z⟩)
    · intro z
      rcases z with z | z | ⟨q, q1, q2, z⟩
      · exact Or.inl z
      · exact Or.inr ⟨b, hb, z, (reach_leads hN hrk hb r b hb (by have := hrk a b ha hb z; omega)).mpr (Or.inl rfl)⟩
      · exact Or.inr ⟨q, q1, q2, (reach_leads hN hrk hb r q q1 (by have := hrk a q ha q1 q2; omega)).mpr (Or.inr z)⟩
theorem leads_eq (hN : NeedOk nb nd) (hA : Acy nd) {a b : Nat} (ha : a < 4) (hb : b < 4) (hne : a ≠ b) : f_c_leads nb a b = f_r_reaches nd a b := by
  obtain ⟨rk, r1, r2⟩ := hA
  unfold f_c_leads f_r_reaches
  refine Bool.eq_iff_iff.mpr ?_
  rw [reach_leads hN r2 hb 3 a ha (r1 a)]
  exact ⟨Or.inr, fun z => z.resolve_left hne⟩
end LV
section BU
variable {n m mc : Nat} {ow mo mk : Nat → Nat} {dy st le wk sta su nb : Nat → Int32} {nd : Nat → Nat → Bool} {tk : Nat → Nat → Int32} {D S M V : Int32} {mh : Nat → List Nat}
theorem ovl_iff {e : Nat} : f_r_overlaps dy le st sta e D S M = true ↔ sta e = 98 ∧ dy e = D ∧ st e < S + M ∧ S < st e + le e := by
  unfold f_r_overlaps f_r_endOf
  by_cases a : sta e = 98
  · by_cases b : dy e = D
    · by_cases c : st e < S + M
      · by_cases d : S < st e + le e
        · rw [if_pos a, if_pos b, if_pos c, if_pos d]
          exact ⟨fun _ => ⟨a, b, c, d⟩, fun _ => rfl⟩
        · rw [if_pos a, if_pos b, if_pos c, if_neg d]
          exact bool_ff (fun z => d z.2.2.2)
      · rw [if_pos a, if_pos b, if_neg c]
        exact bool_ff (fun z => c z.2.2.1)
    · rw [if_pos a, if_neg b]
      exact bool_ff (fun z => b z.2.1)
  · rw [if_neg a]
    exact bool_ff (fun z => a z.1)
theorem r_busy_loop : ∀ k j is, r_isBusy_L6 dy le ow st sta m D S M k j is = true ↔ is = true ∨ ∃ e, j ≤ e ∧ e < j + k ∧ ow e = m ∧ f_r_overlaps dy le st sta e D S M = true
  | 0, j, is => by
    rw [r_isBusy_L6]
    exact ⟨Or.inl, fun z => z.resolve_right ex_zero⟩
  | k + 1, j, is => by
    rw [r_isBusy_L6, ex_step]
    cases is with
    | true =>
      rw [if_pos rfl, r_busy_loop k (j + 1) true]
      exact ⟨fun _ => Or.inl rfl, fun _ => Or.inl rfl⟩
    | false =>
      rw [if_neg (by decide)]
      by_cases c : ow j = m
      · rw [if_pos c]
        cases o : f_r_overlaps dy le st sta j D S M with
        | true =>
          rw [if_pos rfl, r_busy_loop k (j + 1) true]
          exact ⟨fun _ => Or.inr (Or.inl ⟨c, rfl⟩), fun _ => Or.inl rfl⟩
        | false =>
          rw [if_neg (by decide), r_busy_loop k (j + 1) false]
          exact ⟨fun z => z.elim (fun q => (nomatch q)) (fun q => Or.inr (Or.inr q)), fun z => z.elim (fun q => (nomatch q)) (fun q => q.elim (fun q => (nomatch q.2)) Or.inr)⟩
      · rw [if_neg c, r_busy_loop k (j + 1) false]
        exact ⟨fun z => z.elim (fun q => (nomatch q)) (fun q => Or.inr (Or.inr q)), fun z => z.elim (fun q => (nomatch q)) (fun q => q.elim (fun q => absurd q.1 c) Or.inr)⟩
/-- a booked entry of the member overlaps the time -/
def BusyP (n m : Nat) (ow : Nat → Nat) (dy st le sta : Nat → Int32) (D S M : Int32) : Prop := ∃ e, e < n ∧ ow e = m ∧ sta e = 98 ∧ dy e = D ∧ st e < S + M ∧ S < st e + le e
theorem r_busy_iff : f_r_isBusy dy n le ow st sta m D S M = true ↔ BusyP n m ow dy st le sta D S M := by
  unfold f_r_isBusy BusyP
  rw [r_busy_loop]
  constructor
  · intro z
    rcases z with z | ⟨e, -, h2, h3, h4⟩
    · cases z
    · exact ⟨e, by omega, h3, ovl_iff.mp h4⟩
  · intro ⟨e, h2, h3, h4⟩
    exact Or.inr ⟨e, by omega, by omega, h3, ovl_iff.mpr h4⟩
theorem c_busy_iff : f_c_isBusy n ow mo dy st le (fun e => st e + le e) wk sta m D S (S + M) = true ↔ BusyP n m ow dy st le sta D S M := by
  unfold f_c_isBusy BusyP pl
  rw [List.any_eq_true]
  constructor
  · intro ⟨x, h1, h2⟩
    obtain ⟨e, he, rfl⟩ := List.mem_map.mp h1
    have h2 : (decide (sta e = 98) && decide (ow e = m) && decide (dy e = D ∧ st e < S + M ∧ S < st e + le e)) = true := h2
    rw [Bool.and_eq_true, Bool.and_eq_true, decide_eq_true_iff, decide_eq_true_iff, decide_eq_true_iff] at h2
    exact ⟨e, List.mem_range.mp he, h2.1.2, h2.1.1, h2.2⟩
  · intro ⟨e, h1, h2, h3, h4⟩
    refine ⟨_, List.mem_map.mpr ⟨e, List.mem_range.mpr h1, rfl⟩, ?_⟩
    show (decide (sta e = 98) && decide (ow e = m) && decide (dy e = D ∧ st e < S + M ∧ S < st e + le e)) = true
    rw [Bool.and_eq_true, Bool.and_eq_true, decide_eq_true_iff, decide_eq_true_iff, decide_eq_true_iff]
    exact ⟨⟨h3, h2⟩, h4⟩
theorem busy_eq : f_c_isBusy n ow mo dy st le (fun e => st e + le e) wk sta m D S (S + M) = f_r_isBusy dy n le ow st sta m D S M := Bool.eq_iff_iff.mpr (c_busy_iff.trans r_busy_iff.symm)
theorem letter_eq (hN : NeedOk nb nd) (hT : TakOk tk) (hE : EOk n dy st le) (hSep : Sep n mo dy st le wk sta su) (hU : SuOk su) (hH : Held n mo dy st sta mh) (hk : mk mc < 4) (h0 : 0 ≤ D.toInt) (h1 : D.toInt ≤ 999) (hD : ∀ e, e < n → sta e = 100 → ¬ dy e = D) (hS : 0 ≤ S.toInt) (hM : 1 ≤ M.toInt) (hSM : S.toInt + M.toInt ≤ 480) : f_c_judge n ow mo dy st le (fun e => st e + le e) wk sta mh mk su nb tk m mc D S M V = f_r_letter dy n le mk mo nd ow st sta su tk wk m mc D S M V := by
  unfold f_c_judge f_r_letter f_r_liveFor verdict
  rw [f_live_eq hN hT h0 h1 hk, busy_eq, free_eq hE hSep hU hH hD hS hM hSM]
/-- when the letter says that an entry can be booked -/
theorem letter_o (hE : EOk n dy st le) (hSep : Sep n mo dy st le wk sta su) (hU : SuOk su) (hS : 0 ≤ S.toInt) (hM : 1 ≤ M.toInt) (hSM : S.toInt + M.toInt ≤ 480) : f_r_letter dy n le mk mo nd ow st sta su tk wk m mc D S M V = 111 ↔ f_r_live nd tk m (mk mc) D = true ∧ ¬ BusyP n m ow dy st le sta D S M ∧ FreeP n mc mo dy st le wk sta su D S M V := by
  unfold f_r_letter f_r_liveFor
  rw [← r_busy_iff, ← r_free_iff hE hSep hU hS hM hSM]
  cases f_r_live nd tk m (mk mc) D <;> cases f_r_isBusy dy n le ow st sta m D S M <;> cases f_r_isFree dy n le mo st sta su wk mc D S M V <;> simp
end BU
