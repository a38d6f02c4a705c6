/-! the minutes of a machine's day: class and reference alike -/
def InA (mo : Nat → Nat) (dy sta : Nat → Int32) (mc : Nat) (D : Int32) (e : Nat) : Prop := act (sta e) ∧ mo e = mc ∧ dy e = D
def Cov (st le : Nat → Int32) (M : Int) (e : Nat) : Prop := (st e).toInt ≤ M ∧ M < (st e).toInt + (le e).toInt
/-- the last one that starts at M or before; the first one behind M -/
def MaxP (st : Nat → Int32) (M : Int) (Q : Nat → Prop) : Option Nat → Prop
  | none => ∀ e, Q e → M < (st e).toInt
  | some b => Q b ∧ (st b).toInt ≤ M ∧ ∀ e, Q e → (st e).toInt ≤ M → (st e).toInt ≤ (st b).toInt
def MinP (st : Nat → Int32) (M : Int) (Q : Nat → Prop) : Option Nat → Prop
  | none => ∀ e, Q e → (st e).toInt ≤ M
  | some b => Q b ∧ M < (st b).toInt ∧ ∀ e, Q e → M < (st e).toInt → (st b).toInt ≤ (st e).toInt
def finM (su : Nat → Int32) (mc : Nat) (wk st : Nat → Int32) (M : Int32) (bh bf : Option Nat) : Int32 := oE bh 102 (fun k2 => oE bf 102 (fun k4 => if f_r_setup su mc (wk k4) (wk k2) < (st k2) - M then 102 else 115))
section MM
variable {st : Nat → Int32} {M : Int} {Q Q' : Nat → Prop} {o o' : Option Nat} {j : Nat}
theorem MaxP.ext (h : ∀ e, Q' e ↔ Q e) (hm : MaxP st M Q o) : MaxP st M Q' o := by
  cases o with
  | none => exact fun e he => hm e ((h e).mp he)
  | some b => exact ⟨(h b).mpr hm.1, hm.2.1, fun e he => hm.2.2 e ((h e).mp he)⟩
theorem MinP.ext (h : ∀ e, Q' e ↔ Q e) (hm : MinP st M Q o) : MinP st M Q' o := by
  cases o with
  | none => exact fun e he => hm e ((h e).mp he)
  | some b => exact ⟨(h b).mpr hm.1, hm.2.1, fun e he => hm.2.2 e ((h e).mp he)⟩
theorem MaxP.out (h : ∀ e, Q' e ↔ Q e ∨ e = j) (hj : M < (st j).toInt) (hm : MaxP st M Q o) : MaxP st M Q' o := by
  cases o with
  | none =>
    intro e he
    rcases (h e).mp he with q | rfl
    · exact hm e q
    · exact hj
  | some b =>
    refine ⟨(h b).mpr (Or.inl hm.1), hm.2.1, fun e he h2 => ?_⟩
    rcases (h e).mp he with q | rfl
    · exact hm.2.2 e q h2
    · omega
theorem MinP.out (h : ∀ e, Q' e ↔ Q e ∨ e = j) (hj : (st j).toInt ≤ M) (hm : MinP st M Q o) : MinP st M Q' o := by
  cases o with
  | none =>
    intro e he
    rcases (h e).mp he with q | rfl
    · exact hm e q
    · exact hj
  | some b =>
    refine ⟨(h b).mpr (Or.inl hm.1), hm.2.1, fun e he h2 => ?_⟩
    rcases (h e).mp he with q | rfl
    · exact hm.2.2 e q h2
    · omega
theorem MaxP.new (h : ∀ e, Q' e ↔ Q e ∨ e = j) (hj : (st j).toInt ≤ M) (hm : MaxP st M Q o) (hb : ∀ b, o = some b → (st b).toInt ≤ (st j).toInt) : MaxP st M Q' (some j) := by
  refine ⟨(h j).mpr (Or.inr rfl), hj, fun e he h2 => ?_⟩
  rcases (h e).mp he with q | rfl
  · cases o with
    | none => exact absurd (hm e q) (by omega)
    | some b =>
      have := hm.2.2 e q h2
      have := hb b rfl
      omega
  · exact Int.le_refl _
theorem MinP.new (h : ∀ e, Q' e ↔ Q e ∨ e = j) (hj : M < (st j).toInt) (hm : MinP st M Q o) (hb : ∀ b, o = some b → (st j).toInt ≤ (st b).toInt) : MinP st M Q' (some j) := by
  refine ⟨(h j).mpr (Or.inr rfl), hj, fun e he h2 => ?_⟩
  rcases (h e).mp he with q | rfl
  · cases o with
    | none => exact absurd (hm e q) (by omega)
    | some b =>
      have := hm.2.2 e q h2
      have := hb b rfl
      omega
  · exact Int.le_refl _
theorem MaxP.keep {b : Nat} (h : ∀ e, Q' e ↔ Q e ∨ e = j) (hm : MaxP st M Q (some b)) (hb : (st j).toInt ≤ (st b).toInt) : MaxP st M Q' (some b) := by
  refine ⟨(h b).mpr (Or.inl hm.1), hm.2.1, fun e he h2 => ?_⟩
  rcases (h e).mp he with q | rfl
  · exact hm.2.2 e q h2
  · exact hb
theorem MinP.keep {b : Nat} (h : ∀ e, Q' e ↔ Q e ∨ e = j) (hm : MinP st M Q (some b)) (hb : (st b).toInt ≤ (st j).toInt) : MinP st M Q' (some b) := by
  refine ⟨(h b).mpr (Or.inl hm.1), hm.2.1, fun e he h2 => ?_⟩
  rcases (h e).mp he with q | rfl
  · exact hm.2.2 e q h2
  · exact hb
theorem MaxP.uniq (hd : ∀ a b, Q a → Q b → (st a).toInt = (st b).toInt → a = b) (h1 : MaxP st M Q o) (h2 : MaxP st M Q o') : o = o' := by
  cases o with
  | none =>
    cases o' with
    | none => rfl
    | some b => exact absurd (h1 b h2.1) (by have := h2.2.1; omega)
  | some a =>
    cases o' with
    | none => exact absurd (h2 a h1.1) (by have := h1.2.1; omega)
    | some b =>
      have a1 := h1.2.2 b h2.1 h2.2.1
      have a2 := h2.2.2 a h1.1 h1.2.1
      rw [hd a b h1.1 h2.1 (by omega)]
theorem MinP.uniq (hd : ∀ a b, Q a → Q b → (st a).toInt = (st b).toInt → a = b) (h1 : MinP st M Q o) (h2 : MinP st M Q o') : o = o' := by
  cases o with
  | none =>
    cases o' with
    | none => rfl
    | some b => exact absurd (h1 b h2.1) (by have := h2.2.1; omega)
  | some a =>
    cases o' with
    | none => exact absurd (h2 a h1.1) (by have := h1.2.1; omega)
    | some b =>
      have a1 := h1.2.2 b h2.1 h2.2.1
      have a2 := h2.2.2 a h1.1 h1.2.1
      rw [hd a b h1.1 h2.1 (by omega)]
end MM
section MI
variable {n mc : Nat} {ow mo : Nat → Nat} {dy st le wk sta su : Nat → Int32} {D M : Int32} {mh : Nat → List Nat}
theorem stands_iff {e : Nat} : f_r_stands dy mo sta e mc D = true ↔ InA mo dy sta mc D e := by
  unfold f_r_stands InA act
  by_cases a : sta e = 98
  · by_cases b : mo e = mc
    · by_cases c : dy e = D
      · rw [if_pos a, if_pos b, if_pos c]
        exact ⟨fun _ => ⟨Or.inl a, b, c⟩, fun _ => rfl⟩
      · rw [if_pos a, if_pos b, if_neg c]
        exact bool_ff (fun z => c z.2.2)
    · rw [if_pos a, if_neg b]
      exact bool_ff (fun z => b z.2.1)
  · rw [if_neg a]
    by_cases a2 : sta e = 100
    · by_cases b : mo e = mc
      · by_cases c : dy e = D
        · rw [if_pos a2, if_pos b, if_pos c]
          exact ⟨fun _ => ⟨Or.inr a2, b, c⟩, fun _ => rfl⟩
        · rw [if_pos a2, if_pos b, if_neg c]
          exact bool_ff (fun z => c z.2.2)
      · rw [if_pos a2, if_neg b]
        exact bool_ff (fun z => b z.2.1)
    · rw [if_neg a2]
      exact bool_ff (fun z => z.1.elim a a2)
theorem cov_iff (hE : EOk n dy st le) {e : Nat} (he : e < n) : f_r_in M (st e) ((f_r_endOf le st e) - 1) = true ↔ Cov st le M.toInt e := by
  obtain ⟨-, -, h3, h4, h5⟩ := hE e he
  have e1 : (1 : Int32).toInt = 1 := rfl
  have e2 := endOf_I hE he
  rw [in_iff, i_sub (by omega) (by omega), e2, e1]
  unfold Cov
  omega
theorem r_min_loop (hE : EOk n dy st le) : ∀ (k j : Nat) (bh bf : Option Nat), j + k ≤ n → (∀ e, e < j → InA mo dy sta mc D e → ¬ Cov st le M.toInt e) → MinP st M.toInt (fun e => e < j ∧ InA mo dy sta mc D e) bh → MaxP st M.toInt (fun e => e < j ∧ InA mo dy sta mc D e) bf → ((∃ e, e < j + k ∧ InA mo dy sta mc D e ∧ Cov st le M.toInt e) ∧ r_minute_L9 dy le mo st sta su wk mc D M k j bh bf = 98) ∨ ((∀ e, e < j + k → InA mo dy sta mc D e → ¬ Cov st le M.toInt e) ∧ ∃ o1 o2, MinP st M.toInt (fun e => e < j + k ∧ InA mo dy sta mc D e) o1 ∧ MaxP st M.toInt (fun e => e < j + k ∧ InA mo dy sta mc D e) o2 ∧ r_minute_L9 dy le mo st sta su wk mc D M k j bh bf = finM su mc wk st M o1 o2) := by
  intro k
  induction k with
  | zero =>
    intro j bh bf hj hc h1 h2
    exact Or.inr ⟨hc, bh, bf, h1, h2, rfl⟩
  | succ k ih =>
    intro j bh bf hj hc h1 h2
    have hjk : j + 1 + k = j + (k + 1) := by omega
    rw [← hjk]
    rw [r_minute_L9]
    by_cases c : f_r_stands dy mo sta j mc D = true
    · rw [if_pos c]
      have hin := stands_iff.mp c
      have hQ : ∀ e, (e < j + 1 ∧ InA mo dy sta mc D e) ↔ (e < j ∧ InA mo dy sta mc D e) ∨ e = j := by
        intro e
        constructor
        · intro z
          by_cases ee : e = j
          · exact Or.inr ee
          · exact Or.inl ⟨by omega, z.2⟩
        · intro z
          rcases z with z | rfl
          · exact ⟨by omega, z.2⟩
          · exact ⟨by omega, hin⟩
      by_cases c2 : f_r_in M (st j) ((f_r_endOf le st j) - 1) = true
      · rw [if_pos c2]
        exact Or.inl ⟨⟨j, by omega, hin, (cov_iff hE (by omega)).mp c2⟩, rfl⟩
      · rw [if_neg c2]
        have hnc : ∀ e, e < j + 1 → InA mo dy sta mc D e → ¬ Cov st le M.toInt e := by
          intro e he hi
          by_cases ee : e = j
          · subst ee
            exact fun q => c2 ((cov_iff hE (by omega)).mpr q)
          · exact hc e (by omega) hi
        by_cases c3 : M < st j
        · rw [if_pos c3]
          rw [i_lt] at c3
          have h2' := h2.out hQ c3
          cases bh with
          | none =>
            show (_ ∧ r_minute_L9 dy le mo st sta su wk mc D M k (j + 1) (some j) bf = 98) ∨ _
            exact ih (j + 1) (some j) bf (by omega) hnc (h1.new hQ c3 (fun b e => by cases e)) h2'
          | some x =>
            show (_ ∧ (if st j < st x then r_minute_L9 dy le mo st sta su wk mc D M k (j + 1) (some j) bf else r_minute_L9 dy le mo st sta su wk mc D M k (j + 1) (some x) bf) = 98) ∨ (_ ∧ ∃ o1 o2, _ ∧ _ ∧ (if st j < st x then r_minute_L9 dy le mo st sta su wk mc D M k (j + 1) (some j) bf else r_minute_L9 dy le mo st sta su wk mc D M k (j + 1) (some x) bf) = _)
            by_cases c4 : st j < st x
            · rw [if_pos c4]
              rw [i_lt] at c4
              exact ih (j + 1) (some j) bf (by omega) hnc (h1.new hQ c3 (fun b e => by cases e; omega)) h2'
            · rw [if_neg c4]
              rw [i_lt] at c4
              exact ih (j + 1) (some x) bf (by omega) hnc (h1.keep hQ (by omega)) h2'
        · rw [if_neg c3]
          rw [i_lt] at c3
          have h1' := h1.out hQ (by omega)
          cases bf with
          | none =>
            show (_ ∧ r_minute_L9 dy le mo st sta su wk mc D M k (j + 1) bh (some j) = 98) ∨ _
            exact ih (j + 1) bh (some j) (by omega) hnc h1' (h2.new hQ (by omega) (fun b e => by cases e))
          | some x =>
            show (_ ∧ (if st x < st j then r_minute_L9 dy le mo st sta su wk mc D M k (j + 1) bh (some j) else r_minute_L9 dy le mo st sta su wk mc D M k (j + 1) bh (some x)) = 98) ∨ (_ ∧ ∃ o1 o2, _ ∧ _ ∧ (if st x < st j then r_minute_L9 dy le mo st sta su wk mc D M k (j + 1) bh (some j) else r_minute_L9 dy le mo st sta su wk mc D M k (j + 1) bh (some x)) = _)
            by_cases c4 : st x < st j
            · rw [if_pos c4]
              rw [i_lt] at c4
              exact ih (j + 1) bh (some j) (by omega) hnc h1' (h2.new hQ (by omega) (fun b e => by cases e; omega))
            · rw [if_neg c4]
              rw [i_lt] at c4
              exact ih (j + 1) bh (some x) (by omega) hnc h1' (h2.keep hQ (by omega))
    · rw [if_neg c]
      have hin : ¬ InA mo dy sta mc D j := fun q => c (stands_iff.mpr q)
      have hQ : ∀ e, (e < j + 1 ∧ InA mo dy sta mc D e) ↔ (e < j ∧ InA mo dy sta mc D e) := by
        intro e
        constructor
        · intro z
          have : e ≠ j := fun q => hin (q ▸ z.2)
          exact ⟨by omega, z.2⟩
        · intro z
          exact ⟨by omega, z.2⟩
      exact ih (j + 1) bh bf (by omega) (fun e he hi => hc e (by have : e ≠ j := fun q => hin (q ▸ hi); omega) hi) (h1.ext hQ) (h2.ext hQ)
theorem letter_rest {rest : List Nat} (hr : ∀ r ∈ rest, ¬ dy r = D) {s : Int32} : ∀ (l : List Nat) (b : Option Nat), letterL (vq ow mo dy st le wk sta) s D M b (l ++ rest) = letterL (vq ow mo dy st le wk sta) s D M b l
  | [], b => by
    rw [List.nil_append, letterL]
    cases rest with
    | nil => rw [letterL]
    | cons e es =>
      rw [letterL]
      exact if_neg (hr e List.mem_cons_self)
  | e :: l, b => by rw [List.cons_append, letterL, letterL, letter_rest hr l (some e)]
theorem c_min_list (hE : EOk n dy st le) (hU : SuOk su) : ∀ (l pre : List Nat) (b : Option Nat), (pre ++ l).Pairwise (Bef (su mc) st le wk) → (∀ e ∈ pre ++ l, e < n ∧ dy e = D) → (∀ e ∈ pre, (st e).toInt + (le e).toInt ≤ M.toInt) → MaxP st M.toInt (fun e => e ∈ pre) b → ((∃ e, e ∈ l ∧ Cov st le M.toInt e) ∧ letterL (vq ow mo dy st le wk sta) (su mc) D M b l = 98) ∨ ((∀ e, e ∈ l → ¬ Cov st le M.toInt e) ∧ ∃ o1 o2, MinP st M.toInt (fun e => e ∈ pre ++ l) o1 ∧ MaxP st M.toInt (fun e => e ∈ pre ++ l) o2 ∧ letterL (vq ow mo dy st le wk sta) (su mc) D M b l = finM su mc wk st M o1 o2)
  | [], pre, b, hp, hl, hpre, hb => by
    refine Or.inr ⟨fun e he => (nomatch he), none, b, ?_, ?_, ?_⟩
    · intro e he
      rw [List.append_nil] at he
      have h1 := hpre e he
      obtain ⟨-, -, h3, h4, h5⟩ := hE e (hl e (by rw [List.append_nil]; exact he)).1
      omega
    · exact hb.ext (fun e => by rw [List.append_nil])
    · rw [letterL]
      rfl
  | e :: l, pre, b, hp, hl, hpre, hb => by
    obtain ⟨p1, p2, p3⟩ := List.pairwise_append.mp hp
    obtain ⟨p4, p5⟩ := List.pairwise_cons.mp p2
    obtain ⟨e1, e2⟩ := hl e (List.mem_append_right _ List.mem_cons_self)
    obtain ⟨-, -, h3, h4, h5⟩ := hE e e1
    have hlt : ∀ f ∈ l, (st e).toInt + (le e).toInt ≤ (st f).toInt := by
      intro f hf
      have := p4 f hf
      have s1 := suI_nn (a := wk e) (b := wk f) (hU mc).1
      unfold Bef at this
      omega
    have hplt : ∀ f ∈ pre, (st f).toInt < (st e).toInt ∧ (st f).toInt ≤ M.toInt := by
      intro f hf
      have := p3 f hf e List.mem_cons_self
      have s1 := suI_nn (a := wk f) (b := wk e) (hU mc).1
      obtain ⟨-, -, g3, g4, g5⟩ := hE f (hl f (List.mem_append_left _ hf)).1
      have := hpre f hf
      unfold Bef at *
      omega
    rw [letterL, if_pos (show eDay (vq ow mo dy st le wk sta e) = D from e2)]
    by_cases c : M < st e
    · rw [if_pos (show M < eSta (vq ow mo dy st le wk sta e) from c)]
      rw [i_lt] at c
      refine Or.inr ⟨fun f hf q => ?_, some e, b, ?_, ?_, ?_⟩
      · rcases List.mem_cons.mp hf with rfl | hf
        · unfold Cov at q
          omega
        · have := hlt f hf
          unfold Cov at q
          omega
      · refine ⟨List.mem_append_right _ List.mem_cons_self, c, fun f hf h9 => ?_⟩
        rcases List.mem_append.mp hf with hf | hf
        · have := hplt f hf
          omega
        · rcases List.mem_cons.mp hf with rfl | hf
          · exact Int.le_refl _
          · have := hlt f hf
            omega
      · cases b with
        | none =>
          intro f hf
          rcases List.mem_append.mp hf with hf | hf
          · exact hb f hf
          · rcases List.mem_cons.mp hf with rfl | hf
            · exact c
            · have := hlt f hf
              omega
        | some x =>
          refine ⟨List.mem_append_left _ hb.1, hb.2.1, fun f hf h9 => ?_⟩
          rcases List.mem_append.mp hf with hf | hf
          · exact hb.2.2 f hf h9
          · rcases List.mem_cons.mp hf with rfl | hf
            · omega
            · have := hlt f hf
              omega
      · cases b with
        | none => rfl
        | some x =>
          show (if st e - M ≤ (if wk x = wk e then (0 : Int32) else su mc) then (115 : Int32) else 102) = (if (if wk x = wk e then (0 : Int32) else su mc) < st e - M then 102 else 115)
          by_cases q : st e - M ≤ (if wk x = wk e then (0 : Int32) else su mc)
          · rw [if_pos q, if_neg (Int32.not_lt.mpr q)]
          · rw [if_neg q, if_pos (Int32.not_le.mp q)]
    · rw [if_neg (show ¬ M < eSta (vq ow mo dy st le wk sta e) from c)]
      rw [i_lt] at c
      by_cases c2 : M < st e + le e
      · rw [if_pos (show M < eEnd (vq ow mo dy st le wk sta e) from c2)]
        rw [i_lt, endq_I hE e1] at c2
        exact Or.inl ⟨⟨e, List.mem_cons_self, by omega, c2⟩, rfl⟩
      · rw [if_neg (show ¬ M < eEnd (vq ow mo dy st le wk sta e) from c2)]
        rw [i_lt, endq_I hE e1] at c2
        have happ : (pre ++ [e]) ++ l = pre ++ e :: l := by rw [List.append_assoc]; rfl
        have I := c_min_list hE hU l (pre ++ [e]) (some e) (by rw [happ]; exact hp) (by rw [happ]; exact hl) (fun f hf => by
          rcases List.mem_append.mp hf with hf | hf
          · exact hpre f hf
          · rw [List.mem_singleton.mp hf]
            omega) (hb.new (j := e) (fun f => by rw [List.mem_append, List.mem_singleton]) (by omega) (fun x hx => by
              subst hx
              have := hplt x hb.1
              omega))
        rw [happ] at I
        rcases I with ⟨⟨f, f1, f2⟩, I⟩ | ⟨I1, I2⟩
        · exact Or.inl ⟨⟨f, List.mem_cons_of_mem _ f1, f2⟩, I⟩
        · refine Or.inr ⟨fun f hf q => ?_, I2⟩
          rcases List.mem_cons.mp hf with rfl | hf
          · unfold Cov at q
            omega
          · exact I1 f hf q
/-- a minute's letter over one day's entries -/
def dayM (ow mo : Nat → Nat) (dy st le wk sta su : Nat → Int32) (mh : Nat → List Nat) (mc : Nat) (D M : Int32) : Int32 := letterL (vq ow mo dy st le wk sta) (su mc) D M none (dayL dy mh mc D)
theorem c_letter_day (hE : EOk n dy st le) (hH : Held n mo dy st sta mh) : f_c_letter ow mo dy st le (fun e => st e + le e) wk sta mh su mc (f_c_placeOf dy st mh mc D 0) D M = dayM ow mo dy st le wk sta su mh mc D M := by
  unfold f_c_letter f_c_placeOf dayM
  obtain ⟨rest, q1, q2⟩ := day_split hE hH mc D
  rw [q1, letter_rest q2]
theorem minute_eq (hE : EOk n dy st le) (hSep : Sep n mo dy st le wk sta su) (hU : SuOk su) (hH : Held n mo dy st sta mh) : dayM ow mo dy st le wk sta su mh mc D M = f_r_minute dy n le mo st sta su wk mc D M := by
  have A := c_min_list (ow := ow) (mo := mo) (sta := sta) (D := D) (M := M) hE hU (dayL dy mh mc D) [] none (by rw [List.nil_append]; exact dayL_bef hE hSep hU hH mc D) (fun e he => by rw [List.nil_append] at he; exact ⟨((mem_dayL hH).mp he).1, ((mem_dayL hH).mp he).2.2.2⟩) (fun e he => (nomatch he)) (fun e he => (nomatch he))
  have B := r_min_loop (mo := mo) (sta := sta) (su := su) (wk := wk) (mc := mc) (D := D) (M := M) hE n 0 none none (by omega) (fun e he => absurd he (by omega)) (fun e he => absurd he.1 (by omega)) (fun e he => absurd he.1 (by omega))
  rw [List.nil_append] at A
  rw [Nat.zero_add] at B
  have hmem : ∀ e, e ∈ dayL dy mh mc D ↔ e < n ∧ InA mo dy sta mc D e := fun e => by
    rw [mem_dayL hH]
    unfold InA
    exact ⟨fun z => ⟨z.1, z.2.2.1, z.2.1, z.2.2.2⟩, fun z => ⟨z.1, z.2.2.1, z.2.1, z.2.2.2⟩⟩
  have hd : ∀ a b, (a < n ∧ InA mo dy sta mc D a) → (b < n ∧ InA mo dy sta mc D b) → (st a).toInt = (st b).toInt → a = b := by
    intro a b ⟨a1, a2, a3, a4⟩ ⟨b1, b2, b3, b4⟩ h
    by_cases e : a = b
    · exact e
    · exfalso
      obtain ⟨-, -, g3, g4, g5⟩ := hE a a1
      obtain ⟨-, -, k3, k4, k5⟩ := hE b b1
      have s1 := suI_nn (a := wk a) (b := wk b) (hU (mo a)).1
      have s2 := suI_nn (a := wk b) (b := wk a) (hU (mo a)).1
      rcases hSep a b a1 b1 e a2 b2 (a3.trans b3.symm) (a4.trans b4.symm) with q | q <;> unfold Bef at q <;> omega
  unfold dayM f_r_minute
  rcases A with ⟨⟨e, e1, e2⟩, A⟩ | ⟨A1, o1, o2, A2, A3, A4⟩
  · rcases B with ⟨-, B⟩ | ⟨B1, -⟩
    · rw [A, B]
    · obtain ⟨z1, z2⟩ := (hmem e).mp e1
      exact absurd e2 (B1 e z1 z2)
  · rcases B with ⟨⟨e, b1, b2, b3⟩, -⟩ | ⟨-, p1, p2, B2, B3, B4⟩
    · exact absurd b3 (A1 e ((hmem e).mpr ⟨b1, b2⟩))
    · rw [A4, B4]
      have A2' := A2.ext (fun e => (hmem e).symm)
      have A3' := A3.ext (fun e => (hmem e).symm)
      rw [MinP.uniq hd A2' B2, MaxP.uniq hd A3' B3]
end MI
