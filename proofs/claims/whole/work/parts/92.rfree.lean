/-! the reference's search for a free time, as a statement over all entries -/
def InB (mo : Nat → Nat) (dy sta : Nat → Int32) (mc : Nat) (D : Int32) (e : Nat) : Prop := sta e = 98 ∧ mo e = mc ∧ dy e = D
section RF
variable {n mc : Nat} {mo : Nat → Nat} {dy st le wk sta su : Nat → Int32} {D S M V : Int32}
theorem endOf_I (hE : EOk n dy st le) {e : Nat} (he : e < n) : (f_r_endOf le st e).toInt = (st e).toInt + (le e).toInt := by
  obtain ⟨-, -, h3, h4, h5⟩ := hE e he
  unfold f_r_endOf
  rw [i_add (by omega) (by omega)]
theorem ov_iff (hE : EOk n dy st le) {e : Nat} (he : e < n) (hS : 0 ≤ S.toInt) (hM : 1 ≤ M.toInt) (hSM : S.toInt + M.toInt ≤ 480) (c1 : sta e = 98) (c2 : dy e = D) : f_r_overlaps dy le st sta e D S M = true ↔ (st e).toInt < S.toInt + M.toInt ∧ S.toInt < (st e).toInt + (le e).toInt := by
  unfold f_r_overlaps
  rw [if_pos c1, if_pos c2]
  have e1 : (S + M).toInt = S.toInt + M.toInt := i_add (by omega) (by omega)
  have e2 := endOf_I hE he
  by_cases c3 : st e < S + M
  · rw [if_pos c3]
    rw [i_lt, e1] at c3
    by_cases c4 : S < f_r_endOf le st e
    · rw [if_pos c4]
      rw [i_lt, e2] at c4
      exact ⟨fun _ => ⟨c3, c4⟩, fun _ => rfl⟩
    · rw [if_neg c4]
      rw [i_lt, e2] at c4
      exact ⟨fun z => (nomatch z), fun z => absurd z.2 c4⟩
  · rw [if_neg c3]
    rw [i_lt, e1] at c3
    exact ⟨fun z => (nomatch z), fun z => absurd z.1 c3⟩
theorem fin_bf (hE : EOk n dy st le) (hU : SuOk su) {b : Nat} (hb : b < n) (hS : 0 ≤ S.toInt) (hM : 1 ≤ M.toInt) (hSM : S.toInt + M.toInt ≤ 480) (h : (st b).toInt + (le b).toInt ≤ S.toInt) : (¬ S - f_r_endOf le st b < f_r_setup su mc (wk b) V) ↔ Spd (su mc) st le wk S.toInt M.toInt V b := by
  obtain ⟨-, -, h3, h4, h5⟩ := hE b hb
  have e2 := endOf_I hE hb
  have e3 : (S - f_r_endOf le st b).toInt = S.toInt - ((st b).toInt + (le b).toInt) := by rw [i_sub (by omega) (by omega), e2]
  rw [i_lt, setup_I, e3]
  unfold Spd
  have h7 := suI_nn (a := V) (b := wk b) (hU mc).1
  constructor
  · intro z
    exact Or.inl (by omega)
  · intro z
    rcases z with z | z <;> omega
theorem fin_bh (hE : EOk n dy st le) (hU : SuOk su) {b : Nat} (hb : b < n) (hS : 0 ≤ S.toInt) (hM : 1 ≤ M.toInt) (hSM : S.toInt + M.toInt ≤ 480) (h : S.toInt + M.toInt ≤ (st b).toInt) : (¬ ((st b) - S) - M < f_r_setup su mc (wk b) V) ↔ Spd (su mc) st le wk S.toInt M.toInt V b := by
  obtain ⟨-, -, h3, h4, h5⟩ := hE b hb
  have e1 : (st b - S).toInt = (st b).toInt - S.toInt := i_sub (by omega) (by omega)
  have e3 : (st b - S - M).toInt = (st b).toInt - S.toInt - M.toInt := by rw [i_sub (by omega) (by omega), e1]
  rw [i_lt, setup_I, e3, suI_comm]
  unfold Spd
  have h7 := suI_nn (a := wk b) (b := V) (hU mc).1
  constructor
  · intro z
    exact Or.inr (by omega)
  · intro z
    rcases z with z | z <;> omega
theorem ite_tf {p : Prop} [Decidable p] : (if p then false else true) = true ↔ ¬ p := by
  by_cases h : p
  · rw [if_pos h]
    exact ⟨fun z => (nomatch z), fun z => absurd h z⟩
  · rw [if_neg h]
    exact ⟨fun _ => h, fun _ => rfl⟩
theorem bool_ff {P : Prop} (h : ¬ P) : (false = true) ↔ P := ⟨fun z => (nomatch z), fun z => absurd z h⟩
theorem r_free_loop (hE : EOk n dy st le) (hSep : Sep n mo dy st le wk sta su) (hU : SuOk su) (hS : 0 ≤ S.toInt) (hM : 1 ≤ M.toInt) (hSM : S.toInt + M.toInt ≤ 480) : ∀ (k j : Nat) (bf bh : Option Nat), j + k ≤ n → (∀ b, bf = some b → b < j ∧ InB mo dy sta mc D b ∧ (st b).toInt + (le b).toInt ≤ S.toInt) → (∀ b, bh = some b → b < j ∧ InB mo dy sta mc D b ∧ S.toInt + M.toInt ≤ (st b).toInt) → (r_isFree_L9 dy le mo st sta su wk mc D S M V k j bf bh = true ↔ (∀ e, j ≤ e → e < j + k → InB mo dy sta mc D e → Spd (su mc) st le wk S.toInt M.toInt V e) ∧ (∀ b, bf = some b → Spd (su mc) st le wk S.toInt M.toInt V b) ∧ (∀ b, bh = some b → Spd (su mc) st le wk S.toInt M.toInt V b)) := by
  intro k
  induction k with
  | zero =>
    intro j bf bh hj hbf hbh
    rw [r_isFree_L9, all_zero]
    cases bf with
    | none =>
      cases bh with
      | none => exact ⟨fun _ => ⟨trivial, fun b e => (nomatch e), fun b e => (nomatch e)⟩, fun _ => rfl⟩
      | some b =>
        obtain ⟨b1, b2, b3⟩ := hbh b rfl
        show ((if ((st b) - S) - M < f_r_setup su mc (wk b) V then false else true) = true) ↔ _
        rw [ite_tf, fin_bh hE hU (by omega) hS hM hSM b3]
        exact ⟨fun z => ⟨trivial, fun b e => (nomatch e), fun b' e => by cases e; exact z⟩, fun z => z.2.2 b rfl⟩
    | some a =>
      obtain ⟨a1, a2, a3⟩ := hbf a rfl
      have ha := fin_bf (mc := mc) (wk := wk) (V := V) hE hU (by omega) hS hM hSM a3
      show ((if S - f_r_endOf le st a < f_r_setup su mc (wk a) V then false else oE bh true (fun k8 => if ((st k8) - S) - M < f_r_setup su mc (wk k8) V then false else true)) = true) ↔ _
      by_cases c : S - f_r_endOf le st a < f_r_setup su mc (wk a) V
      · rw [if_pos c]
        exact bool_ff (fun z => ha.mpr (z.2.1 a rfl) c)
      · rw [if_neg c]
        have ha := ha.mp c
        cases bh with
        | none => exact ⟨fun _ => ⟨trivial, fun b e => by cases e; exact ha, fun b e => (nomatch e)⟩, fun _ => rfl⟩
        | some b =>
          obtain ⟨b1, b2, b3⟩ := hbh b rfl
          show ((if ((st b) - S) - M < f_r_setup su mc (wk b) V then false else true) = true) ↔ _
          rw [ite_tf, fin_bh hE hU (by omega) hS hM hSM b3]
          exact ⟨fun z => ⟨trivial, fun b' e => by cases e; exact ha, fun b' e => by cases e; exact z⟩, fun z => z.2.2 b rfl⟩
  | succ k ih =>
    intro j bf bh hj hbf hbh
    have hbf' : ∀ b, bf = some b → b < j + 1 ∧ InB mo dy sta mc D b ∧ (st b).toInt + (le b).toInt ≤ S.toInt := fun b e => ⟨by have := (hbf b e).1; omega, (hbf b e).2⟩
    have hbh' : ∀ b, bh = some b → b < j + 1 ∧ InB mo dy sta mc D b ∧ S.toInt + M.toInt ≤ (st b).toInt := fun b e => ⟨by have := (hbh b e).1; omega, (hbh b e).2⟩
    rw [r_isFree_L9, all_step]
    have out : ∀ (hn : ¬ InB mo dy sta mc D j), (r_isFree_L9 dy le mo st sta su wk mc D S M V k (j + 1) bf bh = true ↔ ((InB mo dy sta mc D j → Spd (su mc) st le wk S.toInt M.toInt V j) ∧ ∀ e, j + 1 ≤ e → e < j + 1 + k → InB mo dy sta mc D e → Spd (su mc) st le wk S.toInt M.toInt V e) ∧ (∀ b, bf = some b → Spd (su mc) st le wk S.toInt M.toInt V b) ∧ (∀ b, bh = some b → Spd (su mc) st le wk S.toInt M.toInt V b)) := by
      intro hn
      rw [ih (j + 1) bf bh (by omega) hbf' hbh']
      exact ⟨fun z => ⟨⟨fun q => absurd q hn, z.1⟩, z.2⟩, fun z => ⟨z.1.2, z.2⟩⟩
    by_cases c1 : sta j = 98
    · rw [if_pos c1]
      by_cases c2 : mo j = mc
      · rw [if_pos c2]
        by_cases c3 : dy j = D
        · rw [if_pos c3]
          have hin : InB mo dy sta mc D j := ⟨c1, c2, c3⟩
          have hjn : j < n := by omega
          obtain ⟨-, -, h3, h4, h5⟩ := hE j hjn
          have hsep : ∀ b, b < j → InB mo dy sta mc D b → Bef (su mc) st le wk b j ∨ Bef (su mc) st le wk j b := by
            intro b hb ⟨i1, i2, i3⟩
            have := hSep b j (by omega) hjn (by omega) (Or.inl i1) (Or.inl c1) (i2.trans c2.symm) (i3.trans c3.symm)
            rw [i2] at this
            exact this
          by_cases c4 : f_r_overlaps dy le st sta j D S M = true
          · rw [if_pos c4]
            have o := (ov_iff hE hjn hS hM hSM c1 c3).mp c4
            refine bool_ff (fun z => ?_)
            have z := z.1.1 hin
            have h7 := suI_nn (a := wk j) (b := V) (hU mc).1
            have h8 := suI_nn (a := V) (b := wk j) (hU mc).1
            unfold Spd at z
            rcases z with z | z <;> omega
          · rw [if_neg c4]
            have o := fun q => c4 ((ov_iff hE hjn hS hM hSM c1 c3).mpr q)
            by_cases c5 : st j < S
            · rw [if_pos c5]
              have c5' := i_lt.mp c5
              have hend : (st j).toInt + (le j).toInt ≤ S.toInt := by
                by_cases q : S.toInt < (st j).toInt + (le j).toInt
                · exact absurd ⟨by omega, q⟩ o
                · omega
              have nj : ∀ b, some j = some b → b < j + 1 ∧ InB mo dy sta mc D b ∧ (st b).toInt + (le b).toInt ≤ S.toInt := fun b e => by cases e; exact ⟨by omega, hin, hend⟩
              cases bf with
              | none =>
                show (r_isFree_L9 dy le mo st sta su wk mc D S M V k (j + 1) (some j) bh = true) ↔ _
                rw [ih (j + 1) (some j) bh (by omega) nj hbh']
                exact ⟨fun z => ⟨⟨fun _ => z.2.1 j rfl, z.1⟩, fun b e => (nomatch e), z.2.2⟩, fun z => ⟨z.1.2, fun b e => by cases e; exact z.1.1 hin, z.2.2⟩⟩
              | some b =>
                obtain ⟨b1, b2, b3⟩ := hbf b rfl
                obtain ⟨-, -, g3, g4, g5⟩ := hE b (by omega)
                show ((if st b < st j then r_isFree_L9 dy le mo st sta su wk mc D S M V k (j + 1) (some j) bh else r_isFree_L9 dy le mo st sta su wk mc D S M V k (j + 1) (some b) bh) = true) ↔ _
                by_cases c6 : st b < st j
                · rw [if_pos c6, ih (j + 1) (some j) bh (by omega) nj hbh']
                  rw [i_lt] at c6
                  have hB : Bef (su mc) st le wk b j := by
                    rcases hsep b b1 b2 with q | q
                    · exact q
                    · have h7 := suI_nn (a := wk j) (b := wk b) (hU mc).1
                      unfold Bef at q
                      omega
                  exact ⟨fun z => ⟨⟨fun _ => z.2.1 j rfl, z.1⟩, fun b' e => by cases e; exact tri1 (hU mc).1 h4 hM hB c5' (z.2.1 j rfl), z.2.2⟩, fun z => ⟨z.1.2, fun b' e => by cases e; exact z.1.1 hin, z.2.2⟩⟩
                · rw [if_neg c6, ih (j + 1) (some b) bh (by omega) hbf' hbh']
                  rw [i_lt] at c6
                  have hB : Bef (su mc) st le wk j b := by
                    rcases hsep b b1 b2 with q | q
                    · have h7 := suI_nn (a := wk b) (b := wk j) (hU mc).1
                      unfold Bef at q
                      omega
                    · exact q
                  exact ⟨fun z => ⟨⟨fun _ => tri1 (hU mc).1 g4 hM hB (by omega) (z.2.1 b rfl), z.1⟩, z.2⟩, fun z => ⟨z.1.2, z.2⟩⟩
            · rw [if_neg c5]
              rw [i_lt] at c5
              have hbeg : S.toInt + M.toInt ≤ (st j).toInt := by
                by_cases q : (st j).toInt < S.toInt + M.toInt
                · exact absurd ⟨q, by omega⟩ o
                · omega
              have nj : ∀ b, some j = some b → b < j + 1 ∧ InB mo dy sta mc D b ∧ S.toInt + M.toInt ≤ (st b).toInt := fun b e => by cases e; exact ⟨by omega, hin, hbeg⟩
              cases bh with
              | none =>
                show (r_isFree_L9 dy le mo st sta su wk mc D S M V k (j + 1) bf (some j) = true) ↔ _
                rw [ih (j + 1) bf (some j) (by omega) hbf' nj]
                exact ⟨fun z => ⟨⟨fun _ => z.2.2 j rfl, z.1⟩, z.2.1, fun b e => (nomatch e)⟩, fun z => ⟨z.1.2, z.2.1, fun b e => by cases e; exact z.1.1 hin⟩⟩
              | some b =>
                obtain ⟨b1, b2, b3⟩ := hbh b rfl
                obtain ⟨-, -, g3, g4, g5⟩ := hE b (by omega)
                show ((if st j < st b then r_isFree_L9 dy le mo st sta su wk mc D S M V k (j + 1) bf (some j) else r_isFree_L9 dy le mo st sta su wk mc D S M V k (j + 1) bf (some b)) = true) ↔ _
                by_cases c6 : st j < st b
                · rw [if_pos c6, ih (j + 1) bf (some j) (by omega) hbf' nj]
                  rw [i_lt] at c6
                  have hB : Bef (su mc) st le wk j b := by
                    rcases hsep b b1 b2 with q | q
                    · have h7 := suI_nn (a := wk b) (b := wk j) (hU mc).1
                      unfold Bef at q
                      omega
                    · exact q
                  exact ⟨fun z => ⟨⟨fun _ => z.2.2 j rfl, z.1⟩, z.2.1, fun b' e => by cases e; exact tri2 (hU mc).1 h4 hB (by omega) (z.2.2 j rfl)⟩, fun z => ⟨z.1.2, z.2.1, fun b' e => by cases e; exact z.1.1 hin⟩⟩
                · rw [if_neg c6, ih (j + 1) bf (some b) (by omega) hbf' hbh']
                  rw [i_lt] at c6
                  have hB : Bef (su mc) st le wk b j := by
                    rcases hsep b b1 b2 with q | q
                    · exact q
                    · have h7 := suI_nn (a := wk j) (b := wk b) (hU mc).1
                      unfold Bef at q
                      omega
                  exact ⟨fun z => ⟨⟨fun _ => tri2 (hU mc).1 g4 hB (by omega) (z.2.2 b rfl), z.1⟩, z.2⟩, fun z => ⟨z.1.2, z.2⟩⟩
        · rw [if_neg c3]
          exact out (fun q => c3 q.2.2)
      · rw [if_neg c2]
        exact out (fun q => c2 q.2.1)
    · rw [if_neg c1]
      exact out (fun q => c1 q.1)
/-- the time is free: beside every booked entry of the machine and day -/
def FreeP (n mc : Nat) (mo : Nat → Nat) (dy st le wk sta su : Nat → Int32) (D S M V : Int32) : Prop := ∀ e, e < n → InB mo dy sta mc D e → Spd (su mc) st le wk S.toInt M.toInt V e
theorem r_free_iff (hE : EOk n dy st le) (hSep : Sep n mo dy st le wk sta su) (hU : SuOk su) (hS : 0 ≤ S.toInt) (hM : 1 ≤ M.toInt) (hSM : S.toInt + M.toInt ≤ 480) : f_r_isFree dy n le mo st sta su wk mc D S M V = true ↔ FreeP n mc mo dy st le wk sta su D S M V := by
  unfold f_r_isFree
  rw [r_free_loop hE hSep hU hS hM hSM n 0 none none (by omega) (fun b e => (nomatch e)) (fun b e => (nomatch e))]
  unfold FreeP
  exact ⟨fun z e he => z.1 e (by omega) (by omega), fun z => ⟨fun e _ he => z e (by omega), fun b e => (nomatch e), fun b e => (nomatch e)⟩⟩
end RF
