/-! the class's lists of what a machine holds: one day's entries, and the search for a free time in them -/
def LexS (dy st : Nat → Int32) (e f : Nat) : Prop := (dy e).toInt < (dy f).toInt ∨ (dy e = dy f ∧ (st e).toInt < (st f).toInt)
def Held (n : Nat) (mo : Nat → Nat) (dy st sta : Nat → Int32) (mh : Nat → List Nat) : Prop := ∀ m, (mh m).Pairwise (LexS dy st) ∧ ∀ e, e ∈ mh m ↔ e < n ∧ mo e = m ∧ act (sta e)
section CF
variable {n mc : Nat} {ow mo : Nat → Nat} {dy st le wk sta su : Nat → Int32} {D S M V : Int32} {mh : Nat → List Nat}
theorem tail_split : ∀ (l : List Nat), l.Pairwise (LexS dy st) → (∀ f ∈ l, D.toInt ≤ (dy f).toInt) → ∃ rest, l = l.filter (fun e => decide (dy e = D)) ++ rest ∧ ∀ r ∈ rest, ¬ dy r = D
  | [], _, _ => ⟨[], rfl, fun r h => (nomatch h)⟩
  | e :: l, hp, hl => by
    obtain ⟨h1, h2⟩ := List.pairwise_cons.mp hp
    by_cases c : dy e = D
    · obtain ⟨rest, q1, q2⟩ := tail_split l h2 (fun f hf => hl f (List.mem_cons_of_mem _ hf))
      refine ⟨rest, ?_, q2⟩
      rw [List.filter_cons_of_pos (by simpa using c), List.cons_append, ← q1]
    · have c0 := hl e List.mem_cons_self
      have c1 : D.toInt < (dy e).toInt := by
        have : ¬ (dy e).toInt = D.toInt := fun z => c (i_eq.mpr z)
        omega
      have hall : ∀ f ∈ e :: l, ¬ dy f = D := by
        intro f hf
        rcases List.mem_cons.mp hf with rfl | hf
        · exact c
        · intro z
          have h3 := h1 f hf
          have := i_eq.mp z
          rcases h3 with h3 | ⟨h3, -⟩
          · omega
          · have := i_eq.mp h3
            omega
      refine ⟨e :: l, ?_, hall⟩
      rw [List.filter_eq_nil_iff.mpr (fun f hf => by simpa using hall f hf)]
      rfl
theorem drop_split : ∀ (l : List Nat), (∀ e ∈ l, 0 ≤ (st e).toInt) → l.Pairwise (LexS dy st) → ∃ rest, l.drop (placeL dy st D 0 l) = l.filter (fun e => decide (dy e = D)) ++ rest ∧ ∀ r ∈ rest, ¬ dy r = D
  | [], _, _ => ⟨[], rfl, fun r h => (nomatch h)⟩
  | e :: l, h0, hp => by
    obtain ⟨h1, h2⟩ := List.pairwise_cons.mp hp
    have he0 := h0 e List.mem_cons_self
    by_cases c : dy e < D
    · obtain ⟨rest, q1, q2⟩ := drop_split l (fun f hf => h0 f (List.mem_cons_of_mem _ hf)) h2
      refine ⟨rest, ?_, q2⟩
      have c2 : ¬ dy e = D := fun z => by rw [i_lt, z] at c; omega
      rw [placeL, if_pos (Or.inl c), List.drop_succ_cons, q1, List.filter_cons_of_neg (by simpa using c2)]
    · have hn : ¬ (dy e < D ∨ dy e = D ∧ st e < 0) := by
        intro z
        rcases z with z | ⟨-, z⟩
        · exact c z
        · rw [i_lt] at z
          have z : (st e).toInt < 0 := z
          omega
      rw [placeL, if_neg hn, List.drop_zero]
      refine tail_split (e :: l) hp (fun f hf => ?_)
      rw [i_lt] at c
      rcases List.mem_cons.mp hf with rfl | hf
      · omega
      · rcases h1 f hf with h3 | ⟨h3, -⟩
        · omega
        · have := i_eq.mp h3
          omega
/-- one day's entries of a machine, in their order -/
def dayL (dy : Nat → Int32) (mh : Nat → List Nat) (m : Nat) (D : Int32) : List Nat := (mh m).filter (fun e => decide (dy e = D))
theorem mem_dayL (hH : Held n mo dy st sta mh) {m e : Nat} : e ∈ dayL dy mh m D ↔ e < n ∧ mo e = m ∧ act (sta e) ∧ dy e = D := by
  unfold dayL
  rw [List.mem_filter, (hH m).2]
  simp only [decide_eq_true_eq]
  exact ⟨fun z => ⟨z.1.1, z.1.2.1, z.1.2.2, z.2⟩, fun z => ⟨⟨z.1, z.2.1, z.2.2.1⟩, z.2.2.2⟩⟩
theorem day_split (hE : EOk n dy st le) (hH : Held n mo dy st sta mh) (m : Nat) (D : Int32) : ∃ rest, (mh m).drop (placeL dy st D 0 (mh m)) = dayL dy mh m D ++ rest ∧ ∀ r ∈ rest, ¬ dy r = D :=
  drop_split (mh m) (fun e he => (hE e (((hH m).2 e).mp he).1).2.2.1) (hH m).1
theorem dayL_bef (hE : EOk n dy st le) (hSep : Sep n mo dy st le wk sta su) (hU : SuOk su) (hH : Held n mo dy st sta mh) (m : Nat) (D : Int32) : (dayL dy mh m D).Pairwise (Bef (su m) st le wk) := by
  have h1 : (dayL dy mh m D).Pairwise (LexS dy st) := (hH m).1.filter _
  refine h1.imp_of_mem (fun {e f} he hf hl => ?_)
  obtain ⟨e1, e2, e3, e4⟩ := (mem_dayL hH).mp he
  obtain ⟨f1, f2, f3, f4⟩ := (mem_dayL hH).mp hf
  have hlt : (st e).toInt < (st f).toInt := by
    rcases hl with h | ⟨-, h⟩
    · rw [e4, f4] at h
      omega
    · exact h
  have hne : e ≠ f := fun z => by rw [z] at hlt; omega
  obtain ⟨-, -, g3, g4, g5⟩ := hE f f1
  rcases hSep e f e1 f1 hne e3 f3 (e2.trans f2.symm) (e4.trans f4.symm) with q | q
  · rw [e2] at q
    exact q
  · have h7 := suI_nn (a := wk f) (b := wk e) (hU (mo e)).1
    unfold Bef at q
    omega
/-- the class's entries, seen through the reference's rows -/
abbrev vq (ow mo : Nat → Nat) (dy st le wk sta : Nat → Int32) : Nat → En := vE ow mo dy st le (fun e => st e + le e) wk sta (fun _ => 0)
theorem endq_I (hE : EOk n dy st le) {e : Nat} (he : e < n) : (st e + le e).toInt = (st e).toInt + (le e).toInt := by
  obtain ⟨-, -, h3, h4, h5⟩ := hE e he
  rw [i_add (by omega) (by omega)]
theorem ite_I {a b s : Int32} : (if a = b then (0 : Int32) else s).toInt = suI s a b := by
  unfold suI
  by_cases e : a = b
  · rw [if_pos e, if_pos e]
    rfl
  · rw [if_neg e, if_neg e]
theorem okBf_iff (hE : EOk n dy st le) (hU : SuOk su) (hS : 0 ≤ S.toInt) (hM : 1 ≤ M.toInt) (hSM : S.toInt + M.toInt ≤ 480) {b : Option Nat} (hb : ∀ x, b = some x → x < n ∧ (st x).toInt + (le x).toInt ≤ S.toInt) : okBf (vq ow mo dy st le wk sta) (su mc) S V b = true ↔ ∀ x, b = some x → Spd (su mc) st le wk S.toInt M.toInt V x := by
  cases b with
  | none => exact ⟨fun _ x e => (nomatch e), fun _ => rfl⟩
  | some x =>
    obtain ⟨h1, h2⟩ := hb x rfl
    obtain ⟨-, -, h3, h4, h5⟩ := hE x h1
    have e1 := endq_I hE h1
    have e3 : (S - (st x + le x)).toInt = S.toInt - ((st x).toInt + (le x).toInt) := by rw [i_sub (by omega) (by omega), e1]
    have key : ((if wk x = V then (0 : Int32) else su mc) ≤ S - (st x + le x)) ↔ Spd (su mc) st le wk S.toInt M.toInt V x := by
      rw [i_le, e3, ite_I]
      have h7 := suI_nn (a := V) (b := wk x) (hU mc).1
      unfold Spd
      constructor
      · intro z
        exact Or.inl (by omega)
      · intro z
        rcases z with z | z <;> omega
    show decide ((if wk x = V then (0 : Int32) else su mc) ≤ S - (st x + le x)) = true ↔ _
    rw [decide_eq_true_iff, key]
    exact ⟨fun z y e => by cases e; exact z, fun z => z x rfl⟩
theorem okAf_iff (hE : EOk n dy st le) (hU : SuOk su) (hS : 0 ≤ S.toInt) (hM : 1 ≤ M.toInt) (hSM : S.toInt + M.toInt ≤ 480) {x : Nat} (h1 : x < n) (h2 : S.toInt + M.toInt ≤ (st x).toInt) : okAf (vq ow mo dy st le wk sta) (su mc) (S + M) V (some x) = true ↔ Spd (su mc) st le wk S.toInt M.toInt V x := by
  obtain ⟨-, -, h3, h4, h5⟩ := hE x h1
  have e1 : (S + M).toInt = S.toInt + M.toInt := i_add (by omega) (by omega)
  have e3 : (st x - (S + M)).toInt = (st x).toInt - (S.toInt + M.toInt) := by rw [i_sub (by omega) (by omega), e1]
  show decide ((if V = wk x then (0 : Int32) else su mc) ≤ st x - (S + M)) = true ↔ _
  rw [decide_eq_true_iff, i_le, e3, ite_I]
  have h7 := suI_nn (a := wk x) (b := V) (hU mc).1
  unfold Spd
  constructor
  · intro z
    exact Or.inr (by omega)
  · intro z
    rcases z with z | z <;> omega
theorem c_free_rest (rest : List Nat) (hr : ∀ r ∈ rest, ¬ dy r = D) (b : Option Nat) : freeL (vq ow mo dy st le wk sta) (su mc) D S (S + M) V b rest = okBf (vq ow mo dy st le wk sta) (su mc) S V b := by
  cases rest with
  | nil => rw [freeL]
  | cons e es =>
    rw [freeL]
    exact if_neg (hr e List.mem_cons_self)
theorem c_free_list (hE : EOk n dy st le) (hU : SuOk su) (hS : 0 ≤ S.toInt) (hM : 1 ≤ M.toInt) (hSM : S.toInt + M.toInt ≤ 480) {rest : List Nat} (hr : ∀ r ∈ rest, ¬ dy r = D) : ∀ (l : List Nat) (b : Option Nat), (∀ e ∈ l, e < n ∧ dy e = D) → l.Pairwise (Bef (su mc) st le wk) → (∀ x, b = some x → x < n ∧ (∀ e ∈ l, Bef (su mc) st le wk x e) ∧ (st x).toInt + (le x).toInt ≤ S.toInt) → (freeL (vq ow mo dy st le wk sta) (su mc) D S (S + M) V b (l ++ rest) = true ↔ (∀ e ∈ l, Spd (su mc) st le wk S.toInt M.toInt V e) ∧ ∀ x, b = some x → Spd (su mc) st le wk S.toInt M.toInt V x)
  | [], b, _, _, hb => by
    rw [List.nil_append, c_free_rest rest hr, okBf_iff hE hU hS hM hSM (fun x e => ⟨(hb x e).1, (hb x e).2.2⟩)]
    exact ⟨fun z => ⟨fun e h => (nomatch h), z⟩, fun z => z.2⟩
  | e :: l, b, hl, hp, hb => by
    obtain ⟨p1, p2⟩ := List.pairwise_cons.mp hp
    obtain ⟨e1, e2⟩ := hl e List.mem_cons_self
    obtain ⟨-, -, h3, h4, h5⟩ := hE e e1
    have hl' : ∀ f ∈ l, f < n ∧ dy f = D := fun f hf => hl f (List.mem_cons_of_mem _ hf)
    have hF : (S + M).toInt = S.toInt + M.toInt := i_add (by omega) (by omega)
    have hEnd := endq_I hE e1
    rw [List.cons_append, freeL]
    rw [if_pos (show eDay (vq ow mo dy st le wk sta e) = D from e2)]
    by_cases c : dy e = D ∧ st e < S + M ∧ S < st e + le e
    · rw [if_pos (show eDay (vq ow mo dy st le wk sta e) = D ∧ eSta (vq ow mo dy st le wk sta e) < S + M ∧ S < eEnd (vq ow mo dy st le wk sta e) from c)]
      obtain ⟨-, c1, c2⟩ := c
      rw [i_lt, hF] at c1
      rw [i_lt, hEnd] at c2
      refine bool_ff (fun z => ?_)
      have z := z.1 e List.mem_cons_self
      have h7 := suI_nn (a := wk e) (b := V) (hU mc).1
      have h8 := suI_nn (a := V) (b := wk e) (hU mc).1
      unfold Spd at z
      rcases z with z | z <;> omega
    · rw [if_neg (show ¬ (eDay (vq ow mo dy st le wk sta e) = D ∧ eSta (vq ow mo dy st le wk sta e) < S + M ∧ S < eEnd (vq ow mo dy st le wk sta e)) from c)]
      by_cases c1 : st e < S + M
      · rw [if_pos (show eSta (vq ow mo dy st le wk sta e) < S + M from c1)]
        have c2 : (st e).toInt + (le e).toInt ≤ S.toInt := by
          by_cases q : S < st e + le e
          · exact absurd ⟨e2, c1, q⟩ c
          · rw [i_lt, hEnd] at q
            omega
        rw [c_free_list hE hU hS hM hSM hr l (some e) hl' p2 (fun x h => by cases h; exact ⟨e1, p1, c2⟩)]
        constructor
        · intro z
          refine ⟨fun f hf => ?_, fun x hx => ?_⟩
          · rcases List.mem_cons.mp hf with rfl | hf
            · exact z.2 f rfl
            · exact z.1 f hf
          · obtain ⟨x1, x2, x3⟩ := hb x hx
            exact tri1 (hU mc).1 h4 hM (x2 e List.mem_cons_self) (by omega) (z.2 e rfl)
        · intro z
          exact ⟨fun f hf => z.1 f (List.mem_cons_of_mem _ hf), fun x hx => by cases hx; exact z.1 e List.mem_cons_self⟩
      · rw [if_neg (show ¬ eSta (vq ow mo dy st le wk sta e) < S + M from c1)]
        rw [i_lt, hF] at c1
        rw [Bool.and_eq_true, okBf_iff hE hU hS hM hSM (fun x e => ⟨(hb x e).1, (hb x e).2.2⟩), okAf_iff hE hU hS hM hSM e1 (by omega)]
        constructor
        · intro z
          refine ⟨fun f hf => ?_, z.1⟩
          rcases List.mem_cons.mp hf with rfl | hf
          · exact z.2
          · exact tri2 (hU mc).1 h4 (p1 f hf) (by omega) z.2
        · intro z
          exact ⟨z.2, z.1 e List.mem_cons_self⟩
theorem c_free_iff (hE : EOk n dy st le) (hSep : Sep n mo dy st le wk sta su) (hU : SuOk su) (hH : Held n mo dy st sta mh) (hD : ∀ e, e < n → sta e = 100 → ¬ dy e = D) (hS : 0 ≤ S.toInt) (hM : 1 ≤ M.toInt) (hSM : S.toInt + M.toInt ≤ 480) : f_c_isFree ow mo dy st le (fun e => st e + le e) wk sta mh su mc (f_c_placeOf dy st mh mc D 0) D S M V = true ↔ FreeP n mc mo dy st le wk sta su D S M V := by
  unfold f_c_isFree f_c_placeOf
  obtain ⟨rest, q1, q2⟩ := day_split hE hH mc D
  rw [q1, c_free_list hE hU hS hM hSM q2 (dayL dy mh mc D) none (fun e he => ⟨((mem_dayL hH).mp he).1, ((mem_dayL hH).mp he).2.2.2⟩) (dayL_bef hE hSep hU hH mc D) (fun x e => (nomatch e))]
  unfold FreeP InB
  constructor
  · intro z e he ⟨i1, i2, i3⟩
    exact z.1 e ((mem_dayL hH).mpr ⟨he, i2, Or.inl i1, i3⟩)
  · intro z
    refine ⟨fun e he => ?_, fun x e => (nomatch e)⟩
    obtain ⟨e1, e2, e3, e4⟩ := (mem_dayL hH).mp he
    rcases e3 with e3 | e3
    · exact z e e1 ⟨e3, e2, e4⟩
    · exact absurd e4 (hD e e1 e3)
/-- class and reference find the same times free -/
theorem free_eq (hE : EOk n dy st le) (hSep : Sep n mo dy st le wk sta su) (hU : SuOk su) (hH : Held n mo dy st sta mh) (hD : ∀ e, e < n → sta e = 100 → ¬ dy e = D) (hS : 0 ≤ S.toInt) (hM : 1 ≤ M.toInt) (hSM : S.toInt + M.toInt ≤ 480) : f_c_isFree ow mo dy st le (fun e => st e + le e) wk sta mh su mc (f_c_placeOf dy st mh mc D 0) D S M V = f_r_isFree dy n le mo st sta su wk mc D S M V :=
  Bool.eq_iff_iff.mpr ((c_free_iff hE hSep hU hH hD hS hM hSM).trans (r_free_iff hE hSep hU hS hM hSM).symm)
end CF
