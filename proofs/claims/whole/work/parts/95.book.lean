/-! booking what waits: class and reference alike -/
def MemSep (n : Nat) (ow : Nat → Nat) (dy st le sta : Nat → Int32) : Prop := ∀ e f, e < n → f < n → e ≠ f → sta e = 98 → sta f = 98 → ow e = ow f → dy e = dy f → (st e).toInt + (le e).toInt ≤ (st f).toInt ∨ (st f).toInt + (le f).toInt ≤ (st e).toInt
def DayOk (n : Nat) (dy sta : Nat → Int32) (day : Int32) : Prop := ∀ e, e < n → (sta e = 119 ∨ sta e = 98 → day.toInt ≤ (dy e).toInt) ∧ (sta e = 100 → (dy e).toInt < day.toInt)
def LiveB (n : Nat) (ow mo mk : Nat → Nat) (dy sta : Nat → Int32) (nd : Nat → Nat → Bool) (tk : Nat → Nat → Int32) : Prop := ∀ e, e < n → sta e = 98 → f_r_live nd tk (ow e) (mk (mo e)) (dy e) = true
def NoneW (n : Nat) (ow mo mk : Nat → Nat) (dy st le wk sta su : Nat → Int32) (nd : Nat → Nat → Bool) (tk : Nat → Nat → Int32) : Prop := ∀ e, e < n → sta e = 119 → ¬ (f_r_live nd tk (ow e) (mk (mo e)) (dy e) = true ∧ ¬ BusyP n (ow e) ow dy st le sta (dy e) (st e) (le e) ∧ FreeP n (mo e) mo dy st le wk sta su (dy e) (st e) (le e) (wk e))
/-- what holds of entries and held lists, whatever waits -/
def EI (n : Nat) (ow mo mk : Nat → Nat) (dy st le wk su : Nat → Int32) (nd : Nat → Nat → Bool) (tk : Nat → Nat → Int32) (day : Int32) (mh : Nat → List Nat) (sta : Nat → Int32) : Prop := EOk n dy st le ∧ SuOk su ∧ Sep n mo dy st le wk sta su ∧ Held n mo dy st sta mh ∧ MemSep n ow dy st le sta ∧ DayOk n dy sta day ∧ LiveB n ow mo mk dy sta nd tk
def StepW (n : Nat) (sta sta' : Nat → Int32) : Prop := ∀ e, sta' e = sta e ∨ (e < n ∧ sta e = 119 ∧ sta' e = 98)
theorem lex_trans {dy st : Nat → Int32} {a b c : Nat} (h1 : LexS dy st a b) (h2 : LexS dy st b c) : LexS dy st a c := by
  unfold LexS at *
  rcases h1 with h1 | ⟨h1, h3⟩ <;> rcases h2 with h2 | ⟨h2, h4⟩
  · exact Or.inl (by omega)
  · exact Or.inl (by rw [← h2]; exact h1)
  · exact Or.inl (by rw [h1]; exact h2)
  · exact Or.inr ⟨h1.trans h2, by omega⟩
theorem lex_irr {dy st : Nat → Int32} {a : Nat} (h : LexS dy st a a) : False := by
  rcases h with h | ⟨-, h⟩ <;> omega
theorem lex_ins {dy st : Nat → Int32} {e : Nat} : ∀ (l : List Nat), l.Pairwise (LexS dy st) → (∀ f ∈ l, dy f = dy e → ¬ (st f).toInt = (st e).toInt) → (l.insertIdx (placeL dy st (dy e) (st e) l) e).Pairwise (LexS dy st) ∧ ∀ a, a ∈ l.insertIdx (placeL dy st (dy e) (st e) l) e ↔ a = e ∨ a ∈ l
  | [], _, _ => by
    rw [placeL, List.insertIdx_zero]
    exact ⟨List.pairwise_singleton _ _, fun a => by rw [List.mem_cons]⟩
  | b :: l, hp, hk => by
    obtain ⟨p1, p2⟩ := List.pairwise_cons.mp hp
    rw [placeL]
    by_cases c : dy b < dy e ∨ dy b = dy e ∧ st b < st e
    · obtain ⟨i1, i2⟩ := lex_ins l p2 (fun f hf => hk f (List.mem_cons_of_mem _ hf))
      rw [if_pos c, List.insertIdx_succ_cons]
      refine ⟨List.pairwise_cons.mpr ⟨fun a ha => ?_, i1⟩, fun a => ?_⟩
      · rcases (i2 a).mp ha with rfl | ha
        · rcases c with c | ⟨c1, c2⟩
          · exact Or.inl (i_lt.mp c)
          · exact Or.inr ⟨c1, i_lt.mp c2⟩
        · exact p1 a ha
      · rw [List.mem_cons, i2, List.mem_cons]
        constructor
        · intro z
          rcases z with z | z | z
          · exact Or.inr (Or.inl z)
          · exact Or.inl z
          · exact Or.inr (Or.inr z)
        · intro z
          rcases z with z | z | z
          · exact Or.inr (Or.inl z)
          · exact Or.inl z
          · exact Or.inr (Or.inr z)
    · rw [if_neg c, List.insertIdx_zero]
      have hb : LexS dy st e b := by
        by_cases c1 : dy b = dy e
        · refine Or.inr ⟨c1.symm, ?_⟩
          have c2 : ¬ st b < st e := fun z => c (Or.inr ⟨c1, z⟩)
          rw [i_lt] at c2
          have := hk b List.mem_cons_self c1
          omega
        · have c2 : ¬ dy b < dy e := fun z => c (Or.inl z)
          rw [i_lt] at c2
          rw [i_eq] at c1
          exact Or.inl (by omega)
      refine ⟨List.pairwise_cons.mpr ⟨fun a ha => ?_, hp⟩, fun a => by rw [List.mem_cons]⟩
      rcases List.mem_cons.mp ha with rfl | ha
      · exact hb
      · exact lex_trans hb (p1 a ha)
section BK
variable {n : Nat} {ow mo mk : Nat → Nat} {dy st le wk sta su nb : Nat → Int32} {nd : Nat → Nat → Bool} {tk : Nat → Nat → Int32} {day : Int32} {mh : Nat → List Nat}
theorem sep_book (hSep : Sep n mo dy st le wk sta su) {e : Nat} (hD : ∀ f, f < n → sta f = 100 → ¬ dy f = dy e) (hF : FreeP n (mo e) mo dy st le wk sta su (dy e) (st e) (le e) (wk e)) : Sep n mo dy st le wk (fup sta e 98) su := by
  intro a b ha hb hne aa ab hm hd
  have key : ∀ f, f < n → f ≠ e → act (sta f) → mo f = mo e → dy f = dy e → Bef (su (mo e)) st le wk e f ∨ Bef (su (mo e)) st le wk f e := by
    intro f hf hfe hact h1 h2
    rcases hact with h3 | h3
    · rcases hF f hf ⟨h3, h1, h2⟩ with q | q
      · exact Or.inr q
      · exact Or.inl q
    · exact absurd h2 (hD f hf h3)
  by_cases ea : a = e
  · subst ea
    rw [fup_ne (fun z => hne z.symm)] at ab
    exact key b hb (fun z => hne z.symm) ab hm.symm hd.symm
  · rw [fup_ne ea] at aa
    by_cases eb : b = e
    · subst eb
      rw [hm]
      exact (key a ha ea aa hm hd).symm
    · rw [fup_ne eb] at ab
      exact hSep a b ha hb hne aa ab hm hd
theorem held_book (hE : EOk n dy st le) (hU : SuOk su) (hH : Held n mo dy st sta mh) {e : Nat} (he : e < n) (hs : sta e = 119) (hS' : Sep n mo dy st le wk (fup sta e 98) su) : Held n mo dy st (fup sta e 98) (fup mh (mo e) ((mh (mo e)).insertIdx (placeL dy st (dy e) (st e) (mh (mo e))) e)) := by
  intro m
  have hkey : ∀ f ∈ mh (mo e), dy f = dy e → ¬ (st f).toInt = (st e).toInt := by
    intro f hf hd z
    obtain ⟨f1, f2, f3⟩ := ((hH (mo e)).2 f).mp hf
    have hne : f ≠ e := by
      intro z2
      rw [z2, hs] at f3
      rcases f3 with f3 | f3 <;> exact absurd f3 (by decide)
    have := hS' f e f1 he hne (by rw [fup_ne hne]; exact f3) (by rw [fup_same]; exact Or.inl rfl) f2 hd
    obtain ⟨-, -, g3, g4, g5⟩ := hE f f1
    obtain ⟨-, -, k3, k4, k5⟩ := hE e he
    have s1 := suI_nn (a := wk f) (b := wk e) (hU (mo f)).1
    have s2 := suI_nn (a := wk e) (b := wk f) (hU (mo f)).1
    unfold Bef at this
    rcases this with q | q <;> omega
  by_cases hm : m = mo e
  · subst hm
    obtain ⟨i1, i2⟩ := lex_ins (dy := dy) (st := st) (e := e) (mh (mo e)) (hH (mo e)).1 hkey
    rw [fup_same]
    refine ⟨i1, fun a => ?_⟩
    rw [i2, (hH (mo e)).2]
    by_cases ea : a = e
    · subst ea
      rw [fup_same]
      exact ⟨fun _ => ⟨he, rfl, Or.inl rfl⟩, fun _ => Or.inl rfl⟩
    · rw [fup_ne ea]
      exact ⟨fun z => z.resolve_left ea, Or.inr⟩
  · rw [fup_ne hm]
    refine ⟨(hH m).1, fun a => ?_⟩
    rw [(hH m).2]
    by_cases ea : a = e
    · subst ea
      rw [fup_same, hs]
      constructor
      · intro z
        exact absurd z.2.1 (fun q => hm q.symm)
      · intro z
        exact absurd z.2.1 (fun q => hm q.symm)
    · rw [fup_ne ea]
theorem mem_book (hE : EOk n dy st le) (hM : MemSep n ow dy st le sta) {e : Nat} (he : e < n) (hB : ¬ BusyP n (ow e) ow dy st le sta (dy e) (st e) (le e)) : MemSep n ow dy st le (fup sta e 98) := by
  have key : ∀ f, f < n → f ≠ e → sta f = 98 → ow f = ow e → dy f = dy e → (st f).toInt + (le f).toInt ≤ (st e).toInt ∨ (st e).toInt + (le e).toInt ≤ (st f).toInt := by
    intro f hf hfe h1 h2 h3
    obtain ⟨-, -, g3, g4, g5⟩ := hE f hf
    obtain ⟨-, -, k3, k4, k5⟩ := hE e he
    by_cases c1 : (st e).toInt + (le e).toInt ≤ (st f).toInt
    · exact Or.inr c1
    by_cases c2 : (st f).toInt + (le f).toInt ≤ (st e).toInt
    · exact Or.inl c2
    exfalso
    refine hB ⟨f, hf, h2, h1, h3, ?_, ?_⟩
    · rw [i_lt, endq_I hE he]
      omega
    · rw [i_lt, endq_I hE hf]
      omega
  intro a b ha hb hne aa ab hm hd
  by_cases ea : a = e
  · subst ea
    rw [fup_ne (fun z => hne z.symm)] at ab
    exact (key b hb (fun z => hne z.symm) ab hm.symm hd.symm).symm
  · rw [fup_ne ea] at aa
    by_cases eb : b = e
    · subst eb
      exact key a ha ea aa hm hd
    · rw [fup_ne eb] at ab
      exact hM a b ha hb hne aa ab hm hd
theorem ei_done (h : EI n ow mo mk dy st le wk su nd tk day mh sta) {e : Nat} (he : e < n) (hs : sta e = 119 ∨ sta e = 98) : ∀ f, f < n → sta f = 100 → ¬ dy f = dy e := by
  obtain ⟨-, -, -, -, -, hD, -⟩ := h
  intro f hf h1 h2
  have a1 := (hD f hf).2 h1
  have a2 := (hD e he).1 hs
  rw [h2] at a1
  omega
theorem ei_book (h : EI n ow mo mk dy st le wk su nd tk day mh sta) {e : Nat} (he : e < n) (hs : sta e = 119) (hL : f_r_live nd tk (ow e) (mk (mo e)) (dy e) = true) (hB : ¬ BusyP n (ow e) ow dy st le sta (dy e) (st e) (le e)) (hF : FreeP n (mo e) mo dy st le wk sta su (dy e) (st e) (le e) (wk e)) : EI n ow mo mk dy st le wk su nd tk day (fup mh (mo e) ((mh (mo e)).insertIdx (placeL dy st (dy e) (st e) (mh (mo e))) e)) (fup sta e 98) := by
  have hdn := ei_done h he (Or.inl hs)
  obtain ⟨hE, hU, hSep, hH, hM, hD, hLv⟩ := h
  have hS' := sep_book hSep hdn hF
  refine ⟨hE, hU, hS', held_book hE hU hH he hs hS', mem_book hE hM he hB, ?_, ?_⟩
  · intro f hf
    by_cases ef : f = e
    · subst ef
      rw [fup_same]
      exact ⟨fun _ => (hD f hf).1 (Or.inl hs), fun z => absurd z (by decide)⟩
    · rw [fup_ne ef]
      exact hD f hf
  · intro f hf
    by_cases ef : f = e
    · subst ef
      exact fun _ => hL
    · rw [fup_ne ef]
      exact hLv f hf
/-! the first one that can be booked -/
def scanB (p : Nat → Bool) : Nat → Nat → Option Nat
  | 0, _ => none
  | k + 1, j => if p j then some j else scanB p k (j + 1)
theorem scanB_none {p : Nat → Bool} : ∀ k j, scanB p k j = none → ∀ e, j ≤ e → e < j + k → p e = false
  | 0, j, _, e, h1, h2 => absurd h2 (by omega)
  | k + 1, j, h, e, h1, h2 => by
    rw [scanB] at h
    by_cases c : p j = true
    · rw [if_pos c] at h
      cases h
    · rw [if_neg c] at h
      by_cases he : e = j
      · subst he
        exact Bool.eq_false_iff.mpr c
      · exact scanB_none k (j + 1) h e (by omega) (by omega)
theorem scanB_some {p : Nat → Bool} {e : Nat} : ∀ k j, scanB p k j = some e → j ≤ e ∧ e < j + k ∧ p e = true
  | 0, j, h => by cases h
  | k + 1, j, h => by
    rw [scanB] at h
    by_cases c : p j = true
    · rw [if_pos c] at h
      cases h
      exact ⟨by omega, by omega, c⟩
    · rw [if_neg c] at h
      have := scanB_some k (j + 1) h
      exact ⟨by omega, by omega, this.2.2⟩
theorem scanB_all {p : Nat → Bool} : ∀ k j, (∀ e, j ≤ e → e < j + k → p e = false) → scanB p k j = none
  | 0, _, _ => rfl
  | k + 1, j, h => by
    rw [scanB, if_neg (by rw [h j (Nat.le_refl _) (by omega)]; decide)]
    exact scanB_all k (j + 1) (fun e h1 h2 => h e (by omega) (by omega))
/-- waiting, and bookable by the letter -/
def pB (n : Nat) (ow mo mk : Nat → Nat) (dy st le wk su : Nat → Int32) (nd : Nat → Nat → Bool) (tk : Nat → Nat → Int32) (sta : Nat → Int32) (e : Nat) : Bool := decide (sta e = 119) && decide (f_r_letter dy n le mk mo nd ow st sta su tk wk (ow e) (mo e) (dy e) (st e) (le e) (wk e) = 111)
theorem first_scan (hN : NeedOk nb nd) (hT : TakOk tk) (hk : ∀ m, mk m < 4) (hd0 : 0 ≤ day.toInt) (h : EI n ow mo mk dy st le wk su nd tk day mh sta) : ∀ k j, j + k ≤ n → c_first_L2 mo dy (fun e => st e + le e) le ow n st wk mh mk su nb tk sta k j = scanB (pB n ow mo mk dy st le wk su nd tk sta) k j
  | 0, j, _ => rfl
  | k + 1, j, hj => by
    have ih := first_scan hN hT hk hd0 h k (j + 1) (by omega)
    rw [c_first_L2, scanB, ih]
    by_cases c : sta j = 119
    · have hdn := ei_done h (e := j) (by omega) (Or.inl c)
      obtain ⟨hE, hU, hSep, hH, hM, hD, hLv⟩ := h
      obtain ⟨g1, g2, g3, g4, g5⟩ := hE j (by omega)
      have e1 : f_c_canBe mo dy (fun e => st e + le e) le ow n st wk mh mk su nb tk sta j = decide (f_r_letter dy n le mk mo nd ow st sta su tk wk (ow j) (mo j) (dy j) (st j) (le j) (wk j) = 111) := by
        unfold f_c_canBe
        rw [letter_eq hN hT hE hSep hU hH (hk _) g1 (by omega) hdn g3 g4 g5]
        by_cases c2 : f_r_letter dy n le mk mo nd ow st sta su tk wk (ow j) (mo j) (dy j) (st j) (le j) (wk j) = 111
        · rw [if_pos c2, decide_eq_true c2]
        · rw [if_neg c2, decide_eq_false c2]
      have e2 : pB n ow mo mk dy st le wk su nd tk sta j = decide (f_r_letter dy n le mk mo nd ow st sta su tk wk (ow j) (mo j) (dy j) (st j) (le j) (wk j) = 111) := by
        unfold pB
        rw [decide_eq_true c, Bool.true_and]
      rw [if_pos c, e1, e2]
    · have e2 : pB n ow mo mk dy st le wk su nd tk sta j = false := by
        unfold pB
        rw [decide_eq_false c, Bool.false_and]
      rw [if_neg c, e2, if_neg (by decide)]
theorem gives_scan : ∀ (m j x : Nat), j + m = n → (scanB (pB n ow mo mk dy st le wk su nd tk sta) m j = none → r_gives_L2 dy n le mk mo nd ow st su tk wk (m + x) j sta = sta) ∧ (∀ e, scanB (pB n ow mo mk dy st le wk su nd tk sta) m j = some e → ∃ y, x ≤ y ∧ r_gives_L2 dy n le mk mo nd ow st su tk wk (m + x) j sta = r_gives_L2 dy n le mk mo nd ow st su tk wk y 0 (fup sta e 98))
  | 0, j, x, hj => by
    refine ⟨fun _ => ?_, fun e h => by cases h⟩
    have hj : j = n := by omega
    subst hj
    cases x with
    | zero => rfl
    | succ x =>
      show r_gives_L2 dy j le mk mo nd ow st su tk wk (0 + x + 1) j sta = sta
      rw [r_gives_L2, if_neg (Nat.lt_irrefl _)]
  | m + 1, j, x, hj => by
    obtain ⟨i1, i2⟩ := gives_scan m (j + 1) x (by omega)
    have hf : m + 1 + x = (m + x) + 1 := by omega
    rw [hf, r_gives_L2, if_pos (show j < n by omega), scanB]
    by_cases c : sta j = 119
    · rw [if_pos c]
      by_cases c2 : f_r_letter dy n le mk mo nd ow st sta su tk wk (ow j) (mo j) (dy j) (st j) (le j) (wk j) = 111
      · have e2 : pB n ow mo mk dy st le wk su nd tk sta j = true := by
          unfold pB
          rw [decide_eq_true c, decide_eq_true c2]
          rfl
        rw [if_pos c2, e2, if_pos rfl]
        exact ⟨fun z => (by cases z), fun e z => by cases z; exact ⟨m + x, by omega, rfl⟩⟩
      · have e2 : pB n ow mo mk dy st le wk su nd tk sta j = false := by
          unfold pB
          rw [decide_eq_false c2, Bool.and_false]
        rw [if_neg c2, e2, if_neg (by decide)]
        exact ⟨i1, i2⟩
    · have e2 : pB n ow mo mk dy st le wk su nd tk sta j = false := by
        unfold pB
        rw [decide_eq_false c, Bool.false_and]
      rw [if_neg c, e2, if_neg (by decide)]
      exact ⟨i1, i2⟩
theorem bookW_none {G jj : Nat} {zc zn : Nat} : c_bookW_L7 mo dy (fun e => st e + le e) le ow n st wk mk su nb tk G jj none mh sta zc zn = (mh, sta, zc, zn) := by
  cases G <;> rfl
theorem noneW_of (h : EI n ow mo mk dy st le wk su nd tk day mh sta) : scanB (pB n ow mo mk dy st le wk su nd tk sta) n 0 = none ↔ NoneW n ow mo mk dy st le wk sta su nd tk := by
  obtain ⟨hE, hU, hSep, hH, hM, hD, hLv⟩ := h
  constructor
  · intro z e he hs q
    obtain ⟨g1, g2, g3, g4, g5⟩ := hE e he
    have z := scanB_none n 0 z e (by omega) (by omega)
    unfold pB at z
    rw [decide_eq_true hs, Bool.true_and, decide_eq_false_iff_not] at z
    exact z ((letter_o hE hSep hU g3 g4 g5).mpr q)
  · intro z
    refine scanB_all n 0 (fun e _ he => ?_)
    have he : e < n := by omega
    obtain ⟨g1, g2, g3, g4, g5⟩ := hE e he
    unfold pB
    by_cases hs : sta e = 119
    · rw [decide_eq_true hs, Bool.true_and, decide_eq_false_iff_not]
      exact fun q => z e he hs ((letter_o hE hSep hU g3 g4 g5).mp q)
    · rw [decide_eq_false hs, Bool.false_and]
theorem held_len (hH : Held n mo dy st sta mh) (m : Nat) : (mh m).Nodup ∧ (mh m).length ≤ n := by
  have hn : (mh m).Nodup := (hH m).1.imp (fun {a b} h e => by subst e; exact lex_irr h)
  exact ⟨hn, nodup_len n _ hn (fun e he => (((hH m).2 e).mp he).1)⟩
theorem book_gives (hN : NeedOk nb nd) (hT : TakOk tk) (hk : ∀ m, mk m < 4) (hd0 : 0 ≤ day.toInt) (hn : n ≤ 150) : ∀ (w F G jj : Nat) (mh : Nat → List Nat) (sta : Nat → Int32) (zc zn : Nat), wcnt sta n = w → w * 200 + n ≤ F → w ≤ G → EI n ow mo mk dy st le wk su nd tk day mh sta →
    (c_bookW_L7 mo dy (fun e => st e + le e) le ow n st wk mk su nb tk G jj (f_c_first mo dy (fun e => st e + le e) le ow n st wk mh mk su nb tk sta) mh sta zc zn).2.1 = r_gives_L2 dy n le mk mo nd ow st su tk wk F 0 sta ∧
    EI n ow mo mk dy st le wk su nd tk day (c_bookW_L7 mo dy (fun e => st e + le e) le ow n st wk mk su nb tk G jj (f_c_first mo dy (fun e => st e + le e) le ow n st wk mh mk su nb tk sta) mh sta zc zn).1 (r_gives_L2 dy n le mk mo nd ow st su tk wk F 0 sta) ∧
    NoneW n ow mo mk dy st le wk (r_gives_L2 dy n le mk mo nd ow st su tk wk F 0 sta) su nd tk ∧
    StepW n sta (r_gives_L2 dy n le mk mo nd ow st su tk wk F 0 sta) ∧
    (c_bookW_L7 mo dy (fun e => st e + le e) le ow n st wk mk su nb tk G jj (f_c_first mo dy (fun e => st e + le e) le ow n st wk mh mk su nb tk sta) mh sta zc zn).2.2.1 + wcnt (r_gives_L2 dy n le mk mo nd ow st su tk wk F 0 sta) n ≤ zc + w ∧
    (c_bookW_L7 mo dy (fun e => st e + le e) le ow n st wk mk su nb tk G jj (f_c_first mo dy (fun e => st e + le e) le ow n st wk mh mk su nb tk sta) mh sta zc zn).2.2.2 + 310 * wcnt (r_gives_L2 dy n le mk mo nd ow st su tk wk F 0 sta) n ≤ zn + 310 * w := by
  intro w
  induction w with
  | zero =>
    intro F G jj mh sta zc zn hw hF hG h
    have hf : f_c_first mo dy (fun e => st e + le e) le ow n st wk mh mk su nb tk sta = scanB (pB n ow mo mk dy st le wk su nd tk sta) n 0 := first_scan hN hT hk hd0 h n 0 (by omega)
    have hs : scanB (pB n ow mo mk dy st le wk su nd tk sta) n 0 = none := by
      cases e : scanB (pB n ow mo mk dy st le wk su nd tk sta) n 0 with
      | none => rfl
      | some a =>
        obtain ⟨-, a2, a3⟩ := scanB_some n 0 e
        unfold pB at a3
        rw [Bool.and_eq_true, decide_eq_true_iff] at a3
        have := wcnt_dec (v := 98) a3.1 (by decide) n (by omega)
        omega
    obtain ⟨x, rfl⟩ := Nat.exists_eq_add_of_le (show n ≤ F by omega)
    have hg := (gives_scan (n := n) (ow := ow) (mo := mo) (mk := mk) (dy := dy) (st := st) (le := le) (wk := wk) (su := su) (nd := nd) (tk := tk) (sta := sta) n 0 x (by omega)).1 hs
    rw [hf, hs, bookW_none, hg]
    exact ⟨rfl, h, (noneW_of h).mp hs, fun e => Or.inl rfl, by show zc + wcnt sta n ≤ zc + 0; omega, by show zn + 310 * wcnt sta n ≤ zn + 310 * 0; omega⟩
  | succ w ih =>
    intro F G jj mh sta zc zn hw hF hG h
    have hf : f_c_first mo dy (fun e => st e + le e) le ow n st wk mh mk su nb tk sta = scanB (pB n ow mo mk dy st le wk su nd tk sta) n 0 := first_scan hN hT hk hd0 h n 0 (by omega)
    obtain ⟨x, rfl⟩ := Nat.exists_eq_add_of_le (show n ≤ F by omega)
    have hg := gives_scan (n := n) (ow := ow) (mo := mo) (mk := mk) (dy := dy) (st := st) (le := le) (wk := wk) (su := su) (nd := nd) (tk := tk) (sta := sta) n 0 x (by omega)
    cases hs : scanB (pB n ow mo mk dy st le wk su nd tk sta) n 0 with
    | none =>
      rw [hf, hs, bookW_none, hg.1 hs]
      exact ⟨rfl, h, (noneW_of h).mp hs, fun e => Or.inl rfl, by show zc + wcnt sta n ≤ zc + (w + 1); omega, by show zn + 310 * wcnt sta n ≤ zn + 310 * (w + 1); omega⟩
    | some e =>
      obtain ⟨-, a2, a3⟩ := scanB_some n 0 hs
      have he : e < n := by omega
      unfold pB at a3
      rw [Bool.and_eq_true, decide_eq_true_iff, decide_eq_true_iff] at a3
      obtain ⟨hs1, hs2⟩ := a3
      obtain ⟨hE, hU, hSep, hH, hM, hD, hLv⟩ := id h
      obtain ⟨g1, g2, g3, g4, g5⟩ := hE e he
      obtain ⟨l1, l2, l3⟩ := (letter_o hE hSep hU g3 g4 g5).mp hs2
      have hEI := ei_book h he hs1 l1 l2 l3
      have hwc := wcnt_dec (v := 98) hs1 (by decide) n he
      obtain ⟨y, hy, hgy⟩ := hg.2 e hs
      obtain ⟨G', rfl⟩ := Nat.exists_eq_add_of_le' (show 1 ≤ G by omega)
      have hlen := (held_len hH (mo e)).2
      have I := ih y G' (jj + 1) (fup mh (mo e) ((mh (mo e)).insertIdx (placeL dy st (dy e) (st e) (mh (mo e))) e)) (fup sta e 98) (zc + 1) (zn + (2 * ((mh (mo e)).map (vR 3)).length + 10)) (by omega) (by omega) (by omega) hEI
      have hstep : c_bookW_L7 mo dy (fun e => st e + le e) le ow n st wk mk su nb tk (G' + 1) jj (some e) mh sta zc zn = c_bookW_L7 mo dy (fun e => st e + le e) le ow n st wk mk su nb tk G' (jj + 1) (f_c_first mo dy (fun e => st e + le e) le ow n st wk (fup mh (mo e) ((mh (mo e)).insertIdx (placeL dy st (dy e) (st e) (mh (mo e))) e)) mk su nb tk (fup sta e 98)) (fup mh (mo e) ((mh (mo e)).insertIdx (placeL dy st (dy e) (st e) (mh (mo e))) e)) (fup sta e 98) (zc + 1) (zn + (2 * ((mh (mo e)).map (vR 3)).length + 10)) := rfl
      rw [hf, hs, hstep, hgy]
      obtain ⟨r1, r2, r3, r4, r5, r6⟩ := I
      rw [List.length_map] at r6
      refine ⟨r1, r2, r3, fun a => ?_, by omega, ?_⟩
      · rcases r4 a with q | ⟨q1, q2, q3⟩
        · by_cases ea : a = e
          · subst ea
            rw [fup_same] at q
            exact Or.inr ⟨he, hs1, q⟩
          · rw [fup_ne ea] at q
            exact Or.inl q
        · by_cases ea : a = e
          · subst ea
            exact Or.inr ⟨he, hs1, q3⟩
          · rw [fup_ne ea] at q2
            exact Or.inr ⟨q1, q2, q3⟩
      · simp only [List.length_map] at r6 ⊢
        omega
/-- nothing to book: nothing is booked -/
theorem book_idle (hN : NeedOk nb nd) (hT : TakOk tk) (hk : ∀ m, mk m < 4) (hd0 : 0 ≤ day.toInt) (h : EI n ow mo mk dy st le wk su nd tk day mh sta) (hW : NoneW n ow mo mk dy st le wk sta su nd tk) {G jj zc zn : Nat} : c_bookW_L7 mo dy (fun e => st e + le e) le ow n st wk mk su nb tk G jj (f_c_first mo dy (fun e => st e + le e) le ow n st wk mh mk su nb tk sta) mh sta zc zn = (mh, sta, zc, zn) := by
  have hf : f_c_first mo dy (fun e => st e + le e) le ow n st wk mh mk su nb tk sta = scanB (pB n ow mo mk dy st le wk su nd tk sta) n 0 := first_scan hN hT hk hd0 h n 0 (by omega)
  rw [hf, (noneW_of h).mpr hW, bookW_none]
end BK
