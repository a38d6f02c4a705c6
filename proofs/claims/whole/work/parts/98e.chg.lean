/-! entries that end, entries that are booked: what stays -/
theorem wcnt_le {s : Nat → Int32} : ∀ n, wcnt s n ≤ n
  | 0 => Nat.le_refl _
  | n + 1 => by
    have := wcnt_le (s := s) n
    unfold wcnt
    split <;> omega
theorem wcnt_mono {s s' : Nat → Int32} : ∀ n, (∀ e, e < n → s' e = 119 → s e = 119) → wcnt s' n ≤ wcnt s n
  | 0, _ => Nat.le_refl _
  | n + 1, h => by
    have := wcnt_mono (s := s) (s' := s') n (fun e he => h e (by omega))
    unfold wcnt
    by_cases c : s' n = 119
    · rw [if_pos c, if_pos (h n (by omega) c)]
      omega
    · rw [if_neg c]
      omega
def EJ (n : Nat) (ow mo : Nat → Nat) (dy st le wk su : Nat → Int32) (day : Int32) (mh : Nat → List Nat) (sta : Nat → Int32) : Prop := EOk n dy st le ∧ SuOk su ∧ Sep n mo dy st le wk sta su ∧ Held n mo dy st sta mh ∧ MemSep n ow dy st le sta ∧ DayOk n dy sta day
def Rest (n bar cn : Nat) (sta : Nat → Int32) (cu : Nat → List Nat) (qcb : Nat → Nat) (qcl : Nat → Int32) (cm : Nat → Nat) (cb : Nat → Nat → Nat) (cl : Nat → Nat → Int32) (bl bf du : Nat → Int32) : Prop := CutOk n sta cu qcb qcl cm cb cl ∧ (∀ b, b < bar → bf b = f_r_free bl cb cl cm n sta b) ∧ (∀ e, chr (sta e)) ∧ (∀ e, n ≤ e ∨ sta e = 119 ∨ sta e = 98 → du e = 0) ∧ (∀ e c, c ∈ cu e → c < cn) ∧ (∀ e, (cu e).length ≤ 5)
theorem lex_mem {dy st : Nat → Int32} {e : Nat} : ∀ (l : List Nat), l.Pairwise (LexS dy st) → e ∈ l → placeL dy st (dy e) (st e) l < l.length ∧ l.getD (placeL dy st (dy e) (st e) l) 0 = e ∧ l.eraseIdx (placeL dy st (dy e) (st e) l) = l.filter (fun a => decide (¬ a = e))
  | [], _, h => nomatch h
  | b :: l, hp, h => by
    obtain ⟨p1, p2⟩ := List.pairwise_cons.mp hp
    by_cases eb : b = e
    · subst eb
      have c : ¬ (dy b < dy b ∨ dy b = dy b ∧ st b < st b) := fun z => by
        rcases z with z | ⟨-, z⟩ <;> (rw [i_lt] at z; omega)
      have hf : (b :: l).filter (fun a => decide (¬ a = b)) = l := by
        rw [List.filter_cons_of_neg (by simp)]
        exact List.filter_eq_self.mpr (fun a ha => decide_eq_true (p := ¬ a = b) (fun z => lex_irr (dy := dy) (st := st) (a := b) (by have := p1 a ha; rw [z] at this; exact this)))
      rw [placeL, if_neg c, hf]
      exact ⟨by rw [List.length_cons]; omega, rfl, rfl⟩
    · have he : e ∈ l := by
        rcases List.mem_cons.mp h with h | h
        · exact absurd h.symm eb
        · exact h
      have c : dy b < dy e ∨ dy b = dy e ∧ st b < st e := by
        rcases p1 e he with q | ⟨q1, q2⟩
        · exact Or.inl (i_lt.mpr q)
        · exact Or.inr ⟨q1, i_lt.mpr q2⟩
      obtain ⟨i1, i2, i3⟩ := lex_mem l p2 he
      rw [placeL, if_pos c, List.filter_cons_of_pos (by simpa using eb), List.eraseIdx_cons_succ, i3]
      exact ⟨by rw [List.length_cons]; omega, i2, rfl⟩
section CH
variable {n bar cn mem brk : Nat} {ow mo mk : Nat → Nat} {dy st le wk sta su nb bl bf du po : Nat → Int32} {nd : Nat → Nat → Bool} {tk : Nat → Nat → Int32} {day : Int32} {mh : Nat → List Nat} {cu : Nat → List Nat} {qcb : Nat → Nat} {qcl : Nat → Int32} {cm : Nat → Nat} {cb : Nat → Nat → Nat} {cl sh : Nat → Nat → Int32}
theorem ei_ej : EI n ow mo mk dy st le wk su nd tk day mh sta ↔ EJ n ow mo dy st le wk su day mh sta ∧ LiveB n ow mo mk dy sta nd tk := by
  unfold EI EJ
  exact ⟨fun ⟨a, b, c, d, e, f, g⟩ => ⟨⟨a, b, c, d, e, f⟩, g⟩, fun ⟨⟨a, b, c, d, e, f⟩, g⟩ => ⟨a, b, c, d, e, f, g⟩⟩
theorem act99 {e f : Nat} (h : act (fup sta e 99 f)) : f ≠ e ∧ act (sta f) := by
  by_cases q : f = e
  · subst q
    rw [fup_same] at h
    exact absurd h (by unfold act; decide)
  · rw [fup_ne q] at h
    exact ⟨q, h⟩
theorem release_eq (hH : Held n mo dy st sta mh) {e : Nat} (he : e < n) (hs : sta e = 98) : f_c_release dy st mh (mo e) e = fup mh (mo e) ((mh (mo e)).filter (fun a => decide (¬ a = e))) := by
  obtain ⟨i1, i2, i3⟩ := lex_mem (mh (mo e)) (hH (mo e)).1 (((hH (mo e)).2 e).mpr ⟨he, rfl, Or.inl hs⟩)
  unfold f_c_release f_c_placeOf
  rw [if_pos i1, if_pos i2, i3]
theorem ej_withdraw (h : EJ n ow mo dy st le wk su day mh sta) {e : Nat} (he : e < n) (hs : sta e = 119 ∨ sta e = 98) : EJ n ow mo dy st le wk su day (f_c_withdraw bf qcb qcl cu mo dy st mh sta e).1 (fup sta e 99) := by
  obtain ⟨hE, hU, hSep, hH, hM, hD⟩ := h
  refine ⟨hE, hU, fun a b ha hb hne aa ab hm hd => hSep a b ha hb hne (act99 aa).2 (act99 ab).2 hm hd, ?_, fun a b ha hb hne aa ab hm hd => ?_, fun a ha => ?_⟩
  · unfold f_c_withdraw
    by_cases c : sta e = 98
    · rw [if_pos c]
      show Held n mo dy st (fup sta e 99) (f_c_release dy st mh (mo e) e)
      rw [release_eq hH he c]
      intro m
      by_cases hm : m = mo e
      · subst hm
        rw [fup_same]
        refine ⟨(hH (mo e)).1.filter _, fun a => ?_⟩
        rw [List.mem_filter, (hH (mo e)).2, decide_eq_true_iff]
        by_cases q : a = e
        · subst q
          exact ⟨fun z => absurd rfl z.2, fun z => absurd rfl (act99 z.2.2).1⟩
        · rw [fup_ne q]
          exact ⟨fun z => z.1, fun z => ⟨z, q⟩⟩
      · rw [fup_ne hm]
        refine ⟨(hH m).1, fun a => ?_⟩
        rw [(hH m).2]
        by_cases q : a = e
        · subst q
          exact ⟨fun z => absurd z.2.1.symm hm, fun z => absurd z.2.1.symm hm⟩
        · rw [fup_ne q]
    · rw [if_neg c]
      show Held n mo dy st (fup sta e 99) mh
      have hw := hs.resolve_right c
      intro m
      refine ⟨(hH m).1, fun a => ?_⟩
      rw [(hH m).2]
      by_cases q : a = e
      · subst q
        rw [fup_same, hw]
        exact ⟨fun z => absurd z.2.2 (by unfold act; decide), fun z => absurd z.2.2 (by unfold act; decide)⟩
      · rw [fup_ne q]
  · have qa := (act99 (Or.inl aa)).1
    have qb := (act99 (Or.inl ab)).1
    rw [fup_ne qa] at aa
    rw [fup_ne qb] at ab
    exact hM a b ha hb hne aa ab hm hd
  · by_cases q : a = e
    · subst q
      rw [fup_same]
      exact ⟨fun z => z.elim (fun z => absurd z (by decide)) (fun z => absurd z (by decide)), fun z => absurd z (by decide)⟩
    · rw [fup_ne q]
      exact hD a ha
theorem rest_withdraw (h : Rest n bar cn sta cu qcb qcl cm cb cl bl bf du) {e : Nat} (he : e < n) : Rest n bar cn (fup sta e 99) (fup cu e []) qcb qcl cm cb cl bl (c_withdraw_L19 qcb qcl cu e ((cu e).length) 0 bf) du := by
  obtain ⟨hC, hF, hS, hZ, hc1, hc2⟩ := h
  refine ⟨cut_withdraw hC, fun b hb => ?_, fun a => ?_, fun a ha => ?_, fun a c hc => ?_, fun a => ?_⟩
  · rw [withdraw_bf, free_withdraw he, hF b hb]
    congr 1
    have := taken_eq (b := b) hC he
    unfold f_c_taken at this
    rw [c_taken_s, Int32.zero_add] at this
    exact this
  · by_cases q : a = e
    · rw [q, fup_same]
      unfold chr
      decide
    · rw [fup_ne q]
      exact hS a
  · by_cases q : a = e
    · subst q
      rw [fup_same] at ha
      rcases ha with ha | ha | ha
      · omega
      · exact absurd ha (by decide)
      · exact absurd ha (by decide)
    · rw [fup_ne q] at ha
      exact hZ a ha
  · by_cases q : a = e
    · rw [q, fup_same] at hc
      cases hc
    · rw [fup_ne q] at hc
      exact hc1 a c hc
  · by_cases q : a = e
    · rw [q, fup_same]
      exact Nat.zero_le _
    · rw [fup_ne q]
      exact hc2 a
theorem rest_step {sta' : Nat → Int32} (h : Rest n bar cn sta cu qcb qcl cm cb cl bl bf du) (hs : StepW n sta sta') : Rest n bar cn sta' cu qcb qcl cm cb cl bl bf du := by
  obtain ⟨hC, hF, hS, hZ, hc1, hc2⟩ := h
  refine ⟨cut_stepW hC hs, fun b hb => by rw [free_step hC hs]; exact hF b hb, fun a => ?_, fun a ha => ?_, hc1, hc2⟩
  · rcases hs a with q | ⟨-, -, q⟩
    · rw [q]
      exact hS a
    · rw [q]
      unfold chr
      decide
  · rcases hs a with q | ⟨-, q, -⟩
    · rw [q] at ha
      exact hZ a ha
    · exact hZ a (Or.inr (Or.inl q))
theorem withdraw_eq {e : Nat} : f_c_withdraw bf qcb qcl cu mo dy st mh sta e = ((f_c_withdraw bf qcb qcl cu mo dy st mh sta e).1, fup sta e 99, fup cu e [], c_withdraw_L19 qcb qcl cu e ((cu e).length) 0 bf) := by
  unfold f_c_withdraw
  split <;> rfl
/-- booking what waits, as class and reference call it -/
theorem gives_all (hN : NeedOk nb nd) (hT : TakOk tk) (hk : ∀ m, mk m < 4) (hd0 : 0 ≤ day.toInt) (hn : n ≤ 150) (h : EI n ow mo mk dy st le wk su nd tk day mh sta) (zc zn : Nat) :
    (f_c_bookW mo dy (fun e => st e + le e) le ow n st wk mh mk su nb tk sta zc zn).2.1 = f_r_gives dy n le mk mo nd ow st sta su tk wk ∧
    EI n ow mo mk dy st le wk su nd tk day (f_c_bookW mo dy (fun e => st e + le e) le ow n st wk mh mk su nb tk sta zc zn).1 (f_r_gives dy n le mk mo nd ow st sta su tk wk) ∧
    NoneW n ow mo mk dy st le wk (f_r_gives dy n le mk mo nd ow st sta su tk wk) su nd tk ∧ StepW n sta (f_r_gives dy n le mk mo nd ow st sta su tk wk) ∧
    (f_c_bookW mo dy (fun e => st e + le e) le ow n st wk mh mk su nb tk sta zc zn).2.2.1 ≤ zc + 150 ∧
    (f_c_bookW mo dy (fun e => st e + le e) le ow n st wk mh mk su nb tk sta zc zn).2.2.2 + 310 * wcnt (f_r_gives dy n le mk mo nd ow st sta su tk wk) n ≤ zn + 310 * wcnt sta n := by
  have hw := wcnt_le (s := sta) n
  obtain ⟨b1, b2, b3, b4, b5, b6⟩ := book_gives hN hT hk hd0 hn (wcnt sta n) (wcnt sta n * 200 + (n - 0)) 150 0 mh sta zc zn rfl (by omega) (by omega) h
  exact ⟨b1, b2, b3, b4, by show (c_bookW_L7 mo dy (fun e => st e + le e) le ow n st wk mk su nb tk 150 0 _ mh sta zc zn).2.2.1 ≤ _; omega, b6⟩
/-! a new need: who has no live induction then -/
theorem cancel_loop {nb' : Nat → Int32} {nd' : Nat → Nat → Bool} {p0 p1 : Nat} (hnd : nd' = fup nd p0 (fup (nd p0) p1 true)) (hN : NeedOk nb' nd') (hT : TakOk tk) (hk : ∀ m, mk m < 4) : ∀ (k j : Nat) (mh : Nat → List Nat) (sta : Nat → Int32) (cu : Nat → List Nat) (bf : Nat → Int32), j + k = n → EJ n ow mo dy st le wk su day mh sta → Rest n bar cn sta cu qcb qcl cm cb cl bl bf du → (∀ e, e < j → sta e = 98 → f_r_live nd' tk (ow e) (mk (mo e)) (dy e) = true) →
    (c_cancelWI_L2 qcb qcl mo dy ow st mk nb' tk k j mh sta cu bf).2.1 = r_addNeed_L79 dy mk mo nd ow tk p0 p1 k j sta ∧
    EJ n ow mo dy st le wk su day (c_cancelWI_L2 qcb qcl mo dy ow st mk nb' tk k j mh sta cu bf).1 (r_addNeed_L79 dy mk mo nd ow tk p0 p1 k j sta) ∧
    Rest n bar cn (r_addNeed_L79 dy mk mo nd ow tk p0 p1 k j sta) (c_cancelWI_L2 qcb qcl mo dy ow st mk nb' tk k j mh sta cu bf).2.2.1 qcb qcl cm cb cl bl (c_cancelWI_L2 qcb qcl mo dy ow st mk nb' tk k j mh sta cu bf).2.2.2 du ∧
    LiveB n ow mo mk dy (r_addNeed_L79 dy mk mo nd ow tk p0 p1 k j sta) nd' tk ∧ (∀ e, r_addNeed_L79 dy mk mo nd ow tk p0 p1 k j sta e = 119 → sta e = 119) := by
  subst hnd
  intro k
  induction k with
  | zero =>
    intro j mh sta cu bf hj hE hR hL
    have hj : j = n := by omega
    subst hj
    exact ⟨rfl, hE, hR, hL, fun e z => z⟩
  | succ k ih =>
    intro j mh sta cu bf hj hE hR hL
    have hjn : j < n := by omega
    have keep : ∀ (hlv : sta j = 98 → f_r_live (fup nd p0 (fup (nd p0) p1 true)) tk (ow j) (mk (mo j)) (dy j) = true), _ := fun hlv => ih (j + 1) mh sta cu bf (by omega) hE hR (fun e he hs => by
      by_cases q : e = j
      · subst q
        exact hlv hs
      · exact hL e (by omega) hs)
    have hself : fup sta j (sta j) = sta := fup_self rfl
    obtain ⟨g1, g2, -⟩ := hE.1 j hjn
    have hlive : f_c_hasInd mo dy ow mk nb' tk j = f_r_live (fup nd p0 (fup (nd p0) p1 true)) tk (ow j) (mk (mo j)) (dy j) := f_live_eq hN hT g1 (by omega) (hk _)
    have hlf : f_r_liveFor mk (fup nd p0 (fup (nd p0) p1 true)) tk (ow j) (mo j) (dy j) = f_r_live (fup nd p0 (fup (nd p0) p1 true)) tk (ow j) (mk (mo j)) (dy j) := rfl
    rw [c_cancelWI_L2, r_addNeed_L79, hself, hlive, hlf]
    have ends : (sta j = 119 ∨ sta j = 98) → _ := fun hs => ih (j + 1) (f_c_withdraw bf qcb qcl cu mo dy st mh sta j).1 (fup sta j 99) (fup cu j []) (c_withdraw_L19 qcb qcl cu j ((cu j).length) 0 bf) (by omega) (ej_withdraw hE hjn hs) (rest_withdraw hR hjn) (fun e he hs2 => by
      by_cases q : e = j
      · subst q
        rw [fup_same] at hs2
        exact absurd hs2 (by decide)
      · rw [fup_ne q] at hs2
        exact hL e (by omega) hs2)
    have back : ∀ {X : Nat → Int32}, (∀ e, X e = 119 → fup sta j 99 e = 119) → ∀ e, X e = 119 → sta e = 119 := fun h e z => by
      have z := h e z
      by_cases q : e = j
      · rw [q, fup_same] at z
        exact absurd z (by decide)
      · rw [fup_ne q] at z
        exact z
    have hopen : f_c_isOpen sta j = true ↔ sta j = 119 ∨ sta j = 98 := by
      unfold f_c_isOpen
      by_cases a : sta j = 119
      · rw [if_pos a]
        exact ⟨fun _ => Or.inl a, fun _ => rfl⟩
      · rw [if_neg a]
        by_cases b : sta j = 98
        · rw [if_pos b]
          exact ⟨fun _ => Or.inr b, fun _ => rfl⟩
        · rw [if_neg b]
          exact bool_ff (fun z => z.elim a b)
    by_cases c1 : sta j = 119
    · rw [if_pos (hopen.mpr (Or.inl c1)), if_pos c1]
      cases hl : f_r_live (fup nd p0 (fup (nd p0) p1 true)) tk (ow j) (mk (mo j)) (dy j) with
      | true =>
        rw [if_pos rfl, if_pos rfl]
        exact keep (fun _ => hl)
      | false =>
        rw [if_neg (by decide), if_neg (by decide), withdraw_eq]
        obtain ⟨r1, r2, r3, r4, r5⟩ := ends (Or.inl c1)
        exact ⟨r1, r2, r3, r4, back r5⟩
    · rw [if_neg c1]
      by_cases c2 : sta j = 98
      · rw [if_pos (hopen.mpr (Or.inr c2)), if_pos c2]
        cases hl : f_r_live (fup nd p0 (fup (nd p0) p1 true)) tk (ow j) (mk (mo j)) (dy j) with
        | true =>
          rw [if_pos rfl, if_pos rfl]
          exact keep (fun _ => hl)
        | false =>
          rw [if_neg (by decide), if_neg (by decide), withdraw_eq]
          obtain ⟨r1, r2, r3, r4, r5⟩ := ends (Or.inr c2)
          exact ⟨r1, r2, r3, r4, back r5⟩
      · rw [if_neg (fun z => (hopen.mp z).elim c1 c2), if_neg c2]
        exact keep (fun z => absurd z c2)
end CH
/-! needs as bits -/
theorem and_or0 {x y z : Int32} : (x ||| y) &&& z = 0 ↔ x &&& z = 0 ∧ y &&& z = 0 := by
  have key : ∀ {a : Int32}, a = 0 ↔ ∀ i, a.toBitVec.getLsbD i = false := fun {a} => by
    constructor
    · intro h i
      rw [h]
      simp
    · intro h
      apply Int32.toBitVec.inj
      apply BitVec.eq_of_getLsbD_eq
      intro i _
      rw [h i]
      simp
  rw [key, key, key]
  simp only [Int32.toBitVec_and, Int32.toBitVec_or, BitVec.getLsbD_and, BitVec.getLsbD_or]
  constructor
  · intro h
    refine ⟨fun i => ?_, fun i => ?_⟩ <;> (have := h i; revert this; cases x.toBitVec.getLsbD i <;> cases y.toBitVec.getLsbD i <;> cases z.toBitVec.getLsbD i <;> simp)
  · intro ⟨h1, h2⟩ i
    have a := h1 i
    have b := h2 i
    revert a b
    cases x.toBitVec.getLsbD i <;> cases y.toBitVec.getLsbD i <;> cases z.toBitVec.getLsbD i <;> simp
theorem bt_and : ∀ a b : Nat, a < 4 → b < 4 → (bt a &&& bt b = 0 ↔ a ≠ b) := by
  intro a b ha hb
  match a, b, ha, hb with
  | 0, 0, _, _ => decide
  | 0, 1, _, _ => decide
  | 0, 2, _, _ => decide
  | 0, 3, _, _ => decide
  | 1, 0, _, _ => decide
  | 1, 1, _, _ => decide
  | 1, 2, _, _ => decide
  | 1, 3, _, _ => decide
  | 2, 0, _, _ => decide
  | 2, 1, _, _ => decide
  | 2, 2, _, _ => decide
  | 2, 3, _, _ => decide
  | 3, 0, _, _ => decide
  | 3, 1, _, _ => decide
  | 3, 2, _, _ => decide
  | 3, 3, _, _ => decide
theorem need_add {nb : Nat → Int32} {nd : Nat → Nat → Bool} {p0 p1 : Nat} (hN : NeedOk nb nd) (h1 : p1 < 4) : NeedOk (f_c_addNeeded nb p0 p1) (fup nd p0 (fup (nd p0) p1 true)) := by
  intro a b ha hb
  unfold f_c_addNeeded
  by_cases ea : a = p0
  · subst ea
    rw [fup_same, fup_same, and_or0, bt_and p1 b h1 hb, hN a b ha hb]
    by_cases eb : b = p1
    · subst eb
      rw [fup_same]
      exact ⟨fun z => absurd rfl z.2, fun z => nomatch z⟩
    · rw [fup_ne eb]
      exact ⟨fun z => z.1, fun z => ⟨z, fun q => eb q.symm⟩⟩
  · rw [fup_ne ea, fup_ne ea]
    exact hN a b ha hb
/-! an induction taken again: what was live stays so -/
theorem live1_iff {nd : Nat → Nat → Bool} {tk : Nat → Nat → Int32} {m kd : Nat} {D : Int32} {lv : Nat → Bool} : f_r_live1 nd tk m kd D lv = true ↔ (¬ tk m kd = -1 ∧ f_r_in D (tk m kd) (tk m kd + 29) = true) ∧ ∀ q, q < 4 → nd kd q = true → lv q = true := by
  unfold f_r_live1
  by_cases c : tk m kd = -1
  · rw [if_pos c, live_L40f]
    exact bool_ff (fun z => z.1.1 c)
  · rw [if_neg c]
    by_cases c2 : f_r_in D (tk m kd) (tk m kd + 29) = true
    · rw [if_pos c2, live_L40, allN_iff]
      constructor
      · intro z
        refine ⟨⟨c, c2⟩, fun q hq hn => ?_⟩
        have := z q (by omega) (by omega)
        rw [hn] at this
        exact this
      · intro z q _ hq
        cases hn : nd kd q with
        | false => rfl
        | true => exact z.2 q (by omega) hn
    · rw [if_neg c2, live_L40f]
      exact bool_ff (fun z => c2 z.1.2)
theorem live_take {nd : Nat → Nat → Bool} {tk : Nat → Nat → Int32} {day D : Int32} {m kd : Nat} (hT : TakOk tk) (hTD : ∀ m k, (tk m k).toInt ≤ day.toInt) (hd : 0 ≤ day.toInt ∧ day.toInt ≤ 900) (hD : day.toInt ≤ D.toInt) {x : Nat} : ∀ r k, r_live nd tk x D r k = true → r_live nd (fup tk m (fup (tk m) kd day)) x D r k = true := by
  have fr : ∀ k, (¬ tk x k = -1 ∧ f_r_in D (tk x k) (tk x k + 29) = true) → (¬ fup tk m (fup (tk m) kd day) x k = -1 ∧ f_r_in D (fup tk m (fup (tk m) kd day) x k) (fup tk m (fup (tk m) kd day) x k + 29) = true) := by
    intro k ⟨h1, h2⟩
    by_cases ex : x = m
    · subst ex
      rw [fup_same]
      by_cases ek : k = kd
      · subst ek
        rw [fup_same]
        have e29 : (29 : Int32).toInt = 29 := rfl
        have em1 : (-1 : Int32).toInt = -1 := rfl
        obtain ⟨t0, t1⟩ := (hT x k).resolve_left h1
        have t2 := hTD x k
        rw [in_iff, i_add (by omega) (by omega), e29] at h2
        refine ⟨fun z => by rw [z, em1] at hd; omega, ?_⟩
        rw [in_iff, i_add (by omega) (by omega), e29]
        omega
      · rw [fup_ne ek]
        exact ⟨h1, h2⟩
    · rw [fup_ne ex]
      exact ⟨h1, h2⟩
  intro r
  induction r with
  | zero =>
    intro k h
    rw [r_live, live1_iff] at h ⊢
    exact ⟨fr k h.1, h.2⟩
  | succ r ih =>
    intro k h
    rw [r_live, live1_iff] at h ⊢
    exact ⟨fr k h.1, fun q hq hn => ih q (h.2 q hq hn)⟩
