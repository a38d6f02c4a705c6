/-! the first start: class and reference alike -/
section FI
variable {n mc : Nat} {ow mo : Nat → Nat} {dy st le wk sta su : Nat → Int32} {D M V : Int32} {mh : Nat → List Nat}
/-- at s nothing of the list is in the way -/
def FrL (s : Int32) (st le wk : Nat → Int32) (M : Int) (V : Int32) (l : List Nat) (x : Int) : Prop := ∀ e ∈ l, Spd s st le wk x M V e
theorem c_first_list (hE : EOk n dy st le) (hU : SuOk su) (hM : 1 ≤ M.toInt) (hM2 : M.toInt ≤ 240) {rest : List Nat} (hr : ∀ r ∈ rest, ¬ dy r = D) : ∀ (l pre : List Nat) (x : Int32), (pre ++ l).Pairwise (Bef (su mc) st le wk) → (∀ e ∈ pre ++ l, e < n ∧ dy e = D) → 0 ≤ x.toInt → x.toInt ≤ 510 → (∀ e ∈ pre, (st e).toInt + (le e).toInt + suI (su mc) (wk e) V ≤ x.toInt) → (∀ s, 0 ≤ s → s < x.toInt → ¬ FrL (su mc) st le wk M.toInt V pre s) →
    (firstL (vq ow mo dy st le wk sta) (su mc) D M V x (l ++ rest) = -1 ∧ ∀ s, 0 ≤ s → s + M.toInt ≤ 480 → ¬ FrL (su mc) st le wk M.toInt V (pre ++ l) s) ∨ (∃ y : Int32, firstL (vq ow mo dy st le wk sta) (su mc) D M V x (l ++ rest) = y ∧ 0 ≤ y.toInt ∧ y.toInt + M.toInt ≤ 480 ∧ FrL (su mc) st le wk M.toInt V (pre ++ l) y.toInt ∧ ∀ s, 0 ≤ s → s < y.toInt → ¬ FrL (su mc) st le wk M.toInt V (pre ++ l) s)
  | [], pre, x, hp, hl, hx0, hx1, hpre, hblk => by
    have e0 : firstL (vq ow mo dy st le wk sta) (su mc) D M V x ([] ++ rest) = lastL M x := by
      rw [List.nil_append]
      cases rest with
      | nil => rw [firstL]
      | cons e es =>
        rw [firstL]
        exact if_neg (hr e List.mem_cons_self)
    have e480 : (480 : Int32).toInt = 480 := rfl
    have e1 : (x + M).toInt = x.toInt + M.toInt := i_add (by omega) (by omega)
    rw [e0, List.append_nil]
    unfold lastL
    by_cases c : x + M ≤ 480
    · rw [if_pos c]
      rw [i_le, e1, e480] at c
      exact Or.inr ⟨x, rfl, hx0, c, fun e he => Or.inl (hpre e he), hblk⟩
    · rw [if_neg c]
      rw [i_le, e1, e480] at c
      exact Or.inl ⟨rfl, fun s h1 h2 => hblk s h1 (by omega)⟩
  | e :: l, pre, x, hp, hl, hx0, hx1, hpre, hblk => by
    obtain ⟨p1, p2, p3⟩ := List.pairwise_append.mp hp
    obtain ⟨p4, p5⟩ := List.pairwise_cons.mp p2
    obtain ⟨e1, e2⟩ := hl e (List.mem_append_right _ List.mem_cons_self)
    obtain ⟨-, -, h3, h4, h5⟩ := hE e e1
    have happ : (pre ++ [e]) ++ l = pre ++ e :: l := by rw [List.append_assoc]; rfl
    have s1 := suI_nn (a := V) (b := wk e) (hU mc).1
    have s2 := suI_le (a := V) (b := wk e) (hU mc).1
    have s3 := (hU mc).2
    have eS : (if V = wk e then (0 : Int32) else su mc).toInt = suI (su mc) V (wk e) := ite_I
    have f1 : (x + M).toInt = x.toInt + M.toInt := i_add (by omega) (by omega)
    have f2 : (x + M + (if V = wk e then (0 : Int32) else su mc)).toInt = x.toInt + M.toInt + suI (su mc) V (wk e) := by rw [i_add (by omega) (by omega), f1, eS]
    have f3 : (st e + le e + (if V = wk e then (0 : Int32) else su mc)).toInt = (st e).toInt + (le e).toInt + suI (su mc) V (wk e) := by rw [i_add (by rw [endq_I hE e1]; omega) (by rw [endq_I hE e1]; omega), endq_I hE e1, eS]
    rw [List.cons_append, firstL, if_pos (show eDay (vq ow mo dy st le wk sta e) = D from e2)]
    show ((if x + M + (if V = wk e then (0 : Int32) else su mc) ≤ st e then x else firstL (vq ow mo dy st le wk sta) (su mc) D M V (st e + le e + (if V = wk e then (0 : Int32) else su mc)) (l ++ rest)) = -1 ∧ _) ∨ (∃ y : Int32, (if x + M + (if V = wk e then (0 : Int32) else su mc) ≤ st e then x else firstL (vq ow mo dy st le wk sta) (su mc) D M V (st e + le e + (if V = wk e then (0 : Int32) else su mc)) (l ++ rest)) = y ∧ _)
    by_cases c : x + M + (if V = wk e then (0 : Int32) else su mc) ≤ st e
    · rw [if_pos c]
      rw [i_le, f2] at c
      have he : Spd (su mc) st le wk x.toInt M.toInt V e := Or.inr c
      refine Or.inr ⟨x, rfl, hx0, by omega, fun f hf => ?_, fun s h1 h2 q => hblk s h1 h2 (fun f hf => q f (List.mem_append_left _ hf))⟩
      rcases List.mem_append.mp hf with hf | hf
      · exact Or.inl (hpre f hf)
      · rcases List.mem_cons.mp hf with rfl | hf
        · exact he
        · exact tri2 (hU mc).1 h4 (p4 f hf) (by omega) he
    · rw [if_neg c]
      rw [i_le, f2] at c
      have hxx : x.toInt ≤ (st e).toInt + (le e).toInt + suI (su mc) V (wk e) ∨ pre = [] ∨ True := Or.inr (Or.inr trivial)
      have I := c_first_list hE hU hM hM2 hr l (pre ++ [e]) (st e + le e + (if V = wk e then (0 : Int32) else su mc)) (by rw [happ]; exact hp) (by rw [happ]; exact hl) (by rw [f3]; omega) (by rw [f3]; omega) (fun f hf => by
        rw [f3]
        rcases List.mem_append.mp hf with hf | hf
        · have hB := p3 f hf e List.mem_cons_self
          have t := suI_tri (a := wk f) (b := wk e) (c := V) (hU mc).1
          rw [suI_comm (a := wk e) (b := V)] at t
          unfold Bef at hB
          omega
        · rw [List.mem_singleton.mp hf, suI_comm (a := wk e) (b := V)]
          omega) (fun s h1 h2 q => by
        rw [f3] at h2
        by_cases c2 : s < x.toInt
        · exact hblk s h1 c2 (fun f hf => q f (List.mem_append_left _ hf))
        · have q := q e (List.mem_append_right _ (List.mem_singleton.mpr rfl))
          unfold Spd at q
          rw [suI_comm (a := wk e) (b := V)] at q
          rcases q with q | q <;> omega)
      rw [happ] at I
      exact I
/-- the reference's and the class's tries, minute by minute -/
theorem r_first_none {day : Int32} {mac : Nat} {P : Int → Prop} (hM : 1 ≤ M.toInt) (hM2 : M.toInt ≤ 240) (hP : ∀ q : Nat, (q : Int) + M.toInt ≤ 480 → (f_r_isFree dy n le mo st sta su wk mc D (nI q) M V = true ↔ P q)) (hn : ∀ s, 0 ≤ s → s + M.toInt ≤ 480 → ¬ P s) : ∀ k j, j + k ≤ 480 → r_firstStart_L43 day dy n le mac mo st sta su wk mc D M V k j = (0, 3)
  | 0, j, _ => rfl
  | k + 1, j, h => by
    have e480 : (480 : Int32).toInt = 480 := rfl
    have e0 : (nI j).toInt = (j : Int) := nI_toInt (by omega)
    have e1 : (nI j + M).toInt = j + M.toInt := by rw [i_add (by omega) (by omega), e0]
    rw [r_firstStart_L43]
    by_cases c : 480 < nI j + M
    · rw [if_pos c]
    · rw [if_neg c]
      rw [i_lt, e480, e1] at c
      rw [if_neg (fun z => hn j (by omega) (by omega) ((hP j (by omega)).mp z))]
      exact r_first_none hM hM2 hP hn k (j + 1) (by omega)
theorem r_first_some {day : Int32} {mac : Nat} {P : Int → Prop} {y : Nat} (hM : 1 ≤ M.toInt) (hM2 : M.toInt ≤ 240) (hP : ∀ q : Nat, (q : Int) + M.toInt ≤ 480 → (f_r_isFree dy n le mo st sta su wk mc D (nI q) M V = true ↔ P q)) (hy : (y : Int) + M.toInt ≤ 480) (h1 : P y) (hn : ∀ s : Int, 0 ≤ s → s < y → ¬ P s) : ∀ k j, j + k = 480 → j ≤ y → r_firstStart_L43 day dy n le mac mo st sta su wk mc D M V k j = (nI y, (f_r_may day mac (nI mc) D day).2)
  | 0, j, h, h2 => absurd hy (by omega)
  | k + 1, j, h, h2 => by
    have e480 : (480 : Int32).toInt = 480 := rfl
    have e0 : (nI j).toInt = (j : Int) := nI_toInt (by omega)
    have e1 : (nI j + M).toInt = j + M.toInt := by rw [i_add (by omega) (by omega), e0]
    rw [r_firstStart_L43, if_neg (by rw [i_lt, e480, e1]; omega)]
    by_cases e : j = y
    · subst e
      rw [if_pos ((hP j hy).mpr h1)]
    · rw [if_neg (fun z => hn j (by omega) (by omega) ((hP j (by omega)).mp z))]
      exact r_first_some hM hM2 hP hy h1 hn k (j + 1) (by omega) (by omega)
theorem c_try_none {zc zn : Nat} {P : Int → Prop} (hM : 1 ≤ M.toInt) (hM2 : M.toInt ≤ 240) (hP : ∀ q : Nat, (q : Int) + M.toInt ≤ 480 → (f_c_isFree ow mo dy st le (fun e => st e + le e) wk sta mh su mc (f_c_placeOf dy st mh mc D 0) D (nI q) M V = true ↔ P q)) (hn : ∀ s, 0 ≤ s → s + M.toInt ≤ 480 → ¬ P s) : ∀ k j, j + k ≤ 480 → c_firstByMinutes_L27 mo dy (fun e => st e + le e) le ow st wk mh su sta zc zn mc D M V k j = (.inr 4, zc + 1, zn + 6)
  | 0, j, _ => rfl
  | k + 1, j, h => by
    have e480 : (480 : Int32).toInt = 480 := rfl
    have e0 : (nI j).toInt = (j : Int) := nI_toInt (by omega)
    have e1 : (480 - M).toInt = 480 - M.toInt := by rw [i_sub (by omega) (by omega), e480]
    rw [c_firstByMinutes_L27]
    by_cases c : 480 - M < nI j
    · rw [if_pos c]
    · rw [if_neg c]
      rw [i_lt, e0, e1] at c
      rw [if_neg (fun z => hn j (by omega) (by omega) ((hP j (by omega)).mp z))]
      exact c_try_none hM hM2 hP hn k (j + 1) (by omega)
theorem c_try_some {zc zn : Nat} {P : Int → Prop} {y : Nat} (hM : 1 ≤ M.toInt) (hM2 : M.toInt ≤ 240) (hP : ∀ q : Nat, (q : Int) + M.toInt ≤ 480 → (f_c_isFree ow mo dy st le (fun e => st e + le e) wk sta mh su mc (f_c_placeOf dy st mh mc D 0) D (nI q) M V = true ↔ P q)) (hy : (y : Int) + M.toInt ≤ 480) (h1 : P y) (hn : ∀ s : Int, 0 ≤ s → s < y → ¬ P s) : ∀ k j, j + k = 480 → j ≤ y → c_firstByMinutes_L27 mo dy (fun e => st e + le e) le ow st wk mh su sta zc zn mc D M V k j = (.inl (some (vI (nI y))), zc, zn)
  | 0, j, h, h2 => absurd hy (by omega)
  | k + 1, j, h, h2 => by
    have e480 : (480 : Int32).toInt = 480 := rfl
    have e0 : (nI j).toInt = (j : Int) := nI_toInt (by omega)
    have e1 : (480 - M).toInt = 480 - M.toInt := by rw [i_sub (by omega) (by omega), e480]
    rw [c_firstByMinutes_L27, if_neg (by rw [i_lt, e0, e1]; omega)]
    by_cases e : j = y
    · subst e
      rw [if_pos ((hP j hy).mpr h1)]
    · rw [if_neg (fun z => hn j (by omega) (by omega) ((hP j (by omega)).mp z))]
      exact c_try_some hM hM2 hP hy h1 hn k (j + 1) (by omega) (by omega)
/-- both ways of the class and the reference's: none, or the same start -/
theorem first_all {day : Int32} {mac : Nat} {zc zn : Nat} (hE : EOk n dy st le) (hSep : Sep n mo dy st le wk sta su) (hU : SuOk su) (hH : Held n mo dy st sta mh) (hD : ∀ e, e < n → sta e = 100 → ¬ dy e = D) (hM : 1 ≤ M.toInt) (hM2 : M.toInt ≤ 240) :
    (f_c_gaps ow mo dy st le (fun e => st e + le e) wk sta mh su mc D M V = -1 ∧ r_firstStart_L43 day dy n le mac mo st sta su wk mc D M V 480 0 = (0, 3) ∧ c_firstByMinutes_L27 mo dy (fun e => st e + le e) le ow st wk mh su sta zc zn mc D M V 480 0 = (.inr 4, zc + 1, zn + 6)) ∨
    (∃ y : Nat, y ≤ 480 ∧ f_c_gaps ow mo dy st le (fun e => st e + le e) wk sta mh su mc D M V = nI y ∧ r_firstStart_L43 day dy n le mac mo st sta su wk mc D M V 480 0 = (nI y, (f_r_may day mac (nI mc) D day).2) ∧ c_firstByMinutes_L27 mo dy (fun e => st e + le e) le ow st wk mh su sta zc zn mc D M V 480 0 = (.inl (some (vI (nI y))), zc, zn)) := by
  obtain ⟨rest, q1, q2⟩ := day_split hE hH mc D
  have A := c_first_list (ow := ow) (mo := mo) (sta := sta) (V := V) hE hU hM hM2 q2 (dayL dy mh mc D) [] 0 (by rw [List.nil_append]; exact dayL_bef hE hSep hU hH mc D) (by rw [List.nil_append]; exact dayL_ok hH) (by decide) (by decide) (fun e he => (nomatch he)) (fun s h1 h2 => absurd h2 (by show ¬ s < 0; omega))
  have hg : f_c_gaps ow mo dy st le (fun e => st e + le e) wk sta mh su mc D M V = firstL (vq ow mo dy st le wk sta) (su mc) D M V 0 (dayL dy mh mc D ++ rest) := by
    unfold f_c_gaps f_c_placeOf
    rw [q1]
  rw [← hg, List.nil_append] at A
  have hfr : ∀ q : Nat, (q : Int) + M.toInt ≤ 480 → (FreeP n mc mo dy st le wk sta su D (nI q) M V ↔ FrL (su mc) st le wk M.toInt V (dayL dy mh mc D) q) := by
    intro q hq
    have e0 : (nI q).toInt = (q : Int) := nI_toInt (by omega)
    unfold FreeP FrL InB
    rw [e0]
    constructor
    · intro z e he
      obtain ⟨e1, e2, e3, e4⟩ := (mem_dayL hH).mp he
      rcases e3 with e3 | e3
      · exact z e e1 ⟨e3, e2, e4⟩
      · exact absurd e4 (hD e e1 e3)
    · intro z e he ⟨i1, i2, i3⟩
      exact z e ((mem_dayL hH).mpr ⟨he, i2, Or.inl i1, i3⟩)
  have hP1 : ∀ q : Nat, (q : Int) + M.toInt ≤ 480 → (f_r_isFree dy n le mo st sta su wk mc D (nI q) M V = true ↔ FrL (su mc) st le wk M.toInt V (dayL dy mh mc D) q) := by
    intro q hq
    have e0 : (nI q).toInt = (q : Int) := nI_toInt (by omega)
    exact (r_free_iff hE hSep hU (by omega) hM (by omega)).trans (hfr q hq)
  have hP2 : ∀ q : Nat, (q : Int) + M.toInt ≤ 480 → (f_c_isFree ow mo dy st le (fun e => st e + le e) wk sta mh su mc (f_c_placeOf dy st mh mc D 0) D (nI q) M V = true ↔ FrL (su mc) st le wk M.toInt V (dayL dy mh mc D) q) := by
    intro q hq
    have e0 : (nI q).toInt = (q : Int) := nI_toInt (by omega)
    exact (c_free_iff hE hSep hU hH hD (by omega) hM (by omega)).trans (hfr q hq)
  rcases A with ⟨a1, a2⟩ | ⟨y, a1, a2, a3, a4, a5⟩
  · exact Or.inl ⟨a1, r_first_none hM hM2 hP1 a2 480 0 (by omega), c_try_none hM hM2 hP2 a2 480 0 (by omega)⟩
  · have ey : y = nI y.toInt.toNat := by
      rw [i_eq, nI_toInt (by omega)]
      omega
    have ez : ((y.toInt.toNat : Nat) : Int) = y.toInt := by omega
    rw [← ez] at a3 a4 a5
    exact Or.inr ⟨y.toInt.toNat, by omega, a1.trans ey, r_first_some hM hM2 hP1 a3 a4 a5 480 0 (by omega) (by omega), c_try_some hM hM2 hP2 a3 a4 a5 480 0 (by omega) (by omega)⟩
end FI
