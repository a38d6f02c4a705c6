/-! counting minutes; the first start: class and reference alike -/
def cN (p : Nat → Bool) : Nat → Nat → Nat
  | 0, _ => 0
  | k + 1, j => (if p j then 1 else 0) + cN p k (j + 1)
def sN (f : Nat → Nat) : Nat → Nat → Nat
  | 0, _ => 0
  | k + 1, j => f j + sN f k (j + 1)
def sumN (f : Nat → Nat) : List Nat → Nat
  | [] => 0
  | e :: l => f e + sumN f l
theorem cN_split {p : Nat → Bool} : ∀ a b j, cN p (a + b) j = cN p a j + cN p b (j + a)
  | 0, b, j => by
    rw [Nat.zero_add, cN, Nat.zero_add, Nat.add_zero]
  | a + 1, b, j => by
    rw [show a + 1 + b = (a + b) + 1 by omega, cN, cN, cN_split a b (j + 1), show j + 1 + a = j + (a + 1) by omega]
    omega
theorem cN_congr {p p' : Nat → Bool} : ∀ k j, (∀ q, j ≤ q → q < j + k → p q = p' q) → cN p k j = cN p' k j
  | 0, _, _ => rfl
  | k + 1, j, h => by rw [cN, cN, h j (by omega) (by omega), cN_congr k (j + 1) (fun q h1 h2 => h q (by omega) (by omega))]
theorem cN_all {p : Nat → Bool} : ∀ k j, (∀ q, j ≤ q → q < j + k → p q = true) → cN p k j = k
  | 0, _, _ => rfl
  | k + 1, j, h => by
    rw [cN, h j (by omega) (by omega), cN_all k (j + 1) (fun q h1 h2 => h q (by omega) (by omega)), if_pos rfl]
    omega
theorem cN_non {p : Nat → Bool} : ∀ k j, (∀ q, j ≤ q → q < j + k → p q = false) → cN p k j = 0
  | 0, _, _ => rfl
  | k + 1, j, h => by rw [cN, h j (by omega) (by omega), cN_non k (j + 1) (fun q h1 h2 => h q (by omega) (by omega)), if_neg (by decide)]
theorem cntM_cN {f : Int32 → Int32} : ∀ k j a, cntM f k j a = a + nI (cN (fun q => decide (f (nI q) = 98)) k j)
  | 0, j, a => by
    rw [cntM, cN]
    exact (Int32.add_zero a).symm
  | k + 1, j, a => by
    rw [cntM, cN, cntM_cN k (j + 1)]
    by_cases c : f (nI j) = 98
    · rw [if_pos c, if_pos (decide_eq_true c), ← nI_add, ← Int32.add_assoc]
      rfl
    · rw [if_neg c, if_neg (by rw [decide_eq_false c]; decide), Nat.zero_add]
section CO
variable {n mc : Nat} {ow mo : Nat → Nat} {dy st le wk sta su : Nat → Int32} {D M V : Int32} {mh : Nat → List Nat}
theorem r_minutes_cN {w : Int32} : ∀ k j a, r_minutes_L6 dy n le mo st sta su wk mc D w k j a = a + nI (cN (fun q => decide (f_r_minute dy n le mo st sta su wk mc D (nI q) = w)) k j)
  | 0, j, a => by
    rw [r_minutes_L6, cN]
    exact (Int32.add_zero a).symm
  | k + 1, j, a => by
    rw [r_minutes_L6, cN]
    by_cases c : f_r_minute dy n le mo st sta su wk mc D (nI j) = w
    · rw [if_pos c, if_pos (decide_eq_true c), r_minutes_cN k (j + 1), ← nI_add, ← Int32.add_assoc]
      rfl
    · rw [if_neg c, if_neg (by rw [decide_eq_false c]; decide), r_minutes_cN k (j + 1), Nat.zero_add, Int32.add_zero]
/-- an entry's first minute, its minutes, as numbers -/
def sM (st : Nat → Int32) (e : Nat) : Nat := (st e).toInt.toNat
theorem sM_I (hE : EOk n dy st le) {e : Nat} (he : e < n) : (st e).toInt = (sM st e : Int) ∧ (le e).toInt = (sM le e : Int) ∧ 1 ≤ sM le e ∧ sM st e + sM le e ≤ 480 ∧ le e = nI (sM le e) := by
  obtain ⟨-, -, h3, h4, h5⟩ := hE e he
  unfold sM
  refine ⟨by omega, by omega, by omega, by omega, ?_⟩
  rw [i_eq, nI_toInt (by omega)]
  omega
theorem letter_cons {b : Option Nat} {e : Nat} {l : List Nat} {s : Int32} (h : dy e = D) : letterL (vq ow mo dy st le wk sta) s D M b (e :: l) = if M < st e then setupOf (vq ow mo dy st le wk sta) s M e b else if M < st e + le e then 98 else letterL (vq ow mo dy st le wk sta) s D M (some e) l := by
  rw [letterL, if_pos (show eDay (vq ow mo dy st le wk sta e) = D from h)]
  rfl
theorem ite_ne98 {p : Prop} [Decidable p] : ¬ (if p then (115 : Int32) else 102) = 98 := by
  by_cases h : p
  · rw [if_pos h]
    decide
  · rw [if_neg h]
    decide
theorem setup_ne {b : Option Nat} {e : Nat} {s : Int32} : ¬ setupOf (vq ow mo dy st le wk sta) s M e b = 98 := by
  cases b with
  | none =>
    show ¬ (102 : Int32) = 98
    decide
  | some x => exact ite_ne98
theorem count98 (hE : EOk n dy st le) (hU : SuOk su) : ∀ (l : List Nat) (b : Option Nat) (a : Nat), (∀ e ∈ l, e < n ∧ dy e = D) → l.Pairwise (Bef (su mc) st le wk) → (∀ e ∈ l, a ≤ sM st e) → a ≤ 480 → cN (fun q => decide (letterL (vq ow mo dy st le wk sta) (su mc) D (nI q) b l = 98)) (480 - a) a = sumN (sM le) l
  | [], b, a, _, _, _, _ => by
    refine cN_non _ _ (fun q _ _ => decide_eq_false ?_)
    rw [letterL]
    decide
  | e :: l, b, a, hl, hp, ha, h480 => by
    obtain ⟨p1, p2⟩ := List.pairwise_cons.mp hp
    obtain ⟨e1, e2⟩ := hl e List.mem_cons_self
    obtain ⟨k1, k2, k3, k4, -⟩ := sM_I hE e1
    have hae := ha e List.mem_cons_self
    have hbefore : ∀ f ∈ l, sM st e + sM le e ≤ sM st f := by
      intro f hf
      have := p1 f hf
      have s1 := suI_nn (a := wk e) (b := wk f) (hU mc).1
      obtain ⟨q1, -⟩ := sM_I hE (hl f (List.mem_cons_of_mem _ hf)).1
      unfold Bef at this
      omega
    rw [show 480 - a = (sM st e - a) + (sM le e + (480 - (sM st e + sM le e))) by omega, cN_split, cN_split]
    rw [show a + (sM st e - a) = sM st e by omega]
    rw [cN_non (sM st e - a) a (fun q h1 h2 => decide_eq_false (by
      rw [letter_cons e2, if_pos (by rw [i_lt, nI_toInt (by omega), k1]; omega)]
      exact setup_ne))]
    rw [cN_all (sM le e) (sM st e) (fun q h1 h2 => decide_eq_true (by
      rw [letter_cons e2, if_neg (by rw [i_lt, nI_toInt (by omega), k1]; omega), if_pos (by rw [i_lt, nI_toInt (by omega), endq_I hE e1, k1, k2]; omega)]))]
    rw [cN_congr (480 - (sM st e + sM le e)) (sM st e + sM le e) (p' := fun q => decide (letterL (vq ow mo dy st le wk sta) (su mc) D (nI q) (some e) l = 98)) (fun q h1 h2 => by
      show decide (letterL (vq ow mo dy st le wk sta) (su mc) D (nI q) b (e :: l) = 98) = _
      rw [letter_cons e2, if_neg (by rw [i_lt, nI_toInt (by omega), k1]; omega), if_neg (by rw [i_lt, nI_toInt (by omega), endq_I hE e1, k1, k2]; omega)])]
    rw [count98 hE hU l (some e) _ (fun f hf => hl f (List.mem_cons_of_mem _ hf)) p2 hbefore (by omega), sumN]
    omega
/-- setups between neighbours -/
def adjN (su : Nat → Int32) (mc : Nat) (wk : Nat → Int32) : Option Nat → List Nat → Nat
  | _, [] => 0
  | b, e :: l => oE b 0 (fun x => (suI (su mc) (wk x) (wk e)).toNat) + adjN su mc wk (some e) l
theorem count115 (hE : EOk n dy st le) (hU : SuOk su) : ∀ (l : List Nat) (b : Option Nat) (a : Nat), (∀ e ∈ l, e < n ∧ dy e = D) → l.Pairwise (Bef (su mc) st le wk) → (∀ e ∈ l, a ≤ sM st e) → a ≤ 480 → (∀ x, b = some x → (a : Int) = (st x).toInt + (le x).toInt ∧ ∀ e ∈ l, Bef (su mc) st le wk x e) → cN (fun q => decide (letterL (vq ow mo dy st le wk sta) (su mc) D (nI q) b l = 115)) (480 - a) a = adjN su mc wk b l
  | [], b, a, _, _, _, _, _ => by
    refine cN_non _ _ (fun q _ _ => decide_eq_false ?_)
    rw [letterL]
    decide
  | e :: l, b, a, hl, hp, ha, h480, hb => by
    obtain ⟨p1, p2⟩ := List.pairwise_cons.mp hp
    obtain ⟨e1, e2⟩ := hl e List.mem_cons_self
    obtain ⟨k1, k2, k3, k4, -⟩ := sM_I hE e1
    have hae := ha e List.mem_cons_self
    have hbefore : ∀ f ∈ l, sM st e + sM le e ≤ sM st f := by
      intro f hf
      have := p1 f hf
      have s1 := suI_nn (a := wk e) (b := wk f) (hU mc).1
      obtain ⟨q1, -⟩ := sM_I hE (hl f (List.mem_cons_of_mem _ hf)).1
      unfold Bef at this
      omega
    rw [show 480 - a = (sM st e - a) + (sM le e + (480 - (sM st e + sM le e))) by omega, cN_split, cN_split]
    rw [show a + (sM st e - a) = sM st e by omega]
    rw [cN_non (sM le e) (sM st e) (fun q h1 h2 => decide_eq_false (by
      rw [letter_cons e2, if_neg (by rw [i_lt, nI_toInt (by omega), k1]; omega), if_pos (by rw [i_lt, nI_toInt (by omega), endq_I hE e1, k1, k2]; omega)]
      decide))]
    rw [cN_congr (480 - (sM st e + sM le e)) (sM st e + sM le e) (p' := fun q => decide (letterL (vq ow mo dy st le wk sta) (su mc) D (nI q) (some e) l = 115)) (fun q h1 h2 => by
      show decide (letterL (vq ow mo dy st le wk sta) (su mc) D (nI q) b (e :: l) = 115) = _
      rw [letter_cons e2, if_neg (by rw [i_lt, nI_toInt (by omega), k1]; omega), if_neg (by rw [i_lt, nI_toInt (by omega), endq_I hE e1, k1, k2]; omega)])]
    rw [count115 hE hU l (some e) _ (fun f hf => hl f (List.mem_cons_of_mem _ hf)) p2 hbefore (by omega) (fun x hx => by cases hx; exact ⟨by omega, p1⟩), adjN]
    congr 1
    · cases b with
      | none =>
        exact cN_non _ _ (fun q h1 h2 => decide_eq_false (by
          rw [letter_cons e2, if_pos (by rw [i_lt, nI_toInt (by omega), k1]; omega)]
          show ¬ (102 : Int32) = 115
          decide))
      | some x =>
        obtain ⟨b1, b2⟩ := hb x rfl
        have b3 := b2 e List.mem_cons_self
        have s1 := suI_nn (a := wk x) (b := wk e) (hU mc).1
        unfold Bef at b3
        show _ = (suI (su mc) (wk x) (wk e)).toNat
        generalize hz : suI (su mc) (wk x) (wk e) = z at *
        have hlet : ∀ q, a ≤ q → q < sM st e → letterL (vq ow mo dy st le wk sta) (su mc) D (nI q) (some x) (e :: l) = if (sM st e : Int) - q ≤ z then 115 else 102 := by
          intro q h1 h2
          have hq : (nI q).toInt = (q : Int) := nI_toInt (by omega)
          have e3 : (st e - nI q).toInt = (sM st e : Int) - q := by rw [i_sub (by omega) (by omega), hq, k1]
          rw [letter_cons e2, if_pos (by rw [i_lt, hq, k1]; omega)]
          show (if st e - nI q ≤ (if wk x = wk e then (0 : Int32) else su mc) then (115 : Int32) else 102) = _
          by_cases c : (sM st e : Int) - q ≤ z
          · rw [if_pos c, if_pos (by rw [i_le, e3, ite_I, hz]; exact c)]
          · rw [if_neg c, if_neg (by rw [i_le, e3, ite_I, hz]; exact c)]
        rw [show sM st e - a = (sM st e - a - z.toNat) + z.toNat by omega, cN_split]
        rw [cN_non (sM st e - a - z.toNat) a (fun q h1 h2 => decide_eq_false (by
          rw [hlet q h1 (by omega), if_neg (by omega)]
          decide))]
        rw [cN_all z.toNat (a + (sM st e - a - z.toNat)) (fun q h1 h2 => decide_eq_true (by
          rw [hlet q (by omega) (by omega), if_pos (by omega)]))]
        omega
    · omega
/-! the class's walk from one entry to the next -/
def setL (su : Nat → Int32) (mc : Nat) (dy wk : Nat → Int32) (D : Int32) : Option Nat → Int32 → List Nat → Int32
  | _, a, [] => a
  | b, a, e :: l => if dy e = D then setL su mc dy wk D (some e) (oE b a (fun x => a + f_c_setup su mc (wk x) (wk e))) l else a
theorem setup_list {zc zn : Nat} : ∀ (k j : Nat) (a : Int32) (b : Option Nat), j + k = (mh mc).length → c_setupMinutes_L32 dy wk mh su zc zn mc D k j a b = (.inl (some (vI (setL su mc dy wk D b a ((mh mc).drop j)))), zc, zn)
  | 0, j, a, b, h => by
    rw [c_setupMinutes_L32, List.drop_eq_nil_of_le (by omega), setL]
  | k + 1, j, a, b, h => by
    have hj : j < (mh mc).length := by omega
    have hd : (mh mc).drop j = (mh mc).getD j 0 :: (mh mc).drop (j + 1) := by
      rw [List.drop_eq_getElem_cons hj, List.getD_eq_getElem?_getD, List.getElem?_eq_getElem hj]
      rfl
    rw [c_setupMinutes_L32, if_pos hj, hd, setL]
    by_cases c : dy ((mh mc).getD j 0) = D
    · rw [if_pos c, if_pos c]
      cases b with
      | none => exact setup_list k (j + 1) _ _ (by omega)
      | some x => exact setup_list k (j + 1) _ _ (by omega)
    · rw [if_neg c, if_neg c]
theorem setL_adj (hU : SuOk su) {rest : List Nat} (hr : ∀ r ∈ rest, ¬ dy r = D) : ∀ (l : List Nat) (b : Option Nat) (a : Int32), (∀ e ∈ l, dy e = D) → setL su mc dy wk D b a (l ++ rest) = a + nI (adjN su mc wk b l)
  | [], b, a, _ => by
    rw [List.nil_append, adjN]
    have : setL su mc dy wk D b a rest = a := by
      cases rest with
      | nil => rw [setL]
      | cons e es =>
        rw [setL]
        exact if_neg (hr e List.mem_cons_self)
    rw [this]
    exact (Int32.add_zero a).symm
  | e :: l, b, a, hl => by
    rw [List.cons_append, setL, if_pos (hl e List.mem_cons_self), setL_adj hU hr l _ _ (fun f hf => hl f (List.mem_cons_of_mem _ hf)), adjN, ← nI_add, ← Int32.add_assoc]
    congr 1
    cases b with
    | none => exact (Int32.add_zero a).symm
    | some x =>
      show a + f_c_setup su mc (wk x) (wk e) = a + nI (suI (su mc) (wk x) (wk e)).toNat
      congr 1
      have h1 : (f_c_setup su mc (wk x) (wk e)).toInt = suI (su mc) (wk x) (wk e) := setup_I (su := su) (m := mc)
      have s1 := suI_nn (a := wk x) (b := wk e) (hU mc).1
      have s2 := suI_le (a := wk x) (b := wk e) (hU mc).1
      have s3 := (hU mc).2
      rw [i_eq, h1, nI_toInt (by omega)]
      omega
/-! sums of minutes -/
theorem sumN_filter {f : Nat → Nat} {a : Nat} : ∀ (l : List Nat), l.Nodup → a ∈ l → sumN f l = f a + sumN f (l.filter (fun e => decide (¬ e = a)))
  | [], _, h => nomatch h
  | b :: l, hn, h => by
    obtain ⟨n1, n2⟩ := List.nodup_cons.mp hn
    by_cases e : b = a
    · subst e
      rw [List.filter_cons_of_neg (by simp), List.filter_eq_self.mpr (fun c hc => decide_eq_true (p := ¬ c = b) (fun z => n1 (z ▸ hc)))]
      rfl
    · have ha : a ∈ l := by
        rcases List.mem_cons.mp h with h | h
        · exact absurd h.symm e
        · exact h
      rw [List.filter_cons_of_pos (by simpa using e), sumN, sumN, sumN_filter l n2 ha]
      omega
theorem sN_app {f : Nat → Nat} : ∀ k j, sN f (k + 1) j = sN f k j + f (j + k)
  | 0, j => by rw [sN, sN, sN, Nat.add_zero, Nat.zero_add, Nat.add_zero]
  | k + 1, j => by
    rw [sN, sN_app k (j + 1), sN, show j + 1 + k = j + (k + 1) by omega]
    omega
theorem sN_list {f : Nat → Nat} {P : Nat → Bool} : ∀ (n : Nat) (l : List Nat), l.Nodup → (∀ e, e ∈ l ↔ e < n ∧ P e = true) → sN (fun q => if P q = true then f q else 0) n 0 = sumN f l
  | 0, l, _, h => by
    cases l with
    | nil => rfl
    | cons a l => exact absurd ((h a).mp List.mem_cons_self).1 (by omega)
  | n + 1, l, hn, h => by
    rw [sN_app, Nat.zero_add]
    by_cases c : P n = true
    · have hm : n ∈ l := (h n).mpr ⟨by omega, c⟩
      rw [sumN_filter l hn hm, if_pos c, sN_list n (l.filter (fun e => decide (¬ e = n))) (hn.filter _) (fun e => by
        rw [List.mem_filter, h, decide_eq_true_iff]
        constructor
        · intro z
          exact ⟨by omega, z.1.2⟩
        · intro z
          exact ⟨⟨by omega, z.2⟩, by omega⟩)]
      omega
    · rw [if_neg c, sN_list n l hn (fun e => by
        rw [h]
        constructor
        · intro z
          have : e ≠ n := fun q => c (q ▸ z.2)
          exact ⟨by omega, z.2⟩
        · intro z
          exact ⟨by omega, z.2⟩)]
      omega
theorem r_used_sN (hE : EOk n dy st le) : ∀ k j a, j + k ≤ n → r_used_L5 dy le mo sta mc D k j a = a + nI (sN (fun q => if f_r_stands dy mo sta q mc D = true then sM le q else 0) k j)
  | 0, j, a, _ => by
    rw [r_used_L5, sN]
    exact (Int32.add_zero a).symm
  | k + 1, j, a, h => by
    obtain ⟨-, -, -, -, k5⟩ := sM_I hE (show j < n by omega)
    rw [r_used_L5, sN]
    by_cases c : f_r_stands dy mo sta j mc D = true
    · rw [if_pos c, if_pos c, r_used_sN hE k (j + 1) _ (by omega), ← nI_add, ← Int32.add_assoc, ← k5]
    · rw [if_neg c, if_neg c, r_used_sN hE k (j + 1) _ (by omega), Nat.zero_add, Int32.add_zero]
theorem sumL_list (hE : EOk n dy st le) {rest : List Nat} (hr : ∀ r ∈ rest, ¬ dy r = D) {v : Nat → En} (hv1 : ∀ e, eDay (v e) = dy e) (hv2 : ∀ e, eLen (v e) = le e) : ∀ (l : List Nat) (a : Int32), (∀ e ∈ l, e < n ∧ dy e = D) → sumL v D (l ++ rest) a = a + nI (sumN (sM le) l)
  | [], a, _ => by
    rw [List.nil_append, sumN]
    have : sumL v D rest a = a := by
      cases rest with
      | nil => rw [sumL]
      | cons e es =>
        rw [sumL, hv1]
        exact if_neg (hr e List.mem_cons_self)
    rw [this]
    exact (Int32.add_zero a).symm
  | e :: l, a, hl => by
    obtain ⟨e1, e2⟩ := hl e List.mem_cons_self
    obtain ⟨-, -, -, -, k5⟩ := sM_I hE e1
    rw [List.cons_append, sumL, hv1, if_pos e2, hv2, sumL_list hE hr hv1 hv2 l _ (fun f hf => hl f (List.mem_cons_of_mem _ hf)), sumN, ← nI_add, ← Int32.add_assoc, ← k5]
theorem dayL_nodup (hH : Held n mo dy st sta mh) : (dayL dy mh mc D).Nodup := (held_len hH mc).1.filter _
theorem dayL_ok (hH : Held n mo dy st sta mh) : ∀ e ∈ dayL dy mh mc D, e < n ∧ dy e = D := fun e he => ⟨((mem_dayL hH).mp he).1, ((mem_dayL hH).mp he).2.2.2⟩
theorem c_lengths_eq (hE : EOk n dy st le) (hH : Held n mo dy st sta mh) : f_c_lengths dy le st mh mc D = nI (sumN (sM le) (dayL dy mh mc D)) := by
  unfold f_c_lengths f_c_placeOf
  obtain ⟨rest, q1, q2⟩ := day_split hE hH mc D
  rw [q1, sumL_list hE q2 (fun _ => rfl) (fun _ => rfl) _ 0 (dayL_ok hH), Int32.zero_add]
theorem r_used_eq (hE : EOk n dy st le) (hH : Held n mo dy st sta mh) : f_r_used dy n le mo sta mc D = nI (sumN (sM le) (dayL dy mh mc D)) := by
  unfold f_r_used
  rw [r_used_sN hE n 0 0 (by omega), Int32.zero_add]
  rw [sN_list (P := fun q => f_r_stands dy mo sta q mc D) n (dayL dy mh mc D) (dayL_nodup hH) (fun e => by
    rw [mem_dayL hH, stands_iff]
    unfold InA
    exact ⟨fun z => ⟨z.1, z.2.2.1, z.2.1, z.2.2.2⟩, fun z => ⟨z.1, z.2.2.1, z.2.1, z.2.2.2⟩⟩)]
theorem c_count_eq (hE : EOk n dy st le) (hSep : Sep n mo dy st le wk sta su) (hU : SuOk su) (hH : Held n mo dy st sta mh) : f_c_count ow mo dy st le (fun e => st e + le e) wk sta mh su mc D = nI (sumN (sM le) (dayL dy mh mc D)) := by
  unfold f_c_count
  rw [cntM_cN, Int32.zero_add]
  refine congrArg nI ?_
  have := count98 (ow := ow) (mo := mo) (sta := sta) (D := D) hE hU (dayL dy mh mc D) none 0 (dayL_ok hH) (dayL_bef hE hSep hU hH mc D) (fun e _ => Nat.zero_le _) (by omega)
  refine Eq.trans ?_ this
  refine cN_congr 480 0 (fun q _ _ => ?_)
  rw [c_letter_day hE hH]
  rfl
theorem c_setup_eq (hE : EOk n dy st le) (hSep : Sep n mo dy st le wk sta su) (hU : SuOk su) (hH : Held n mo dy st sta mh) {zc zn : Nat} : c_setupMinutes_L32 dy wk mh su zc zn mc D ((mh mc).length - (f_c_placeOf dy st mh mc D 0)) (f_c_placeOf dy st mh mc D 0) 0 none = (.inl (some (vI (f_r_minutes dy n le mo st sta su wk mc D 115))), zc, zn) := by
  have hpl : f_c_placeOf dy st mh mc D 0 ≤ (mh mc).length := placeL_le _
  rw [setup_list _ _ _ _ (by omega)]
  obtain ⟨rest, q1, q2⟩ := day_split hE hH mc D
  rw [show (mh mc).drop (f_c_placeOf dy st mh mc D 0) = dayL dy mh mc D ++ rest from q1, setL_adj hU q2 _ _ _ (fun e he => (dayL_ok hH e he).2), Int32.zero_add]
  unfold f_r_minutes
  rw [r_minutes_cN, Int32.zero_add]
  have h := count115 (ow := fun _ => 0) (mo := mo) (sta := sta) (D := D) hE hU (dayL dy mh mc D) none 0 (dayL_ok hH) (dayL_bef hE hSep hU hH mc D) (fun e _ => Nat.zero_le _) (by omega) (fun x hx => by cases hx)
  have h2 : cN (fun q => decide (f_r_minute dy n le mo st sta su wk mc D (nI q) = 115)) 480 0 = adjN su mc wk none (dayL dy mh mc D) := by
    refine Eq.trans (cN_congr 480 0 (fun q _ _ => ?_)) h
    rw [← minute_eq (ow := fun _ => 0) hE hSep hU hH]
    rfl
  rw [h2]
end CO
