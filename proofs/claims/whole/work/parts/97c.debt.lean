/-! bills: what members owe, class and reference alike -/
def duesS (n : Nat) (ow : Nat → Nat) (du : Nat → Int32) (m : Nat) : Int32 := sI (fun e => if ow e = m then du e else 0) n 0
def shS (kn : Nat) (sh : Nat → Nat → Int32) (m : Nat) : Int32 := sI (fun b => sh b m) kn 0
def DebtOk (pn n kn : Nat) (ow : Nat → Nat) (du po : Nat → Int32) (sh : Nat → Nat → Int32) : Prop := ∀ m, m < pn → po m = duesS n ow du m + shS kn sh m
def ShOk (kn : Nat) (kl : Nat → Nat) (ks sh : Nat → Nat → Int32) : Prop := (∀ b, b < kn → ∀ m, m < 10 → f_c_share kl ks b (nI m) = sh b m) ∧ ∀ b, kn ≤ b → ∀ m, sh b m = 0
def PayOk (pn : Nat) (pp : Nat → Int32) (paid : Nat → Int64) : Prop := (∀ m, paid m = (pp m).toInt64 ∧ 0 ≤ (pp m).toInt ∧ (pp m).toInt ≤ 1000000000) ∧ ∀ m, pn ≤ m → pp m = 0
section DE
variable {n kn pn m : Nat} {ow : Nat → Nat} {du po pp : Nat → Int32} {sh ks : Nat → Nat → Int32} {kl : Nat → Nat} {paid : Nat → Int64}
theorem owed11 : ∀ k j (s : Int64), (r_owed_L11 du ow m k j s).toInt32 = s.toInt32 + sI (fun e => if ow e = m then du e else 0) k j
  | 0, j, s => by
    rw [r_owed_L11, sI]
    exact (Int32.add_zero _).symm
  | k + 1, j, s => by
    rw [r_owed_L11, sI]
    by_cases c : ow j = m
    · rw [if_pos c, if_pos c, owed11 k (j + 1), Int64.toInt32_add, Int32.toInt32_toInt64, Int32.add_assoc]
    · rw [if_neg c, if_neg c, owed11 k (j + 1), Int64.add_zero, Int32.zero_add]
theorem owed55 : ∀ k j (s : Int64), (r_owed_L55 sh m k j s).toInt32 = s.toInt32 + sI (fun b => sh b m) k j
  | 0, j, s => by
    rw [r_owed_L55, sI]
    exact (Int32.add_zero _).symm
  | k + 1, j, s => by rw [r_owed_L55, sI, owed55 k (j + 1), Int64.toInt32_add, Int32.toInt32_toInt64, Int32.add_assoc]
theorem r_owed_s (hP : PayOk pn pp paid) : (f_r_owed kn du n ow paid sh m).toInt32 = -(pp m) + duesS n ow du m + shS kn sh m := by
  unfold f_r_owed duesS shS
  rw [owed55, owed11, Int64.toInt32_neg, (hP.1 m).1, Int32.toInt32_toInt64]
theorem debts15 : ∀ k j s, c_debts_L15 du ow m k j s = s + sI (fun e => if ow e = m then du e else 0) k j
  | 0, j, s => by
    rw [c_debts_L15, sI]
    exact (Int32.add_zero _).symm
  | k + 1, j, s => by
    rw [c_debts_L15, sI]
    by_cases c : ow j = m
    · rw [if_pos c, if_pos c, debts15 k (j + 1), Int32.add_assoc]
    · rw [if_neg c, if_neg c, debts15 k (j + 1), Int32.zero_add]
theorem debts67 : ∀ k j s, c_debts_L67 kl ks m k j s = s + sI (fun b => f_c_share kl ks b (nI m)) k j
  | 0, j, s => by
    rw [c_debts_L67, sI]
    exact (Int32.add_zero _).symm
  | k + 1, j, s => by rw [c_debts_L67, sI, debts67 k (j + 1), Int32.add_assoc]
theorem c_debts_s (hS : ShOk kn kl ks sh) (hm : m < 10) : f_c_debts du ow n kl kn ks pp m = -(pp m) + duesS n ow du m + shS kn sh m := by
  unfold f_c_debts duesS shS
  rw [debts67, debts15]
  congr 1
  exact sI_congr kn 0 (fun q _ hq => hS.1 q (by omega) m hm)
theorem owes_eq (hP : PayOk pn pp paid) (hD : DebtOk pn n kn ow du po sh) (hm : m < pn) : po m - pp m = (f_r_owed kn du n ow paid sh m).toInt32 := by
  rw [r_owed_s hP, hD m hm]
  grind
theorem owesBy_eq (hP : PayOk pn pp paid) (hS : ShOk kn kl ks sh) (hm : m < 10) : f_c_debts du ow n kl kn ks pp m = (f_r_owed kn du n ow paid sh m).toInt32 := by rw [r_owed_s hP, c_debts_s hS hm]
theorem debts_agree (hD : DebtOk pn n kn ow du po sh) (hS : ShOk kn kl ks sh) (hpn : pn ≤ 10) : ∀ k j, j + k ≤ pn → c_debtsAgree_L2 du ow n kl kn ks po pp k j = true
  | 0, j, _ => rfl
  | k + 1, j, h => by
    have e : po j - pp j = f_c_debts du ow n kl kn ks pp j := by
      rw [c_debts_s hS (by omega), hD j (by omega)]
      grind
    rw [c_debtsAgree_L2, if_pos e, debts_agree hD hS hpn k (j + 1) (by omega)]
theorem lg_pos {a b : Int64} : 0 < lg_cmp a b ↔ b < a := by
  unfold lg_cmp
  by_cases c2 : b < a
  · rw [if_pos c2]
    exact ⟨fun _ => c2, fun _ => by decide⟩
  · rw [if_neg c2]
    refine ⟨fun z => ?_, fun z => absurd z c2⟩
    by_cases e : a = b
    · rw [if_pos e] at z
      exact absurd z (by decide)
    · rw [if_neg e] at z
      exact absurd z (by decide)
theorem pay_test (hP : PayOk pn pp paid) {X : Int32} (h0 : 1 ≤ X.toInt) (h1 : X.toInt ≤ 1000000) : (0 < lg_cmp ((paid m) + X.toInt64) 1000000000) ↔ 1000000000 - X < pp m := by
  obtain ⟨p1, p2, p3⟩ := hP.1 m
  have e1 : (1000000000 : Int32).toInt = 1000000000 := rfl
  have e2 : (1000000000 : Int64).toInt = 1000000000 := rfl
  have e3 : (paid m + X.toInt64).toInt = (pp m).toInt + X.toInt := by
    rw [p1, Int64.toInt_add, Int32.toInt_toInt64, Int32.toInt_toInt64, Int.bmod_eq_of_le (by omega) (by omega)]
  rw [lg_pos, Int64.lt_iff_toInt_lt, e3, e2, i_lt, i_sub (by omega) (by omega), e1]
  omega
theorem pay_ok (hP : PayOk pn pp paid) {X : Int32} (hm : m < pn) (h0 : 1 ≤ X.toInt) (h1 : X.toInt ≤ 1000000) (hc : ¬ 1000000000 - X < pp m) : PayOk pn (fup pp m (pp m + X)) (fup paid m (paid m + X.toInt64)) := by
  obtain ⟨p1, p2, p3⟩ := hP.1 m
  have e1 : (1000000000 : Int32).toInt = 1000000000 := rfl
  rw [i_lt, i_sub (by omega) (by omega), e1] at hc
  have ea : (pp m + X).toInt = (pp m).toInt + X.toInt := i_add (by omega) (by omega)
  refine ⟨fun k => ?_, fun k hk => ?_⟩
  · by_cases e : k = m
    · subst e
      rw [fup_same, fup_same, ea]
      refine ⟨Int64.toInt.inj ?_, by omega, by omega⟩
      rw [p1, Int64.toInt_add, Int32.toInt_toInt64, Int32.toInt_toInt64, Int32.toInt_toInt64, ea, Int.bmod_eq_of_le (by omega) (by omega)]
    · rw [fup_ne e, fup_ne e]
      exact hP.1 k
  · rw [fup_ne (show k ≠ m by omega)]
    exact hP.2 k hk
theorem takings_eq (hP : PayOk pn pp paid) : ∀ k j s, c_takings_L4 pp k j s = (r_takings_L9 paid k j s).1
  | 0, j, s => rfl
  | k + 1, j, s => by rw [c_takings_L4, r_takings_L9, takings_eq hP k (j + 1), (hP.1 j).1]
theorem takings_thr : ∀ k j s, (r_takings_L9 paid k j s).2 = 0
  | 0, j, s => rfl
  | k + 1, j, s => by rw [r_takings_L9, takings_thr k (j + 1)]
theorem mean_eq {le sta : Nat → Int32} : ∀ k j a b, c_meanMinutes_L6 le sta k j a b = r_meanMinutes_L6 le sta k j a b
  | 0, j, a, b => rfl
  | k + 1, j, a, b => by
    rw [c_meanMinutes_L6, r_meanMinutes_L6]
    by_cases c : sta j = 100
    · rw [if_pos c, if_pos c, if_pos c, mean_eq k (j + 1)]
    · rw [if_neg c, if_neg c, if_neg c, mean_eq k (j + 1), Int32.add_zero, Int32.add_zero]
theorem waiting_eq {day D : Int32} {mac p : Nat} {mo : Nat → Nat} {dy sta : Nat → Int32} {zc zn : Nat} : ∀ k j a, c_waiting_L27 mo dy sta zc zn p D k j a = (.inl (some (vI (r_waiting_L18 day dy mac mo sta p D k j a).1)), zc, zn) ∧ (r_waiting_L18 day dy mac mo sta p D k j a).2 = (f_r_may day mac (nI p) D day).2
  | 0, j, a => ⟨rfl, rfl⟩
  | k + 1, j, a => by
    have ih := fun a => waiting_eq (day := day) (D := D) (mac := mac) (p := p) (mo := mo) (dy := dy) (sta := sta) (zc := zc) (zn := zn) k (j + 1) a
    rw [c_waiting_L27, r_waiting_L18, Int32.add_zero]
    by_cases c1 : sta j = 119
    · by_cases c2 : mo j = p
      · by_cases c3 : dy j = D
        · rw [if_pos c1, if_pos c1, if_pos c2, if_pos c2, if_pos c3, if_pos c3]
          exact ih _
        · rw [if_pos c1, if_pos c1, if_pos c2, if_pos c2, if_neg c3, if_neg c3]
          exact ih _
      · rw [if_pos c1, if_pos c1, if_neg c2, if_neg c2]
        exact ih _
    · rw [if_neg c1, if_neg c1]
      exact ih _
/-- a due changes by what the member owes more -/
theorem dues_fup {e : Nat} {x : Int32} (he : e < n) : duesS n ow (fup du e x) m = duesS n ow du m + (if ow e = m then x - du e else 0) := by
  unfold duesS
  rw [sI_one (f := fun e => if ow e = m then du e else 0) (g := fun a => if ow a = m then fup du e x a else 0) (e := e) n 0 (by omega) (by omega) (fun q _ _ hq => by
    show (if ow q = m then fup du e x q else 0) = _
    rw [fup_ne hq])]
  congr 1
  show (if ow e = m then fup du e x e else 0) - (if ow e = m then du e else 0) = _
  rw [fup_same]
  by_cases c : ow e = m
  · rw [if_pos c, if_pos c, if_pos c]
  · rw [if_neg c, if_neg c, if_neg c]
    decide
theorem debt_charge (hD : DebtOk pn n kn ow du po sh) {e : Nat} {x : Int32} (he : e < n) (h0 : du e = 0) : DebtOk pn n kn ow (fup du e x) (fup po (ow e) (po (ow e) + x)) sh := by
  intro k hk
  rw [dues_fup he, h0]
  by_cases c : k = ow e
  · subst c
    rw [fup_same, if_pos rfl, hD _ hk]
    grind
  · rw [fup_ne c, if_neg (fun z => c z.symm), hD k hk]
    grind
end DE
