/-! the reference: addNeed, induct, breakDown, pay, use, meanMinutes (written by gref4.py) -/
/-- ranks pressed together -/
def cntl (rk : Nat → Nat) (x : Nat) : Nat → Nat
  | 0 => 0
  | n + 1 => cntl rk x n + if rk n < rk x then 1 else 0
theorem cntl_le {rk : Nat → Nat} {x : Nat} : ∀ n, cntl rk x n ≤ n
  | 0 => Nat.le_refl _
  | n + 1 => by
    unfold cntl
    have := cntl_le (rk := rk) (x := x) n
    split <;> omega
theorem cntl_mono {rk : Nat → Nat} {x y : Nat} (h : rk y < rk x) : ∀ n, cntl rk y n ≤ cntl rk x n ∧ (y < n → cntl rk y n < cntl rk x n)
  | 0 => ⟨Nat.le_refl _, fun h => absurd h (by omega)⟩
  | n + 1 => by
    unfold cntl
    obtain ⟨h1, h2⟩ := cntl_mono h n
    by_cases e : y = n
    · subst e
      rw [if_neg (Nat.lt_irrefl _), if_pos h]
      exact ⟨by omega, fun _ => by omega⟩
    · by_cases e1 : rk n < rk y
      · rw [if_pos e1, if_pos (by omega)]
        exact ⟨by omega, fun _ => by have := h2 (by omega); omega⟩
      · rw [if_neg e1]
        exact ⟨by split <;> omega, fun _ => by have := h2 (by omega); split <;> omega⟩
theorem cntl_self {rk : Nat → Nat} {x : Nat} : ∀ n, x < n → cntl rk x n + 1 ≤ n
  | 0, h => absurd h (by omega)
  | n + 1, h => by
    unfold cntl
    by_cases e : x = n
    · subst e
      rw [if_neg (Nat.lt_irrefl _)]
      have := cntl_le (rk := rk) (x := x) x
      omega
    · have := cntl_self (rk := rk) (x := x) n (by omega)
      split <;> omega
theorem acy_of {nd : Nat → Nat → Bool} {rk : Nat → Nat} (h : ∀ a b, a < 4 → b < 4 → nd a b = true → rk b < rk a) : Acy nd := by
  refine ⟨fun x => if x < 4 then cntl rk x 4 else 0, fun k => ?_, fun a b ha hb hn => ?_⟩
  · dsimp only
    split
    · rename_i h4
      have := cntl_self (rk := rk) 4 h4
      omega
    · omega
  · dsimp only
    rw [if_pos ha, if_pos hb]
    exact (cntl_mono (h a b ha hb hn) 4).2 hb
theorem reachL_is {nd : Nat → Nat → Bool} {kd ot : Nat} {lv : Nat → Bool} : ∀ k j, r_reaches1_L14 nd kd ot lv k j true = true := by
  intro k j
  cases k with
  | zero => rw [r_reaches1_L14]
  | succ k => rw [r_reaches1_L14, if_pos rfl]
theorem reachL_true {nd : Nat → Nat → Bool} {kd ot : Nat} {lv : Nat → Bool} {x : Nat} (hn : nd kd x = true) (hl : lv x = true) : ∀ k j is, j ≤ x → x < j + k → j + k = 4 → r_reaches1_L14 nd kd ot lv k j is = true := by
  intro k
  induction k with
  | zero => intro j is h1 h2; omega
  | succ k ih =>
    intro j is h1 h2 h3
    rw [r_reaches1_L14]
    by_cases e : j = x
    · subst e
      cases is with
      | true => rw [if_pos rfl]
      | false =>
        rw [if_neg (by decide), if_pos hn, hl, if_pos rfl]
        exact reachL_is _ _
    · cases is with
      | true => rw [if_pos rfl]
      | false =>
        rw [if_neg (by decide)]
        repeat' split
        all_goals first | exact reachL_is _ _ | exact ih _ _ (by omega) (by omega) (by omega)
theorem reach_self {nd : Nat → Nat → Bool} {ot : Nat} : ∀ r, r_reaches nd ot r ot = true := by
  intro r
  cases r with
  | zero => unfold r_reaches f_r_reaches1; rw [if_pos rfl]; exact reachL_is _ _
  | succ r => unfold r_reaches f_r_reaches1; rw [if_pos rfl]; exact reachL_is _ _
theorem reach_step {nd : Nat → Nat → Bool} {ot kd x : Nat} {r : Nat} (hx : x < 4) (hn : nd kd x = true) (h : r_reaches nd ot r x = true) : r_reaches nd ot (r + 1) kd = true := by
  unfold r_reaches f_r_reaches1
  split
  · exact reachL_is _ _
  · exact reachL_true hn h 4 0 false (Nat.zero_le _) (by omega) rfl
theorem reachL_inv {nd : Nat → Nat → Bool} {kd ot : Nat} {lv : Nat → Bool} : ∀ k j, r_reaches1_L14 nd kd ot lv k j false = true → ∃ i, j ≤ i ∧ i < j + k ∧ nd kd i = true ∧ lv i = true := by
  intro k
  induction k with
  | zero =>
    intro j h
    rw [r_reaches1_L14] at h
    cases h
  | succ k ih =>
    intro j h
    rw [r_reaches1_L14, if_neg (by decide)] at h
    split at h
    · split at h
      · exact ⟨j, Nat.le_refl _, by omega, by assumption, by assumption⟩
      · obtain ⟨i, h1, h2, h3⟩ := ih _ h
        exact ⟨i, by omega, by omega, h3⟩
    · obtain ⟨i, h1, h2, h3⟩ := ih _ h
      exact ⟨i, by omega, by omega, h3⟩
/-- whoever leads to ot is found with as much fuel as its rank -/
theorem reach_comp {nd : Nat → Nat → Bool} {ot : Nat} {rk : Nat → Nat} (hr : ∀ a b, a < 4 → b < 4 → nd a b = true → rk b < rk a) : ∀ (r' x : Nat), x < 4 → r_reaches nd ot r' x = true → ∀ r, rk x ≤ r → r_reaches nd ot r x = true := by
  intro r'
  induction r' with
  | zero =>
    intro x hx h r hr'
    unfold r_reaches f_r_reaches1 at h
    split at h
    · rename_i e
      rw [e]
      exact reach_self r
    · obtain ⟨i, _, _, _, h4⟩ := reachL_inv _ _ h
      cases h4
  | succ r' ih =>
    intro x hx h r hr'
    unfold r_reaches f_r_reaches1 at h
    split at h
    · rename_i e
      rw [e]
      exact reach_self r
    · obtain ⟨i, _, h2, h3, h4⟩ := reachL_inv _ _ h
      have hi : i < 4 := by omega
      have hlt := hr x i hx hi h3
      cases r with
      | zero => omega
      | succ r => exact reach_step hi h3 (ih i hi h4 r (by omega))
theorem acy_add {nd : Nat → Nat → Bool} {a b : Nat} (hA : Acy nd) (ha : a < 4) (hb : b < 4) (hab : ¬ a = b) (h : ¬ f_r_reaches nd b a = true) : Acy (fup nd a (fup (nd a) b true)) := by
  obtain ⟨rk, h3, hr⟩ := hA
  have hnb : ¬ ∃ r', r_reaches nd a r' b = true := fun ⟨r', hr'⟩ => h (reach_comp hr r' b hb hr' 3 (h3 b))
  have hst : ∀ x y, y < 4 → nd x y = true → (∃ r', r_reaches nd a r' y = true) → ∃ r', r_reaches nd a r' x = true := fun x y hy hn ⟨r', hr'⟩ => ⟨r' + 1, reach_step hy hn hr'⟩
  refine acy_of (rk := fun x => @ite Nat (∃ r', r_reaches nd a r' x = true) (Classical.propDecidable _) (rk x + 4) (rk x)) fun x y hx hy hn => ?_
  have old : nd x y = true → @ite Nat (∃ r', r_reaches nd a r' y = true) (Classical.propDecidable _) (rk y + 4) (rk y) < @ite Nat (∃ r', r_reaches nd a r' x = true) (Classical.propDecidable _) (rk x + 4) (rk x) := by
    intro ho
    have hlt := hr x y hx hy ho
    by_cases hl : ∃ r', r_reaches nd a r' y = true
    · rw [if_pos hl, if_pos (hst x y hy ho hl)]
      omega
    · rw [if_neg hl]
      by_cases hl2 : ∃ r', r_reaches nd a r' x = true
      · rw [if_pos hl2]
        omega
      · rw [if_neg hl2]
        exact hlt
  by_cases e1 : x = a
  · subst e1
    rw [fup_same] at hn
    by_cases e2 : y = b
    · subst e2
      rw [if_neg hnb, if_pos ⟨0, reach_self 0⟩]
      have := h3 y
      omega
    · rw [fup_ne e2] at hn
      exact old hn
  · rw [fup_ne e1] at hn
    exact old hn
theorem chr_fup {s : Nat → Int32} {i : Nat} {v : Int32} (h : ∀ e, chr (s e)) (hv : chr v) : ∀ e, chr (fup s i v e) := by
  intro e
  by_cases c : e = i
  · subst c
    rw [fup_same]
    exact hv
  · rw [fup_ne c]
    exact h e
def r_addNeed_L79 (aDy : Nat → Int32) (aMk : Nat → Nat) (aMo : Nat → Nat) (aNd : Nat → Nat → Bool) (aOw : Nat → Nat) (aTk : Nat → Nat → Int32) (k_p0 : Nat) (k_p1 : Nat) : Nat → Nat → (Nat → Int32) → ((Nat → Int32))
  | 0, j79, aSta_79 =>
    aSta_79
  | k79 + 1, j79, aSta_79 =>
    if aSta_79 j79 = 119 then
      if f_r_liveFor aMk (fup aNd k_p0 (fup (aNd k_p0) k_p1 true)) aTk (aOw j79) (aMo j79) (aDy j79) then
        r_addNeed_L79 aDy aMk aMo aNd aOw aTk k_p0 k_p1 k79 (j79 + 1) (fup aSta_79 j79 (aSta_79 j79))
      else
        r_addNeed_L79 aDy aMk aMo aNd aOw aTk k_p0 k_p1 k79 (j79 + 1) (fup aSta_79 j79 99)
    else
      if aSta_79 j79 = 98 then
        if f_r_liveFor aMk (fup aNd k_p0 (fup (aNd k_p0) k_p1 true)) aTk (aOw j79) (aMo j79) (aDy j79) then
          r_addNeed_L79 aDy aMk aMo aNd aOw aTk k_p0 k_p1 k79 (j79 + 1) (fup aSta_79 j79 (aSta_79 j79))
        else
          r_addNeed_L79 aDy aMk aMo aNd aOw aTk k_p0 k_p1 k79 (j79 + 1) (fup aSta_79 j79 99)
      else
        r_addNeed_L79 aDy aMk aMo aNd aOw aTk k_p0 k_p1 k79 (j79 + 1) (fup aSta_79 j79 (aSta_79 j79))
def f_r_addNeed (aDy : Nat → Int32) (aEnt : Nat) (aLe : Nat → Int32) (aMk : Nat → Nat) (aMo : Nat → Nat) (aNd : Nat → Nat → Bool) (aOw : Nat → Nat) (aSt : Nat → Int32) (aSta : Nat → Int32) (aSu : Nat → Int32) (aTk : Nat → Nat → Int32) (aWk : Nat → Int32) (p0 p1 : Int32) : Bool × (Nat → Nat → Bool) × (Nat → Int32) × Int32 :=
  if f_r_isKind p0 then
    if f_r_isKind p1 then
      if (nP p0) = (nP p1) then
        (false, aNd, aSta, 1)
      else
        if f_r_reaches aNd (nP p1) (nP p0) then
          (false, aNd, aSta, 2)
        else
          if aNd (nP p0) (nP p1) then
            (false, fup aNd (nP p0) (fup (aNd (nP p0)) (nP p1) true), f_r_gives aDy aEnt aLe aMk aMo (fup aNd (nP p0) (fup (aNd (nP p0)) (nP p1) true)) aOw aSt (r_addNeed_L79 aDy aMk aMo aNd aOw aTk (nP p0) (nP p1) aEnt 0 aSta) aSu aTk aWk, 0)
          else
            (true, fup aNd (nP p0) (fup (aNd (nP p0)) (nP p1) true), f_r_gives aDy aEnt aLe aMk aMo (fup aNd (nP p0) (fup (aNd (nP p0)) (nP p1) true)) aOw aSt (r_addNeed_L79 aDy aMk aMo aNd aOw aTk (nP p0) (nP p1) aEnt 0 aSta) aSu aTk aWk, 0)
    else
      (false, aNd, aSta, 1)
  else
    (false, aNd, aSta, 1)
theorem s_r_addNeed {d : Nat} {W : WD} {aMk : Nat → Nat} {aSu : Nat → Int32} {aMac : Nat} {aMem : Nat} {aTk : Nat → Nat → Int32} {aPaid : Nat → Int64} {aNd : Nat → Nat → Bool} {aDay : Int32} {aOw : Nat → Nat} {aMo : Nat → Nat} {aDy : Nat → Int32} {aSt : Nat → Int32} {aLe : Nat → Int32} {aWk : Nat → Int32} {aSta : Nat → Int32} {aDue : Nat → Int32} {aCm : Nat → Nat} {aCb : Nat → Nat → Nat} {aCl : Nat → Nat → Int32} {aEnt : Nat} {aMt : Nat → Nat} {aBl : Nat → Int32} {aBar : Nat} {aPr : Nat → Int32} {aLs : Nat → Nat → Int32} {aLnum : Nat → Nat → Int32} {aLm : Nat → Nat} {aSh : Nat → Nat → Int32} {aBrk : Nat} {aThr : Int32} {C : CD} {p0 : Int32} {p1 : Int32} (hW : WfR aMac aMem aEnt aBar aBrk aOw aMo aMk aCm aCb aMt aLm) (hA : Acy aNd) (hS : ∀ e, chr (aSta e)) : Cal (d + 9) 122 [vR 9 0, vI p0, vI p1] (enc C (mkR aMk aSu aMac aMem aTk aPaid aNd aDay aOw aMo aDy aSt aLe aWk aSta aDue aCm aCb aCl aEnt aMt aBl aBar aPr aLs aLnum aLm aSh aBrk aThr) W) (.inl (some (vI (bI ((f_r_addNeed aDy aEnt aLe aMk aMo aNd aOw aSt aSta aSu aTk aWk p0 p1).1))))) (enc C (mkR aMk aSu aMac aMem aTk aPaid ((f_r_addNeed aDy aEnt aLe aMk aMo aNd aOw aSt aSta aSu aTk aWk p0 p1).2.1) aDay aOw aMo aDy aSt aLe aWk ((f_r_addNeed aDy aEnt aLe aMk aMo aNd aOw aSt aSta aSu aTk aWk p0 p1).2.2.1) aDue aCm aCb aCl aEnt aMt aBl aBar aPr aLs aLnum aLm aSh aBrk ((f_r_addNeed aDy aEnt aLe aMk aMo aNd aOw aSt aSta aSu aTk aWk p0 p1).2.2.2)) W) := by
  obtain ⟨wMac, wMem, wEnt, wBar, wBrk, wOw, wMo, wMk, wCm, wCb, wMt, wLm⟩ := id hW
  refine Cal.mk (n := 6) rfl (Nat.le_of_ble_eq_true rfl) rfl ?_
  unfold f_r_addNeed
  refine Ev.ps 2 rfl ?_
  refine Ev.sta (as := [vI p0]) (rest := [vR 9 0]) (by rfl) (by rfl) (by rfl) (by rfl) rfl (Nat.le_of_ble_eq_true rfl) (s_r_isKind ) ?_
  refine Ev.ifbe (by rfl) (by rfl) (fun c1 => ?_) (fun c1 => ?_)
  · rw [if_pos c1]
    have q_p0 := isKind_nat c1
    generalize nP p0 = k_p0 at q_p0 ⊢
    obtain ⟨rfl, hk_p0⟩ := q_p0
    refine Ev.ps 1 rfl ?_
    refine Ev.sta (as := [vI p1]) (rest := [vR 9 0]) (by rfl) (by rfl) (by rfl) (by rfl) rfl (Nat.le_of_ble_eq_true rfl) (s_r_isKind ) ?_
    refine Ev.ifbe (by rfl) (by rfl) (fun c2 => ?_) (fun c2 => ?_)
    · rw [if_pos c2]
      have q_p1 := isKind_nat c2
      generalize nP p1 = k_p1 at q_p1 ⊢
      obtain ⟨rfl, hk_p1⟩ := q_p1
      refine Ev.ps 2 rfl ?_
      refine Ev.ineN (a := k_p0) (b := k_p1) (by have := hk_p0; omega) (by have := hk_p1; omega) (by rfl) (by rfl) (fun (c3 : k_p0 = k_p1) => ?_) (fun (c3 : ¬ k_p0 = k_p1) => ?_)
      · rw [if_pos c3]
        refine Ev.ps 2 rfl ?_
        refine Ev.pf (by rfl) (by rfl) (by rfl) (Nat.le_of_ble_eq_true rfl) rfl (Or.inl (by rfl)) (rd9) (show _ = enc C (mkR aMk aSu aMac aMem aTk aPaid aNd aDay aOw aMo aDy aSt aLe aWk aSta aDue aCm aCb aCl aEnt aMt aBl aBar aPr aLs aLnum aLm aSh aBrk 1) W from wr9_Thr (v := 1)) ?_
        refine Ev.ps 1 rfl ?_
        refine Ev.getf (v := vI 1) (by rfl) (by rfl) (by rfl) (rd9) rfl ?_
        refine Ev.ifi (by rfl) (by rfl) (fun z => by exact absurd z (by decide)) (fun _ => ?_)
        refine Ev.ps 1 rfl ?_
        exact Ev.re rfl rfl rfl rfl rfl
      · rw [if_neg c3]
        refine Ev.ps 3 rfl ?_
        refine Ev.vir (as := [vI (nI k_p1), vI (nI k_p0)]) (rest := [vR 9 0]) (by rfl) (by rfl) (by rfl) (by rfl) rfl (Nat.le_of_ble_eq_true rfl) (by rfl) (by rw [rd9]; rfl) (s_r_reaches hA (by have := hk_p1; omega) (by have := hk_p0; omega)) ?_
        refine Ev.ifbe (by rfl) (by rfl) (fun c4 => ?_) (fun c4 => ?_)
        · rw [if_pos c4]
          refine Ev.ps 2 rfl ?_
          refine Ev.pf (by rfl) (by rfl) (by rfl) (Nat.le_of_ble_eq_true rfl) rfl (Or.inl (by rfl)) (rd9) (show _ = enc C (mkR aMk aSu aMac aMem aTk aPaid aNd aDay aOw aMo aDy aSt aLe aWk aSta aDue aCm aCb aCl aEnt aMt aBl aBar aPr aLs aLnum aLm aSh aBrk 2) W from wr9_Thr (v := 2)) ?_
          refine Ev.ps 1 rfl ?_
          refine Ev.getf (v := vI 2) (by rfl) (by rfl) (by rfl) (rd9) rfl ?_
          refine Ev.ifi (by rfl) (by rfl) (fun z => by exact absurd z (by decide)) (fun _ => ?_)
          refine Ev.ps 1 rfl ?_
          exact Ev.re rfl rfl rfl rfl rfl
        · rw [if_neg c4]
          refine Ev.ps 1 rfl ?_
          refine Ev.pf (by rfl) (by rfl) (by rfl) (Nat.le_of_ble_eq_true rfl) rfl (Or.inl (by rfl)) (rd9) (show _ = enc C (mkR aMk aSu aMac aMem aTk aPaid aNd aDay aOw aMo aDy aSt aLe aWk aSta aDue aCm aCb aCl aEnt aMt aBl aBar aPr aLs aLnum aLm aSh aBrk 0) W from wr9_Thr (v := 0)) ?_
          refine Ev.ps 1 rfl ?_
          refine Ev.getf (v := vI 0) (by rfl) (by rfl) (by rfl) (rd9) rfl ?_
          refine Ev.ifi (by rfl) (by rfl) (fun _ => ?_) (fun z => by exact absurd z (by decide))
          refine Ev.ps 1 rfl ?_
          refine Ev.getf (v := vR 30 0) (by rfl) (by rfl) (by rfl) (rd9) rfl ?_
          refine Ev.ps 1 rfl ?_
          refine Ev.aiA (k := k_p0) (v := vR 31 k_p0) (by rfl) (by decide) (rd30) (by omega) (by have := hk_p0; omega) rfl ?_
          refine Ev.ps 1 rfl ?_
          refine Ev.aiB (k := k_p1) (v := vI (bI (aNd k_p0 k_p1))) (by rfl) (by decide) (rd31 (by have := hk_p0; omega)) (by omega) (by have := hk_p1; omega) rfl ?_
          refine Ev.ifbn (by rfl) (by rfl) (fun c5 => ?_) (fun c5 => ?_)
          · rw [if_pos c5]
            refine Ev.ps 3 rfl ?_
            refine Ev.getf (v := vR 30 0) (by rfl) (by rfl) (by rfl) (rd9) rfl ?_
            refine Ev.ps 1 rfl ?_
            refine Ev.aiA (k := k_p0) (v := vR 31 k_p0) (by rfl) (by decide) (rd30) (by omega) (by have := hk_p0; omega) rfl ?_
            refine Ev.ps 2 rfl ?_
            refine Ev.asB (k := k_p1) (by rfl) (by rfl) (by decide) (rd31 (by have := hk_p0; omega)) (by omega) (by have := hk_p1; omega) (show _ = enc C (mkR aMk aSu aMac aMem aTk aPaid (fup aNd k_p0 (fup (aNd k_p0) k_p1 true)) aDay aOw aMo aDy aSt aLe aWk aSta aDue aCm aCb aCl aEnt aMt aBl aBar aPr aLs aLnum aLm aSh aBrk 0) W from wr31 (j := k_p0) (i := k_p1) (v := true)) ?_
            have hA2 := acy_add hA hk_p0 hk_p1 (by assumption) (by assumption)
            refine Ev.ps 2 rfl ?_
            have L79 : ∀ {x : Re × Hp}, ∀ (k79 j79 : Nat) (aSta_79 : Nat → Int32) (o79_5 : Option MV), j79 + k79 = aEnt → Da o79_5 → (∀ e, chr (aSta_79 e)) → (∀ (e79_5 : Option MV) (e79_4 : Option MV), Da e79_5 → Da e79_4 → Ev (d + 9) (122, 177, [some (vR 9 0), some (vI (nI k_p0)), some (vI (nI k_p1)), some (vI 0), e79_4, e79_5], []) (enc C (mkR aMk aSu aMac aMem aTk aPaid (fup aNd k_p0 (fup (aNd k_p0) k_p1 true)) aDay aOw aMo aDy aSt aLe aWk (r_addNeed_L79 aDy aMk aMo aNd aOw aTk k_p0 k_p1 k79 j79 aSta_79) aDue aCm aCb aCl aEnt aMt aBl aBar aPr aLs aLnum aLm aSh aBrk 0) W) x) → Ev (d + 9) (122, 79, [some (vR 9 0), some (vI (nI k_p0)), some (vI (nI k_p1)), some (vI 0), some (vI (nI j79)), o79_5], []) (enc C (mkR aMk aSu aMac aMem aTk aPaid (fup aNd k_p0 (fup (aNd k_p0) k_p1 true)) aDay aOw aMo aDy aSt aLe aWk aSta_79 aDue aCm aCb aCl aEnt aMt aBl aBar aPr aLs aLnum aLm aSh aBrk 0) W) x := by
              intro x k79
              induction k79 with
              | zero =>
                intro j79 aSta_79 o79_5 hj79 ho79_5 hS K79
                rw [r_addNeed_L79] at K79
                refine Ev.ps 2 rfl ?_
                refine Ev.getf (v := vI (nI aEnt)) (by rfl) (by rfl) (by rfl) (rd9) rfl ?_
                refine Ev.igeN (a := j79) (b := aEnt) (by omega) (by omega) (by rfl) (by rfl) (fun (c6 : j79 < aEnt) => ?_) (fun (c6 : ¬ j79 < aEnt) => ?_)
                · exfalso; omega
                · exact K79 _ _ ho79_5 Da.i
              | succ k79 ih79 =>
                intro j79 aSta_79 o79_5 hj79 ho79_5 hS K79
                rw [r_addNeed_L79] at K79
                refine Ev.ps 2 rfl ?_
                refine Ev.getf (v := vI (nI aEnt)) (by rfl) (by rfl) (by rfl) (rd9) rfl ?_
                refine Ev.igeN (a := j79) (b := aEnt) (by omega) (by omega) (by rfl) (by rfl) (fun (c7 : j79 < aEnt) => ?_) (fun (c7 : ¬ j79 < aEnt) => ?_)
                · refine Ev.ps 1 rfl ?_
                  refine Ev.getf (v := vR 38 0) (by rfl) (by rfl) (by rfl) (rd9) rfl ?_
                  refine Ev.ps 1 rfl ?_
                  refine Ev.aiC (k := j79) (v := vI (aSta_79 j79)) (by rfl) (by decide) (rd38) (by omega) (by omega) rfl ?_
                  refine Ev.ps 1 rfl ?_
                  refine Ev.ieq (by rfl) (by rfl) (fun (c8 : aSta_79 j79 = 119) => ?_) (fun (c8 : ¬ aSta_79 j79 = 119) => ?_)
                  · rw [if_pos c8] at K79
                    refine Ev.ps 2 rfl ?_
                    refine Ev.getf (v := vR 32 0) (by rfl) (by rfl) (by rfl) (rd9) rfl ?_
                    refine Ev.ps 1 rfl ?_
                    refine Ev.aiI (k := j79) (v := vI (nI (aOw j79))) (by rfl) (by decide) (rd32) (by omega) (by omega) rfl ?_
                    refine Ev.ps 1 rfl ?_
                    refine Ev.getf (v := vR 33 0) (by rfl) (by rfl) (by rfl) (rd9) rfl ?_
                    refine Ev.ps 1 rfl ?_
                    refine Ev.aiI (k := j79) (v := vI (nI (aMo j79))) (by rfl) (by decide) (rd33) (by omega) (by omega) rfl ?_
                    refine Ev.ps 1 rfl ?_
                    refine Ev.getf (v := vR 34 0) (by rfl) (by rfl) (by rfl) (rd9) rfl ?_
                    refine Ev.ps 1 rfl ?_
                    refine Ev.aiI (k := j79) (v := vI (aDy j79)) (by rfl) (by decide) (rd34) (by omega) (by omega) rfl ?_
                    refine Ev.vir (as := [vI (nI (aOw j79)), vI (nI (aMo j79)), vI (aDy j79)]) (rest := []) (by rfl) (by rfl) (by rfl) (by rfl) rfl (Nat.le_of_ble_eq_true rfl) (by rfl) (by rw [rd9]; rfl) (s_r_liveFor hW hA2 (by have := wOw j79; omega) (by have := wMo j79; omega)) ?_
                    refine Ev.ifbn (by rfl) (by rfl) (fun c9 => ?_) (fun c9 => ?_)
                    · rw [if_pos c9] at K79
                      refine Ev.ps 3 rfl ?_
                      refine Ev.getf (v := vR 38 0) (by rfl) (by rfl) (by rfl) (rd9) rfl ?_
                      refine Ev.ps 2 rfl ?_
                      refine Ev.ifi (by rfl) (by rfl) (fun _ => ?_) (fun z => by exact absurd z (by decide))
                      refine Ev.ps 1 rfl ?_
                      refine Ev.getf (v := vR 38 0) (by rfl) (by rfl) (by rfl) (rd9) rfl ?_
                      refine Ev.ps 1 rfl ?_
                      refine Ev.aiC (k := j79) (v := vI (aSta_79 j79)) (by rfl) (by decide) (rd38) (by omega) (by omega) rfl ?_
                      refine Ev.asC (k := j79) (by rfl) (by rfl) (hS _) (rd38) (by omega) (by omega) (show _ = enc C (mkR aMk aSu aMac aMem aTk aPaid (fup aNd k_p0 (fup (aNd k_p0) k_p1 true)) aDay aOw aMo aDy aSt aLe aWk (fup aSta_79 j79 (aSta_79 j79)) aDue aCm aCb aCl aEnt aMt aBl aBar aPr aLs aLnum aLm aSh aBrk 0) W from wr38 (i := j79) (v := aSta_79 j79)) ?_
                      refine Ev.ps 2 rfl ?_
                      have h9 := ih79 (j79 + 1) (fup aSta_79 j79 (aSta_79 j79)) (some (vI 0)) (by show j79 + 1 + k79 = aEnt; omega) Da.i (by first | exact chr_fup hS (hS _) | exact chr_fup hS (by unfold chr; decide)) K79
                      rw [← nI_1] at h9
                      exact h9
                    · rw [if_neg c9] at K79
                      refine Ev.ps 4 rfl ?_
                      refine Ev.getf (v := vR 38 0) (by rfl) (by rfl) (by rfl) (rd9) rfl ?_
                      refine Ev.ps 2 rfl ?_
                      refine Ev.ifi (by rfl) (by rfl) (fun z => by exact absurd z (by decide)) (fun _ => ?_)
                      refine Ev.ps 2 rfl ?_
                      refine Ev.asC (k := j79) (by rfl) (by rfl) (by unfold chr; decide) (rd38) (by omega) (by omega) (show _ = enc C (mkR aMk aSu aMac aMem aTk aPaid (fup aNd k_p0 (fup (aNd k_p0) k_p1 true)) aDay aOw aMo aDy aSt aLe aWk (fup aSta_79 j79 99) aDue aCm aCb aCl aEnt aMt aBl aBar aPr aLs aLnum aLm aSh aBrk 0) W from wr38 (i := j79) (v := 99)) ?_
                      refine Ev.ps 2 rfl ?_
                      have h9 := ih79 (j79 + 1) (fup aSta_79 j79 99) (some (vI 1)) (by show j79 + 1 + k79 = aEnt; omega) Da.i (by first | exact chr_fup hS (hS _) | exact chr_fup hS (by unfold chr; decide)) K79
                      rw [← nI_1] at h9
                      exact h9
                  · rw [if_neg c8] at K79
                    refine Ev.ps 1 rfl ?_
                    refine Ev.getf (v := vR 38 0) (by rfl) (by rfl) (by rfl) (rd9) rfl ?_
                    refine Ev.ps 1 rfl ?_
                    refine Ev.aiC (k := j79) (v := vI (aSta_79 j79)) (by rfl) (by decide) (rd38) (by omega) (by omega) rfl ?_
                    refine Ev.ps 1 rfl ?_
                    refine Ev.ine (by rfl) (by rfl) (fun (c10 : aSta_79 j79 = 98) => ?_) (fun (c10 : ¬ aSta_79 j79 = 98) => ?_)
                    · rw [if_pos c10] at K79
                      refine Ev.ps 2 rfl ?_
                      refine Ev.getf (v := vR 32 0) (by rfl) (by rfl) (by rfl) (rd9) rfl ?_
                      refine Ev.ps 1 rfl ?_
                      refine Ev.aiI (k := j79) (v := vI (nI (aOw j79))) (by rfl) (by decide) (rd32) (by omega) (by omega) rfl ?_
                      refine Ev.ps 1 rfl ?_
                      refine Ev.getf (v := vR 33 0) (by rfl) (by rfl) (by rfl) (rd9) rfl ?_
                      refine Ev.ps 1 rfl ?_
                      refine Ev.aiI (k := j79) (v := vI (nI (aMo j79))) (by rfl) (by decide) (rd33) (by omega) (by omega) rfl ?_
                      refine Ev.ps 1 rfl ?_
                      refine Ev.getf (v := vR 34 0) (by rfl) (by rfl) (by rfl) (rd9) rfl ?_
                      refine Ev.ps 1 rfl ?_
                      refine Ev.aiI (k := j79) (v := vI (aDy j79)) (by rfl) (by decide) (rd34) (by omega) (by omega) rfl ?_
                      refine Ev.vir (as := [vI (nI (aOw j79)), vI (nI (aMo j79)), vI (aDy j79)]) (rest := []) (by rfl) (by rfl) (by rfl) (by rfl) rfl (Nat.le_of_ble_eq_true rfl) (by rfl) (by rw [rd9]; rfl) (s_r_liveFor hW hA2 (by have := wOw j79; omega) (by have := wMo j79; omega)) ?_
                      refine Ev.ifbn (by rfl) (by rfl) (fun c11 => ?_) (fun c11 => ?_)
                      · rw [if_pos c11] at K79
                        refine Ev.ps 3 rfl ?_
                        refine Ev.getf (v := vR 38 0) (by rfl) (by rfl) (by rfl) (rd9) rfl ?_
                        refine Ev.ps 2 rfl ?_
                        refine Ev.ifi (by rfl) (by rfl) (fun _ => ?_) (fun z => by exact absurd z (by decide))
                        refine Ev.ps 1 rfl ?_
                        refine Ev.getf (v := vR 38 0) (by rfl) (by rfl) (by rfl) (rd9) rfl ?_
                        refine Ev.ps 1 rfl ?_
                        refine Ev.aiC (k := j79) (v := vI (aSta_79 j79)) (by rfl) (by decide) (rd38) (by omega) (by omega) rfl ?_
                        refine Ev.asC (k := j79) (by rfl) (by rfl) (hS _) (rd38) (by omega) (by omega) (show _ = enc C (mkR aMk aSu aMac aMem aTk aPaid (fup aNd k_p0 (fup (aNd k_p0) k_p1 true)) aDay aOw aMo aDy aSt aLe aWk (fup aSta_79 j79 (aSta_79 j79)) aDue aCm aCb aCl aEnt aMt aBl aBar aPr aLs aLnum aLm aSh aBrk 0) W from wr38 (i := j79) (v := aSta_79 j79)) ?_
                        refine Ev.ps 2 rfl ?_
                        have h9 := ih79 (j79 + 1) (fup aSta_79 j79 (aSta_79 j79)) (some (vI 0)) (by show j79 + 1 + k79 = aEnt; omega) Da.i (by first | exact chr_fup hS (hS _) | exact chr_fup hS (by unfold chr; decide)) K79
                        rw [← nI_1] at h9
                        exact h9
                      · rw [if_neg c11] at K79
                        refine Ev.ps 4 rfl ?_
                        refine Ev.getf (v := vR 38 0) (by rfl) (by rfl) (by rfl) (rd9) rfl ?_
                        refine Ev.ps 2 rfl ?_
                        refine Ev.ifi (by rfl) (by rfl) (fun z => by exact absurd z (by decide)) (fun _ => ?_)
                        refine Ev.ps 2 rfl ?_
                        refine Ev.asC (k := j79) (by rfl) (by rfl) (by unfold chr; decide) (rd38) (by omega) (by omega) (show _ = enc C (mkR aMk aSu aMac aMem aTk aPaid (fup aNd k_p0 (fup (aNd k_p0) k_p1 true)) aDay aOw aMo aDy aSt aLe aWk (fup aSta_79 j79 99) aDue aCm aCb aCl aEnt aMt aBl aBar aPr aLs aLnum aLm aSh aBrk 0) W from wr38 (i := j79) (v := 99)) ?_
                        refine Ev.ps 2 rfl ?_
                        have h9 := ih79 (j79 + 1) (fup aSta_79 j79 99) (some (vI 1)) (by show j79 + 1 + k79 = aEnt; omega) Da.i (by first | exact chr_fup hS (hS _) | exact chr_fup hS (by unfold chr; decide)) K79
                        rw [← nI_1] at h9
                        exact h9
                    · rw [if_neg c10] at K79
                      refine Ev.ps 3 rfl ?_
                      refine Ev.getf (v := vR 38 0) (by rfl) (by rfl) (by rfl) (rd9) rfl ?_
                      refine Ev.ps 2 rfl ?_
                      refine Ev.ifi (by rfl) (by rfl) (fun _ => ?_) (fun z => by exact absurd z (by decide))
                      refine Ev.ps 1 rfl ?_
                      refine Ev.getf (v := vR 38 0) (by rfl) (by rfl) (by rfl) (rd9) rfl ?_
                      refine Ev.ps 1 rfl ?_
                      refine Ev.aiC (k := j79) (v := vI (aSta_79 j79)) (by rfl) (by decide) (rd38) (by omega) (by omega) rfl ?_
                      refine Ev.asC (k := j79) (by rfl) (by rfl) (hS _) (rd38) (by omega) (by omega) (show _ = enc C (mkR aMk aSu aMac aMem aTk aPaid (fup aNd k_p0 (fup (aNd k_p0) k_p1 true)) aDay aOw aMo aDy aSt aLe aWk (fup aSta_79 j79 (aSta_79 j79)) aDue aCm aCb aCl aEnt aMt aBl aBar aPr aLs aLnum aLm aSh aBrk 0) W from wr38 (i := j79) (v := aSta_79 j79)) ?_
                      refine Ev.ps 2 rfl ?_
                      have h9 := ih79 (j79 + 1) (fup aSta_79 j79 (aSta_79 j79)) (some (vI 0)) (by show j79 + 1 + k79 = aEnt; omega) Da.i (by first | exact chr_fup hS (hS _) | exact chr_fup hS (by unfold chr; decide)) K79
                      rw [← nI_1] at h9
                      exact h9
                · exfalso; omega
            refine L79 aEnt 0 aSta none (by show 0 + aEnt = aEnt; omega) Da.n hS ?_
            intro e79_5 e79_4 he79_5 he79_4
            refine Ev.ps 1 rfl ?_
            refine Ev.vir (as := []) (rest := []) (by rfl) (by rfl) (by rfl) (by rfl) rfl (Nat.le_of_ble_eq_true rfl) (by rfl) (by rw [rd9]; rfl) (s_r_gives hW hA2) ?_
            refine Ev.ps 1 rfl ?_
            exact Ev.re rfl rfl rfl rfl rfl
          · rw [if_neg c5]
            refine Ev.ps 4 rfl ?_
            refine Ev.getf (v := vR 30 0) (by rfl) (by rfl) (by rfl) (rd9) rfl ?_
            refine Ev.ps 1 rfl ?_
            refine Ev.aiA (k := k_p0) (v := vR 31 k_p0) (by rfl) (by decide) (rd30) (by omega) (by have := hk_p0; omega) rfl ?_
            refine Ev.ps 2 rfl ?_
            refine Ev.asB (k := k_p1) (by rfl) (by rfl) (by decide) (rd31 (by have := hk_p0; omega)) (by omega) (by have := hk_p1; omega) (show _ = enc C (mkR aMk aSu aMac aMem aTk aPaid (fup aNd k_p0 (fup (aNd k_p0) k_p1 true)) aDay aOw aMo aDy aSt aLe aWk aSta aDue aCm aCb aCl aEnt aMt aBl aBar aPr aLs aLnum aLm aSh aBrk 0) W from wr31 (j := k_p0) (i := k_p1) (v := true)) ?_
            have hA2 := acy_add hA hk_p0 hk_p1 (by assumption) (by assumption)
            refine Ev.ps 2 rfl ?_
            have L79 : ∀ {x : Re × Hp}, ∀ (k79 j79 : Nat) (aSta_79 : Nat → Int32) (o79_5 : Option MV), j79 + k79 = aEnt → Da o79_5 → (∀ e, chr (aSta_79 e)) → (∀ (e79_5 : Option MV) (e79_4 : Option MV), Da e79_5 → Da e79_4 → Ev (d + 9) (122, 177, [some (vR 9 0), some (vI (nI k_p0)), some (vI (nI k_p1)), some (vI 1), e79_4, e79_5], []) (enc C (mkR aMk aSu aMac aMem aTk aPaid (fup aNd k_p0 (fup (aNd k_p0) k_p1 true)) aDay aOw aMo aDy aSt aLe aWk (r_addNeed_L79 aDy aMk aMo aNd aOw aTk k_p0 k_p1 k79 j79 aSta_79) aDue aCm aCb aCl aEnt aMt aBl aBar aPr aLs aLnum aLm aSh aBrk 0) W) x) → Ev (d + 9) (122, 79, [some (vR 9 0), some (vI (nI k_p0)), some (vI (nI k_p1)), some (vI 1), some (vI (nI j79)), o79_5], []) (enc C (mkR aMk aSu aMac aMem aTk aPaid (fup aNd k_p0 (fup (aNd k_p0) k_p1 true)) aDay aOw aMo aDy aSt aLe aWk aSta_79 aDue aCm aCb aCl aEnt aMt aBl aBar aPr aLs aLnum aLm aSh aBrk 0) W) x := by
              intro x k79
              induction k79 with
              | zero =>
                intro j79 aSta_79 o79_5 hj79 ho79_5 hS K79
                rw [r_addNeed_L79] at K79
                refine Ev.ps 2 rfl ?_
                refine Ev.getf (v := vI (nI aEnt)) (by rfl) (by rfl) (by rfl) (rd9) rfl ?_
                refine Ev.igeN (a := j79) (b := aEnt) (by omega) (by omega) (by rfl) (by rfl) (fun (c12 : j79 < aEnt) => ?_) (fun (c12 : ¬ j79 < aEnt) => ?_)
                · exfalso; omega
                · exact K79 _ _ ho79_5 Da.i
              | succ k79 ih79 =>
                intro j79 aSta_79 o79_5 hj79 ho79_5 hS K79
                rw [r_addNeed_L79] at K79
                refine Ev.ps 2 rfl ?_
                refine Ev.getf (v := vI (nI aEnt)) (by rfl) (by rfl) (by rfl) (rd9) rfl ?_
                refine Ev.igeN (a := j79) (b := aEnt) (by omega) (by omega) (by rfl) (by rfl) (fun (c13 : j79 < aEnt) => ?_) (fun (c13 : ¬ j79 < aEnt) => ?_)
                · refine Ev.ps 1 rfl ?_
                  refine Ev.getf (v := vR 38 0) (by rfl) (by rfl) (by rfl) (rd9) rfl ?_
                  refine Ev.ps 1 rfl ?_
                  refine Ev.aiC (k := j79) (v := vI (aSta_79 j79)) (by rfl) (by decide) (rd38) (by omega) (by omega) rfl ?_
                  refine Ev.ps 1 rfl ?_
                  refine Ev.ieq (by rfl) (by rfl) (fun (c14 : aSta_79 j79 = 119) => ?_) (fun (c14 : ¬ aSta_79 j79 = 119) => ?_)
                  · rw [if_pos c14] at K79
                    refine Ev.ps 2 rfl ?_
                    refine Ev.getf (v := vR 32 0) (by rfl) (by rfl) (by rfl) (rd9) rfl ?_
                    refine Ev.ps 1 rfl ?_
                    refine Ev.aiI (k := j79) (v := vI (nI (aOw j79))) (by rfl) (by decide) (rd32) (by omega) (by omega) rfl ?_
                    refine Ev.ps 1 rfl ?_
                    refine Ev.getf (v := vR 33 0) (by rfl) (by rfl) (by rfl) (rd9) rfl ?_
                    refine Ev.ps 1 rfl ?_
                    refine Ev.aiI (k := j79) (v := vI (nI (aMo j79))) (by rfl) (by decide) (rd33) (by omega) (by omega) rfl ?_
                    refine Ev.ps 1 rfl ?_
                    refine Ev.getf (v := vR 34 0) (by rfl) (by rfl) (by rfl) (rd9) rfl ?_
                    refine Ev.ps 1 rfl ?_
                    refine Ev.aiI (k := j79) (v := vI (aDy j79)) (by rfl) (by decide) (rd34) (by omega) (by omega) rfl ?_
                    refine Ev.vir (as := [vI (nI (aOw j79)), vI (nI (aMo j79)), vI (aDy j79)]) (rest := []) (by rfl) (by rfl) (by rfl) (by rfl) rfl (Nat.le_of_ble_eq_true rfl) (by rfl) (by rw [rd9]; rfl) (s_r_liveFor hW hA2 (by have := wOw j79; omega) (by have := wMo j79; omega)) ?_
                    refine Ev.ifbn (by rfl) (by rfl) (fun c15 => ?_) (fun c15 => ?_)
                    · rw [if_pos c15] at K79
                      refine Ev.ps 3 rfl ?_
                      refine Ev.getf (v := vR 38 0) (by rfl) (by rfl) (by rfl) (rd9) rfl ?_
                      refine Ev.ps 2 rfl ?_
                      refine Ev.ifi (by rfl) (by rfl) (fun _ => ?_) (fun z => by exact absurd z (by decide))
                      refine Ev.ps 1 rfl ?_
                      refine Ev.getf (v := vR 38 0) (by rfl) (by rfl) (by rfl) (rd9) rfl ?_
                      refine Ev.ps 1 rfl ?_
                      refine Ev.aiC (k := j79) (v := vI (aSta_79 j79)) (by rfl) (by decide) (rd38) (by omega) (by omega) rfl ?_
                      refine Ev.asC (k := j79) (by rfl) (by rfl) (hS _) (rd38) (by omega) (by omega) (show _ = enc C (mkR aMk aSu aMac aMem aTk aPaid (fup aNd k_p0 (fup (aNd k_p0) k_p1 true)) aDay aOw aMo aDy aSt aLe aWk (fup aSta_79 j79 (aSta_79 j79)) aDue aCm aCb aCl aEnt aMt aBl aBar aPr aLs aLnum aLm aSh aBrk 0) W from wr38 (i := j79) (v := aSta_79 j79)) ?_
                      refine Ev.ps 2 rfl ?_
                      have h9 := ih79 (j79 + 1) (fup aSta_79 j79 (aSta_79 j79)) (some (vI 0)) (by show j79 + 1 + k79 = aEnt; omega) Da.i (by first | exact chr_fup hS (hS _) | exact chr_fup hS (by unfold chr; decide)) K79
                      rw [← nI_1] at h9
                      exact h9
                    · rw [if_neg c15] at K79
                      refine Ev.ps 4 rfl ?_
                      refine Ev.getf (v := vR 38 0) (by rfl) (by rfl) (by rfl) (rd9) rfl ?_
                      refine Ev.ps 2 rfl ?_
                      refine Ev.ifi (by rfl) (by rfl) (fun z => by exact absurd z (by decide)) (fun _ => ?_)
                      refine Ev.ps 2 rfl ?_
                      refine Ev.asC (k := j79) (by rfl) (by rfl) (by unfold chr; decide) (rd38) (by omega) (by omega) (show _ = enc C (mkR aMk aSu aMac aMem aTk aPaid (fup aNd k_p0 (fup (aNd k_p0) k_p1 true)) aDay aOw aMo aDy aSt aLe aWk (fup aSta_79 j79 99) aDue aCm aCb aCl aEnt aMt aBl aBar aPr aLs aLnum aLm aSh aBrk 0) W from wr38 (i := j79) (v := 99)) ?_
                      refine Ev.ps 2 rfl ?_
                      have h9 := ih79 (j79 + 1) (fup aSta_79 j79 99) (some (vI 1)) (by show j79 + 1 + k79 = aEnt; omega) Da.i (by first | exact chr_fup hS (hS _) | exact chr_fup hS (by unfold chr; decide)) K79
                      rw [← nI_1] at h9
                      exact h9
                  · rw [if_neg c14] at K79
                    refine Ev.ps 1 rfl ?_
                    refine Ev.getf (v := vR 38 0) (by rfl) (by rfl) (by rfl) (rd9) rfl ?_
                    refine Ev.ps 1 rfl ?_
                    refine Ev.aiC (k := j79) (v := vI (aSta_79 j79)) (by rfl) (by decide) (rd38) (by omega) (by omega) rfl ?_
                    refine Ev.ps 1 rfl ?_
                    refine Ev.ine (by rfl) (by rfl) (fun (c16 : aSta_79 j79 = 98) => ?_) (fun (c16 : ¬ aSta_79 j79 = 98) => ?_)
                    · rw [if_pos c16] at K79
                      refine Ev.ps 2 rfl ?_
                      refine Ev.getf (v := vR 32 0) (by rfl) (by rfl) (by rfl) (rd9) rfl ?_
                      refine Ev.ps 1 rfl ?_
                      refine Ev.aiI (k := j79) (v := vI (nI (aOw j79))) (by rfl) (by decide) (rd32) (by omega) (by omega) rfl ?_
                      refine Ev.ps 1 rfl ?_
                      refine Ev.getf (v := vR 33 0) (by rfl) (by rfl) (by rfl) (rd9) rfl ?_
                      refine Ev.ps 1 rfl ?_
                      refine Ev.aiI (k := j79) (v := vI (nI (aMo j79))) (by rfl) (by decide) (rd33) (by omega) (by omega) rfl ?_
                      refine Ev.ps 1 rfl ?_
                      refine Ev.getf (v := vR 34 0) (by rfl) (by rfl) (by rfl) (rd9) rfl ?_
                      refine Ev.ps 1 rfl ?_
                      refine Ev.aiI (k := j79) (v := vI (aDy j79)) (by rfl) (by decide) (rd34) (by omega) (by omega) rfl ?_
                      refine Ev.vir (as := [vI (nI (aOw j79)), vI (nI (aMo j79)), vI (aDy j79)]) (rest := []) (by rfl) (by rfl) (by rfl) (by rfl) rfl (Nat.le_of_ble_eq_true rfl) (by rfl) (by rw [rd9]; rfl) (s_r_liveFor hW hA2 (by have := wOw j79; omega) (by have := wMo j79; omega)) ?_
                      refine Ev.ifbn (by rfl) (by rfl) (fun c17 => ?_) (fun c17 => ?_)
                      · rw [if_pos c17] at K79
                        refine Ev.ps 3 rfl ?_
                        refine Ev.getf (v := vR 38 0) (by rfl) (by rfl) (by rfl) (rd9) rfl ?_
                        refine Ev.ps 2 rfl ?_
                        refine Ev.ifi (by rfl) (by rfl) (fun _ => ?_) (fun z => by exact absurd z (by decide))
                        refine Ev.ps 1 rfl ?_
                        refine Ev.getf (v := vR 38 0) (by rfl) (by rfl) (by rfl) (rd9) rfl ?_
                        refine Ev.ps 1 rfl ?_
                        refine Ev.aiC (k := j79) (v := vI (aSta_79 j79)) (by rfl) (by decide) (rd38) (by omega) (by omega) rfl ?_
                        refine Ev.asC (k := j79) (by rfl) (by rfl) (hS _) (rd38) (by omega) (by omega) (show _ = enc C (mkR aMk aSu aMac aMem aTk aPaid (fup aNd k_p0 (fup (aNd k_p0) k_p1 true)) aDay aOw aMo aDy aSt aLe aWk (fup aSta_79 j79 (aSta_79 j79)) aDue aCm aCb aCl aEnt aMt aBl aBar aPr aLs aLnum aLm aSh aBrk 0) W from wr38 (i := j79) (v := aSta_79 j79)) ?_
                        refine Ev.ps 2 rfl ?_
                        have h9 := ih79 (j79 + 1) (fup aSta_79 j79 (aSta_79 j79)) (some (vI 0)) (by show j79 + 1 + k79 = aEnt; omega) Da.i (by first | exact chr_fup hS (hS _) | exact chr_fup hS (by unfold chr; decide)) K79
                        rw [← nI_1] at h9
                        exact h9
                      · rw [if_neg c17] at K79
                        refine Ev.ps 4 rfl ?_
                        refine Ev.getf (v := vR 38 0) (by rfl) (by rfl) (by rfl) (rd9) rfl ?_
                        refine Ev.ps 2 rfl ?_
                        refine Ev.ifi (by rfl) (by rfl) (fun z => by exact absurd z (by decide)) (fun _ => ?_)
                        refine Ev.ps 2 rfl ?_
                        refine Ev.asC (k := j79) (by rfl) (by rfl) (by unfold chr; decide) (rd38) (by omega) (by omega) (show _ = enc C (mkR aMk aSu aMac aMem aTk aPaid (fup aNd k_p0 (fup (aNd k_p0) k_p1 true)) aDay aOw aMo aDy aSt aLe aWk (fup aSta_79 j79 99) aDue aCm aCb aCl aEnt aMt aBl aBar aPr aLs aLnum aLm aSh aBrk 0) W from wr38 (i := j79) (v := 99)) ?_
                        refine Ev.ps 2 rfl ?_
                        have h9 := ih79 (j79 + 1) (fup aSta_79 j79 99) (some (vI 1)) (by show j79 + 1 + k79 = aEnt; omega) Da.i (by first | exact chr_fup hS (hS _) | exact chr_fup hS (by unfold chr; decide)) K79
                        rw [← nI_1] at h9
                        exact h9
                    · rw [if_neg c16] at K79
                      refine Ev.ps 3 rfl ?_
                      refine Ev.getf (v := vR 38 0) (by rfl) (by rfl) (by rfl) (rd9) rfl ?_
                      refine Ev.ps 2 rfl ?_
                      refine Ev.ifi (by rfl) (by rfl) (fun _ => ?_) (fun z => by exact absurd z (by decide))
                      refine Ev.ps 1 rfl ?_
                      refine Ev.getf (v := vR 38 0) (by rfl) (by rfl) (by rfl) (rd9) rfl ?_
                      refine Ev.ps 1 rfl ?_
                      refine Ev.aiC (k := j79) (v := vI (aSta_79 j79)) (by rfl) (by decide) (rd38) (by omega) (by omega) rfl ?_
                      refine Ev.asC (k := j79) (by rfl) (by rfl) (hS _) (rd38) (by omega) (by omega) (show _ = enc C (mkR aMk aSu aMac aMem aTk aPaid (fup aNd k_p0 (fup (aNd k_p0) k_p1 true)) aDay aOw aMo aDy aSt aLe aWk (fup aSta_79 j79 (aSta_79 j79)) aDue aCm aCb aCl aEnt aMt aBl aBar aPr aLs aLnum aLm aSh aBrk 0) W from wr38 (i := j79) (v := aSta_79 j79)) ?_
                      refine Ev.ps 2 rfl ?_
                      have h9 := ih79 (j79 + 1) (fup aSta_79 j79 (aSta_79 j79)) (some (vI 0)) (by show j79 + 1 + k79 = aEnt; omega) Da.i (by first | exact chr_fup hS (hS _) | exact chr_fup hS (by unfold chr; decide)) K79
                      rw [← nI_1] at h9
                      exact h9
                · exfalso; omega
            refine L79 aEnt 0 aSta none (by show 0 + aEnt = aEnt; omega) Da.n hS ?_
            intro e79_5 e79_4 he79_5 he79_4
            refine Ev.ps 1 rfl ?_
            refine Ev.vir (as := []) (rest := []) (by rfl) (by rfl) (by rfl) (by rfl) rfl (Nat.le_of_ble_eq_true rfl) (by rfl) (by rw [rd9]; rfl) (s_r_gives hW hA2) ?_
            refine Ev.ps 1 rfl ?_
            exact Ev.re rfl rfl rfl rfl rfl
    · rw [if_neg c2]
      refine Ev.ps 2 rfl ?_
      refine Ev.pf (by rfl) (by rfl) (by rfl) (Nat.le_of_ble_eq_true rfl) rfl (Or.inl (by rfl)) (rd9) (show _ = enc C (mkR aMk aSu aMac aMem aTk aPaid aNd aDay aOw aMo aDy aSt aLe aWk aSta aDue aCm aCb aCl aEnt aMt aBl aBar aPr aLs aLnum aLm aSh aBrk 1) W from wr9_Thr (v := 1)) ?_
      refine Ev.ps 1 rfl ?_
      refine Ev.getf (v := vI 1) (by rfl) (by rfl) (by rfl) (rd9) rfl ?_
      refine Ev.ifi (by rfl) (by rfl) (fun z => by exact absurd z (by decide)) (fun _ => ?_)
      refine Ev.ps 1 rfl ?_
      exact Ev.re rfl rfl rfl rfl rfl
  · rw [if_neg c1]
    refine Ev.ps 2 rfl ?_
    refine Ev.pf (by rfl) (by rfl) (by rfl) (Nat.le_of_ble_eq_true rfl) rfl (Or.inl (by rfl)) (rd9) (show _ = enc C (mkR aMk aSu aMac aMem aTk aPaid aNd aDay aOw aMo aDy aSt aLe aWk aSta aDue aCm aCb aCl aEnt aMt aBl aBar aPr aLs aLnum aLm aSh aBrk 1) W from wr9_Thr (v := 1)) ?_
    refine Ev.ps 1 rfl ?_
    refine Ev.getf (v := vI 1) (by rfl) (by rfl) (by rfl) (rd9) rfl ?_
    refine Ev.ifi (by rfl) (by rfl) (fun z => by exact absurd z (by decide)) (fun _ => ?_)
    refine Ev.ps 1 rfl ?_
    exact Ev.re rfl rfl rfl rfl rfl
def r_induct_L30 (aDay : Int32) (aNd : Nat → Nat → Bool) (aTk : Nat → Nat → Int32) (k_p0 : Nat) (k_p1 : Nat) : Nat → Nat → Int32 → (Int32)
  | 0, j30, aThr_30 =>
    aThr_30
  | k30 + 1, j30, aThr_30 =>
    if aThr_30 = 0 then
      if aNd k_p1 j30 then
        if f_r_live aNd aTk k_p0 j30 aDay then r_induct_L30 aDay aNd aTk k_p0 k_p1 k30 (j30 + 1) 0 else r_induct_L30 aDay aNd aTk k_p0 k_p1 k30 (j30 + 1) 3
      else
        r_induct_L30 aDay aNd aTk k_p0 k_p1 k30 (j30 + 1) 0
    else
      aThr_30
def f_r_induct (aDay : Int32) (aDy : Nat → Int32) (aEnt : Nat) (aLe : Nat → Int32) (aMem : Nat) (aMk : Nat → Nat) (aMo : Nat → Nat) (aNd : Nat → Nat → Bool) (aOw : Nat → Nat) (aSt : Nat → Int32) (aSta : Nat → Int32) (aSu : Nat → Int32) (aTk : Nat → Nat → Int32) (aWk : Nat → Int32) (p0 p1 : Int32) : Int32 × (Nat → Nat → Int32) × (Nat → Int32) × Int32 :=
  if f_r_isMember aMem p0 then
    if f_r_isKind p1 then
      if 0 < r_induct_L30 aDay aNd aTk (nP p0) (nP p1) 4 0 0 then
        (0, aTk, aSta, r_induct_L30 aDay aNd aTk (nP p0) (nP p1) 4 0 0)
      else
        if aTk (nP p0) (nP p1) = (-1) then
          ((-1), fup aTk (nP p0) (fup (aTk (nP p0)) (nP p1) aDay), f_r_gives aDy aEnt aLe aMk aMo aNd aOw aSt aSta aSu (fup aTk (nP p0) (fup (aTk (nP p0)) (nP p1) aDay)) aWk, r_induct_L30 aDay aNd aTk (nP p0) (nP p1) 4 0 0)
        else
          (aDay - (aTk (nP p0) (nP p1)), fup aTk (nP p0) (fup (aTk (nP p0)) (nP p1) aDay), f_r_gives aDy aEnt aLe aMk aMo aNd aOw aSt aSta aSu (fup aTk (nP p0) (fup (aTk (nP p0)) (nP p1) aDay)) aWk, r_induct_L30 aDay aNd aTk (nP p0) (nP p1) 4 0 0)
    else
      (0, aTk, aSta, 2)
  else
    (0, aTk, aSta, 1)
theorem s_r_induct {d : Nat} {W : WD} {aMk : Nat → Nat} {aSu : Nat → Int32} {aMac : Nat} {aMem : Nat} {aTk : Nat → Nat → Int32} {aPaid : Nat → Int64} {aNd : Nat → Nat → Bool} {aDay : Int32} {aOw : Nat → Nat} {aMo : Nat → Nat} {aDy : Nat → Int32} {aSt : Nat → Int32} {aLe : Nat → Int32} {aWk : Nat → Int32} {aSta : Nat → Int32} {aDue : Nat → Int32} {aCm : Nat → Nat} {aCb : Nat → Nat → Nat} {aCl : Nat → Nat → Int32} {aEnt : Nat} {aMt : Nat → Nat} {aBl : Nat → Int32} {aBar : Nat} {aPr : Nat → Int32} {aLs : Nat → Nat → Int32} {aLnum : Nat → Nat → Int32} {aLm : Nat → Nat} {aSh : Nat → Nat → Int32} {aBrk : Nat} {aThr : Int32} {C : CD} {p0 : Int32} {p1 : Int32} (hW : WfR aMac aMem aEnt aBar aBrk aOw aMo aMk aCm aCb aMt aLm) (hA : Acy aNd) : Cal (d + 9) 123 [vR 9 0, vI p0, vI p1] (enc C (mkR aMk aSu aMac aMem aTk aPaid aNd aDay aOw aMo aDy aSt aLe aWk aSta aDue aCm aCb aCl aEnt aMt aBl aBar aPr aLs aLnum aLm aSh aBrk aThr) W) (.inl (some (vI ((f_r_induct aDay aDy aEnt aLe aMem aMk aMo aNd aOw aSt aSta aSu aTk aWk p0 p1).1)))) (enc C (mkR aMk aSu aMac aMem ((f_r_induct aDay aDy aEnt aLe aMem aMk aMo aNd aOw aSt aSta aSu aTk aWk p0 p1).2.1) aPaid aNd aDay aOw aMo aDy aSt aLe aWk ((f_r_induct aDay aDy aEnt aLe aMem aMk aMo aNd aOw aSt aSta aSu aTk aWk p0 p1).2.2.1) aDue aCm aCb aCl aEnt aMt aBl aBar aPr aLs aLnum aLm aSh aBrk ((f_r_induct aDay aDy aEnt aLe aMem aMk aMo aNd aOw aSt aSta aSu aTk aWk p0 p1).2.2.2)) W) := by
  obtain ⟨wMac, wMem, wEnt, wBar, wBrk, wOw, wMo, wMk, wCm, wCb, wMt, wLm⟩ := id hW
  refine Cal.mk (n := 4) rfl (Nat.le_of_ble_eq_true rfl) rfl ?_
  unfold f_r_induct
  refine Ev.ps 3 rfl ?_
  refine Ev.vir (as := [vI p0]) (rest := [vR 9 0]) (by rfl) (by rfl) (by rfl) (by rfl) rfl (Nat.le_of_ble_eq_true rfl) (by rfl) (by rw [rd9]; rfl) (s_r_isMember ) ?_
  refine Ev.ifbn (by rfl) (by rfl) (fun c1 => ?_) (fun c1 => ?_)
  · rw [if_pos c1]
    have q_p0 := isMember_nat wMem c1
    generalize nP p0 = k_p0 at q_p0 ⊢
    obtain ⟨rfl, hk_p0⟩ := q_p0
    refine Ev.ps 1 rfl ?_
    refine Ev.sta (as := [vI p1]) (rest := [vR 9 0]) (by rfl) (by rfl) (by rfl) (by rfl) rfl (Nat.le_of_ble_eq_true rfl) (s_r_isKind ) ?_
    refine Ev.ifbn (by rfl) (by rfl) (fun c2 => ?_) (fun c2 => ?_)
    · rw [if_pos c2]
      have q_p1 := isKind_nat c2
      generalize nP p1 = k_p1 at q_p1 ⊢
      obtain ⟨rfl, hk_p1⟩ := q_p1
      refine Ev.ps 1 rfl ?_
      refine Ev.pf (by rfl) (by rfl) (by rfl) (Nat.le_of_ble_eq_true rfl) rfl (Or.inl (by rfl)) (rd9) (show _ = enc C (mkR aMk aSu aMac aMem aTk aPaid aNd aDay aOw aMo aDy aSt aLe aWk aSta aDue aCm aCb aCl aEnt aMt aBl aBar aPr aLs aLnum aLm aSh aBrk 0) W from wr9_Thr (v := 0)) ?_
      refine Ev.ps 2 rfl ?_
      have L30 : ∀ {x : Re × Hp}, ∀ (k30 j30 : Nat) (aThr_30 : Int32), j30 + k30 = 4 → (∀ (e30_3 : Option MV), Da e30_3 → Ev (d + 9) (123, 81, [some (vR 9 0), some (vI (nI k_p0)), some (vI (nI k_p1)), e30_3], []) (enc C (mkR aMk aSu aMac aMem aTk aPaid aNd aDay aOw aMo aDy aSt aLe aWk aSta aDue aCm aCb aCl aEnt aMt aBl aBar aPr aLs aLnum aLm aSh aBrk (r_induct_L30 aDay aNd aTk k_p0 k_p1 k30 j30 aThr_30)) W) x) → Ev (d + 9) (123, 30, [some (vR 9 0), some (vI (nI k_p0)), some (vI (nI k_p1)), some (vI (nI j30))], []) (enc C (mkR aMk aSu aMac aMem aTk aPaid aNd aDay aOw aMo aDy aSt aLe aWk aSta aDue aCm aCb aCl aEnt aMt aBl aBar aPr aLs aLnum aLm aSh aBrk aThr_30) W) x := by
        intro x k30
        induction k30 with
        | zero =>
          intro j30 aThr_30 hj30 K30
          rw [r_induct_L30] at K30
          refine Ev.ps 2 rfl ?_
          refine Ev.igeN (a := j30) (b := 4) (by omega) (by omega) (by rfl) (by rfl) (fun (c3 : j30 < 4) => ?_) (fun (c3 : ¬ j30 < 4) => ?_)
          · exfalso; omega
          · exact K30 _ Da.i
        | succ k30 ih30 =>
          intro j30 aThr_30 hj30 K30
          rw [r_induct_L30] at K30
          refine Ev.ps 2 rfl ?_
          refine Ev.igeN (a := j30) (b := 4) (by omega) (by omega) (by rfl) (by rfl) (fun (c4 : j30 < 4) => ?_) (fun (c4 : ¬ j30 < 4) => ?_)
          · refine Ev.ps 1 rfl ?_
            refine Ev.getf (v := vI aThr_30) (by rfl) (by rfl) (by rfl) (rd9) rfl ?_
            refine Ev.zne (by rfl) (by rfl) (fun (c5 : aThr_30 = 0) => ?_) (fun (c5 : ¬ aThr_30 = 0) => ?_)
            · rw [if_pos c5] at K30
              refine Ev.ps 2 rfl ?_
              refine Ev.getf (v := vR 30 0) (by rfl) (by rfl) (by rfl) (rd9) rfl ?_
              refine Ev.ps 1 rfl ?_
              refine Ev.aiA (k := k_p1) (v := vR 31 k_p1) (by rfl) (by decide) (rd30) (by omega) (by have := hk_p1; omega) rfl ?_
              refine Ev.ps 1 rfl ?_
              refine Ev.aiB (k := j30) (v := vI (bI (aNd k_p1 j30))) (by rfl) (by decide) (rd31 (by have := hk_p1; omega)) (by omega) (by omega) rfl ?_
              refine Ev.ifbe (by rfl) (by rfl) (fun c6 => ?_) (fun c6 => ?_)
              · rw [if_pos c6] at K30
                refine Ev.ps 4 rfl ?_
                refine Ev.getf (v := vI aDay) (by rfl) (by rfl) (by rfl) (rd9) rfl ?_
                refine Ev.vir (as := [vI (nI k_p0), vI (nI j30), vI aDay]) (rest := [vR 9 0]) (by rfl) (by rfl) (by rfl) (by rfl) rfl (Nat.le_of_ble_eq_true rfl) (by rfl) (by rw [rd9]; rfl) (s_r_live hA (by have := hk_p0; omega) (by omega)) ?_
                refine Ev.ifbn (by rfl) (by rfl) (fun c7 => ?_) (fun c7 => ?_)
                · rw [if_pos c7] at K30
                  refine Ev.ps 1 rfl ?_
                  refine Ev.pf (by rfl) (by rfl) (by rfl) (Nat.le_of_ble_eq_true rfl) rfl (Or.inl (by rfl)) (rd9) (show _ = enc C (mkR aMk aSu aMac aMem aTk aPaid aNd aDay aOw aMo aDy aSt aLe aWk aSta aDue aCm aCb aCl aEnt aMt aBl aBar aPr aLs aLnum aLm aSh aBrk 0) W from wr9_Thr (v := 0)) ?_
                  refine Ev.ps 2 rfl ?_
                  have h9 := ih30 (j30 + 1) 0 (by show j30 + 1 + k30 = 4; omega) K30
                  rw [← nI_1] at h9
                  exact h9
                · rw [if_neg c7] at K30
                  refine Ev.ps 2 rfl ?_
                  refine Ev.pf (by rfl) (by rfl) (by rfl) (Nat.le_of_ble_eq_true rfl) rfl (Or.inl (by rfl)) (rd9) (show _ = enc C (mkR aMk aSu aMac aMem aTk aPaid aNd aDay aOw aMo aDy aSt aLe aWk aSta aDue aCm aCb aCl aEnt aMt aBl aBar aPr aLs aLnum aLm aSh aBrk 3) W from wr9_Thr (v := 3)) ?_
                  refine Ev.ps 2 rfl ?_
                  have h9 := ih30 (j30 + 1) 3 (by show j30 + 1 + k30 = 4; omega) K30
                  rw [← nI_1] at h9
                  exact h9
              · rw [if_neg c6] at K30
                refine Ev.ps 1 rfl ?_
                refine Ev.pf (by rfl) (by rfl) (by rfl) (Nat.le_of_ble_eq_true rfl) rfl (Or.inl (by rfl)) (rd9) (show _ = enc C (mkR aMk aSu aMac aMem aTk aPaid aNd aDay aOw aMo aDy aSt aLe aWk aSta aDue aCm aCb aCl aEnt aMt aBl aBar aPr aLs aLnum aLm aSh aBrk 0) W from wr9_Thr (v := 0)) ?_
                refine Ev.ps 2 rfl ?_
                have h9 := ih30 (j30 + 1) 0 (by show j30 + 1 + k30 = 4; omega) K30
                rw [← nI_1] at h9
                exact h9
            · rw [if_neg c5] at K30
              exact K30 _ Da.i
          · exfalso; omega
      refine L30 4 0 0 (by show 0 + 4 = 4; omega) ?_
      intro e30_3 he30_3
      refine Ev.ps 1 rfl ?_
      refine Ev.getf (v := vI (r_induct_L30 aDay aNd aTk k_p0 k_p1 4 0 0)) (by rfl) (by rfl) (by rfl) (rd9) rfl ?_
      refine Ev.zle (by rfl) (by rfl) (fun (c8 : 0 < r_induct_L30 aDay aNd aTk k_p0 k_p1 4 0 0) => ?_) (fun (c8 : ¬ 0 < r_induct_L30 aDay aNd aTk k_p0 k_p1 4 0 0) => ?_)
      · rw [if_pos c8]
        refine Ev.ps 1 rfl ?_
        exact Ev.re rfl rfl rfl rfl rfl
      · rw [if_neg c8]
        refine Ev.ps 1 rfl ?_
        refine Ev.getf (v := vR 27 0) (by rfl) (by rfl) (by rfl) (rd9) rfl ?_
        refine Ev.ps 1 rfl ?_
        refine Ev.aiA (k := k_p0) (v := vR 28 k_p0) (by rfl) (by decide) (rd27) (by omega) (by have := hk_p0; omega) rfl ?_
        refine Ev.ps 1 rfl ?_
        refine Ev.aiI (k := k_p1) (v := vI (aTk k_p0 k_p1)) (by rfl) (by decide) (rd28 (by have := hk_p0; omega)) (by omega) (by have := hk_p1; omega) rfl ?_
        refine Ev.ps 2 rfl ?_
        refine Ev.getf (v := vR 27 0) (by rfl) (by rfl) (by rfl) (rd9) rfl ?_
        refine Ev.ps 1 rfl ?_
        refine Ev.aiA (k := k_p0) (v := vR 28 k_p0) (by rfl) (by decide) (rd27) (by omega) (by have := hk_p0; omega) rfl ?_
        refine Ev.ps 2 rfl ?_
        refine Ev.getf (v := vI aDay) (by rfl) (by rfl) (by rfl) (rd9) rfl ?_
        refine Ev.asI (k := k_p1) (by rfl) (by rfl) (rd28 (by have := hk_p0; omega)) (by omega) (by have := hk_p1; omega) (show _ = enc C (mkR aMk aSu aMac aMem (fup aTk k_p0 (fup (aTk k_p0) k_p1 aDay)) aPaid aNd aDay aOw aMo aDy aSt aLe aWk aSta aDue aCm aCb aCl aEnt aMt aBl aBar aPr aLs aLnum aLm aSh aBrk (r_induct_L30 aDay aNd aTk k_p0 k_p1 4 0 0)) W from wr28 (j := k_p0) (i := k_p1) (v := aDay)) ?_
        refine Ev.ps 1 rfl ?_
        refine Ev.vir (as := []) (rest := []) (by rfl) (by rfl) (by rfl) (by rfl) rfl (Nat.le_of_ble_eq_true rfl) (by rfl) (by rw [rd9]; rfl) (s_r_gives hW hA) ?_
        refine Ev.ps 2 rfl ?_
        refine Ev.ine (by rfl) (by rfl) (fun (c9 : aTk k_p0 k_p1 = (-1)) => ?_) (fun (c9 : ¬ aTk k_p0 k_p1 = (-1)) => ?_)
        · rw [if_pos c9]
          refine Ev.ps 2 rfl ?_
          exact Ev.re rfl rfl rfl rfl rfl
        · rw [if_neg c9]
          refine Ev.ps 1 rfl ?_
          refine Ev.getf (v := vI aDay) (by rfl) (by rfl) (by rfl) (rd9) rfl ?_
          refine Ev.ps 2 rfl ?_
          exact Ev.re rfl rfl rfl rfl rfl
    · rw [if_neg c2]
      refine Ev.ps 2 rfl ?_
      refine Ev.pf (by rfl) (by rfl) (by rfl) (Nat.le_of_ble_eq_true rfl) rfl (Or.inl (by rfl)) (rd9) (show _ = enc C (mkR aMk aSu aMac aMem aTk aPaid aNd aDay aOw aMo aDy aSt aLe aWk aSta aDue aCm aCb aCl aEnt aMt aBl aBar aPr aLs aLnum aLm aSh aBrk 2) W from wr9_Thr (v := 2)) ?_
      refine Ev.ps 4 rfl ?_
      refine Ev.icmp (by rfl) (by rfl) (fun z => by exact absurd z (by decide)) (fun _ => ?_)
      refine Ev.ps 1 rfl ?_
      refine Ev.getf (v := vI 2) (by rfl) (by rfl) (by rfl) (rd9) rfl ?_
      refine Ev.ifi (by rfl) (by rfl) (fun _ => ?_) (fun z => by exact absurd z (by decide))
      refine Ev.ps 1 rfl ?_
      refine Ev.getf (v := vI 2) (by rfl) (by rfl) (by rfl) (rd9) rfl ?_
      refine Ev.ifi (by rfl) (by rfl) (fun z => by exact absurd z (by decide)) (fun _ => ?_)
      refine Ev.ps 1 rfl ?_
      exact Ev.re rfl rfl rfl rfl rfl
  · rw [if_neg c1]
    refine Ev.ps 2 rfl ?_
    refine Ev.pf (by rfl) (by rfl) (by rfl) (Nat.le_of_ble_eq_true rfl) rfl (Or.inl (by rfl)) (rd9) (show _ = enc C (mkR aMk aSu aMac aMem aTk aPaid aNd aDay aOw aMo aDy aSt aLe aWk aSta aDue aCm aCb aCl aEnt aMt aBl aBar aPr aLs aLnum aLm aSh aBrk 1) W from wr9_Thr (v := 1)) ?_
    refine Ev.ps 4 rfl ?_
    refine Ev.icmp (by rfl) (by rfl) (fun z => by exact absurd z (by decide)) (fun _ => ?_)
    refine Ev.ps 1 rfl ?_
    refine Ev.getf (v := vI 1) (by rfl) (by rfl) (by rfl) (rd9) rfl ?_
    refine Ev.ifi (by rfl) (by rfl) (fun _ => ?_) (fun z => by exact absurd z (by decide))
    refine Ev.ps 1 rfl ?_
    refine Ev.getf (v := vI 1) (by rfl) (by rfl) (by rfl) (rd9) rfl ?_
    refine Ev.ifi (by rfl) (by rfl) (fun z => by exact absurd z (by decide)) (fun _ => ?_)
    refine Ev.ps 1 rfl ?_
    exact Ev.re rfl rfl rfl rfl rfl
def f_r_pay (aBrk : Nat) (aDue : Nat → Int32) (aEnt : Nat) (aMem : Nat) (aOw : Nat → Nat) (aPaid : Nat → Int64) (aSh : Nat → Nat → Int32) (p0 X : Int32) : Int32 × (Nat → Int64) × Int32 :=
  if f_r_isMember aMem p0 then
    if f_r_in X 1 1000000 then
      if 0 < lg_cmp ((aPaid (nP p0)) + X.toInt64) 1000000000 then
        (0, aPaid, 3)
      else
        ((f_r_owed aBrk aDue aEnt aOw (fup aPaid (nP p0) ((aPaid (nP p0)) + X.toInt64)) aSh (nP p0)).toInt32, fup aPaid (nP p0) ((aPaid (nP p0)) + X.toInt64), 0)
    else
      (0, aPaid, 2)
  else
    (0, aPaid, 1)
theorem s_r_pay {d : Nat} {W : WD} {aMk : Nat → Nat} {aSu : Nat → Int32} {aMac : Nat} {aMem : Nat} {aTk : Nat → Nat → Int32} {aPaid : Nat → Int64} {aNd : Nat → Nat → Bool} {aDay : Int32} {aOw : Nat → Nat} {aMo : Nat → Nat} {aDy : Nat → Int32} {aSt : Nat → Int32} {aLe : Nat → Int32} {aWk : Nat → Int32} {aSta : Nat → Int32} {aDue : Nat → Int32} {aCm : Nat → Nat} {aCb : Nat → Nat → Nat} {aCl : Nat → Nat → Int32} {aEnt : Nat} {aMt : Nat → Nat} {aBl : Nat → Int32} {aBar : Nat} {aPr : Nat → Int32} {aLs : Nat → Nat → Int32} {aLnum : Nat → Nat → Int32} {aLm : Nat → Nat} {aSh : Nat → Nat → Int32} {aBrk : Nat} {aThr : Int32} {C : CD} {p0 : Int32} {X : Int32} (hW : WfR aMac aMem aEnt aBar aBrk aOw aMo aMk aCm aCb aMt aLm) : Cal (d + 2) 171 [vR 9 0, vI p0, vI X] (enc C (mkR aMk aSu aMac aMem aTk aPaid aNd aDay aOw aMo aDy aSt aLe aWk aSta aDue aCm aCb aCl aEnt aMt aBl aBar aPr aLs aLnum aLm aSh aBrk aThr) W) (.inl (some (vI ((f_r_pay aBrk aDue aEnt aMem aOw aPaid aSh p0 X).1)))) (enc C (mkR aMk aSu aMac aMem aTk ((f_r_pay aBrk aDue aEnt aMem aOw aPaid aSh p0 X).2.1) aNd aDay aOw aMo aDy aSt aLe aWk aSta aDue aCm aCb aCl aEnt aMt aBl aBar aPr aLs aLnum aLm aSh aBrk ((f_r_pay aBrk aDue aEnt aMem aOw aPaid aSh p0 X).2.2)) W) := by
  obtain ⟨wMac, wMem, wEnt, wBar, wBrk, wOw, wMo, wMk, wCm, wCb, wMt, wLm⟩ := id hW
  refine Cal.mk (n := 3) rfl (Nat.le_of_ble_eq_true rfl) rfl ?_
  unfold f_r_pay
  refine Ev.ps 3 rfl ?_
  refine Ev.vir (as := [vI p0]) (rest := [vR 9 0]) (by rfl) (by rfl) (by rfl) (by rfl) rfl (Nat.le_of_ble_eq_true rfl) (by rfl) (by rw [rd9]; rfl) (s_r_isMember ) ?_
  refine Ev.ifbn (by rfl) (by rfl) (fun c1 => ?_) (fun c1 => ?_)
  · rw [if_pos c1]
    have q_p0 := isMember_nat wMem c1
    generalize nP p0 = k_p0 at q_p0 ⊢
    obtain ⟨rfl, hk_p0⟩ := q_p0
    refine Ev.ps 2 rfl ?_
    refine Ev.lcI (v := 1000000) (by rfl) (by rfl) ?_
    refine Ev.sta (as := [vI X, vI 1, vI 1000000]) (rest := [vR 9 0]) (by rfl) (by rfl) (by rfl) (by rfl) rfl (Nat.le_of_ble_eq_true rfl) (s_r_in ) ?_
    refine Ev.ifbn (by rfl) (by rfl) (fun c2 => ?_) (fun c2 => ?_)
    · rw [if_pos c2]
      refine Ev.ps 1 rfl ?_
      refine Ev.getf (v := vR 29 0) (by rfl) (by rfl) (by rfl) (rd9) rfl ?_
      refine Ev.ps 1 rfl ?_
      refine Ev.aiJ (k := k_p0) (v := vL (aPaid k_p0)) (by rfl) (by decide) (rd29) (by omega) (by have := hk_p0; omega) rfl ?_
      refine Ev.ps 3 rfl ?_
      refine Ev.lcJ (v := 1000000000) (by rfl) (by rfl) ?_
      refine Ev.ps 1 rfl ?_
      refine Ev.zle (by rfl) (by rfl) (fun (c3 : 0 < lg_cmp ((aPaid k_p0) + X.toInt64) 1000000000) => ?_) (fun (c3 : ¬ 0 < lg_cmp ((aPaid k_p0) + X.toInt64) 1000000000) => ?_)
      · rw [if_pos c3]
        refine Ev.ps 2 rfl ?_
        refine Ev.pf (by rfl) (by rfl) (by rfl) (Nat.le_of_ble_eq_true rfl) rfl (Or.inl (by rfl)) (rd9) (show _ = enc C (mkR aMk aSu aMac aMem aTk aPaid aNd aDay aOw aMo aDy aSt aLe aWk aSta aDue aCm aCb aCl aEnt aMt aBl aBar aPr aLs aLnum aLm aSh aBrk 3) W from wr9_Thr (v := 3)) ?_
        refine Ev.ps 1 rfl ?_
        refine Ev.getf (v := vI 3) (by rfl) (by rfl) (by rfl) (rd9) rfl ?_
        refine Ev.ifi (by rfl) (by rfl) (fun z => by exact absurd z (by decide)) (fun _ => ?_)
        refine Ev.ps 1 rfl ?_
        exact Ev.re rfl rfl rfl rfl rfl
      · rw [if_neg c3]
        refine Ev.ps 1 rfl ?_
        refine Ev.pf (by rfl) (by rfl) (by rfl) (Nat.le_of_ble_eq_true rfl) rfl (Or.inl (by rfl)) (rd9) (show _ = enc C (mkR aMk aSu aMac aMem aTk aPaid aNd aDay aOw aMo aDy aSt aLe aWk aSta aDue aCm aCb aCl aEnt aMt aBl aBar aPr aLs aLnum aLm aSh aBrk 0) W from wr9_Thr (v := 0)) ?_
        refine Ev.ps 1 rfl ?_
        refine Ev.getf (v := vI 0) (by rfl) (by rfl) (by rfl) (rd9) rfl ?_
        refine Ev.ifi (by rfl) (by rfl) (fun _ => ?_) (fun z => by exact absurd z (by decide))
        refine Ev.ps 1 rfl ?_
        refine Ev.getf (v := vR 29 0) (by rfl) (by rfl) (by rfl) (rd9) rfl ?_
        refine Ev.ps 2 rfl ?_
        refine Ev.aiJ (k := k_p0) (v := vL (aPaid k_p0)) (by rfl) (by decide) (rd29) (by omega) (by have := hk_p0; omega) rfl ?_
        refine Ev.ps 3 rfl ?_
        refine Ev.asJ (k := k_p0) (by rfl) (by rfl) (rd29) (by omega) (by have := hk_p0; omega) (show _ = enc C (mkR aMk aSu aMac aMem aTk (fup aPaid k_p0 ((aPaid k_p0) + X.toInt64)) aNd aDay aOw aMo aDy aSt aLe aWk aSta aDue aCm aCb aCl aEnt aMt aBl aBar aPr aLs aLnum aLm aSh aBrk 0) W from wr29 (i := k_p0) (v := (aPaid k_p0) + X.toInt64)) ?_
        refine Ev.ps 2 rfl ?_
        refine Ev.vir (as := [vI (nI k_p0)]) (rest := []) (by rfl) (by rfl) (by rfl) (by rfl) rfl (Nat.le_of_ble_eq_true rfl) (by rfl) (by rw [rd9]; rfl) (s_r_owed hW (by have := hk_p0; omega)) ?_
        refine Ev.ps 1 rfl ?_
        exact Ev.re rfl rfl rfl rfl rfl
    · rw [if_neg c2]
      refine Ev.ps 2 rfl ?_
      refine Ev.pf (by rfl) (by rfl) (by rfl) (Nat.le_of_ble_eq_true rfl) rfl (Or.inl (by rfl)) (rd9) (show _ = enc C (mkR aMk aSu aMac aMem aTk aPaid aNd aDay aOw aMo aDy aSt aLe aWk aSta aDue aCm aCb aCl aEnt aMt aBl aBar aPr aLs aLnum aLm aSh aBrk 2) W from wr9_Thr (v := 2)) ?_
      refine Ev.ps 1 rfl ?_
      refine Ev.getf (v := vI 2) (by rfl) (by rfl) (by rfl) (rd9) rfl ?_
      refine Ev.ifi (by rfl) (by rfl) (fun z => by exact absurd z (by decide)) (fun _ => ?_)
      refine Ev.ps 1 rfl ?_
      exact Ev.re rfl rfl rfl rfl rfl
  · rw [if_neg c1]
    refine Ev.ps 2 rfl ?_
    refine Ev.pf (by rfl) (by rfl) (by rfl) (Nat.le_of_ble_eq_true rfl) rfl (Or.inl (by rfl)) (rd9) (show _ = enc C (mkR aMk aSu aMac aMem aTk aPaid aNd aDay aOw aMo aDy aSt aLe aWk aSta aDue aCm aCb aCl aEnt aMt aBl aBar aPr aLs aLnum aLm aSh aBrk 1) W from wr9_Thr (v := 1)) ?_
    refine Ev.ps 1 rfl ?_
    refine Ev.getf (v := vI 1) (by rfl) (by rfl) (by rfl) (rd9) rfl ?_
    refine Ev.ifi (by rfl) (by rfl) (fun z => by exact absurd z (by decide)) (fun _ => ?_)
    refine Ev.ps 1 rfl ?_
    exact Ev.re rfl rfl rfl rfl rfl
theorem pos_toNat {x : Int32} (h : 0 < x) : 0 < x.toInt.toNat := by
  rw [Int32.lt_iff_toInt_lt, show (0 : Int32).toInt = 0 from rfl] at h
  omega
theorem dec_toNat {x : Int32} (h : 0 < x) : (x + (-1)).toInt.toNat + 1 = x.toInt.toNat := by
  have h1 := pos_toNat h
  have h2 : x.toInt < 2 ^ 31 := Int32.toInt_lt x
  rw [Int32.lt_iff_toInt_lt, show (0 : Int32).toInt = 0 from rfl] at h
  rw [Int32.toInt_add, show (-1 : Int32).toInt = -1 from rfl, Int.bmod_eq_of_le (by omega) (by omega)]
  omega
theorem toI64_nz {x : Int32} (h : ¬ x = 0) : ¬ x.toInt64 = 0 := fun e => h (by
  have := congrArg Int64.toInt e
  rw [Int32.toInt_toInt64] at this
  exact Int32.toInt.inj this)
theorem use_nn (u : Int32) : FP.fdiv (FP.i2f u) 1139802112 &&& 0x7fffffff ≤ 0x7f800000 := by
  have h := FP.Core.fdiv_mag (a := FP.i2f u) (b := 1139802112) (K := 160) (L := 135) (FP.Core.i2f_mag u) (by decide) (by decide) (by decide) (by decide)
  rw [UInt32.le_iff_toNat_le, UInt32.toNat_and]
  rw [show (0x7fffffff : UInt32).toNat = 2 ^ 31 - 1 from rfl, Nat.and_two_pow_sub_one_eq_mod, show (0x7f800000 : UInt32).toNat = 2139095040 from rfl]
  have h : (FP.fdiv (FP.i2f u) 1139802112).toNat % 2 ^ 31 < (160 + (149 - 23 - 1) - 135 + 3) * 2 ^ 23 := h
  omega
theorem mean_nn (a b : Int32) (hb : ¬ b = 0) : FP.ddiv (FP.i2d a) (FP.i2d b) &&& 0x7fffffffffffffff ≤ 0x7ff0000000000000 := by
  have hb' := FP.Core.i2d_big (v := b) (FP.Core.int32_ne hb)
  have h := FP.Core.ddiv_mag (a := FP.i2d a) (b := FP.i2d b) (K := 1056) (L := 1023) (FP.Core.i2d_mag a) hb'.1 hb'.2 (by decide) (by decide)
  rw [UInt64.le_iff_toNat_le, UInt64.toNat_and]
  rw [show (0x7fffffffffffffff : UInt64).toNat = 2 ^ 63 - 1 from rfl, Nat.and_two_pow_sub_one_eq_mod, show (0x7ff0000000000000 : UInt64).toNat = 9218868437227405312 from rfl]
  have h : (FP.ddiv (FP.i2d a) (FP.i2d b)).toNat % 2 ^ 63 < (1056 + (1074 - 52 - 1) - 1023 + 3) * 2 ^ 52 := h
  omega
def f_r_use (aDay : Int32) (aDy : Nat → Int32) (aEnt : Nat) (aLe : Nat → Int32) (aMac : Nat) (aMo : Nat → Nat) (aSta : Nat → Int32) (p0 D : Int32) : UInt32 × Int32 :=
  if (f_r_may aDay aMac p0 D 0).1 then (FP.fdiv (FP.i2f (f_r_used aDy aEnt aLe aMo aSta (nP p0) D)) 1139802112, (f_r_may aDay aMac (nI (nP p0)) D 0).2) else (FP.fconst0, (f_r_may aDay aMac p0 D 0).2)
theorem s_r_use {d : Nat} {W : WD} {aMk : Nat → Nat} {aSu : Nat → Int32} {aMac : Nat} {aMem : Nat} {aTk : Nat → Nat → Int32} {aPaid : Nat → Int64} {aNd : Nat → Nat → Bool} {aDay : Int32} {aOw : Nat → Nat} {aMo : Nat → Nat} {aDy : Nat → Int32} {aSt : Nat → Int32} {aLe : Nat → Int32} {aWk : Nat → Int32} {aSta : Nat → Int32} {aDue : Nat → Int32} {aCm : Nat → Nat} {aCb : Nat → Nat → Nat} {aCl : Nat → Nat → Int32} {aEnt : Nat} {aMt : Nat → Nat} {aBl : Nat → Int32} {aBar : Nat} {aPr : Nat → Int32} {aLs : Nat → Nat → Int32} {aLnum : Nat → Nat → Int32} {aLm : Nat → Nat} {aSh : Nat → Nat → Int32} {aBrk : Nat} {aThr : Int32} {C : CD} {p0 : Int32} {D : Int32} (hW : WfR aMac aMem aEnt aBar aBrk aOw aMo aMk aCm aCb aMt aLm) : Cal (d + 3) 176 [vR 9 0, vI p0, vI D] (enc C (mkR aMk aSu aMac aMem aTk aPaid aNd aDay aOw aMo aDy aSt aLe aWk aSta aDue aCm aCb aCl aEnt aMt aBl aBar aPr aLs aLnum aLm aSh aBrk aThr) W) (.inl (some (vF ((f_r_use aDay aDy aEnt aLe aMac aMo aSta p0 D).1)))) (enc C (mkR aMk aSu aMac aMem aTk aPaid aNd aDay aOw aMo aDy aSt aLe aWk aSta aDue aCm aCb aCl aEnt aMt aBl aBar aPr aLs aLnum aLm aSh aBrk ((f_r_use aDay aDy aEnt aLe aMac aMo aSta p0 D).2)) W) := by
  obtain ⟨wMac, wMem, wEnt, wBar, wBrk, wOw, wMo, wMk, wCm, wCb, wMt, wLm⟩ := id hW
  refine Cal.mk (n := 3) rfl (Nat.le_of_ble_eq_true rfl) rfl ?_
  unfold f_r_use
  refine Ev.ps 4 rfl ?_
  refine Ev.vir (as := [vI p0, vI D, vI 0]) (rest := []) (by rfl) (by rfl) (by rfl) (by rfl) rfl (Nat.le_of_ble_eq_true rfl) (by rfl) (by rw [rd9]; rfl) (s_r_may hW) ?_
  refine Ev.ifbe (by rfl) (by rfl) (fun c1 => ?_) (fun c1 => ?_)
  · rw [if_pos c1]
    have q_p0 := isMachine_nat wMac (may_pos c1)
    generalize nP p0 = k_p0 at q_p0 ⊢
    obtain ⟨rfl, hk_p0⟩ := q_p0
    refine Ev.ps 3 rfl ?_
    refine Ev.vir (as := [vI (nI k_p0), vI D]) (rest := []) (by rfl) (by rfl) (by rfl) (by rfl) rfl (Nat.le_of_ble_eq_true rfl) (by rfl) (by rw [rd9]; rfl) (s_r_used hW (by have := hk_p0; omega)) ?_
    refine Ev.ps 1 rfl ?_
    refine Ev.lcF (v := 1139802112) (by rfl) (by rfl) (by rfl) ?_
    refine Ev.p (by rfl) (by dsimp only [pin, p2f, p2d]; rw [if_pos rfl, if_pos (use_nn _)]; rfl) ?_
    refine Ev.ps 1 rfl ?_
    exact Ev.re rfl rfl rfl rfl rfl
  · rw [if_neg c1]
    refine Ev.ps 1 rfl ?_
    exact Ev.re rfl rfl rfl rfl rfl
def r_meanMinutes_L6 (aLe : Nat → Int32) (aSta : Nat → Int32)  : Nat → Nat → Int32 → Int32 → (Int32 × Int32)
  | 0, j6, sum, many =>
    (sum, many)
  | k6 + 1, j6, sum, many =>
    if aSta j6 = 100 then
      if aSta j6 = 100 then
        r_meanMinutes_L6 aLe aSta  k6 (j6 + 1) (sum + (aLe j6)) (many + 1)
      else
        r_meanMinutes_L6 aLe aSta  k6 (j6 + 1) (sum + (aLe j6)) (many + 0)
    else
      if aSta j6 = 100 then r_meanMinutes_L6 aLe aSta  k6 (j6 + 1) (sum + 0) (many + 1) else r_meanMinutes_L6 aLe aSta  k6 (j6 + 1) (sum + 0) (many + 0)
def f_r_meanMinutes (aEnt : Nat) (aLe : Nat → Int32) (aSta : Nat → Int32)  : UInt64 × Int32 :=
  if (r_meanMinutes_L6 aLe aSta  aEnt 0 0 0).2 = 0 then (FP.dconst0, 1) else (FP.ddiv (FP.i2d ((r_meanMinutes_L6 aLe aSta  aEnt 0 0 0).1)) (FP.i2d ((r_meanMinutes_L6 aLe aSta  aEnt 0 0 0).2)), 0)
theorem s_r_meanMinutes {d : Nat} {W : WD} {aMk : Nat → Nat} {aSu : Nat → Int32} {aMac : Nat} {aMem : Nat} {aTk : Nat → Nat → Int32} {aPaid : Nat → Int64} {aNd : Nat → Nat → Bool} {aDay : Int32} {aOw : Nat → Nat} {aMo : Nat → Nat} {aDy : Nat → Int32} {aSt : Nat → Int32} {aLe : Nat → Int32} {aWk : Nat → Int32} {aSta : Nat → Int32} {aDue : Nat → Int32} {aCm : Nat → Nat} {aCb : Nat → Nat → Nat} {aCl : Nat → Nat → Int32} {aEnt : Nat} {aMt : Nat → Nat} {aBl : Nat → Int32} {aBar : Nat} {aPr : Nat → Int32} {aLs : Nat → Nat → Int32} {aLnum : Nat → Nat → Int32} {aLm : Nat → Nat} {aSh : Nat → Nat → Int32} {aBrk : Nat} {aThr : Int32} {C : CD}  (hW : WfR aMac aMem aEnt aBar aBrk aOw aMo aMk aCm aCb aMt aLm) : Cal (d + 1) 177 [vR 9 0] (enc C (mkR aMk aSu aMac aMem aTk aPaid aNd aDay aOw aMo aDy aSt aLe aWk aSta aDue aCm aCb aCl aEnt aMt aBl aBar aPr aLs aLnum aLm aSh aBrk aThr) W) (.inl (some (vD ((f_r_meanMinutes aEnt aLe aSta).1)))) (enc C (mkR aMk aSu aMac aMem aTk aPaid aNd aDay aOw aMo aDy aSt aLe aWk aSta aDue aCm aCb aCl aEnt aMt aBl aBar aPr aLs aLnum aLm aSh aBrk ((f_r_meanMinutes aEnt aLe aSta).2)) W) := by
  obtain ⟨wMac, wMem, wEnt, wBar, wBrk, wOw, wMo, wMk, wCm, wCb, wMt, wLm⟩ := id hW
  refine Cal.mk (n := 4) rfl (Nat.le_of_ble_eq_true rfl) rfl ?_
  unfold f_r_meanMinutes
  refine Ev.ps 6 rfl ?_
  have L6 : ∀ {x : Re × Hp}, ∀ (k6 j6 : Nat) (sum : Int32) (many : Int32), j6 + k6 = aEnt → (∀ (e6_3 : Option MV), Da e6_3 → Ev (d + 1) (177, 63, [some (vR 9 0), some (vI ((r_meanMinutes_L6 aLe aSta  k6 j6 sum many).1)), some (vI ((r_meanMinutes_L6 aLe aSta  k6 j6 sum many).2)), e6_3], []) (enc C (mkR aMk aSu aMac aMem aTk aPaid aNd aDay aOw aMo aDy aSt aLe aWk aSta aDue aCm aCb aCl aEnt aMt aBl aBar aPr aLs aLnum aLm aSh aBrk aThr) W) x) → Ev (d + 1) (177, 6, [some (vR 9 0), some (vI sum), some (vI many), some (vI (nI j6))], []) (enc C (mkR aMk aSu aMac aMem aTk aPaid aNd aDay aOw aMo aDy aSt aLe aWk aSta aDue aCm aCb aCl aEnt aMt aBl aBar aPr aLs aLnum aLm aSh aBrk aThr) W) x := by
    intro x k6
    induction k6 with
    | zero =>
      intro j6 sum many hj6 K6
      rw [r_meanMinutes_L6] at K6
      refine Ev.ps 2 rfl ?_
      refine Ev.getf (v := vI (nI aEnt)) (by rfl) (by rfl) (by rfl) (rd9) rfl ?_
      refine Ev.igeN (a := j6) (b := aEnt) (by omega) (by omega) (by rfl) (by rfl) (fun (c1 : j6 < aEnt) => ?_) (fun (c1 : ¬ j6 < aEnt) => ?_)
      · exfalso; omega
      · exact K6 _ Da.i
    | succ k6 ih6 =>
      intro j6 sum many hj6 K6
      rw [r_meanMinutes_L6] at K6
      refine Ev.ps 2 rfl ?_
      refine Ev.getf (v := vI (nI aEnt)) (by rfl) (by rfl) (by rfl) (rd9) rfl ?_
      refine Ev.igeN (a := j6) (b := aEnt) (by omega) (by omega) (by rfl) (by rfl) (fun (c2 : j6 < aEnt) => ?_) (fun (c2 : ¬ j6 < aEnt) => ?_)
      · refine Ev.ps 2 rfl ?_
        refine Ev.getf (v := vR 38 0) (by rfl) (by rfl) (by rfl) (rd9) rfl ?_
        refine Ev.ps 1 rfl ?_
        refine Ev.aiC (k := j6) (v := vI (aSta j6)) (by rfl) (by decide) (rd38) (by omega) (by omega) rfl ?_
        refine Ev.ps 1 rfl ?_
        refine Ev.ine (by rfl) (by rfl) (fun (c3 : aSta j6 = 100) => ?_) (fun (c3 : ¬ aSta j6 = 100) => ?_)
        · rw [if_pos c3] at K6
          refine Ev.ps 1 rfl ?_
          refine Ev.getf (v := vR 36 0) (by rfl) (by rfl) (by rfl) (rd9) rfl ?_
          refine Ev.ps 1 rfl ?_
          refine Ev.aiI (k := j6) (v := vI (aLe j6)) (by rfl) (by decide) (rd36) (by omega) (by omega) rfl ?_
          refine Ev.ps 5 rfl ?_
          refine Ev.getf (v := vR 38 0) (by rfl) (by rfl) (by rfl) (rd9) rfl ?_
          refine Ev.ps 1 rfl ?_
          refine Ev.aiC (k := j6) (v := vI (aSta j6)) (by rfl) (by decide) (rd38) (by omega) (by omega) rfl ?_
          refine Ev.ps 1 rfl ?_
          refine Ev.ine (by rfl) (by rfl) (fun (c4 : aSta j6 = 100) => ?_) (fun (c4 : ¬ aSta j6 = 100) => ?_)
          · rw [if_pos c4] at K6
            refine Ev.ps 6 rfl ?_
            have h9 := ih6 (j6 + 1) (sum + (aLe j6)) (many + 1) (by show j6 + 1 + k6 = aEnt; omega) K6
            rw [← nI_1] at h9
            exact h9
          · rw [if_neg c4] at K6
            refine Ev.ps 5 rfl ?_
            have h9 := ih6 (j6 + 1) (sum + (aLe j6)) (many + 0) (by show j6 + 1 + k6 = aEnt; omega) K6
            rw [← nI_1] at h9
            exact h9
        · rw [if_neg c3] at K6
          refine Ev.ps 5 rfl ?_
          refine Ev.getf (v := vR 38 0) (by rfl) (by rfl) (by rfl) (rd9) rfl ?_
          refine Ev.ps 1 rfl ?_
          refine Ev.aiC (k := j6) (v := vI (aSta j6)) (by rfl) (by decide) (rd38) (by omega) (by omega) rfl ?_
          refine Ev.ps 1 rfl ?_
          refine Ev.ine (by rfl) (by rfl) (fun (c5 : aSta j6 = 100) => ?_) (fun (c5 : ¬ aSta j6 = 100) => ?_)
          · rw [if_pos c5] at K6
            refine Ev.ps 6 rfl ?_
            have h9 := ih6 (j6 + 1) (sum + 0) (many + 1) (by show j6 + 1 + k6 = aEnt; omega) K6
            rw [← nI_1] at h9
            exact h9
          · rw [if_neg c5] at K6
            refine Ev.ps 5 rfl ?_
            have h9 := ih6 (j6 + 1) (sum + 0) (many + 0) (by show j6 + 1 + k6 = aEnt; omega) K6
            rw [← nI_1] at h9
            exact h9
      · exfalso; omega
  refine L6 aEnt 0 0 0 (by show 0 + aEnt = aEnt; omega) ?_
  intro e6_3 he6_3
  refine Ev.ps 2 rfl ?_
  refine Ev.zne (by rfl) (by rfl) (fun (c6 : (r_meanMinutes_L6 aLe aSta  aEnt 0 0 0).2 = 0) => ?_) (fun (c6 : ¬ (r_meanMinutes_L6 aLe aSta  aEnt 0 0 0).2 = 0) => ?_)
  · rw [if_pos c6]
    refine Ev.ps 2 rfl ?_
    refine Ev.pf (by rfl) (by rfl) (by rfl) (Nat.le_of_ble_eq_true rfl) rfl (Or.inl (by rfl)) (rd9) (show _ = enc C (mkR aMk aSu aMac aMem aTk aPaid aNd aDay aOw aMo aDy aSt aLe aWk aSta aDue aCm aCb aCl aEnt aMt aBl aBar aPr aLs aLnum aLm aSh aBrk 1) W from wr9_Thr (v := 1)) ?_
    refine Ev.ps 1 rfl ?_
    refine Ev.getf (v := vI 1) (by rfl) (by rfl) (by rfl) (rd9) rfl ?_
    refine Ev.ifi (by rfl) (by rfl) (fun z => by exact absurd z (by decide)) (fun _ => ?_)
    refine Ev.ps 2 rfl ?_
    exact Ev.re rfl rfl rfl rfl rfl
  · rw [if_neg c6]
    refine Ev.ps 1 rfl ?_
    refine Ev.pf (by rfl) (by rfl) (by rfl) (Nat.le_of_ble_eq_true rfl) rfl (Or.inl (by rfl)) (rd9) (show _ = enc C (mkR aMk aSu aMac aMem aTk aPaid aNd aDay aOw aMo aDy aSt aLe aWk aSta aDue aCm aCb aCl aEnt aMt aBl aBar aPr aLs aLnum aLm aSh aBrk 0) W from wr9_Thr (v := 0)) ?_
    refine Ev.ps 1 rfl ?_
    refine Ev.getf (v := vI 0) (by rfl) (by rfl) (by rfl) (rd9) rfl ?_
    refine Ev.ifi (by rfl) (by rfl) (fun _ => ?_) (fun z => by exact absurd z (by decide))
    refine Ev.ps 4 rfl ?_
    refine Ev.p (by rfl) (by dsimp only [pin, p2f, p2d]; rw [if_pos rfl, if_pos (mean_nn _ _ (by assumption))]; rfl) ?_
    exact Ev.re rfl rfl rfl rfl rfl
