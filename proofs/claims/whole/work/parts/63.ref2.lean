/-! the reference: inductions, letters, sums (written by gref2.py) -/
theorem in_nat {v : Int32} {n : Nat} (hn : n < 2 ^ 30) (h : f_r_in v 0 (nI n - 1) = true) : v = nI (nP v) ∧ nP v < n := by
  unfold f_r_in at h
  split at h
  · cases h
  · rename_i h0
    split at h
    · cases h
    · rename_i h1
      refine nP_of (by omega) h0 ?_
      have h2 := Int32.not_lt.mp h1
      rw [Int32.le_iff_toInt_le] at h2
      rw [Int32.lt_iff_toInt_lt, nI_toInt (by omega)]
      have h3 : (nI n - 1).toInt = (n : Int) - 1 := by
        cases n with
        | zero => decide
        | succ n =>
          rw [nI_pred, nI_toInt (by omega)]
          omega
      omega
theorem isMember_nat {n : Nat} {v : Int32} (hn : n ≤ 10) (h : f_r_isMember n v = true) : v = nI (nP v) ∧ nP v < n := in_nat (by omega) h
theorem isMachine_nat {n : Nat} {v : Int32} (hn : n ≤ 6) (h : f_r_isMachine n v = true) : v = nI (nP v) ∧ nP v < n := in_nat (by omega) h
theorem isEntry_nat {n : Nat} {v : Int32} (hn : n ≤ 150) (h : f_r_isEntry n v = true) : v = nI (nP v) ∧ nP v < n := in_nat (by omega) h
theorem isKind_nat {v : Int32} (h : f_r_isKind v = true) : v = nI (nP v) ∧ nP v < 4 := in_nat (n := 4) (by decide) h
theorem isBar_nat {n : Nat} {v : Int32} (hn : n ≤ 30) (h : f_r_in v 0 (nI n - 1) = true) : v = nI (nP v) ∧ nP v < n := in_nat (by omega) h
theorem isBrk_nat {n : Nat} {v : Int32} (hn : n ≤ 20) (h : f_r_in v 0 (nI n - 1) = true) : v = nI (nP v) ∧ nP v < n := in_nat (by omega) h
theorem isMat_nat {v : Int32} (h : f_r_in v 0 2 = true) : v = nI (nP v) ∧ nP v < 3 := in_nat (n := 3) (by decide) h
def r_live1_L40 (aNd : Nat → Nat → Bool) (m : Nat) (kd : Nat) (D : Int32) (lv : Nat → Bool) : Nat → Nat → Bool → (Bool)
  | 0, j40, is =>
    is
  | k40 + 1, j40, is =>
    if is then
      if aNd kd j40 then
        if lv j40 then r_live1_L40 aNd m kd D lv k40 (j40 + 1) true else r_live1_L40 aNd m kd D lv k40 (j40 + 1) false
      else
        r_live1_L40 aNd m kd D lv k40 (j40 + 1) true
    else
      is
def f_r_live1 (aNd : Nat → Nat → Bool) (aTk : Nat → Nat → Int32) (m kd : Nat) (D : Int32) (lv : Nat → Bool) : Bool :=
  if aTk m kd = (-1) then
    r_live1_L40 aNd m kd D lv 4 0 false
  else
    if f_r_in D (aTk m kd) ((aTk m kd) + 29) then r_live1_L40 aNd m kd D lv 4 0 true else r_live1_L40 aNd m kd D lv 4 0 false
theorem s_r_live1 {d : Nat} {W : WD} {aMk : Nat → Nat} {aSu : Nat → Int32} {aMac : Nat} {aMem : Nat} {aTk : Nat → Nat → Int32} {aPaid : Nat → Int64} {aNd : Nat → Nat → Bool} {aDay : Int32} {aOw : Nat → Nat} {aMo : Nat → Nat} {aDy : Nat → Int32} {aSt : Nat → Int32} {aLe : Nat → Int32} {aWk : Nat → Int32} {aSta : Nat → Int32} {aDue : Nat → Int32} {aCm : Nat → Nat} {aCb : Nat → Nat → Nat} {aCl : Nat → Nat → Int32} {aEnt : Nat} {aMt : Nat → Nat} {aBl : Nat → Int32} {aBar : Nat} {aPr : Nat → Int32} {aLs : Nat → Nat → Int32} {aLnum : Nat → Nat → Int32} {aLm : Nat → Nat} {aSh : Nat → Nat → Int32} {aBrk : Nat} {aThr : Int32} {C : CD} {m : Nat} {kd : Nat} {D : Int32} {lv : Nat → Bool} (hm : m < 10) (hkd : kd < 4) (hL : ∀ k, k < 4 → aNd kd k = true → Cal (d + 1) 120 [vR 9 0, vI (nI m), vI (nI k), vI D] (enc C (mkR aMk aSu aMac aMem aTk aPaid aNd aDay aOw aMo aDy aSt aLe aWk aSta aDue aCm aCb aCl aEnt aMt aBl aBar aPr aLs aLnum aLm aSh aBrk aThr) W) (.inl (some (vI (bI (lv k))))) (enc C (mkR aMk aSu aMac aMem aTk aPaid aNd aDay aOw aMo aDy aSt aLe aWk aSta aDue aCm aCb aCl aEnt aMt aBl aBar aPr aLs aLnum aLm aSh aBrk aThr) W)) : Cal (d + 2) 120 [vR 9 0, vI (nI m), vI (nI kd), vI D] (enc C (mkR aMk aSu aMac aMem aTk aPaid aNd aDay aOw aMo aDy aSt aLe aWk aSta aDue aCm aCb aCl aEnt aMt aBl aBar aPr aLs aLnum aLm aSh aBrk aThr) W) (.inl (some (vI (bI (f_r_live1 aNd aTk m kd D lv))))) (enc C (mkR aMk aSu aMac aMem aTk aPaid aNd aDay aOw aMo aDy aSt aLe aWk aSta aDue aCm aCb aCl aEnt aMt aBl aBar aPr aLs aLnum aLm aSh aBrk aThr) W) := by
  refine Cal.mk (n := 7) rfl (Nat.le_of_ble_eq_true rfl) rfl ?_
  unfold f_r_live1
  refine Ev.ps 1 rfl ?_
  refine Ev.getf (v := vR 27 0) (by rfl) (by rfl) (by rfl) (rd9) rfl ?_
  refine Ev.ps 1 rfl ?_
  refine Ev.aiA (k := m) (v := vR 28 m) (by rfl) (by decide) (rd27) (by omega) (by omega) rfl ?_
  refine Ev.ps 1 rfl ?_
  refine Ev.aiI (k := kd) (v := vI (aTk m kd)) (by rfl) (by decide) (rd28 (by omega)) (by omega) (by omega) rfl ?_
  refine Ev.ps 3 rfl ?_
  refine Ev.ieq (by rfl) (by rfl) (fun (c1 : aTk m kd = (-1)) => ?_) (fun (c1 : ¬ aTk m kd = (-1)) => ?_)
  · rw [if_pos c1]
    refine Ev.ps 4 rfl ?_
    have L40 : ∀ (k40 j40 : Nat) (is : Bool), j40 + k40 = 4 → Ev (d + 2) (120, 40, [some (vR 9 0), some (vI (nI m)), some (vI (nI kd)), some (vI D), some (vI (aTk m kd)), some (vI (bI is)), some (vI (nI j40))], []) (enc C (mkR aMk aSu aMac aMem aTk aPaid aNd aDay aOw aMo aDy aSt aLe aWk aSta aDue aCm aCb aCl aEnt aMt aBl aBar aPr aLs aLnum aLm aSh aBrk aThr) W) ((.inl (some (vI (bI (r_live1_L40 aNd m kd D lv k40 j40 is))))), enc C (mkR aMk aSu aMac aMem aTk aPaid aNd aDay aOw aMo aDy aSt aLe aWk aSta aDue aCm aCb aCl aEnt aMt aBl aBar aPr aLs aLnum aLm aSh aBrk aThr) W) := by
      intro k40
      induction k40 with
      | zero =>
        intro j40 is hj40
        rw [r_live1_L40]
        refine Ev.ps 2 rfl ?_
        refine Ev.igeN (a := j40) (b := 4) (by omega) (by omega) (by rfl) (by rfl) (fun (c2 : j40 < 4) => ?_) (fun (c2 : ¬ j40 < 4) => ?_)
        · exfalso; omega
        · refine Ev.ps 1 rfl ?_
          exact Ev.re rfl rfl rfl rfl (rstB rfl)
      | succ k40 ih40 =>
        intro j40 is hj40
        rw [r_live1_L40]
        refine Ev.ps 2 rfl ?_
        refine Ev.igeN (a := j40) (b := 4) (by omega) (by omega) (by rfl) (by rfl) (fun (c3 : j40 < 4) => ?_) (fun (c3 : ¬ j40 < 4) => ?_)
        · refine Ev.ps 1 rfl ?_
          refine Ev.ifbe (by rfl) (by rfl) (fun c4 => ?_) (fun c4 => ?_)
          · rw [if_pos c4]
            refine Ev.ps 1 rfl ?_
            refine Ev.getf (v := vR 30 0) (by rfl) (by rfl) (by rfl) (rd9) rfl ?_
            refine Ev.ps 1 rfl ?_
            refine Ev.aiA (k := kd) (v := vR 31 kd) (by rfl) (by decide) (rd30) (by omega) (by omega) rfl ?_
            refine Ev.ps 1 rfl ?_
            refine Ev.aiB (k := j40) (v := vI (bI (aNd kd j40))) (by rfl) (by decide) (rd31 (by omega)) (by omega) (by omega) rfl ?_
            refine Ev.ifbe (by rfl) (by rfl) (fun c5 => ?_) (fun c5 => ?_)
            · rw [if_pos c5]
              refine Ev.ps 4 rfl ?_
              refine Ev.vir (as := [vI (nI m), vI (nI j40), vI D]) (rest := []) (by rfl) (by rfl) (by rfl) (by rfl) rfl (Nat.le_of_ble_eq_true rfl) (by rfl) (by rw [rd9]; rfl) (hL _ (by omega) (by assumption)) ?_
              refine Ev.ifbe (by rfl) (by rfl) (fun c6 => ?_) (fun c6 => ?_)
              · rw [if_pos c6]
                refine Ev.ps 5 rfl ?_
                have h9 := ih40 (j40 + 1) true (by show j40 + 1 + k40 = 4; omega)
                rw [← nI_1] at h9
                exact h9
              · rw [if_neg c6]
                refine Ev.ps 4 rfl ?_
                have h9 := ih40 (j40 + 1) false (by show j40 + 1 + k40 = 4; omega)
                rw [← nI_1] at h9
                exact h9
            · rw [if_neg c5]
              refine Ev.ps 5 rfl ?_
              have h9 := ih40 (j40 + 1) true (by show j40 + 1 + k40 = 4; omega)
              rw [← nI_1] at h9
              exact h9
          · rw [if_neg c4]
            refine Ev.ps 1 rfl ?_
            exact Ev.re rfl rfl rfl rfl (rstB rfl)
        · exfalso; omega
    exact L40 4 0 false (by show 0 + 4 = 4; omega)
  · rw [if_neg c1]
    refine Ev.ps 5 rfl ?_
    refine Ev.sta (as := [vI D, vI (aTk m kd), vI ((aTk m kd) + 29)]) (rest := []) (by rfl) (by rfl) (by rfl) (by rfl) rfl (Nat.le_of_ble_eq_true rfl) (s_r_in ) ?_
    refine Ev.ifbe (by rfl) (by rfl) (fun c7 => ?_) (fun c7 => ?_)
    · rw [if_pos c7]
      refine Ev.ps 5 rfl ?_
      have L40 : ∀ (k40 j40 : Nat) (is : Bool), j40 + k40 = 4 → Ev (d + 2) (120, 40, [some (vR 9 0), some (vI (nI m)), some (vI (nI kd)), some (vI D), some (vI (aTk m kd)), some (vI (bI is)), some (vI (nI j40))], []) (enc C (mkR aMk aSu aMac aMem aTk aPaid aNd aDay aOw aMo aDy aSt aLe aWk aSta aDue aCm aCb aCl aEnt aMt aBl aBar aPr aLs aLnum aLm aSh aBrk aThr) W) ((.inl (some (vI (bI (r_live1_L40 aNd m kd D lv k40 j40 is))))), enc C (mkR aMk aSu aMac aMem aTk aPaid aNd aDay aOw aMo aDy aSt aLe aWk aSta aDue aCm aCb aCl aEnt aMt aBl aBar aPr aLs aLnum aLm aSh aBrk aThr) W) := by
        intro k40
        induction k40 with
        | zero =>
          intro j40 is hj40
          rw [r_live1_L40]
          refine Ev.ps 2 rfl ?_
          refine Ev.igeN (a := j40) (b := 4) (by omega) (by omega) (by rfl) (by rfl) (fun (c8 : j40 < 4) => ?_) (fun (c8 : ¬ j40 < 4) => ?_)
          · exfalso; omega
          · refine Ev.ps 1 rfl ?_
            exact Ev.re rfl rfl rfl rfl (rstB rfl)
        | succ k40 ih40 =>
          intro j40 is hj40
          rw [r_live1_L40]
          refine Ev.ps 2 rfl ?_
          refine Ev.igeN (a := j40) (b := 4) (by omega) (by omega) (by rfl) (by rfl) (fun (c9 : j40 < 4) => ?_) (fun (c9 : ¬ j40 < 4) => ?_)
          · refine Ev.ps 1 rfl ?_
            refine Ev.ifbe (by rfl) (by rfl) (fun c10 => ?_) (fun c10 => ?_)
            · rw [if_pos c10]
              refine Ev.ps 1 rfl ?_
              refine Ev.getf (v := vR 30 0) (by rfl) (by rfl) (by rfl) (rd9) rfl ?_
              refine Ev.ps 1 rfl ?_
              refine Ev.aiA (k := kd) (v := vR 31 kd) (by rfl) (by decide) (rd30) (by omega) (by omega) rfl ?_
              refine Ev.ps 1 rfl ?_
              refine Ev.aiB (k := j40) (v := vI (bI (aNd kd j40))) (by rfl) (by decide) (rd31 (by omega)) (by omega) (by omega) rfl ?_
              refine Ev.ifbe (by rfl) (by rfl) (fun c11 => ?_) (fun c11 => ?_)
              · rw [if_pos c11]
                refine Ev.ps 4 rfl ?_
                refine Ev.vir (as := [vI (nI m), vI (nI j40), vI D]) (rest := []) (by rfl) (by rfl) (by rfl) (by rfl) rfl (Nat.le_of_ble_eq_true rfl) (by rfl) (by rw [rd9]; rfl) (hL _ (by omega) (by assumption)) ?_
                refine Ev.ifbe (by rfl) (by rfl) (fun c12 => ?_) (fun c12 => ?_)
                · rw [if_pos c12]
                  refine Ev.ps 5 rfl ?_
                  have h9 := ih40 (j40 + 1) true (by show j40 + 1 + k40 = 4; omega)
                  rw [← nI_1] at h9
                  exact h9
                · rw [if_neg c12]
                  refine Ev.ps 4 rfl ?_
                  have h9 := ih40 (j40 + 1) false (by show j40 + 1 + k40 = 4; omega)
                  rw [← nI_1] at h9
                  exact h9
              · rw [if_neg c11]
                refine Ev.ps 5 rfl ?_
                have h9 := ih40 (j40 + 1) true (by show j40 + 1 + k40 = 4; omega)
                rw [← nI_1] at h9
                exact h9
            · rw [if_neg c10]
              refine Ev.ps 1 rfl ?_
              exact Ev.re rfl rfl rfl rfl (rstB rfl)
          · exfalso; omega
      exact L40 4 0 true (by show 0 + 4 = 4; omega)
    · rw [if_neg c7]
      refine Ev.ps 4 rfl ?_
      have L40 : ∀ (k40 j40 : Nat) (is : Bool), j40 + k40 = 4 → Ev (d + 2) (120, 40, [some (vR 9 0), some (vI (nI m)), some (vI (nI kd)), some (vI D), some (vI (aTk m kd)), some (vI (bI is)), some (vI (nI j40))], []) (enc C (mkR aMk aSu aMac aMem aTk aPaid aNd aDay aOw aMo aDy aSt aLe aWk aSta aDue aCm aCb aCl aEnt aMt aBl aBar aPr aLs aLnum aLm aSh aBrk aThr) W) ((.inl (some (vI (bI (r_live1_L40 aNd m kd D lv k40 j40 is))))), enc C (mkR aMk aSu aMac aMem aTk aPaid aNd aDay aOw aMo aDy aSt aLe aWk aSta aDue aCm aCb aCl aEnt aMt aBl aBar aPr aLs aLnum aLm aSh aBrk aThr) W) := by
        intro k40
        induction k40 with
        | zero =>
          intro j40 is hj40
          rw [r_live1_L40]
          refine Ev.ps 2 rfl ?_
          refine Ev.igeN (a := j40) (b := 4) (by omega) (by omega) (by rfl) (by rfl) (fun (c13 : j40 < 4) => ?_) (fun (c13 : ¬ j40 < 4) => ?_)
          · exfalso; omega
          · refine Ev.ps 1 rfl ?_
            exact Ev.re rfl rfl rfl rfl (rstB rfl)
        | succ k40 ih40 =>
          intro j40 is hj40
          rw [r_live1_L40]
          refine Ev.ps 2 rfl ?_
          refine Ev.igeN (a := j40) (b := 4) (by omega) (by omega) (by rfl) (by rfl) (fun (c14 : j40 < 4) => ?_) (fun (c14 : ¬ j40 < 4) => ?_)
          · refine Ev.ps 1 rfl ?_
            refine Ev.ifbe (by rfl) (by rfl) (fun c15 => ?_) (fun c15 => ?_)
            · rw [if_pos c15]
              refine Ev.ps 1 rfl ?_
              refine Ev.getf (v := vR 30 0) (by rfl) (by rfl) (by rfl) (rd9) rfl ?_
              refine Ev.ps 1 rfl ?_
              refine Ev.aiA (k := kd) (v := vR 31 kd) (by rfl) (by decide) (rd30) (by omega) (by omega) rfl ?_
              refine Ev.ps 1 rfl ?_
              refine Ev.aiB (k := j40) (v := vI (bI (aNd kd j40))) (by rfl) (by decide) (rd31 (by omega)) (by omega) (by omega) rfl ?_
              refine Ev.ifbe (by rfl) (by rfl) (fun c16 => ?_) (fun c16 => ?_)
              · rw [if_pos c16]
                refine Ev.ps 4 rfl ?_
                refine Ev.vir (as := [vI (nI m), vI (nI j40), vI D]) (rest := []) (by rfl) (by rfl) (by rfl) (by rfl) rfl (Nat.le_of_ble_eq_true rfl) (by rfl) (by rw [rd9]; rfl) (hL _ (by omega) (by assumption)) ?_
                refine Ev.ifbe (by rfl) (by rfl) (fun c17 => ?_) (fun c17 => ?_)
                · rw [if_pos c17]
                  refine Ev.ps 5 rfl ?_
                  have h9 := ih40 (j40 + 1) true (by show j40 + 1 + k40 = 4; omega)
                  rw [← nI_1] at h9
                  exact h9
                · rw [if_neg c17]
                  refine Ev.ps 4 rfl ?_
                  have h9 := ih40 (j40 + 1) false (by show j40 + 1 + k40 = 4; omega)
                  rw [← nI_1] at h9
                  exact h9
              · rw [if_neg c16]
                refine Ev.ps 5 rfl ?_
                have h9 := ih40 (j40 + 1) true (by show j40 + 1 + k40 = 4; omega)
                rw [← nI_1] at h9
                exact h9
            · rw [if_neg c15]
              refine Ev.ps 1 rfl ?_
              exact Ev.re rfl rfl rfl rfl (rstB rfl)
          · exfalso; omega
      exact L40 4 0 false (by show 0 + 4 = 4; omega)
def r_reaches1_L14 (aNd : Nat → Nat → Bool) (kd : Nat) (ot : Nat) (lv : Nat → Bool) : Nat → Nat → Bool → (Bool)
  | 0, j14, is =>
    is
  | k14 + 1, j14, is =>
    if is then
      is
    else
      if aNd kd j14 then
        if lv j14 then r_reaches1_L14 aNd kd ot lv k14 (j14 + 1) true else r_reaches1_L14 aNd kd ot lv k14 (j14 + 1) false
      else
        r_reaches1_L14 aNd kd ot lv k14 (j14 + 1) false
def f_r_reaches1 (aNd : Nat → Nat → Bool) (kd ot : Nat) (lv : Nat → Bool) : Bool :=
  if kd = ot then r_reaches1_L14 aNd kd ot lv 4 0 true else r_reaches1_L14 aNd kd ot lv 4 0 false
theorem s_r_reaches1 {d : Nat} {W : WD} {aMk : Nat → Nat} {aSu : Nat → Int32} {aMac : Nat} {aMem : Nat} {aTk : Nat → Nat → Int32} {aPaid : Nat → Int64} {aNd : Nat → Nat → Bool} {aDay : Int32} {aOw : Nat → Nat} {aMo : Nat → Nat} {aDy : Nat → Int32} {aSt : Nat → Int32} {aLe : Nat → Int32} {aWk : Nat → Int32} {aSta : Nat → Int32} {aDue : Nat → Int32} {aCm : Nat → Nat} {aCb : Nat → Nat → Nat} {aCl : Nat → Nat → Int32} {aEnt : Nat} {aMt : Nat → Nat} {aBl : Nat → Int32} {aBar : Nat} {aPr : Nat → Int32} {aLs : Nat → Nat → Int32} {aLnum : Nat → Nat → Int32} {aLm : Nat → Nat} {aSh : Nat → Nat → Int32} {aBrk : Nat} {aThr : Int32} {C : CD} {kd : Nat} {ot : Nat} {lv : Nat → Bool} (hkd : kd < 4) (hot : ot < 4) (hL : ∀ k, k < 4 → aNd kd k = true → Cal (d + 1) 119 [vR 9 0, vI (nI k), vI (nI ot)] (enc C (mkR aMk aSu aMac aMem aTk aPaid aNd aDay aOw aMo aDy aSt aLe aWk aSta aDue aCm aCb aCl aEnt aMt aBl aBar aPr aLs aLnum aLm aSh aBrk aThr) W) (.inl (some (vI (bI (lv k))))) (enc C (mkR aMk aSu aMac aMem aTk aPaid aNd aDay aOw aMo aDy aSt aLe aWk aSta aDue aCm aCb aCl aEnt aMt aBl aBar aPr aLs aLnum aLm aSh aBrk aThr) W)) : Cal (d + 2) 119 [vR 9 0, vI (nI kd), vI (nI ot)] (enc C (mkR aMk aSu aMac aMem aTk aPaid aNd aDay aOw aMo aDy aSt aLe aWk aSta aDue aCm aCb aCl aEnt aMt aBl aBar aPr aLs aLnum aLm aSh aBrk aThr) W) (.inl (some (vI (bI (f_r_reaches1 aNd kd ot lv))))) (enc C (mkR aMk aSu aMac aMem aTk aPaid aNd aDay aOw aMo aDy aSt aLe aWk aSta aDue aCm aCb aCl aEnt aMt aBl aBar aPr aLs aLnum aLm aSh aBrk aThr) W) := by
  refine Cal.mk (n := 5) rfl (Nat.le_of_ble_eq_true rfl) rfl ?_
  unfold f_r_reaches1
  refine Ev.ps 2 rfl ?_
  refine Ev.ineN (a := kd) (b := ot) (by omega) (by omega) (by rfl) (by rfl) (fun (c1 : kd = ot) => ?_) (fun (c1 : ¬ kd = ot) => ?_)
  · rw [if_pos c1]
    refine Ev.ps 5 rfl ?_
    have L14 : ∀ (k14 j14 : Nat) (is : Bool), j14 + k14 = 4 → Ev (d + 2) (119, 14, [some (vR 9 0), some (vI (nI kd)), some (vI (nI ot)), some (vI (bI is)), some (vI (nI j14))], []) (enc C (mkR aMk aSu aMac aMem aTk aPaid aNd aDay aOw aMo aDy aSt aLe aWk aSta aDue aCm aCb aCl aEnt aMt aBl aBar aPr aLs aLnum aLm aSh aBrk aThr) W) ((.inl (some (vI (bI (r_reaches1_L14 aNd kd ot lv k14 j14 is))))), enc C (mkR aMk aSu aMac aMem aTk aPaid aNd aDay aOw aMo aDy aSt aLe aWk aSta aDue aCm aCb aCl aEnt aMt aBl aBar aPr aLs aLnum aLm aSh aBrk aThr) W) := by
      intro k14
      induction k14 with
      | zero =>
        intro j14 is hj14
        rw [r_reaches1_L14]
        refine Ev.ps 2 rfl ?_
        refine Ev.igeN (a := j14) (b := 4) (by omega) (by omega) (by rfl) (by rfl) (fun (c2 : j14 < 4) => ?_) (fun (c2 : ¬ j14 < 4) => ?_)
        · exfalso; omega
        · refine Ev.ps 1 rfl ?_
          exact Ev.re rfl rfl rfl rfl (rstB rfl)
      | succ k14 ih14 =>
        intro j14 is hj14
        rw [r_reaches1_L14]
        refine Ev.ps 2 rfl ?_
        refine Ev.igeN (a := j14) (b := 4) (by omega) (by omega) (by rfl) (by rfl) (fun (c3 : j14 < 4) => ?_) (fun (c3 : ¬ j14 < 4) => ?_)
        · refine Ev.ps 1 rfl ?_
          refine Ev.ifbn (by rfl) (by rfl) (fun c4 => ?_) (fun c4 => ?_)
          · rw [if_pos c4]
            refine Ev.ps 1 rfl ?_
            exact Ev.re rfl rfl rfl rfl (rstB rfl)
          · rw [if_neg c4]
            refine Ev.ps 1 rfl ?_
            refine Ev.getf (v := vR 30 0) (by rfl) (by rfl) (by rfl) (rd9) rfl ?_
            refine Ev.ps 1 rfl ?_
            refine Ev.aiA (k := kd) (v := vR 31 kd) (by rfl) (by decide) (rd30) (by omega) (by omega) rfl ?_
            refine Ev.ps 1 rfl ?_
            refine Ev.aiB (k := j14) (v := vI (bI (aNd kd j14))) (by rfl) (by decide) (rd31 (by omega)) (by omega) (by omega) rfl ?_
            refine Ev.ifbe (by rfl) (by rfl) (fun c5 => ?_) (fun c5 => ?_)
            · rw [if_pos c5]
              refine Ev.ps 3 rfl ?_
              refine Ev.vir (as := [vI (nI j14), vI (nI ot)]) (rest := []) (by rfl) (by rfl) (by rfl) (by rfl) rfl (Nat.le_of_ble_eq_true rfl) (by rfl) (by rw [rd9]; rfl) (hL _ (by omega) (by assumption)) ?_
              refine Ev.ifbe (by rfl) (by rfl) (fun c6 => ?_) (fun c6 => ?_)
              · rw [if_pos c6]
                refine Ev.ps 5 rfl ?_
                have h9 := ih14 (j14 + 1) true (by show j14 + 1 + k14 = 4; omega)
                rw [← nI_1] at h9
                exact h9
              · rw [if_neg c6]
                refine Ev.ps 4 rfl ?_
                have h9 := ih14 (j14 + 1) false (by show j14 + 1 + k14 = 4; omega)
                rw [← nI_1] at h9
                exact h9
            · rw [if_neg c5]
              refine Ev.ps 4 rfl ?_
              have h9 := ih14 (j14 + 1) false (by show j14 + 1 + k14 = 4; omega)
              rw [← nI_1] at h9
              exact h9
        · exfalso; omega
    exact L14 4 0 true (by show 0 + 4 = 4; omega)
  · rw [if_neg c1]
    refine Ev.ps 4 rfl ?_
    have L14 : ∀ (k14 j14 : Nat) (is : Bool), j14 + k14 = 4 → Ev (d + 2) (119, 14, [some (vR 9 0), some (vI (nI kd)), some (vI (nI ot)), some (vI (bI is)), some (vI (nI j14))], []) (enc C (mkR aMk aSu aMac aMem aTk aPaid aNd aDay aOw aMo aDy aSt aLe aWk aSta aDue aCm aCb aCl aEnt aMt aBl aBar aPr aLs aLnum aLm aSh aBrk aThr) W) ((.inl (some (vI (bI (r_reaches1_L14 aNd kd ot lv k14 j14 is))))), enc C (mkR aMk aSu aMac aMem aTk aPaid aNd aDay aOw aMo aDy aSt aLe aWk aSta aDue aCm aCb aCl aEnt aMt aBl aBar aPr aLs aLnum aLm aSh aBrk aThr) W) := by
      intro k14
      induction k14 with
      | zero =>
        intro j14 is hj14
        rw [r_reaches1_L14]
        refine Ev.ps 2 rfl ?_
        refine Ev.igeN (a := j14) (b := 4) (by omega) (by omega) (by rfl) (by rfl) (fun (c7 : j14 < 4) => ?_) (fun (c7 : ¬ j14 < 4) => ?_)
        · exfalso; omega
        · refine Ev.ps 1 rfl ?_
          exact Ev.re rfl rfl rfl rfl (rstB rfl)
      | succ k14 ih14 =>
        intro j14 is hj14
        rw [r_reaches1_L14]
        refine Ev.ps 2 rfl ?_
        refine Ev.igeN (a := j14) (b := 4) (by omega) (by omega) (by rfl) (by rfl) (fun (c8 : j14 < 4) => ?_) (fun (c8 : ¬ j14 < 4) => ?_)
        · refine Ev.ps 1 rfl ?_
          refine Ev.ifbn (by rfl) (by rfl) (fun c9 => ?_) (fun c9 => ?_)
          · rw [if_pos c9]
            refine Ev.ps 1 rfl ?_
            exact Ev.re rfl rfl rfl rfl (rstB rfl)
          · rw [if_neg c9]
            refine Ev.ps 1 rfl ?_
            refine Ev.getf (v := vR 30 0) (by rfl) (by rfl) (by rfl) (rd9) rfl ?_
            refine Ev.ps 1 rfl ?_
            refine Ev.aiA (k := kd) (v := vR 31 kd) (by rfl) (by decide) (rd30) (by omega) (by omega) rfl ?_
            refine Ev.ps 1 rfl ?_
            refine Ev.aiB (k := j14) (v := vI (bI (aNd kd j14))) (by rfl) (by decide) (rd31 (by omega)) (by omega) (by omega) rfl ?_
            refine Ev.ifbe (by rfl) (by rfl) (fun c10 => ?_) (fun c10 => ?_)
            · rw [if_pos c10]
              refine Ev.ps 3 rfl ?_
              refine Ev.vir (as := [vI (nI j14), vI (nI ot)]) (rest := []) (by rfl) (by rfl) (by rfl) (by rfl) rfl (Nat.le_of_ble_eq_true rfl) (by rfl) (by rw [rd9]; rfl) (hL _ (by omega) (by assumption)) ?_
              refine Ev.ifbe (by rfl) (by rfl) (fun c11 => ?_) (fun c11 => ?_)
              · rw [if_pos c11]
                refine Ev.ps 5 rfl ?_
                have h9 := ih14 (j14 + 1) true (by show j14 + 1 + k14 = 4; omega)
                rw [← nI_1] at h9
                exact h9
              · rw [if_neg c11]
                refine Ev.ps 4 rfl ?_
                have h9 := ih14 (j14 + 1) false (by show j14 + 1 + k14 = 4; omega)
                rw [← nI_1] at h9
                exact h9
            · rw [if_neg c10]
              refine Ev.ps 4 rfl ?_
              have h9 := ih14 (j14 + 1) false (by show j14 + 1 + k14 = 4; omega)
              rw [← nI_1] at h9
              exact h9
        · exfalso; omega
    exact L14 4 0 false (by show 0 + 4 = 4; omega)
/-- the needs have ranks: no circle -/
def Acy (nd : Nat → Nat → Bool) : Prop := ∃ rk : Nat → Nat, (∀ k, rk k ≤ 3) ∧ ∀ a b, a < 4 → b < 4 → nd a b = true → rk b < rk a
def r_live (aNd : Nat → Nat → Bool) (aTk : Nat → Nat → Int32) (m : Nat) (D : Int32) : Nat → Nat → Bool
  | 0, kd => f_r_live1 aNd aTk m kd D (fun _ => false)
  | r + 1, kd => f_r_live1 aNd aTk m kd D (r_live aNd aTk m D r)
theorem s_r_liveR {d : Nat} {C : CD} {W : WD} {aMk : Nat → Nat} {aSu : Nat → Int32} {aMac : Nat} {aMem : Nat} {aTk : Nat → Nat → Int32} {aPaid : Nat → Int64} {aNd : Nat → Nat → Bool} {aDay : Int32} {aOw : Nat → Nat} {aMo : Nat → Nat} {aDy : Nat → Int32} {aSt : Nat → Int32} {aLe : Nat → Int32} {aWk : Nat → Int32} {aSta : Nat → Int32} {aDue : Nat → Int32} {aCm : Nat → Nat} {aCb : Nat → Nat → Nat} {aCl : Nat → Nat → Int32} {aEnt : Nat} {aMt : Nat → Nat} {aBl : Nat → Int32} {aBar : Nat} {aPr : Nat → Int32} {aLs : Nat → Nat → Int32} {aLnum : Nat → Nat → Int32} {aLm : Nat → Nat} {aSh : Nat → Nat → Int32} {aBrk : Nat} {aThr : Int32} {m : Nat} {D : Int32} (hm : m < 10) {rk : Nat → Nat} (hr : ∀ a b, a < 4 → b < 4 → aNd a b = true → rk b < rk a) : ∀ r kd, kd < 4 → rk kd ≤ r → Cal (d + 2 + r) 120 [vR 9 0, vI (nI m), vI (nI kd), vI D] (enc C (mkR aMk aSu aMac aMem aTk aPaid aNd aDay aOw aMo aDy aSt aLe aWk aSta aDue aCm aCb aCl aEnt aMt aBl aBar aPr aLs aLnum aLm aSh aBrk aThr) W) (.inl (some (vI (bI (r_live aNd aTk m D r kd))))) (enc C (mkR aMk aSu aMac aMem aTk aPaid aNd aDay aOw aMo aDy aSt aLe aWk aSta aDue aCm aCb aCl aEnt aMt aBl aBar aPr aLs aLnum aLm aSh aBrk aThr) W) := by
  intro r
  induction r with
  | zero =>
    intro kd hkd h0
    exact s_r_live1 (d := d) hm hkd fun k hk hn => absurd (hr kd k hkd hk hn) (by omega)
  | succ r ih =>
    intro kd hkd h0
    have h9 := s_r_live1 (d := d + 1 + r) (D := D) (lv := r_live aNd aTk m D r) (C := C) (W := W) (aMk := aMk) (aSu := aSu) (aMac := aMac) (aMem := aMem) (aTk := aTk) (aPaid := aPaid) (aNd := aNd) (aDay := aDay) (aOw := aOw) (aMo := aMo) (aDy := aDy) (aSt := aSt) (aLe := aLe) (aWk := aWk) (aSta := aSta) (aDue := aDue) (aCm := aCm) (aCb := aCb) (aCl := aCl) (aEnt := aEnt) (aMt := aMt) (aBl := aBl) (aBar := aBar) (aPr := aPr) (aLs := aLs) (aLnum := aLnum) (aLm := aLm) (aSh := aSh) (aBrk := aBrk) (aThr := aThr) hm hkd fun k hk hn => by
      have h8 := ih k hk (by have := hr kd k hkd hk hn; omega)
      rw [show d + 2 + r = d + 1 + r + 1 by omega] at h8
      exact h8
    rw [show d + 2 + (r + 1) = d + 1 + r + 2 by omega]
    exact h9
def r_reaches (aNd : Nat → Nat → Bool) (ot : Nat) : Nat → Nat → Bool
  | 0, kd => f_r_reaches1 aNd kd ot (fun _ => false)
  | r + 1, kd => f_r_reaches1 aNd kd ot (r_reaches aNd ot r)
theorem s_r_reachesR {d : Nat} {C : CD} {W : WD} {aMk : Nat → Nat} {aSu : Nat → Int32} {aMac : Nat} {aMem : Nat} {aTk : Nat → Nat → Int32} {aPaid : Nat → Int64} {aNd : Nat → Nat → Bool} {aDay : Int32} {aOw : Nat → Nat} {aMo : Nat → Nat} {aDy : Nat → Int32} {aSt : Nat → Int32} {aLe : Nat → Int32} {aWk : Nat → Int32} {aSta : Nat → Int32} {aDue : Nat → Int32} {aCm : Nat → Nat} {aCb : Nat → Nat → Nat} {aCl : Nat → Nat → Int32} {aEnt : Nat} {aMt : Nat → Nat} {aBl : Nat → Int32} {aBar : Nat} {aPr : Nat → Int32} {aLs : Nat → Nat → Int32} {aLnum : Nat → Nat → Int32} {aLm : Nat → Nat} {aSh : Nat → Nat → Int32} {aBrk : Nat} {aThr : Int32} {ot : Nat} (hot : ot < 4) {rk : Nat → Nat} (hr : ∀ a b, a < 4 → b < 4 → aNd a b = true → rk b < rk a) : ∀ r kd, kd < 4 → rk kd ≤ r → Cal (d + 2 + r) 119 [vR 9 0, vI (nI kd), vI (nI ot)] (enc C (mkR aMk aSu aMac aMem aTk aPaid aNd aDay aOw aMo aDy aSt aLe aWk aSta aDue aCm aCb aCl aEnt aMt aBl aBar aPr aLs aLnum aLm aSh aBrk aThr) W) (.inl (some (vI (bI (r_reaches aNd ot r kd))))) (enc C (mkR aMk aSu aMac aMem aTk aPaid aNd aDay aOw aMo aDy aSt aLe aWk aSta aDue aCm aCb aCl aEnt aMt aBl aBar aPr aLs aLnum aLm aSh aBrk aThr) W) := by
  intro r
  induction r with
  | zero =>
    intro kd hkd h0
    exact s_r_reaches1 (d := d) hkd hot fun k hk hn => absurd (hr kd k hkd hk hn) (by omega)
  | succ r ih =>
    intro kd hkd h0
    have h9 := s_r_reaches1 (d := d + 1 + r) (lv := r_reaches aNd ot r) (C := C) (W := W) (aMk := aMk) (aSu := aSu) (aMac := aMac) (aMem := aMem) (aTk := aTk) (aPaid := aPaid) (aNd := aNd) (aDay := aDay) (aOw := aOw) (aMo := aMo) (aDy := aDy) (aSt := aSt) (aLe := aLe) (aWk := aWk) (aSta := aSta) (aDue := aDue) (aCm := aCm) (aCb := aCb) (aCl := aCl) (aEnt := aEnt) (aMt := aMt) (aBl := aBl) (aBar := aBar) (aPr := aPr) (aLs := aLs) (aLnum := aLnum) (aLm := aLm) (aSh := aSh) (aBrk := aBrk) (aThr := aThr) hkd hot fun k hk hn => by
      have h8 := ih k hk (by have := hr kd k hkd hk hn; omega)
      rw [show d + 2 + r = d + 1 + r + 1 by omega] at h8
      exact h8
    rw [show d + 2 + (r + 1) = d + 1 + r + 2 by omega]
    exact h9
def f_r_live (aNd : Nat → Nat → Bool) (aTk : Nat → Nat → Int32) (m kd : Nat) (D : Int32) : Bool := r_live aNd aTk m D 3 kd
theorem s_r_live {d : Nat} {C : CD} {W : WD} {aMk : Nat → Nat} {aSu : Nat → Int32} {aMac : Nat} {aMem : Nat} {aTk : Nat → Nat → Int32} {aPaid : Nat → Int64} {aNd : Nat → Nat → Bool} {aDay : Int32} {aOw : Nat → Nat} {aMo : Nat → Nat} {aDy : Nat → Int32} {aSt : Nat → Int32} {aLe : Nat → Int32} {aWk : Nat → Int32} {aSta : Nat → Int32} {aDue : Nat → Int32} {aCm : Nat → Nat} {aCb : Nat → Nat → Nat} {aCl : Nat → Nat → Int32} {aEnt : Nat} {aMt : Nat → Nat} {aBl : Nat → Int32} {aBar : Nat} {aPr : Nat → Int32} {aLs : Nat → Nat → Int32} {aLnum : Nat → Nat → Int32} {aLm : Nat → Nat} {aSh : Nat → Nat → Int32} {aBrk : Nat} {aThr : Int32} {m kd : Nat} {D : Int32} (hA : Acy aNd) (hm : m < 10) (hkd : kd < 4) : Cal (d + 5) 120 [vR 9 0, vI (nI m), vI (nI kd), vI D] (enc C (mkR aMk aSu aMac aMem aTk aPaid aNd aDay aOw aMo aDy aSt aLe aWk aSta aDue aCm aCb aCl aEnt aMt aBl aBar aPr aLs aLnum aLm aSh aBrk aThr) W) (.inl (some (vI (bI (f_r_live aNd aTk m kd D))))) (enc C (mkR aMk aSu aMac aMem aTk aPaid aNd aDay aOw aMo aDy aSt aLe aWk aSta aDue aCm aCb aCl aEnt aMt aBl aBar aPr aLs aLnum aLm aSh aBrk aThr) W) := by
  obtain ⟨rk, h3, hr⟩ := hA
  exact s_r_liveR hm hr 3 kd hkd (h3 kd)
def f_r_reaches (aNd : Nat → Nat → Bool) (kd ot : Nat) : Bool := r_reaches aNd ot 3 kd
theorem s_r_reaches {d : Nat} {C : CD} {W : WD} {aMk : Nat → Nat} {aSu : Nat → Int32} {aMac : Nat} {aMem : Nat} {aTk : Nat → Nat → Int32} {aPaid : Nat → Int64} {aNd : Nat → Nat → Bool} {aDay : Int32} {aOw : Nat → Nat} {aMo : Nat → Nat} {aDy : Nat → Int32} {aSt : Nat → Int32} {aLe : Nat → Int32} {aWk : Nat → Int32} {aSta : Nat → Int32} {aDue : Nat → Int32} {aCm : Nat → Nat} {aCb : Nat → Nat → Nat} {aCl : Nat → Nat → Int32} {aEnt : Nat} {aMt : Nat → Nat} {aBl : Nat → Int32} {aBar : Nat} {aPr : Nat → Int32} {aLs : Nat → Nat → Int32} {aLnum : Nat → Nat → Int32} {aLm : Nat → Nat} {aSh : Nat → Nat → Int32} {aBrk : Nat} {aThr : Int32} {kd ot : Nat} (hA : Acy aNd) (hkd : kd < 4) (hot : ot < 4) : Cal (d + 5) 119 [vR 9 0, vI (nI kd), vI (nI ot)] (enc C (mkR aMk aSu aMac aMem aTk aPaid aNd aDay aOw aMo aDy aSt aLe aWk aSta aDue aCm aCb aCl aEnt aMt aBl aBar aPr aLs aLnum aLm aSh aBrk aThr) W) (.inl (some (vI (bI (f_r_reaches aNd kd ot))))) (enc C (mkR aMk aSu aMac aMem aTk aPaid aNd aDay aOw aMo aDy aSt aLe aWk aSta aDue aCm aCb aCl aEnt aMt aBl aBar aPr aLs aLnum aLm aSh aBrk aThr) W) := by
  obtain ⟨rk, h3, hr⟩ := hA
  exact s_r_reachesR hot hr 3 kd hkd (h3 kd)
def f_r_liveFor (aMk : Nat → Nat) (aNd : Nat → Nat → Bool) (aTk : Nat → Nat → Int32) (m mc : Nat) (D : Int32) : Bool :=
  f_r_live aNd aTk m (aMk mc) D
theorem s_r_liveFor {d : Nat} {W : WD} {aMk : Nat → Nat} {aSu : Nat → Int32} {aMac : Nat} {aMem : Nat} {aTk : Nat → Nat → Int32} {aPaid : Nat → Int64} {aNd : Nat → Nat → Bool} {aDay : Int32} {aOw : Nat → Nat} {aMo : Nat → Nat} {aDy : Nat → Int32} {aSt : Nat → Int32} {aLe : Nat → Int32} {aWk : Nat → Int32} {aSta : Nat → Int32} {aDue : Nat → Int32} {aCm : Nat → Nat} {aCb : Nat → Nat → Nat} {aCl : Nat → Nat → Int32} {aEnt : Nat} {aMt : Nat → Nat} {aBl : Nat → Int32} {aBar : Nat} {aPr : Nat → Int32} {aLs : Nat → Nat → Int32} {aLnum : Nat → Nat → Int32} {aLm : Nat → Nat} {aSh : Nat → Nat → Int32} {aBrk : Nat} {aThr : Int32} {C : CD} {m : Nat} {mc : Nat} {D : Int32} (hW : WfR aMac aMem aEnt aBar aBrk aOw aMo aMk aCm aCb aMt aLm) (hA : Acy aNd) (hm : m < 10) (hc : mc < 6) : Cal (d + 6) 121 [vR 9 0, vI (nI m), vI (nI mc), vI D] (enc C (mkR aMk aSu aMac aMem aTk aPaid aNd aDay aOw aMo aDy aSt aLe aWk aSta aDue aCm aCb aCl aEnt aMt aBl aBar aPr aLs aLnum aLm aSh aBrk aThr) W) (.inl (some (vI (bI (f_r_liveFor aMk aNd aTk m mc D))))) (enc C (mkR aMk aSu aMac aMem aTk aPaid aNd aDay aOw aMo aDy aSt aLe aWk aSta aDue aCm aCb aCl aEnt aMt aBl aBar aPr aLs aLnum aLm aSh aBrk aThr) W) := by
  obtain ⟨wMac, wMem, wEnt, wBar, wBrk, wOw, wMo, wMk, wCm, wCb, wMt, wLm⟩ := id hW
  refine Cal.mk (n := 4) rfl (Nat.le_of_ble_eq_true rfl) rfl ?_
  unfold f_r_liveFor
  refine Ev.ps 3 rfl ?_
  refine Ev.getf (v := vR 25 0) (by rfl) (by rfl) (by rfl) (rd9) rfl ?_
  refine Ev.ps 1 rfl ?_
  refine Ev.aiI (k := mc) (v := vI (nI (aMk mc))) (by rfl) (by decide) (rd25) (by omega) (by omega) rfl ?_
  refine Ev.ps 1 rfl ?_
  refine Ev.vir (as := [vI (nI m), vI (nI (aMk mc)), vI D]) (rest := []) (by rfl) (by rfl) (by rfl) (by rfl) rfl (Nat.le_of_ble_eq_true rfl) (by rfl) (by rw [rd9]; rfl) (s_r_live hA (by omega) (by have := wMk mc; omega)) ?_
  exact Ev.re rfl rfl rfl rfl (rstB rfl)
def f_r_letter (aDy : Nat → Int32) (aEnt : Nat) (aLe : Nat → Int32) (aMk : Nat → Nat) (aMo : Nat → Nat) (aNd : Nat → Nat → Bool) (aOw : Nat → Nat) (aSt : Nat → Int32) (aSta : Nat → Int32) (aSu : Nat → Int32) (aTk : Nat → Nat → Int32) (aWk : Nat → Int32) (m mc : Nat) (D S M W9 : Int32) : Int32 :=
  if f_r_liveFor aMk aNd aTk m mc D then if f_r_isBusy aDy aEnt aLe aOw aSt aSta m D S M then 109 else if f_r_isFree aDy aEnt aLe aMo aSt aSta aSu aWk mc D S M W9 then 111 else 116 else 105
theorem s_r_letter {d : Nat} {W : WD} {aMk : Nat → Nat} {aSu : Nat → Int32} {aMac : Nat} {aMem : Nat} {aTk : Nat → Nat → Int32} {aPaid : Nat → Int64} {aNd : Nat → Nat → Bool} {aDay : Int32} {aOw : Nat → Nat} {aMo : Nat → Nat} {aDy : Nat → Int32} {aSt : Nat → Int32} {aLe : Nat → Int32} {aWk : Nat → Int32} {aSta : Nat → Int32} {aDue : Nat → Int32} {aCm : Nat → Nat} {aCb : Nat → Nat → Nat} {aCl : Nat → Nat → Int32} {aEnt : Nat} {aMt : Nat → Nat} {aBl : Nat → Int32} {aBar : Nat} {aPr : Nat → Int32} {aLs : Nat → Nat → Int32} {aLnum : Nat → Nat → Int32} {aLm : Nat → Nat} {aSh : Nat → Nat → Int32} {aBrk : Nat} {aThr : Int32} {C : CD} {m : Nat} {mc : Nat} {D : Int32} {S : Int32} {M : Int32} {W9 : Int32} (hW : WfR aMac aMem aEnt aBar aBrk aOw aMo aMk aCm aCb aMt aLm) (hA : Acy aNd) (hm : m < 10) (hc : mc < 6) : Cal (d + 7) 130 [vR 9 0, vI (nI m), vI (nI mc), vI D, vI S, vI M, vI W9] (enc C (mkR aMk aSu aMac aMem aTk aPaid aNd aDay aOw aMo aDy aSt aLe aWk aSta aDue aCm aCb aCl aEnt aMt aBl aBar aPr aLs aLnum aLm aSh aBrk aThr) W) (.inl (some (vI (f_r_letter aDy aEnt aLe aMk aMo aNd aOw aSt aSta aSu aTk aWk m mc D S M W9)))) (enc C (mkR aMk aSu aMac aMem aTk aPaid aNd aDay aOw aMo aDy aSt aLe aWk aSta aDue aCm aCb aCl aEnt aMt aBl aBar aPr aLs aLnum aLm aSh aBrk aThr) W) := by
  obtain ⟨wMac, wMem, wEnt, wBar, wBrk, wOw, wMo, wMk, wCm, wCb, wMt, wLm⟩ := id hW
  refine Cal.mk (n := 7) rfl (Nat.le_of_ble_eq_true rfl) rfl ?_
  unfold f_r_letter
  refine Ev.ps 4 rfl ?_
  refine Ev.vir (as := [vI (nI m), vI (nI mc), vI D]) (rest := []) (by rfl) (by rfl) (by rfl) (by rfl) rfl (Nat.le_of_ble_eq_true rfl) (by rfl) (by rw [rd9]; rfl) (s_r_liveFor hW hA (by omega) (by omega)) ?_
  refine Ev.ifbn (by rfl) (by rfl) (fun c1 => ?_) (fun c1 => ?_)
  · rw [if_pos c1]
    refine Ev.ps 5 rfl ?_
    refine Ev.vir (as := [vI (nI m), vI D, vI S, vI M]) (rest := []) (by rfl) (by rfl) (by rfl) (by rfl) rfl (Nat.le_of_ble_eq_true rfl) (by rfl) (by rw [rd9]; rfl) (s_r_isBusy hW (by omega)) ?_
    refine Ev.ifbe (by rfl) (by rfl) (fun c2 => ?_) (fun c2 => ?_)
    · rw [if_pos c2]
      refine Ev.ps 2 rfl ?_
      exact Ev.re rfl rfl rfl rfl rfl
    · rw [if_neg c2]
      refine Ev.ps 6 rfl ?_
      refine Ev.vir (as := [vI (nI mc), vI D, vI S, vI M, vI W9]) (rest := []) (by rfl) (by rfl) (by rfl) (by rfl) rfl (Nat.le_of_ble_eq_true rfl) (by rfl) (by rw [rd9]; rfl) (s_r_isFree hW (by omega)) ?_
      refine Ev.ifbn (by rfl) (by rfl) (fun c3 => ?_) (fun c3 => ?_)
      · rw [if_pos c3]
        refine Ev.ps 1 rfl ?_
        exact Ev.re rfl rfl rfl rfl rfl
      · rw [if_neg c3]
        refine Ev.ps 2 rfl ?_
        exact Ev.re rfl rfl rfl rfl rfl
  · rw [if_neg c1]
    refine Ev.ps 2 rfl ?_
    exact Ev.re rfl rfl rfl rfl rfl
def f_r_lacks (aDay : Int32) (aMac : Nat) (aMem : Nat) (p0 p1 D S M W9 : Int32) : Int32 :=
  if f_r_in D aDay (aDay + 6) then
    if S < 0 then
      if f_r_isMember aMem p0 then if f_r_isMachine aMac p1 then 2 else 1 else 1
    else
      if f_r_in M 1 240 then
        if 480 - M < S then
          if f_r_isMember aMem p0 then if f_r_isMachine aMac p1 then 2 else 1 else 1
        else
          if f_r_isWork W9 then if f_r_isMember aMem p0 then if f_r_isMachine aMac p1 then 0 else 1 else 1 else if f_r_isMember aMem p0 then if f_r_isMachine aMac p1 then 2 else 1 else 1
      else
        if f_r_isMember aMem p0 then if f_r_isMachine aMac p1 then 2 else 1 else 1
  else
    if f_r_isMember aMem p0 then if f_r_isMachine aMac p1 then 2 else 1 else 1
theorem s_r_lacks {d : Nat} {W : WD} {aMk : Nat → Nat} {aSu : Nat → Int32} {aMac : Nat} {aMem : Nat} {aTk : Nat → Nat → Int32} {aPaid : Nat → Int64} {aNd : Nat → Nat → Bool} {aDay : Int32} {aOw : Nat → Nat} {aMo : Nat → Nat} {aDy : Nat → Int32} {aSt : Nat → Int32} {aLe : Nat → Int32} {aWk : Nat → Int32} {aSta : Nat → Int32} {aDue : Nat → Int32} {aCm : Nat → Nat} {aCb : Nat → Nat → Nat} {aCl : Nat → Nat → Int32} {aEnt : Nat} {aMt : Nat → Nat} {aBl : Nat → Int32} {aBar : Nat} {aPr : Nat → Int32} {aLs : Nat → Nat → Int32} {aLnum : Nat → Nat → Int32} {aLm : Nat → Nat} {aSh : Nat → Nat → Int32} {aBrk : Nat} {aThr : Int32} {C : CD} {p0 : Int32} {p1 : Int32} {D : Int32} {S : Int32} {M : Int32} {W9 : Int32} (hW : WfR aMac aMem aEnt aBar aBrk aOw aMo aMk aCm aCb aMt aLm) : Cal (d + 2) 133 [vR 9 0, vI p0, vI p1, vI D, vI S, vI M, vI W9] (enc C (mkR aMk aSu aMac aMem aTk aPaid aNd aDay aOw aMo aDy aSt aLe aWk aSta aDue aCm aCb aCl aEnt aMt aBl aBar aPr aLs aLnum aLm aSh aBrk aThr) W) (.inl (some (vI (f_r_lacks aDay aMac aMem p0 p1 D S M W9)))) (enc C (mkR aMk aSu aMac aMem aTk aPaid aNd aDay aOw aMo aDy aSt aLe aWk aSta aDue aCm aCb aCl aEnt aMt aBl aBar aPr aLs aLnum aLm aSh aBrk aThr) W) := by
  obtain ⟨wMac, wMem, wEnt, wBar, wBrk, wOw, wMo, wMk, wCm, wCb, wMt, wLm⟩ := id hW
  refine Cal.mk (n := 8) rfl (Nat.le_of_ble_eq_true rfl) rfl ?_
  unfold f_r_lacks
  refine Ev.ps 2 rfl ?_
  refine Ev.getf (v := vI aDay) (by rfl) (by rfl) (by rfl) (rd9) rfl ?_
  refine Ev.ps 1 rfl ?_
  refine Ev.getf (v := vI aDay) (by rfl) (by rfl) (by rfl) (rd9) rfl ?_
  refine Ev.ps 2 rfl ?_
  refine Ev.sta (as := [vI D, vI aDay, vI (aDay + 6)]) (rest := []) (by rfl) (by rfl) (by rfl) (by rfl) rfl (Nat.le_of_ble_eq_true rfl) (s_r_in ) ?_
  refine Ev.ifbe (by rfl) (by rfl) (fun c1 => ?_) (fun c1 => ?_)
  · rw [if_pos c1]
    refine Ev.ps 1 rfl ?_
    refine Ev.zlt (by rfl) (by rfl) (fun (c2 : S < 0) => ?_) (fun (c2 : ¬ S < 0) => ?_)
    · rw [if_pos c2]
      refine Ev.ps 4 rfl ?_
      refine Ev.vir (as := [vI p0]) (rest := []) (by rfl) (by rfl) (by rfl) (by rfl) rfl (Nat.le_of_ble_eq_true rfl) (by rfl) (by rw [rd9]; rfl) (s_r_isMember ) ?_
      refine Ev.ifbe (by rfl) (by rfl) (fun c3 => ?_) (fun c3 => ?_)
      · rw [if_pos c3]
        have q_p0 := isMember_nat wMem c3
        generalize nP p0 = k_p0 at q_p0 ⊢
        obtain ⟨rfl, hk_p0⟩ := q_p0
        refine Ev.ps 2 rfl ?_
        refine Ev.vir (as := [vI p1]) (rest := []) (by rfl) (by rfl) (by rfl) (by rfl) rfl (Nat.le_of_ble_eq_true rfl) (by rfl) (by rw [rd9]; rfl) (s_r_isMachine ) ?_
        refine Ev.ifbn (by rfl) (by rfl) (fun c4 => ?_) (fun c4 => ?_)
        · rw [if_pos c4]
          have q_p1 := isMachine_nat wMac c4
          generalize nP p1 = k_p1 at q_p1 ⊢
          obtain ⟨rfl, hk_p1⟩ := q_p1
          refine Ev.ps 1 rfl ?_
          refine Ev.ifi (by rfl) (by rfl) (fun _ => ?_) (fun z => by exact absurd z (by decide))
          refine Ev.ps 1 rfl ?_
          exact Ev.re rfl rfl rfl rfl rfl
        · rw [if_neg c4]
          refine Ev.ps 2 rfl ?_
          exact Ev.re rfl rfl rfl rfl rfl
      · rw [if_neg c3]
        refine Ev.ps 2 rfl ?_
        exact Ev.re rfl rfl rfl rfl rfl
    · rw [if_neg c2]
      refine Ev.ps 3 rfl ?_
      refine Ev.sta (as := [vI M, vI 1, vI 240]) (rest := []) (by rfl) (by rfl) (by rfl) (by rfl) rfl (Nat.le_of_ble_eq_true rfl) (s_r_in ) ?_
      refine Ev.ifbe (by rfl) (by rfl) (fun c5 => ?_) (fun c5 => ?_)
      · rw [if_pos c5]
        refine Ev.ps 4 rfl ?_
        refine Ev.igt (by rfl) (by rfl) (fun (c6 : 480 - M < S) => ?_) (fun (c6 : ¬ 480 - M < S) => ?_)
        · rw [if_pos c6]
          refine Ev.ps 4 rfl ?_
          refine Ev.vir (as := [vI p0]) (rest := []) (by rfl) (by rfl) (by rfl) (by rfl) rfl (Nat.le_of_ble_eq_true rfl) (by rfl) (by rw [rd9]; rfl) (s_r_isMember ) ?_
          refine Ev.ifbe (by rfl) (by rfl) (fun c7 => ?_) (fun c7 => ?_)
          · rw [if_pos c7]
            have q_p0 := isMember_nat wMem c7
            generalize nP p0 = k_p0 at q_p0 ⊢
            obtain ⟨rfl, hk_p0⟩ := q_p0
            refine Ev.ps 2 rfl ?_
            refine Ev.vir (as := [vI p1]) (rest := []) (by rfl) (by rfl) (by rfl) (by rfl) rfl (Nat.le_of_ble_eq_true rfl) (by rfl) (by rw [rd9]; rfl) (s_r_isMachine ) ?_
            refine Ev.ifbn (by rfl) (by rfl) (fun c8 => ?_) (fun c8 => ?_)
            · rw [if_pos c8]
              have q_p1 := isMachine_nat wMac c8
              generalize nP p1 = k_p1 at q_p1 ⊢
              obtain ⟨rfl, hk_p1⟩ := q_p1
              refine Ev.ps 1 rfl ?_
              refine Ev.ifi (by rfl) (by rfl) (fun _ => ?_) (fun z => by exact absurd z (by decide))
              refine Ev.ps 1 rfl ?_
              exact Ev.re rfl rfl rfl rfl rfl
            · rw [if_neg c8]
              refine Ev.ps 2 rfl ?_
              exact Ev.re rfl rfl rfl rfl rfl
          · rw [if_neg c7]
            refine Ev.ps 2 rfl ?_
            exact Ev.re rfl rfl rfl rfl rfl
        · rw [if_neg c6]
          refine Ev.ps 1 rfl ?_
          refine Ev.sta (as := [vI W9]) (rest := []) (by rfl) (by rfl) (by rfl) (by rfl) rfl (Nat.le_of_ble_eq_true rfl) (s_r_isWork ) ?_
          refine Ev.ifbe (by rfl) (by rfl) (fun c9 => ?_) (fun c9 => ?_)
          · rw [if_pos c9]
            refine Ev.ps 5 rfl ?_
            refine Ev.vir (as := [vI p0]) (rest := []) (by rfl) (by rfl) (by rfl) (by rfl) rfl (Nat.le_of_ble_eq_true rfl) (by rfl) (by rw [rd9]; rfl) (s_r_isMember ) ?_
            refine Ev.ifbe (by rfl) (by rfl) (fun c10 => ?_) (fun c10 => ?_)
            · rw [if_pos c10]
              have q_p0 := isMember_nat wMem c10
              generalize nP p0 = k_p0 at q_p0 ⊢
              obtain ⟨rfl, hk_p0⟩ := q_p0
              refine Ev.ps 2 rfl ?_
              refine Ev.vir (as := [vI p1]) (rest := []) (by rfl) (by rfl) (by rfl) (by rfl) rfl (Nat.le_of_ble_eq_true rfl) (by rfl) (by rw [rd9]; rfl) (s_r_isMachine ) ?_
              refine Ev.ifbn (by rfl) (by rfl) (fun c11 => ?_) (fun c11 => ?_)
              · rw [if_pos c11]
                have q_p1 := isMachine_nat wMac c11
                generalize nP p1 = k_p1 at q_p1 ⊢
                obtain ⟨rfl, hk_p1⟩ := q_p1
                refine Ev.ps 1 rfl ?_
                refine Ev.ifi (by rfl) (by rfl) (fun z => by exact absurd z (by decide)) (fun _ => ?_)
                refine Ev.ps 2 rfl ?_
                exact Ev.re rfl rfl rfl rfl rfl
              · rw [if_neg c11]
                refine Ev.ps 2 rfl ?_
                exact Ev.re rfl rfl rfl rfl rfl
            · rw [if_neg c10]
              refine Ev.ps 2 rfl ?_
              exact Ev.re rfl rfl rfl rfl rfl
          · rw [if_neg c9]
            refine Ev.ps 4 rfl ?_
            refine Ev.vir (as := [vI p0]) (rest := []) (by rfl) (by rfl) (by rfl) (by rfl) rfl (Nat.le_of_ble_eq_true rfl) (by rfl) (by rw [rd9]; rfl) (s_r_isMember ) ?_
            refine Ev.ifbe (by rfl) (by rfl) (fun c12 => ?_) (fun c12 => ?_)
            · rw [if_pos c12]
              have q_p0 := isMember_nat wMem c12
              generalize nP p0 = k_p0 at q_p0 ⊢
              obtain ⟨rfl, hk_p0⟩ := q_p0
              refine Ev.ps 2 rfl ?_
              refine Ev.vir (as := [vI p1]) (rest := []) (by rfl) (by rfl) (by rfl) (by rfl) rfl (Nat.le_of_ble_eq_true rfl) (by rfl) (by rw [rd9]; rfl) (s_r_isMachine ) ?_
              refine Ev.ifbn (by rfl) (by rfl) (fun c13 => ?_) (fun c13 => ?_)
              · rw [if_pos c13]
                have q_p1 := isMachine_nat wMac c13
                generalize nP p1 = k_p1 at q_p1 ⊢
                obtain ⟨rfl, hk_p1⟩ := q_p1
                refine Ev.ps 1 rfl ?_
                refine Ev.ifi (by rfl) (by rfl) (fun _ => ?_) (fun z => by exact absurd z (by decide))
                refine Ev.ps 1 rfl ?_
                exact Ev.re rfl rfl rfl rfl rfl
              · rw [if_neg c13]
                refine Ev.ps 2 rfl ?_
                exact Ev.re rfl rfl rfl rfl rfl
            · rw [if_neg c12]
              refine Ev.ps 2 rfl ?_
              exact Ev.re rfl rfl rfl rfl rfl
      · rw [if_neg c5]
        refine Ev.ps 4 rfl ?_
        refine Ev.vir (as := [vI p0]) (rest := []) (by rfl) (by rfl) (by rfl) (by rfl) rfl (Nat.le_of_ble_eq_true rfl) (by rfl) (by rw [rd9]; rfl) (s_r_isMember ) ?_
        refine Ev.ifbe (by rfl) (by rfl) (fun c14 => ?_) (fun c14 => ?_)
        · rw [if_pos c14]
          have q_p0 := isMember_nat wMem c14
          generalize nP p0 = k_p0 at q_p0 ⊢
          obtain ⟨rfl, hk_p0⟩ := q_p0
          refine Ev.ps 2 rfl ?_
          refine Ev.vir (as := [vI p1]) (rest := []) (by rfl) (by rfl) (by rfl) (by rfl) rfl (Nat.le_of_ble_eq_true rfl) (by rfl) (by rw [rd9]; rfl) (s_r_isMachine ) ?_
          refine Ev.ifbn (by rfl) (by rfl) (fun c15 => ?_) (fun c15 => ?_)
          · rw [if_pos c15]
            have q_p1 := isMachine_nat wMac c15
            generalize nP p1 = k_p1 at q_p1 ⊢
            obtain ⟨rfl, hk_p1⟩ := q_p1
            refine Ev.ps 1 rfl ?_
            refine Ev.ifi (by rfl) (by rfl) (fun _ => ?_) (fun z => by exact absurd z (by decide))
            refine Ev.ps 1 rfl ?_
            exact Ev.re rfl rfl rfl rfl rfl
          · rw [if_neg c15]
            refine Ev.ps 2 rfl ?_
            exact Ev.re rfl rfl rfl rfl rfl
        · rw [if_neg c14]
          refine Ev.ps 2 rfl ?_
          exact Ev.re rfl rfl rfl rfl rfl
  · rw [if_neg c1]
    refine Ev.ps 4 rfl ?_
    refine Ev.vir (as := [vI p0]) (rest := []) (by rfl) (by rfl) (by rfl) (by rfl) rfl (Nat.le_of_ble_eq_true rfl) (by rfl) (by rw [rd9]; rfl) (s_r_isMember ) ?_
    refine Ev.ifbe (by rfl) (by rfl) (fun c16 => ?_) (fun c16 => ?_)
    · rw [if_pos c16]
      have q_p0 := isMember_nat wMem c16
      generalize nP p0 = k_p0 at q_p0 ⊢
      obtain ⟨rfl, hk_p0⟩ := q_p0
      refine Ev.ps 2 rfl ?_
      refine Ev.vir (as := [vI p1]) (rest := []) (by rfl) (by rfl) (by rfl) (by rfl) rfl (Nat.le_of_ble_eq_true rfl) (by rfl) (by rw [rd9]; rfl) (s_r_isMachine ) ?_
      refine Ev.ifbn (by rfl) (by rfl) (fun c17 => ?_) (fun c17 => ?_)
      · rw [if_pos c17]
        have q_p1 := isMachine_nat wMac c17
        generalize nP p1 = k_p1 at q_p1 ⊢
        obtain ⟨rfl, hk_p1⟩ := q_p1
        refine Ev.ps 1 rfl ?_
        refine Ev.ifi (by rfl) (by rfl) (fun _ => ?_) (fun z => by exact absurd z (by decide))
        refine Ev.ps 1 rfl ?_
        exact Ev.re rfl rfl rfl rfl rfl
      · rw [if_neg c17]
        refine Ev.ps 2 rfl ?_
        exact Ev.re rfl rfl rfl rfl rfl
    · rw [if_neg c16]
      refine Ev.ps 2 rfl ?_
      exact Ev.re rfl rfl rfl rfl rfl
def r_free_L20 (aCb : Nat → Nat → Nat) (aCl : Nat → Nat → Int32) (aSta : Nat → Int32) (b : Nat) (j9 : Nat) : Nat → Nat → Int32 → (Int32)
  | 0, j20, lf =>
    lf
  | k20 + 1, j20, lf =>
    if aSta j9 = 98 then
      if aCb j9 j20 = b then r_free_L20 aCb aCl aSta b j9 k20 (j20 + 1) (lf - ((aCl j9 j20) + 3)) else r_free_L20 aCb aCl aSta b j9 k20 (j20 + 1) (lf - 0)
    else
      if aSta j9 = 100 then
        if aCb j9 j20 = b then r_free_L20 aCb aCl aSta b j9 k20 (j20 + 1) (lf - ((aCl j9 j20) + 3)) else r_free_L20 aCb aCl aSta b j9 k20 (j20 + 1) (lf - 0)
      else
        lf
def r_free_L9 (aCb : Nat → Nat → Nat) (aCl : Nat → Nat → Int32) (aCm : Nat → Nat) (aSta : Nat → Int32) (b : Nat) : Nat → Nat → Int32 → (Int32)
  | 0, j9, left =>
    left
  | k9 + 1, j9, left =>
    r_free_L9 aCb aCl aCm aSta b k9 (j9 + 1) (r_free_L20 aCb aCl aSta b j9 (aCm j9) 0 left)
def f_r_free (aBl : Nat → Int32) (aCb : Nat → Nat → Nat) (aCl : Nat → Nat → Int32) (aCm : Nat → Nat) (aEnt : Nat) (aSta : Nat → Int32) (b : Nat) : Int32 :=
  r_free_L9 aCb aCl aCm aSta b aEnt 0 (aBl b)
theorem s_r_free {d : Nat} {W : WD} {aMk : Nat → Nat} {aSu : Nat → Int32} {aMac : Nat} {aMem : Nat} {aTk : Nat → Nat → Int32} {aPaid : Nat → Int64} {aNd : Nat → Nat → Bool} {aDay : Int32} {aOw : Nat → Nat} {aMo : Nat → Nat} {aDy : Nat → Int32} {aSt : Nat → Int32} {aLe : Nat → Int32} {aWk : Nat → Int32} {aSta : Nat → Int32} {aDue : Nat → Int32} {aCm : Nat → Nat} {aCb : Nat → Nat → Nat} {aCl : Nat → Nat → Int32} {aEnt : Nat} {aMt : Nat → Nat} {aBl : Nat → Int32} {aBar : Nat} {aPr : Nat → Int32} {aLs : Nat → Nat → Int32} {aLnum : Nat → Nat → Int32} {aLm : Nat → Nat} {aSh : Nat → Nat → Int32} {aBrk : Nat} {aThr : Int32} {C : CD} {b : Nat} (hW : WfR aMac aMem aEnt aBar aBrk aOw aMo aMk aCm aCb aMt aLm) (hb : b < 30) : Cal (d + 0) 155 [vR 9 0, vI (nI b)] (enc C (mkR aMk aSu aMac aMem aTk aPaid aNd aDay aOw aMo aDy aSt aLe aWk aSta aDue aCm aCb aCl aEnt aMt aBl aBar aPr aLs aLnum aLm aSh aBrk aThr) W) (.inl (some (vI (f_r_free aBl aCb aCl aCm aEnt aSta b)))) (enc C (mkR aMk aSu aMac aMem aTk aPaid aNd aDay aOw aMo aDy aSt aLe aWk aSta aDue aCm aCb aCl aEnt aMt aBl aBar aPr aLs aLnum aLm aSh aBrk aThr) W) := by
  obtain ⟨wMac, wMem, wEnt, wBar, wBrk, wOw, wMo, wMk, wCm, wCb, wMt, wLm⟩ := id hW
  refine Cal.mk (n := 5) rfl (Nat.le_of_ble_eq_true rfl) rfl ?_
  unfold f_r_free
  refine Ev.ps 1 rfl ?_
  refine Ev.getf (v := vR 46 0) (by rfl) (by rfl) (by rfl) (rd9) rfl ?_
  refine Ev.ps 1 rfl ?_
  refine Ev.aiI (k := b) (v := vI (aBl b)) (by rfl) (by decide) (rd46) (by omega) (by omega) rfl ?_
  refine Ev.ps 3 rfl ?_
  have L9 : ∀ (k9 j9 : Nat) (left : Int32) (o9_4 : Option MV), j9 + k9 = aEnt → Da o9_4 → Ev (d + 0) (155, 9, [some (vR 9 0), some (vI (nI b)), some (vI left), some (vI (nI j9)), o9_4], []) (enc C (mkR aMk aSu aMac aMem aTk aPaid aNd aDay aOw aMo aDy aSt aLe aWk aSta aDue aCm aCb aCl aEnt aMt aBl aBar aPr aLs aLnum aLm aSh aBrk aThr) W) ((.inl (some (vI (r_free_L9 aCb aCl aCm aSta b k9 j9 left)))), enc C (mkR aMk aSu aMac aMem aTk aPaid aNd aDay aOw aMo aDy aSt aLe aWk aSta aDue aCm aCb aCl aEnt aMt aBl aBar aPr aLs aLnum aLm aSh aBrk aThr) W) := by
    intro k9
    induction k9 with
    | zero =>
      intro j9 left o9_4 hj9 ho9_4
      rw [r_free_L9]
      refine Ev.ps 2 rfl ?_
      refine Ev.getf (v := vI (nI aEnt)) (by rfl) (by rfl) (by rfl) (rd9) rfl ?_
      refine Ev.igeN (a := j9) (b := aEnt) (by omega) (by omega) (by rfl) (by rfl) (fun (c1 : j9 < aEnt) => ?_) (fun (c1 : ¬ j9 < aEnt) => ?_)
      · exfalso; omega
      · refine Ev.ps 1 rfl ?_
        exact Ev.re rfl rfl rfl rfl rfl
    | succ k9 ih9 =>
      intro j9 left o9_4 hj9 ho9_4
      rw [r_free_L9]
      refine Ev.ps 2 rfl ?_
      refine Ev.getf (v := vI (nI aEnt)) (by rfl) (by rfl) (by rfl) (rd9) rfl ?_
      refine Ev.igeN (a := j9) (b := aEnt) (by omega) (by omega) (by rfl) (by rfl) (fun (c2 : j9 < aEnt) => ?_) (fun (c2 : ¬ j9 < aEnt) => ?_)
      · refine Ev.ps 2 rfl ?_
        have L20 : ∀ {x : Re × Hp}, ∀ (k20 j20 : Nat) (lf : Int32), j20 + k20 = aCm j9 → (∀ (e20_4 : Option MV), Da e20_4 → Ev (d + 0) (155, 90, [some (vR 9 0), some (vI (nI b)), some (vI (r_free_L20 aCb aCl aSta b j9 k20 j20 lf)), some (vI (nI j9)), e20_4], []) (enc C (mkR aMk aSu aMac aMem aTk aPaid aNd aDay aOw aMo aDy aSt aLe aWk aSta aDue aCm aCb aCl aEnt aMt aBl aBar aPr aLs aLnum aLm aSh aBrk aThr) W) x) → Ev (d + 0) (155, 20, [some (vR 9 0), some (vI (nI b)), some (vI lf), some (vI (nI j9)), some (vI (nI j20))], []) (enc C (mkR aMk aSu aMac aMem aTk aPaid aNd aDay aOw aMo aDy aSt aLe aWk aSta aDue aCm aCb aCl aEnt aMt aBl aBar aPr aLs aLnum aLm aSh aBrk aThr) W) x := by
          intro x k20
          induction k20 with
          | zero =>
            intro j20 lf hj20 K20
            rw [r_free_L20] at K20
            refine Ev.ps 2 rfl ?_
            refine Ev.getf (v := vR 40 0) (by rfl) (by rfl) (by rfl) (rd9) rfl ?_
            refine Ev.ps 1 rfl ?_
            refine Ev.aiI (k := j9) (v := vI (nI (aCm j9))) (by rfl) (by decide) (rd40) (by omega) (by omega) rfl ?_
            refine Ev.igeN (a := j20) (b := (aCm j9)) (by have := wCm j9; omega) (by have := wCm j9; omega) (by rfl) (by rfl) (fun (c3 : j20 < aCm j9) => ?_) (fun (c3 : ¬ j20 < aCm j9) => ?_)
            · exfalso; omega
            · exact K20 _ Da.i
          | succ k20 ih20 =>
            intro j20 lf hj20 K20
            rw [r_free_L20] at K20
            refine Ev.ps 2 rfl ?_
            refine Ev.getf (v := vR 40 0) (by rfl) (by rfl) (by rfl) (rd9) rfl ?_
            refine Ev.ps 1 rfl ?_
            refine Ev.aiI (k := j9) (v := vI (nI (aCm j9))) (by rfl) (by decide) (rd40) (by omega) (by omega) rfl ?_
            refine Ev.igeN (a := j20) (b := (aCm j9)) (by have := wCm j9; omega) (by have := wCm j9; omega) (by rfl) (by rfl) (fun (c4 : j20 < aCm j9) => ?_) (fun (c4 : ¬ j20 < aCm j9) => ?_)
            · refine Ev.ps 1 rfl ?_
              refine Ev.getf (v := vR 38 0) (by rfl) (by rfl) (by rfl) (rd9) rfl ?_
              refine Ev.ps 1 rfl ?_
              refine Ev.aiC (k := j9) (v := vI (aSta j9)) (by rfl) (by decide) (rd38) (by omega) (by omega) rfl ?_
              refine Ev.ps 1 rfl ?_
              refine Ev.ieq (by rfl) (by rfl) (fun (c5 : aSta j9 = 98) => ?_) (fun (c5 : ¬ aSta j9 = 98) => ?_)
              · rw [if_pos c5] at K20
                refine Ev.ps 2 rfl ?_
                refine Ev.getf (v := vR 41 0) (by rfl) (by rfl) (by rfl) (rd9) rfl ?_
                refine Ev.ps 1 rfl ?_
                refine Ev.aiA (k := j9) (v := vR 42 j9) (by rfl) (by decide) (rd41) (by omega) (by omega) rfl ?_
                refine Ev.ps 1 rfl ?_
                refine Ev.aiI (k := j20) (v := vI (nI (aCb j9 j20))) (by rfl) (by decide) (rd42 (by omega)) (by omega) (by have := wCm j9; omega) rfl ?_
                refine Ev.ps 1 rfl ?_
                refine Ev.ineN (a := (aCb j9 j20)) (b := b) (by have := wCb j9 j20; omega) (by omega) (by rfl) (by rfl) (fun (c6 : aCb j9 j20 = b) => ?_) (fun (c6 : ¬ aCb j9 j20 = b) => ?_)
                · rw [if_pos c6] at K20
                  refine Ev.ps 1 rfl ?_
                  refine Ev.getf (v := vR 43 0) (by rfl) (by rfl) (by rfl) (rd9) rfl ?_
                  refine Ev.ps 1 rfl ?_
                  refine Ev.aiA (k := j9) (v := vR 44 j9) (by rfl) (by decide) (rd43) (by omega) (by omega) rfl ?_
                  refine Ev.ps 1 rfl ?_
                  refine Ev.aiI (k := j20) (v := vI (aCl j9 j20)) (by rfl) (by decide) (rd44 (by omega)) (by omega) (by have := wCm j9; omega) rfl ?_
                  refine Ev.ps 7 rfl ?_
                  have h9 := ih20 (j20 + 1) (lf - ((aCl j9 j20) + 3)) (by show j20 + 1 + k20 = aCm j9; omega) K20
                  rw [← nI_1] at h9
                  exact h9
                · rw [if_neg c6] at K20
                  refine Ev.ps 5 rfl ?_
                  have h9 := ih20 (j20 + 1) (lf - 0) (by show j20 + 1 + k20 = aCm j9; omega) K20
                  rw [← nI_1] at h9
                  exact h9
              · rw [if_neg c5] at K20
                refine Ev.ps 1 rfl ?_
                refine Ev.getf (v := vR 38 0) (by rfl) (by rfl) (by rfl) (rd9) rfl ?_
                refine Ev.ps 1 rfl ?_
                refine Ev.aiC (k := j9) (v := vI (aSta j9)) (by rfl) (by decide) (rd38) (by omega) (by omega) rfl ?_
                refine Ev.ps 1 rfl ?_
                refine Ev.ine (by rfl) (by rfl) (fun (c7 : aSta j9 = 100) => ?_) (fun (c7 : ¬ aSta j9 = 100) => ?_)
                · rw [if_pos c7] at K20
                  refine Ev.ps 2 rfl ?_
                  refine Ev.getf (v := vR 41 0) (by rfl) (by rfl) (by rfl) (rd9) rfl ?_
                  refine Ev.ps 1 rfl ?_
                  refine Ev.aiA (k := j9) (v := vR 42 j9) (by rfl) (by decide) (rd41) (by omega) (by omega) rfl ?_
                  refine Ev.ps 1 rfl ?_
                  refine Ev.aiI (k := j20) (v := vI (nI (aCb j9 j20))) (by rfl) (by decide) (rd42 (by omega)) (by omega) (by have := wCm j9; omega) rfl ?_
                  refine Ev.ps 1 rfl ?_
                  refine Ev.ineN (a := (aCb j9 j20)) (b := b) (by have := wCb j9 j20; omega) (by omega) (by rfl) (by rfl) (fun (c8 : aCb j9 j20 = b) => ?_) (fun (c8 : ¬ aCb j9 j20 = b) => ?_)
                  · rw [if_pos c8] at K20
                    refine Ev.ps 1 rfl ?_
                    refine Ev.getf (v := vR 43 0) (by rfl) (by rfl) (by rfl) (rd9) rfl ?_
                    refine Ev.ps 1 rfl ?_
                    refine Ev.aiA (k := j9) (v := vR 44 j9) (by rfl) (by decide) (rd43) (by omega) (by omega) rfl ?_
                    refine Ev.ps 1 rfl ?_
                    refine Ev.aiI (k := j20) (v := vI (aCl j9 j20)) (by rfl) (by decide) (rd44 (by omega)) (by omega) (by have := wCm j9; omega) rfl ?_
                    refine Ev.ps 7 rfl ?_
                    have h9 := ih20 (j20 + 1) (lf - ((aCl j9 j20) + 3)) (by show j20 + 1 + k20 = aCm j9; omega) K20
                    rw [← nI_1] at h9
                    exact h9
                  · rw [if_neg c8] at K20
                    refine Ev.ps 5 rfl ?_
                    have h9 := ih20 (j20 + 1) (lf - 0) (by show j20 + 1 + k20 = aCm j9; omega) K20
                    rw [← nI_1] at h9
                    exact h9
                · rw [if_neg c7] at K20
                  exact K20 _ Da.i
            · exfalso; omega
        refine L20 (aCm j9) 0 left (by show 0 + aCm j9 = aCm j9; omega) ?_
        intro e20_4 he20_4
        refine Ev.ps 2 rfl ?_
        have h9 := ih9 (j9 + 1) (r_free_L20 aCb aCl aSta b j9 (aCm j9) 0 left) e20_4 (by show j9 + 1 + k9 = aEnt; omega) he20_4
        rw [← nI_1] at h9
        exact h9
      · exfalso; omega
  exact L9 aEnt 0 (aBl b) none (by show 0 + aEnt = aEnt; omega) Da.n
def f_r_may (aDay : Int32) (aMac : Nat) (p0 D F : Int32) : Bool × Int32 :=
  if f_r_isMachine aMac p0 then if f_r_in D F (aDay + 6) then (true, 0) else (false, 2) else (false, 1)
theorem s_r_may {d : Nat} {W : WD} {aMk : Nat → Nat} {aSu : Nat → Int32} {aMac : Nat} {aMem : Nat} {aTk : Nat → Nat → Int32} {aPaid : Nat → Int64} {aNd : Nat → Nat → Bool} {aDay : Int32} {aOw : Nat → Nat} {aMo : Nat → Nat} {aDy : Nat → Int32} {aSt : Nat → Int32} {aLe : Nat → Int32} {aWk : Nat → Int32} {aSta : Nat → Int32} {aDue : Nat → Int32} {aCm : Nat → Nat} {aCb : Nat → Nat → Nat} {aCl : Nat → Nat → Int32} {aEnt : Nat} {aMt : Nat → Nat} {aBl : Nat → Int32} {aBar : Nat} {aPr : Nat → Int32} {aLs : Nat → Nat → Int32} {aLnum : Nat → Nat → Int32} {aLm : Nat → Nat} {aSh : Nat → Nat → Int32} {aBrk : Nat} {aThr : Int32} {C : CD} {p0 : Int32} {D : Int32} {F : Int32} (hW : WfR aMac aMem aEnt aBar aBrk aOw aMo aMk aCm aCb aMt aLm) : Cal (d + 2) 144 [vR 9 0, vI p0, vI D, vI F] (enc C (mkR aMk aSu aMac aMem aTk aPaid aNd aDay aOw aMo aDy aSt aLe aWk aSta aDue aCm aCb aCl aEnt aMt aBl aBar aPr aLs aLnum aLm aSh aBrk aThr) W) (.inl (some (vI (bI ((f_r_may aDay aMac p0 D F).1))))) (enc C (mkR aMk aSu aMac aMem aTk aPaid aNd aDay aOw aMo aDy aSt aLe aWk aSta aDue aCm aCb aCl aEnt aMt aBl aBar aPr aLs aLnum aLm aSh aBrk ((f_r_may aDay aMac p0 D F).2)) W) := by
  obtain ⟨wMac, wMem, wEnt, wBar, wBrk, wOw, wMo, wMk, wCm, wCb, wMt, wLm⟩ := id hW
  refine Cal.mk (n := 4) rfl (Nat.le_of_ble_eq_true rfl) rfl ?_
  unfold f_r_may
  refine Ev.ps 3 rfl ?_
  refine Ev.vir (as := [vI p0]) (rest := [vR 9 0]) (by rfl) (by rfl) (by rfl) (by rfl) rfl (Nat.le_of_ble_eq_true rfl) (by rfl) (by rw [rd9]; rfl) (s_r_isMachine ) ?_
  refine Ev.ifbn (by rfl) (by rfl) (fun c1 => ?_) (fun c1 => ?_)
  · rw [if_pos c1]
    have q_p0 := isMachine_nat wMac c1
    generalize nP p0 = k_p0 at q_p0 ⊢
    obtain ⟨rfl, hk_p0⟩ := q_p0
    refine Ev.ps 3 rfl ?_
    refine Ev.getf (v := vI aDay) (by rfl) (by rfl) (by rfl) (rd9) rfl ?_
    refine Ev.ps 2 rfl ?_
    refine Ev.sta (as := [vI D, vI F, vI (aDay + 6)]) (rest := [vR 9 0]) (by rfl) (by rfl) (by rfl) (by rfl) rfl (Nat.le_of_ble_eq_true rfl) (s_r_in ) ?_
    refine Ev.ifbn (by rfl) (by rfl) (fun c2 => ?_) (fun c2 => ?_)
    · rw [if_pos c2]
      refine Ev.ps 1 rfl ?_
      refine Ev.pf (by rfl) (by rfl) (by rfl) (Nat.le_of_ble_eq_true rfl) rfl (Or.inl (by rfl)) (rd9) (show _ = enc C (mkR aMk aSu aMac aMem aTk aPaid aNd aDay aOw aMo aDy aSt aLe aWk aSta aDue aCm aCb aCl aEnt aMt aBl aBar aPr aLs aLnum aLm aSh aBrk 0) W from wr9_Thr (v := 0)) ?_
      refine Ev.ps 1 rfl ?_
      refine Ev.getf (v := vI 0) (by rfl) (by rfl) (by rfl) (rd9) rfl ?_
      refine Ev.ifi (by rfl) (by rfl) (fun z => by exact absurd z (by decide)) (fun _ => ?_)
      refine Ev.ps 2 rfl ?_
      exact Ev.re rfl rfl rfl rfl rfl
    · rw [if_neg c2]
      refine Ev.ps 2 rfl ?_
      refine Ev.pf (by rfl) (by rfl) (by rfl) (Nat.le_of_ble_eq_true rfl) rfl (Or.inl (by rfl)) (rd9) (show _ = enc C (mkR aMk aSu aMac aMem aTk aPaid aNd aDay aOw aMo aDy aSt aLe aWk aSta aDue aCm aCb aCl aEnt aMt aBl aBar aPr aLs aLnum aLm aSh aBrk 2) W from wr9_Thr (v := 2)) ?_
      refine Ev.ps 1 rfl ?_
      refine Ev.getf (v := vI 2) (by rfl) (by rfl) (by rfl) (rd9) rfl ?_
      refine Ev.ifi (by rfl) (by rfl) (fun _ => ?_) (fun z => by exact absurd z (by decide))
      refine Ev.ps 1 rfl ?_
      exact Ev.re rfl rfl rfl rfl rfl
  · rw [if_neg c1]
    refine Ev.ps 2 rfl ?_
    refine Ev.pf (by rfl) (by rfl) (by rfl) (Nat.le_of_ble_eq_true rfl) rfl (Or.inl (by rfl)) (rd9) (show _ = enc C (mkR aMk aSu aMac aMem aTk aPaid aNd aDay aOw aMo aDy aSt aLe aWk aSta aDue aCm aCb aCl aEnt aMt aBl aBar aPr aLs aLnum aLm aSh aBrk 1) W from wr9_Thr (v := 1)) ?_
    refine Ev.ps 1 rfl ?_
    refine Ev.getf (v := vI 1) (by rfl) (by rfl) (by rfl) (rd9) rfl ?_
    refine Ev.ifi (by rfl) (by rfl) (fun _ => ?_) (fun z => by exact absurd z (by decide))
    refine Ev.ps 1 rfl ?_
    exact Ev.re rfl rfl rfl rfl rfl
def r_owed_L11 (aDue : Nat → Int32) (aOw : Nat → Nat) (m : Nat) : Nat → Nat → Int64 → (Int64)
  | 0, j11, sum =>
    sum
  | k11 + 1, j11, sum =>
    if aOw j11 = m then r_owed_L11 aDue aOw m k11 (j11 + 1) (sum + ((aDue j11).toInt64)) else r_owed_L11 aDue aOw m k11 (j11 + 1) (sum + 0)
def r_owed_L55 (aSh : Nat → Nat → Int32) (m : Nat) : Nat → Nat → Int64 → (Int64)
  | 0, j55, sum =>
    sum
  | k55 + 1, j55, sum =>
    r_owed_L55 aSh m k55 (j55 + 1) (sum + ((aSh j55 m).toInt64))
def f_r_owed (aBrk : Nat) (aDue : Nat → Int32) (aEnt : Nat) (aOw : Nat → Nat) (aPaid : Nat → Int64) (aSh : Nat → Nat → Int32) (m : Nat) : Int64 :=
  r_owed_L55 aSh m aBrk 0 (r_owed_L11 aDue aOw m aEnt 0 (-(aPaid m)))
theorem s_r_owed {d : Nat} {W : WD} {aMk : Nat → Nat} {aSu : Nat → Int32} {aMac : Nat} {aMem : Nat} {aTk : Nat → Nat → Int32} {aPaid : Nat → Int64} {aNd : Nat → Nat → Bool} {aDay : Int32} {aOw : Nat → Nat} {aMo : Nat → Nat} {aDy : Nat → Int32} {aSt : Nat → Int32} {aLe : Nat → Int32} {aWk : Nat → Int32} {aSta : Nat → Int32} {aDue : Nat → Int32} {aCm : Nat → Nat} {aCb : Nat → Nat → Nat} {aCl : Nat → Nat → Int32} {aEnt : Nat} {aMt : Nat → Nat} {aBl : Nat → Int32} {aBar : Nat} {aPr : Nat → Int32} {aLs : Nat → Nat → Int32} {aLnum : Nat → Nat → Int32} {aLm : Nat → Nat} {aSh : Nat → Nat → Int32} {aBrk : Nat} {aThr : Int32} {C : CD} {m : Nat} (hW : WfR aMac aMem aEnt aBar aBrk aOw aMo aMk aCm aCb aMt aLm) (hm : m < 10) : Cal (d + 0) 170 [vR 9 0, vI (nI m)] (enc C (mkR aMk aSu aMac aMem aTk aPaid aNd aDay aOw aMo aDy aSt aLe aWk aSta aDue aCm aCb aCl aEnt aMt aBl aBar aPr aLs aLnum aLm aSh aBrk aThr) W) (.inl (some (vL (f_r_owed aBrk aDue aEnt aOw aPaid aSh m)))) (enc C (mkR aMk aSu aMac aMem aTk aPaid aNd aDay aOw aMo aDy aSt aLe aWk aSta aDue aCm aCb aCl aEnt aMt aBl aBar aPr aLs aLnum aLm aSh aBrk aThr) W) := by
  obtain ⟨wMac, wMem, wEnt, wBar, wBrk, wOw, wMo, wMk, wCm, wCb, wMt, wLm⟩ := id hW
  refine Cal.mk (n := 5) rfl (Nat.le_of_ble_eq_true rfl) rfl ?_
  unfold f_r_owed
  refine Ev.ps 1 rfl ?_
  refine Ev.getf (v := vR 29 0) (by rfl) (by rfl) (by rfl) (rd9) rfl ?_
  refine Ev.ps 1 rfl ?_
  refine Ev.aiJ (k := m) (v := vL (aPaid m)) (by rfl) (by decide) (rd29) (by omega) (by omega) rfl ?_
  refine Ev.ps 4 rfl ?_
  have L11 : ∀ {x : Re × Hp}, ∀ (k11 j11 : Nat) (sum : Int64), j11 + k11 = aEnt → (∀ (e11_4 : Option MV), Da e11_4 → Ev (d + 0) (170, 52, [some (vR 9 0), some (vI (nI m)), some (vL (r_owed_L11 aDue aOw m k11 j11 sum)), none, e11_4], []) (enc C (mkR aMk aSu aMac aMem aTk aPaid aNd aDay aOw aMo aDy aSt aLe aWk aSta aDue aCm aCb aCl aEnt aMt aBl aBar aPr aLs aLnum aLm aSh aBrk aThr) W) x) → Ev (d + 0) (170, 11, [some (vR 9 0), some (vI (nI m)), some (vL sum), none, some (vI (nI j11))], []) (enc C (mkR aMk aSu aMac aMem aTk aPaid aNd aDay aOw aMo aDy aSt aLe aWk aSta aDue aCm aCb aCl aEnt aMt aBl aBar aPr aLs aLnum aLm aSh aBrk aThr) W) x := by
    intro x k11
    induction k11 with
    | zero =>
      intro j11 sum hj11 K11
      rw [r_owed_L11] at K11
      refine Ev.ps 2 rfl ?_
      refine Ev.getf (v := vI (nI aEnt)) (by rfl) (by rfl) (by rfl) (rd9) rfl ?_
      refine Ev.igeN (a := j11) (b := aEnt) (by omega) (by omega) (by rfl) (by rfl) (fun (c1 : j11 < aEnt) => ?_) (fun (c1 : ¬ j11 < aEnt) => ?_)
      · exfalso; omega
      · exact K11 _ Da.i
    | succ k11 ih11 =>
      intro j11 sum hj11 K11
      rw [r_owed_L11] at K11
      refine Ev.ps 2 rfl ?_
      refine Ev.getf (v := vI (nI aEnt)) (by rfl) (by rfl) (by rfl) (rd9) rfl ?_
      refine Ev.igeN (a := j11) (b := aEnt) (by omega) (by omega) (by rfl) (by rfl) (fun (c2 : j11 < aEnt) => ?_) (fun (c2 : ¬ j11 < aEnt) => ?_)
      · refine Ev.ps 2 rfl ?_
        refine Ev.getf (v := vR 32 0) (by rfl) (by rfl) (by rfl) (rd9) rfl ?_
        refine Ev.ps 1 rfl ?_
        refine Ev.aiI (k := j11) (v := vI (nI (aOw j11))) (by rfl) (by decide) (rd32) (by omega) (by omega) rfl ?_
        refine Ev.ps 1 rfl ?_
        refine Ev.ineN (a := (aOw j11)) (b := m) (by have := wOw j11; omega) (by omega) (by rfl) (by rfl) (fun (c3 : aOw j11 = m) => ?_) (fun (c3 : ¬ aOw j11 = m) => ?_)
        · rw [if_pos c3] at K11
          refine Ev.ps 1 rfl ?_
          refine Ev.getf (v := vR 39 0) (by rfl) (by rfl) (by rfl) (rd9) rfl ?_
          refine Ev.ps 1 rfl ?_
          refine Ev.aiI (k := j11) (v := vI (aDue j11)) (by rfl) (by decide) (rd39) (by omega) (by omega) rfl ?_
          refine Ev.ps 6 rfl ?_
          have h9 := ih11 (j11 + 1) (sum + ((aDue j11).toInt64)) (by show j11 + 1 + k11 = aEnt; omega) K11
          rw [← nI_1] at h9
          exact h9
        · rw [if_neg c3] at K11
          refine Ev.ps 5 rfl ?_
          have h9 := ih11 (j11 + 1) (sum + 0) (by show j11 + 1 + k11 = aEnt; omega) K11
          rw [← nI_1] at h9
          exact h9
      · exfalso; omega
  refine L11 aEnt 0 (-(aPaid m)) (by show 0 + aEnt = aEnt; omega) ?_
  intro e11_4 he11_4
  refine Ev.ps 2 rfl ?_
  have L55 : ∀ (k55 j55 : Nat) (sum : Int64), j55 + k55 = aBrk → Ev (d + 0) (170, 55, [some (vR 9 0), some (vI (nI m)), some (vL sum), none, some (vI (nI j55))], []) (enc C (mkR aMk aSu aMac aMem aTk aPaid aNd aDay aOw aMo aDy aSt aLe aWk aSta aDue aCm aCb aCl aEnt aMt aBl aBar aPr aLs aLnum aLm aSh aBrk aThr) W) ((.inl (some (vL (r_owed_L55 aSh m k55 j55 sum)))), enc C (mkR aMk aSu aMac aMem aTk aPaid aNd aDay aOw aMo aDy aSt aLe aWk aSta aDue aCm aCb aCl aEnt aMt aBl aBar aPr aLs aLnum aLm aSh aBrk aThr) W) := by
    intro k55
    induction k55 with
    | zero =>
      intro j55 sum hj55
      rw [r_owed_L55]
      refine Ev.ps 2 rfl ?_
      refine Ev.getf (v := vI (nI aBrk)) (by rfl) (by rfl) (by rfl) (rd9) rfl ?_
      refine Ev.igeN (a := j55) (b := aBrk) (by omega) (by omega) (by rfl) (by rfl) (fun (c4 : j55 < aBrk) => ?_) (fun (c4 : ¬ j55 < aBrk) => ?_)
      · exfalso; omega
      · refine Ev.ps 1 rfl ?_
        exact Ev.re rfl rfl rfl rfl rfl
    | succ k55 ih55 =>
      intro j55 sum hj55
      rw [r_owed_L55]
      refine Ev.ps 2 rfl ?_
      refine Ev.getf (v := vI (nI aBrk)) (by rfl) (by rfl) (by rfl) (rd9) rfl ?_
      refine Ev.igeN (a := j55) (b := aBrk) (by omega) (by omega) (by rfl) (by rfl) (fun (c5 : j55 < aBrk) => ?_) (fun (c5 : ¬ j55 < aBrk) => ?_)
      · refine Ev.ps 2 rfl ?_
        refine Ev.getf (v := vR 53 0) (by rfl) (by rfl) (by rfl) (rd9) rfl ?_
        refine Ev.ps 1 rfl ?_
        refine Ev.aiA (k := j55) (v := vR 54 j55) (by rfl) (by decide) (rd53) (by omega) (by omega) rfl ?_
        refine Ev.ps 1 rfl ?_
        refine Ev.aiI (k := m) (v := vI (aSh j55 m)) (by rfl) (by decide) (rd54 (by omega)) (by omega) (by omega) rfl ?_
        refine Ev.ps 5 rfl ?_
        have h9 := ih55 (j55 + 1) (sum + ((aSh j55 m).toInt64)) (by show j55 + 1 + k55 = aBrk; omega)
        rw [← nI_1] at h9
        exact h9
      · exfalso; omega
  exact L55 aBrk 0 (r_owed_L11 aDue aOw m aEnt 0 (-(aPaid m))) (by show 0 + aBrk = aBrk; omega)
def r_takings_L9 (aPaid : Nat → Int64)  : Nat → Nat → Int64 → (Int64 × Int32)
  | 0, j9, sum =>
    (sum, 0)
  | k9 + 1, j9, sum =>
    r_takings_L9 aPaid  k9 (j9 + 1) (sum + (aPaid j9))
def f_r_takings (aMem : Nat) (aPaid : Nat → Int64)  : Int64 × Int32 :=
  r_takings_L9 aPaid  aMem 0 0
theorem s_r_takings {d : Nat} {W : WD} {aMk : Nat → Nat} {aSu : Nat → Int32} {aMac : Nat} {aMem : Nat} {aTk : Nat → Nat → Int32} {aPaid : Nat → Int64} {aNd : Nat → Nat → Bool} {aDay : Int32} {aOw : Nat → Nat} {aMo : Nat → Nat} {aDy : Nat → Int32} {aSt : Nat → Int32} {aLe : Nat → Int32} {aWk : Nat → Int32} {aSta : Nat → Int32} {aDue : Nat → Int32} {aCm : Nat → Nat} {aCb : Nat → Nat → Nat} {aCl : Nat → Nat → Int32} {aEnt : Nat} {aMt : Nat → Nat} {aBl : Nat → Int32} {aBar : Nat} {aPr : Nat → Int32} {aLs : Nat → Nat → Int32} {aLnum : Nat → Nat → Int32} {aLm : Nat → Nat} {aSh : Nat → Nat → Int32} {aBrk : Nat} {aThr : Int32} {C : CD}  (hW : WfR aMac aMem aEnt aBar aBrk aOw aMo aMk aCm aCb aMt aLm) : Cal (d + 0) 175 [vR 9 0] (enc C (mkR aMk aSu aMac aMem aTk aPaid aNd aDay aOw aMo aDy aSt aLe aWk aSta aDue aCm aCb aCl aEnt aMt aBl aBar aPr aLs aLnum aLm aSh aBrk aThr) W) (.inl (some (vL ((f_r_takings aMem aPaid).1)))) (enc C (mkR aMk aSu aMac aMem aTk aPaid aNd aDay aOw aMo aDy aSt aLe aWk aSta aDue aCm aCb aCl aEnt aMt aBl aBar aPr aLs aLnum aLm aSh aBrk ((f_r_takings aMem aPaid).2)) W) := by
  obtain ⟨wMac, wMem, wEnt, wBar, wBrk, wOw, wMo, wMk, wCm, wCb, wMt, wLm⟩ := id hW
  refine Cal.mk (n := 4) rfl (Nat.le_of_ble_eq_true rfl) rfl ?_
  unfold f_r_takings
  refine Ev.ps 2 rfl ?_
  refine Ev.pf (by rfl) (by rfl) (by rfl) (Nat.le_of_ble_eq_true rfl) rfl (Or.inl (by rfl)) (rd9) (show _ = enc C (mkR aMk aSu aMac aMem aTk aPaid aNd aDay aOw aMo aDy aSt aLe aWk aSta aDue aCm aCb aCl aEnt aMt aBl aBar aPr aLs aLnum aLm aSh aBrk 0) W from wr9_Thr (v := 0)) ?_
  refine Ev.ps 4 rfl ?_
  have L9 : ∀ (k9 j9 : Nat) (sum : Int64), j9 + k9 = aMem → Ev (d + 0) (175, 9, [some (vR 9 0), some (vL sum), none, some (vI (nI j9))], []) (enc C (mkR aMk aSu aMac aMem aTk aPaid aNd aDay aOw aMo aDy aSt aLe aWk aSta aDue aCm aCb aCl aEnt aMt aBl aBar aPr aLs aLnum aLm aSh aBrk 0) W) ((.inl (some (vL ((r_takings_L9 aPaid  k9 j9 sum).1)))), enc C (mkR aMk aSu aMac aMem aTk aPaid aNd aDay aOw aMo aDy aSt aLe aWk aSta aDue aCm aCb aCl aEnt aMt aBl aBar aPr aLs aLnum aLm aSh aBrk ((r_takings_L9 aPaid  k9 j9 sum).2)) W) := by
    intro k9
    induction k9 with
    | zero =>
      intro j9 sum hj9
      rw [r_takings_L9]
      refine Ev.ps 2 rfl ?_
      refine Ev.getf (v := vI (nI aMem)) (by rfl) (by rfl) (by rfl) (rd9) rfl ?_
      refine Ev.igeN (a := j9) (b := aMem) (by omega) (by omega) (by rfl) (by rfl) (fun (c1 : j9 < aMem) => ?_) (fun (c1 : ¬ j9 < aMem) => ?_)
      · exfalso; omega
      · refine Ev.ps 1 rfl ?_
        exact Ev.re rfl rfl rfl rfl rfl
    | succ k9 ih9 =>
      intro j9 sum hj9
      rw [r_takings_L9]
      refine Ev.ps 2 rfl ?_
      refine Ev.getf (v := vI (nI aMem)) (by rfl) (by rfl) (by rfl) (rd9) rfl ?_
      refine Ev.igeN (a := j9) (b := aMem) (by omega) (by omega) (by rfl) (by rfl) (fun (c2 : j9 < aMem) => ?_) (fun (c2 : ¬ j9 < aMem) => ?_)
      · refine Ev.ps 2 rfl ?_
        refine Ev.getf (v := vR 29 0) (by rfl) (by rfl) (by rfl) (rd9) rfl ?_
        refine Ev.ps 1 rfl ?_
        refine Ev.aiJ (k := j9) (v := vL (aPaid j9)) (by rfl) (by decide) (rd29) (by omega) (by omega) rfl ?_
        refine Ev.ps 4 rfl ?_
        have h9 := ih9 (j9 + 1) (sum + (aPaid j9)) (by show j9 + 1 + k9 = aMem; omega)
        rw [← nI_1] at h9
        exact h9
      · exfalso; omega
  exact L9 aMem 0 0 (by show 0 + aMem = aMem; omega)
