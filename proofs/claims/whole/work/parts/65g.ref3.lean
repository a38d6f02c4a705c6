/-! the reference: calls, on (written by gref3.py) -/
def f_r_freeOf (aBar : Nat) (aBl : Nat → Int32) (aCb : Nat → Nat → Nat) (aCl : Nat → Nat → Int32) (aCm : Nat → Nat) (aEnt : Nat) (aSta : Nat → Int32) (p0 : Int32) : Int32 × Int32 :=
  if f_r_in p0 0 ((nI aBar) - 1) then (f_r_free aBl aCb aCl aCm aEnt aSta (nP p0), 0) else (0, 1)
theorem s_r_freeOf {d : Nat} {W : WD} {aMk : Nat → Nat} {aSu : Nat → Int32} {aMac : Nat} {aMem : Nat} {aTk : Nat → Nat → Int32} {aPaid : Nat → Int64} {aNd : Nat → Nat → Bool} {aDay : Int32} {aOw : Nat → Nat} {aMo : Nat → Nat} {aDy : Nat → Int32} {aSt : Nat → Int32} {aLe : Nat → Int32} {aWk : Nat → Int32} {aSta : Nat → Int32} {aDue : Nat → Int32} {aCm : Nat → Nat} {aCb : Nat → Nat → Nat} {aCl : Nat → Nat → Int32} {aEnt : Nat} {aMt : Nat → Nat} {aBl : Nat → Int32} {aBar : Nat} {aPr : Nat → Int32} {aLs : Nat → Nat → Int32} {aLnum : Nat → Nat → Int32} {aLm : Nat → Nat} {aSh : Nat → Nat → Int32} {aBrk : Nat} {aThr : Int32} {C : CD} {p0 : Int32} (hW : WfR aMac aMem aEnt aBar aBrk aOw aMo aMk aCm aCb aMt aLm) : Cal (d + 1) 157 [vR 9 0, vI p0] (enc C (mkR aMk aSu aMac aMem aTk aPaid aNd aDay aOw aMo aDy aSt aLe aWk aSta aDue aCm aCb aCl aEnt aMt aBl aBar aPr aLs aLnum aLm aSh aBrk aThr) W) (.inl (some (vI ((f_r_freeOf aBar aBl aCb aCl aCm aEnt aSta p0).1)))) (enc C (mkR aMk aSu aMac aMem aTk aPaid aNd aDay aOw aMo aDy aSt aLe aWk aSta aDue aCm aCb aCl aEnt aMt aBl aBar aPr aLs aLnum aLm aSh aBrk ((f_r_freeOf aBar aBl aCb aCl aCm aEnt aSta p0).2)) W) := by
  obtain ⟨wMac, wMem, wEnt, wBar, wBrk, wOw, wMo, wMk, wCm, wCb, wMt, wLm⟩ := id hW
  refine Cal.mk (n := 2) rfl (Nat.le_of_ble_eq_true rfl) rfl ?_
  unfold f_r_freeOf
  refine Ev.ps 4 rfl ?_
  refine Ev.getf (v := vI (nI aBar)) (by rfl) (by rfl) (by rfl) (rd9) rfl ?_
  refine Ev.ps 2 rfl ?_
  refine Ev.sta (as := [vI p0, vI 0, vI ((nI aBar) - 1)]) (rest := [vR 9 0]) (by rfl) (by rfl) (by rfl) (by rfl) rfl (Nat.le_of_ble_eq_true rfl) (s_r_in ) ?_
  refine Ev.ifbe (by rfl) (by rfl) (fun c1 => ?_) (fun c1 => ?_)
  · rw [if_pos c1]
    have q_p0 := isBar_nat wBar c1
    generalize nP p0 = k_p0 at q_p0 ⊢
    obtain ⟨rfl, hk_p0⟩ := q_p0
    refine Ev.ps 2 rfl ?_
    refine Ev.pf (by rfl) (by rfl) (by rfl) (Nat.le_of_ble_eq_true rfl) rfl (Or.inl (by rfl)) (rd9) (show _ = enc C (mkR aMk aSu aMac aMem aTk aPaid aNd aDay aOw aMo aDy aSt aLe aWk aSta aDue aCm aCb aCl aEnt aMt aBl aBar aPr aLs aLnum aLm aSh aBrk 0) W from wr9_Thr (v := 0)) ?_
    refine Ev.ps 1 rfl ?_
    refine Ev.getf (v := vI 0) (by rfl) (by rfl) (by rfl) (rd9) rfl ?_
    refine Ev.ifi (by rfl) (by rfl) (fun _ => ?_) (fun z => by exact absurd z (by decide))
    refine Ev.ps 2 rfl ?_
    refine Ev.vir (as := [vI (nI k_p0)]) (rest := []) (by rfl) (by rfl) (by rfl) (by rfl) rfl (Nat.le_of_ble_eq_true rfl) (by rfl) (by rw [rd9]; rfl) (s_r_free hW (by have := hk_p0; omega)) ?_
    exact Ev.re rfl rfl rfl rfl rfl
  · rw [if_neg c1]
    refine Ev.ps 1 rfl ?_
    refine Ev.pf (by rfl) (by rfl) (by rfl) (Nat.le_of_ble_eq_true rfl) rfl (Or.inl (by rfl)) (rd9) (show _ = enc C (mkR aMk aSu aMac aMem aTk aPaid aNd aDay aOw aMo aDy aSt aLe aWk aSta aDue aCm aCb aCl aEnt aMt aBl aBar aPr aLs aLnum aLm aSh aBrk 1) W from wr9_Thr (v := 1)) ?_
    refine Ev.ps 1 rfl ?_
    refine Ev.getf (v := vI 1) (by rfl) (by rfl) (by rfl) (rd9) rfl ?_
    refine Ev.ifi (by rfl) (by rfl) (fun z => by exact absurd z (by decide)) (fun _ => ?_)
    refine Ev.ps 2 rfl ?_
    exact Ev.re rfl rfl rfl rfl rfl
def f_r_freeByCuts (aBar : Nat) (aBl : Nat → Int32) (aCb : Nat → Nat → Nat) (aCl : Nat → Nat → Int32) (aCm : Nat → Nat) (aEnt : Nat) (aSta : Nat → Int32) (p0 : Int32) : Int32 × Int32 :=
  ((f_r_freeOf aBar aBl aCb aCl aCm aEnt aSta p0).1, (f_r_freeOf aBar aBl aCb aCl aCm aEnt aSta p0).2)
theorem s_r_freeByCuts {d : Nat} {W : WD} {aMk : Nat → Nat} {aSu : Nat → Int32} {aMac : Nat} {aMem : Nat} {aTk : Nat → Nat → Int32} {aPaid : Nat → Int64} {aNd : Nat → Nat → Bool} {aDay : Int32} {aOw : Nat → Nat} {aMo : Nat → Nat} {aDy : Nat → Int32} {aSt : Nat → Int32} {aLe : Nat → Int32} {aWk : Nat → Int32} {aSta : Nat → Int32} {aDue : Nat → Int32} {aCm : Nat → Nat} {aCb : Nat → Nat → Nat} {aCl : Nat → Nat → Int32} {aEnt : Nat} {aMt : Nat → Nat} {aBl : Nat → Int32} {aBar : Nat} {aPr : Nat → Int32} {aLs : Nat → Nat → Int32} {aLnum : Nat → Nat → Int32} {aLm : Nat → Nat} {aSh : Nat → Nat → Int32} {aBrk : Nat} {aThr : Int32} {C : CD} {p0 : Int32} (hW : WfR aMac aMem aEnt aBar aBrk aOw aMo aMk aCm aCb aMt aLm) : Cal (d + 2) 158 [vR 9 0, vI p0] (enc C (mkR aMk aSu aMac aMem aTk aPaid aNd aDay aOw aMo aDy aSt aLe aWk aSta aDue aCm aCb aCl aEnt aMt aBl aBar aPr aLs aLnum aLm aSh aBrk aThr) W) (.inl (some (vI ((f_r_freeByCuts aBar aBl aCb aCl aCm aEnt aSta p0).1)))) (enc C (mkR aMk aSu aMac aMem aTk aPaid aNd aDay aOw aMo aDy aSt aLe aWk aSta aDue aCm aCb aCl aEnt aMt aBl aBar aPr aLs aLnum aLm aSh aBrk ((f_r_freeByCuts aBar aBl aCb aCl aCm aEnt aSta p0).2)) W) := by
  obtain ⟨wMac, wMem, wEnt, wBar, wBrk, wOw, wMo, wMk, wCm, wCb, wMt, wLm⟩ := id hW
  refine Cal.mk (n := 2) rfl (Nat.le_of_ble_eq_true rfl) rfl ?_
  unfold f_r_freeByCuts
  refine Ev.ps 2 rfl ?_
  refine Ev.vir (as := [vI p0]) (rest := []) (by rfl) (by rfl) (by rfl) (by rfl) rfl (Nat.le_of_ble_eq_true rfl) (by rfl) (by rw [rd9]; rfl) (s_r_freeOf hW) ?_
  exact Ev.re rfl rfl rfl rfl rfl
def f_r_setPrice (aPr : Nat → Int32) (p0 X : Int32) : Int32 × (Nat → Int32) × Int32 :=
  if f_r_in p0 0 2 then if f_r_in X 0 99 then (aPr (nP p0), fup aPr (nP p0) X, 0) else (0, aPr, 1) else (0, aPr, 1)
theorem s_r_setPrice {d : Nat} {W : WD} {aMk : Nat → Nat} {aSu : Nat → Int32} {aMac : Nat} {aMem : Nat} {aTk : Nat → Nat → Int32} {aPaid : Nat → Int64} {aNd : Nat → Nat → Bool} {aDay : Int32} {aOw : Nat → Nat} {aMo : Nat → Nat} {aDy : Nat → Int32} {aSt : Nat → Int32} {aLe : Nat → Int32} {aWk : Nat → Int32} {aSta : Nat → Int32} {aDue : Nat → Int32} {aCm : Nat → Nat} {aCb : Nat → Nat → Nat} {aCl : Nat → Nat → Int32} {aEnt : Nat} {aMt : Nat → Nat} {aBl : Nat → Int32} {aBar : Nat} {aPr : Nat → Int32} {aLs : Nat → Nat → Int32} {aLnum : Nat → Nat → Int32} {aLm : Nat → Nat} {aSh : Nat → Nat → Int32} {aBrk : Nat} {aThr : Int32} {C : CD} {p0 : Int32} {X : Int32} (hW : WfR aMac aMem aEnt aBar aBrk aOw aMo aMk aCm aCb aMt aLm) : Cal (d + 1) 159 [vR 9 0, vI p0, vI X] (enc C (mkR aMk aSu aMac aMem aTk aPaid aNd aDay aOw aMo aDy aSt aLe aWk aSta aDue aCm aCb aCl aEnt aMt aBl aBar aPr aLs aLnum aLm aSh aBrk aThr) W) (.inl (some (vI ((f_r_setPrice aPr p0 X).1)))) (enc C (mkR aMk aSu aMac aMem aTk aPaid aNd aDay aOw aMo aDy aSt aLe aWk aSta aDue aCm aCb aCl aEnt aMt aBl aBar ((f_r_setPrice aPr p0 X).2.1) aLs aLnum aLm aSh aBrk ((f_r_setPrice aPr p0 X).2.2)) W) := by
  obtain ⟨wMac, wMem, wEnt, wBar, wBrk, wOw, wMo, wMk, wCm, wCb, wMt, wLm⟩ := id hW
  refine Cal.mk (n := 4) rfl (Nat.le_of_ble_eq_true rfl) rfl ?_
  unfold f_r_setPrice
  refine Ev.ps 4 rfl ?_
  refine Ev.sta (as := [vI p0, vI 0, vI 2]) (rest := [vR 9 0]) (by rfl) (by rfl) (by rfl) (by rfl) rfl (Nat.le_of_ble_eq_true rfl) (s_r_in ) ?_
  refine Ev.ifbe (by rfl) (by rfl) (fun c1 => ?_) (fun c1 => ?_)
  · rw [if_pos c1]
    have q_p0 := isMat_nat c1
    generalize nP p0 = k_p0 at q_p0 ⊢
    obtain ⟨rfl, hk_p0⟩ := q_p0
    refine Ev.ps 3 rfl ?_
    refine Ev.sta (as := [vI X, vI 0, vI 99]) (rest := [vR 9 0]) (by rfl) (by rfl) (by rfl) (by rfl) rfl (Nat.le_of_ble_eq_true rfl) (s_r_in ) ?_
    refine Ev.ifbe (by rfl) (by rfl) (fun c2 => ?_) (fun c2 => ?_)
    · rw [if_pos c2]
      refine Ev.ps 2 rfl ?_
      refine Ev.pf (by rfl) (by rfl) (by rfl) (Nat.le_of_ble_eq_true rfl) rfl (Or.inl (by rfl)) (rd9) (show _ = enc C (mkR aMk aSu aMac aMem aTk aPaid aNd aDay aOw aMo aDy aSt aLe aWk aSta aDue aCm aCb aCl aEnt aMt aBl aBar aPr aLs aLnum aLm aSh aBrk 0) W from wr9_Thr (v := 0)) ?_
      refine Ev.ps 1 rfl ?_
      refine Ev.getf (v := vI 0) (by rfl) (by rfl) (by rfl) (rd9) rfl ?_
      refine Ev.ifi (by rfl) (by rfl) (fun _ => ?_) (fun z => by exact absurd z (by decide))
      refine Ev.ps 1 rfl ?_
      refine Ev.getf (v := vR 47 0) (by rfl) (by rfl) (by rfl) (rd9) rfl ?_
      refine Ev.ps 1 rfl ?_
      refine Ev.aiI (k := k_p0) (v := vI (aPr k_p0)) (by rfl) (by decide) (rd47) (by omega) (by have := hk_p0; omega) rfl ?_
      refine Ev.ps 2 rfl ?_
      refine Ev.getf (v := vR 47 0) (by rfl) (by rfl) (by rfl) (rd9) rfl ?_
      refine Ev.ps 2 rfl ?_
      refine Ev.asI (k := k_p0) (by rfl) (by rfl) (rd47) (by omega) (by have := hk_p0; omega) (show _ = enc C (mkR aMk aSu aMac aMem aTk aPaid aNd aDay aOw aMo aDy aSt aLe aWk aSta aDue aCm aCb aCl aEnt aMt aBl aBar (fup aPr k_p0 X) aLs aLnum aLm aSh aBrk 0) W from wr47 (i := k_p0) (v := X)) ?_
      refine Ev.ps 1 rfl ?_
      exact Ev.re rfl rfl rfl rfl rfl
    · rw [if_neg c2]
      refine Ev.ps 1 rfl ?_
      refine Ev.pf (by rfl) (by rfl) (by rfl) (Nat.le_of_ble_eq_true rfl) rfl (Or.inl (by rfl)) (rd9) (show _ = enc C (mkR aMk aSu aMac aMem aTk aPaid aNd aDay aOw aMo aDy aSt aLe aWk aSta aDue aCm aCb aCl aEnt aMt aBl aBar aPr aLs aLnum aLm aSh aBrk 1) W from wr9_Thr (v := 1)) ?_
      refine Ev.ps 1 rfl ?_
      refine Ev.getf (v := vI 1) (by rfl) (by rfl) (by rfl) (rd9) rfl ?_
      refine Ev.ifi (by rfl) (by rfl) (fun z => by exact absurd z (by decide)) (fun _ => ?_)
      refine Ev.ps 1 rfl ?_
      exact Ev.re rfl rfl rfl rfl rfl
  · rw [if_neg c1]
    refine Ev.ps 1 rfl ?_
    refine Ev.pf (by rfl) (by rfl) (by rfl) (Nat.le_of_ble_eq_true rfl) rfl (Or.inl (by rfl)) (rd9) (show _ = enc C (mkR aMk aSu aMac aMem aTk aPaid aNd aDay aOw aMo aDy aSt aLe aWk aSta aDue aCm aCb aCl aEnt aMt aBl aBar aPr aLs aLnum aLm aSh aBrk 1) W from wr9_Thr (v := 1)) ?_
    refine Ev.ps 1 rfl ?_
    refine Ev.getf (v := vI 1) (by rfl) (by rfl) (by rfl) (rd9) rfl ?_
    refine Ev.ifi (by rfl) (by rfl) (fun z => by exact absurd z (by decide)) (fun _ => ?_)
    refine Ev.ps 1 rfl ?_
    exact Ev.re rfl rfl rfl rfl rfl
def f_r_setRate (aLm : Nat → Nat) (aLnum : Nat → Nat → Int32) (p0 X : Int32) : Int32 × (Nat → Nat → Int32) × (Nat → Nat) × Int32 :=
  if f_r_isKind p0 then if f_r_in X 0 99 then (nI (aLm (nP p0)), fup aLnum (nP p0) (fup (aLnum (nP p0)) 0 X), fup aLm (nP p0) 1, 0) else (0, aLnum, aLm, 1) else (0, aLnum, aLm, 1)
theorem s_r_setRate {d : Nat} {W : WD} {aMk : Nat → Nat} {aSu : Nat → Int32} {aMac : Nat} {aMem : Nat} {aTk : Nat → Nat → Int32} {aPaid : Nat → Int64} {aNd : Nat → Nat → Bool} {aDay : Int32} {aOw : Nat → Nat} {aMo : Nat → Nat} {aDy : Nat → Int32} {aSt : Nat → Int32} {aLe : Nat → Int32} {aWk : Nat → Int32} {aSta : Nat → Int32} {aDue : Nat → Int32} {aCm : Nat → Nat} {aCb : Nat → Nat → Nat} {aCl : Nat → Nat → Int32} {aEnt : Nat} {aMt : Nat → Nat} {aBl : Nat → Int32} {aBar : Nat} {aPr : Nat → Int32} {aLs : Nat → Nat → Int32} {aLnum : Nat → Nat → Int32} {aLm : Nat → Nat} {aSh : Nat → Nat → Int32} {aBrk : Nat} {aThr : Int32} {C : CD} {p0 : Int32} {X : Int32} (hW : WfR aMac aMem aEnt aBar aBrk aOw aMo aMk aCm aCb aMt aLm) : Cal (d + 2) 161 [vR 9 0, vI p0, vI X] (enc C (mkR aMk aSu aMac aMem aTk aPaid aNd aDay aOw aMo aDy aSt aLe aWk aSta aDue aCm aCb aCl aEnt aMt aBl aBar aPr aLs aLnum aLm aSh aBrk aThr) W) (.inl (some (vI ((f_r_setRate aLm aLnum p0 X).1)))) (enc C (mkR aMk aSu aMac aMem aTk aPaid aNd aDay aOw aMo aDy aSt aLe aWk aSta aDue aCm aCb aCl aEnt aMt aBl aBar aPr aLs ((f_r_setRate aLm aLnum p0 X).2.1) ((f_r_setRate aLm aLnum p0 X).2.2.1) aSh aBrk ((f_r_setRate aLm aLnum p0 X).2.2.2)) W) := by
  obtain ⟨wMac, wMem, wEnt, wBar, wBrk, wOw, wMo, wMk, wCm, wCb, wMt, wLm⟩ := id hW
  refine Cal.mk (n := 4) rfl (Nat.le_of_ble_eq_true rfl) rfl ?_
  unfold f_r_setRate
  refine Ev.ps 2 rfl ?_
  refine Ev.sta (as := [vI p0]) (rest := [vR 9 0]) (by rfl) (by rfl) (by rfl) (by rfl) rfl (Nat.le_of_ble_eq_true rfl) (s_r_isKind ) ?_
  refine Ev.ifbe (by rfl) (by rfl) (fun c1 => ?_) (fun c1 => ?_)
  · rw [if_pos c1]
    have q_p0 := isKind_nat c1
    generalize nP p0 = k_p0 at q_p0 ⊢
    obtain ⟨rfl, hk_p0⟩ := q_p0
    refine Ev.ps 3 rfl ?_
    refine Ev.sta (as := [vI X, vI 0, vI 99]) (rest := [vR 9 0]) (by rfl) (by rfl) (by rfl) (by rfl) rfl (Nat.le_of_ble_eq_true rfl) (s_r_in ) ?_
    refine Ev.ifbe (by rfl) (by rfl) (fun c2 => ?_) (fun c2 => ?_)
    · rw [if_pos c2]
      refine Ev.ps 2 rfl ?_
      refine Ev.pf (by rfl) (by rfl) (by rfl) (Nat.le_of_ble_eq_true rfl) rfl (Or.inl (by rfl)) (rd9) (show _ = enc C (mkR aMk aSu aMac aMem aTk aPaid aNd aDay aOw aMo aDy aSt aLe aWk aSta aDue aCm aCb aCl aEnt aMt aBl aBar aPr aLs aLnum aLm aSh aBrk 0) W from wr9_Thr (v := 0)) ?_
      refine Ev.ps 1 rfl ?_
      refine Ev.getf (v := vI 0) (by rfl) (by rfl) (by rfl) (rd9) rfl ?_
      refine Ev.ifi (by rfl) (by rfl) (fun _ => ?_) (fun z => by exact absurd z (by decide))
      refine Ev.ps 1 rfl ?_
      refine Ev.getf (v := vR 52 0) (by rfl) (by rfl) (by rfl) (rd9) rfl ?_
      refine Ev.ps 1 rfl ?_
      refine Ev.aiI (k := k_p0) (v := vI (nI (aLm k_p0))) (by rfl) (by decide) (rd52) (by omega) (by have := hk_p0; omega) rfl ?_
      refine Ev.ps 2 rfl ?_
      refine Ev.getf (v := vR 50 0) (by rfl) (by rfl) (by rfl) (rd9) rfl ?_
      refine Ev.ps 1 rfl ?_
      refine Ev.aiA (k := k_p0) (v := vR 51 k_p0) (by rfl) (by decide) (rd50) (by omega) (by have := hk_p0; omega) rfl ?_
      refine Ev.ps 2 rfl ?_
      refine Ev.asI (k := 0) (by rfl) (by rfl) (rd51 (by have := hk_p0; omega)) (by omega) (by omega) (show _ = enc C (mkR aMk aSu aMac aMem aTk aPaid aNd aDay aOw aMo aDy aSt aLe aWk aSta aDue aCm aCb aCl aEnt aMt aBl aBar aPr aLs (fup aLnum k_p0 (fup (aLnum k_p0) 0 X)) aLm aSh aBrk 0) W from wr51 (j := k_p0) (i := 0) (v := X)) ?_
      refine Ev.ps 1 rfl ?_
      refine Ev.getf (v := vR 52 0) (by rfl) (by rfl) (by rfl) (rd9) rfl ?_
      refine Ev.ps 2 rfl ?_
      refine Ev.asI (k := k_p0) (by rfl) (by rfl) (rd52) (by omega) (by have := hk_p0; omega) (show _ = enc C (mkR aMk aSu aMac aMem aTk aPaid aNd aDay aOw aMo aDy aSt aLe aWk aSta aDue aCm aCb aCl aEnt aMt aBl aBar aPr aLs (fup aLnum k_p0 (fup (aLnum k_p0) 0 X)) (fup aLm k_p0 1) aSh aBrk 0) W from wr52 (i := k_p0) (v := 1)) ?_
      refine Ev.ps 1 rfl ?_
      exact Ev.re rfl rfl rfl rfl rfl
    · rw [if_neg c2]
      refine Ev.ps 1 rfl ?_
      refine Ev.pf (by rfl) (by rfl) (by rfl) (Nat.le_of_ble_eq_true rfl) rfl (Or.inl (by rfl)) (rd9) (show _ = enc C (mkR aMk aSu aMac aMem aTk aPaid aNd aDay aOw aMo aDy aSt aLe aWk aSta aDue aCm aCb aCl aEnt aMt aBl aBar aPr aLs aLnum aLm aSh aBrk 1) W from wr9_Thr (v := 1)) ?_
      refine Ev.ps 1 rfl ?_
      refine Ev.getf (v := vI 1) (by rfl) (by rfl) (by rfl) (rd9) rfl ?_
      refine Ev.ifi (by rfl) (by rfl) (fun z => by exact absurd z (by decide)) (fun _ => ?_)
      refine Ev.ps 1 rfl ?_
      exact Ev.re rfl rfl rfl rfl rfl
  · rw [if_neg c1]
    refine Ev.ps 1 rfl ?_
    refine Ev.pf (by rfl) (by rfl) (by rfl) (Nat.le_of_ble_eq_true rfl) rfl (Or.inl (by rfl)) (rd9) (show _ = enc C (mkR aMk aSu aMac aMem aTk aPaid aNd aDay aOw aMo aDy aSt aLe aWk aSta aDue aCm aCb aCl aEnt aMt aBl aBar aPr aLs aLnum aLm aSh aBrk 1) W from wr9_Thr (v := 1)) ?_
    refine Ev.ps 1 rfl ?_
    refine Ev.getf (v := vI 1) (by rfl) (by rfl) (by rfl) (rd9) rfl ?_
    refine Ev.ifi (by rfl) (by rfl) (fun z => by exact absurd z (by decide)) (fun _ => ?_)
    refine Ev.ps 1 rfl ?_
    exact Ev.re rfl rfl rfl rfl rfl
def f_r_lays (aLm : Nat → Nat) (aLnum : Nat → Nat → Int32) (aLs : Nat → Nat → Int32) (p0 s X Y : Int32) : Int32 × (Nat → Nat → Int32) × (Nat → Nat → Int32) × (Nat → Nat) × Int32 :=
  if f_r_isKind p0 then
    if f_r_in X 0 Y then
      if aLm (nP p0) = 6 then
        (0, aLs, aLnum, aLm, 2)
      else
        (nI ((fup aLm (nP p0) ((aLm (nP p0)) + 1)) (nP p0)), fup aLs (nP p0) (fup (aLs (nP p0)) (aLm (nP p0)) s), fup aLnum (nP p0) (fup (aLnum (nP p0)) (aLm (nP p0)) X), fup aLm (nP p0) ((aLm (nP p0)) + 1), 0)
    else
      (0, aLs, aLnum, aLm, 1)
  else
    (0, aLs, aLnum, aLm, 1)
theorem s_r_lays {d : Nat} {W : WD} {aMk : Nat → Nat} {aSu : Nat → Int32} {aMac : Nat} {aMem : Nat} {aTk : Nat → Nat → Int32} {aPaid : Nat → Int64} {aNd : Nat → Nat → Bool} {aDay : Int32} {aOw : Nat → Nat} {aMo : Nat → Nat} {aDy : Nat → Int32} {aSt : Nat → Int32} {aLe : Nat → Int32} {aWk : Nat → Int32} {aSta : Nat → Int32} {aDue : Nat → Int32} {aCm : Nat → Nat} {aCb : Nat → Nat → Nat} {aCl : Nat → Nat → Int32} {aEnt : Nat} {aMt : Nat → Nat} {aBl : Nat → Int32} {aBar : Nat} {aPr : Nat → Int32} {aLs : Nat → Nat → Int32} {aLnum : Nat → Nat → Int32} {aLm : Nat → Nat} {aSh : Nat → Nat → Int32} {aBrk : Nat} {aThr : Int32} {C : CD} {p0 : Int32} {s : Int32} {X : Int32} {Y : Int32} (hW : WfR aMac aMem aEnt aBar aBrk aOw aMo aMk aCm aCb aMt aLm) (hs : chr s) : Cal (d + 2) 162 [vR 9 0, vI p0, vI s, vI X, vI Y] (enc C (mkR aMk aSu aMac aMem aTk aPaid aNd aDay aOw aMo aDy aSt aLe aWk aSta aDue aCm aCb aCl aEnt aMt aBl aBar aPr aLs aLnum aLm aSh aBrk aThr) W) (.inl (some (vI ((f_r_lays aLm aLnum aLs p0 s X Y).1)))) (enc C (mkR aMk aSu aMac aMem aTk aPaid aNd aDay aOw aMo aDy aSt aLe aWk aSta aDue aCm aCb aCl aEnt aMt aBl aBar aPr ((f_r_lays aLm aLnum aLs p0 s X Y).2.1) ((f_r_lays aLm aLnum aLs p0 s X Y).2.2.1) ((f_r_lays aLm aLnum aLs p0 s X Y).2.2.2.1) aSh aBrk ((f_r_lays aLm aLnum aLs p0 s X Y).2.2.2.2)) W) := by
  obtain ⟨wMac, wMem, wEnt, wBar, wBrk, wOw, wMo, wMk, wCm, wCb, wMt, wLm⟩ := id hW
  refine Cal.mk (n := 5) rfl (Nat.le_of_ble_eq_true rfl) rfl ?_
  unfold f_r_lays
  refine Ev.ps 2 rfl ?_
  refine Ev.sta (as := [vI p0]) (rest := [vR 9 0]) (by rfl) (by rfl) (by rfl) (by rfl) rfl (Nat.le_of_ble_eq_true rfl) (s_r_isKind ) ?_
  refine Ev.ifbe (by rfl) (by rfl) (fun c1 => ?_) (fun c1 => ?_)
  · rw [if_pos c1]
    have q_p0 := isKind_nat c1
    generalize nP p0 = k_p0 at q_p0 ⊢
    obtain ⟨rfl, hk_p0⟩ := q_p0
    refine Ev.ps 3 rfl ?_
    refine Ev.sta (as := [vI X, vI 0, vI Y]) (rest := [vR 9 0]) (by rfl) (by rfl) (by rfl) (by rfl) rfl (Nat.le_of_ble_eq_true rfl) (s_r_in ) ?_
    refine Ev.ifbn (by rfl) (by rfl) (fun c2 => ?_) (fun c2 => ?_)
    · rw [if_pos c2]
      refine Ev.ps 1 rfl ?_
      refine Ev.getf (v := vR 52 0) (by rfl) (by rfl) (by rfl) (rd9) rfl ?_
      refine Ev.ps 1 rfl ?_
      refine Ev.aiI (k := k_p0) (v := vI (nI (aLm k_p0))) (by rfl) (by decide) (rd52) (by omega) (by have := hk_p0; omega) rfl ?_
      refine Ev.ps 1 rfl ?_
      refine Ev.ineN (a := (aLm k_p0)) (b := 6) (by have := wLm k_p0; omega) (by omega) (by rfl) (by rfl) (fun (c3 : aLm k_p0 = 6) => ?_) (fun (c3 : ¬ aLm k_p0 = 6) => ?_)
      · rw [if_pos c3]
        refine Ev.ps 2 rfl ?_
        refine Ev.pf (by rfl) (by rfl) (by rfl) (Nat.le_of_ble_eq_true rfl) rfl (Or.inl (by rfl)) (rd9) (show _ = enc C (mkR aMk aSu aMac aMem aTk aPaid aNd aDay aOw aMo aDy aSt aLe aWk aSta aDue aCm aCb aCl aEnt aMt aBl aBar aPr aLs aLnum aLm aSh aBrk 2) W from wr9_Thr (v := 2)) ?_
        refine Ev.ps 1 rfl ?_
        refine Ev.getf (v := vI 2) (by rfl) (by rfl) (by rfl) (rd9) rfl ?_
        refine Ev.ifi (by rfl) (by rfl) (fun z => by exact absurd z (by decide)) (fun _ => ?_)
        refine Ev.ps 1 rfl ?_
        exact Ev.re rfl rfl rfl rfl rfl
      · rw [if_neg c3]
        refine Ev.ps 1 rfl ?_
        refine Ev.pf (by rfl) (by rfl) (by rfl) (Nat.le_of_ble_eq_true rfl) rfl (Or.inl (by rfl)) (rd9) (show _ = enc C (mkR aMk aSu aMac aMem aTk aPaid aNd aDay aOw aMo aDy aSt aLe aWk aSta aDue aCm aCb aCl aEnt aMt aBl aBar aPr aLs aLnum aLm aSh aBrk 0) W from wr9_Thr (v := 0)) ?_
        refine Ev.ps 1 rfl ?_
        refine Ev.getf (v := vI 0) (by rfl) (by rfl) (by rfl) (rd9) rfl ?_
        refine Ev.ifi (by rfl) (by rfl) (fun _ => ?_) (fun z => by exact absurd z (by decide))
        refine Ev.ps 1 rfl ?_
        refine Ev.getf (v := vR 48 0) (by rfl) (by rfl) (by rfl) (rd9) rfl ?_
        refine Ev.ps 1 rfl ?_
        refine Ev.aiA (k := k_p0) (v := vR 49 k_p0) (by rfl) (by decide) (rd48) (by omega) (by have := hk_p0; omega) rfl ?_
        refine Ev.ps 1 rfl ?_
        refine Ev.getf (v := vR 52 0) (by rfl) (by rfl) (by rfl) (rd9) rfl ?_
        refine Ev.ps 1 rfl ?_
        refine Ev.aiI (k := k_p0) (v := vI (nI (aLm k_p0))) (by rfl) (by decide) (rd52) (by omega) (by have := hk_p0; omega) rfl ?_
        refine Ev.ps 1 rfl ?_
        refine Ev.asC (k := (aLm k_p0)) (by rfl) (by rfl) (by assumption) (rd49 (by have := hk_p0; omega)) (by omega) (by have := wLm k_p0; omega) (show _ = enc C (mkR aMk aSu aMac aMem aTk aPaid aNd aDay aOw aMo aDy aSt aLe aWk aSta aDue aCm aCb aCl aEnt aMt aBl aBar aPr (fup aLs k_p0 (fup (aLs k_p0) (aLm k_p0) s)) aLnum aLm aSh aBrk 0) W from wr49 (j := k_p0) (i := (aLm k_p0)) (v := s)) ?_
        refine Ev.ps 1 rfl ?_
        refine Ev.getf (v := vR 50 0) (by rfl) (by rfl) (by rfl) (rd9) rfl ?_
        refine Ev.ps 1 rfl ?_
        refine Ev.aiA (k := k_p0) (v := vR 51 k_p0) (by rfl) (by decide) (rd50) (by omega) (by have := hk_p0; omega) rfl ?_
        refine Ev.ps 1 rfl ?_
        refine Ev.getf (v := vR 52 0) (by rfl) (by rfl) (by rfl) (rd9) rfl ?_
        refine Ev.ps 1 rfl ?_
        refine Ev.aiI (k := k_p0) (v := vI (nI (aLm k_p0))) (by rfl) (by decide) (rd52) (by omega) (by have := hk_p0; omega) rfl ?_
        refine Ev.ps 1 rfl ?_
        refine Ev.asI (k := (aLm k_p0)) (by rfl) (by rfl) (rd51 (by have := hk_p0; omega)) (by omega) (by have := wLm k_p0; omega) (show _ = enc C (mkR aMk aSu aMac aMem aTk aPaid aNd aDay aOw aMo aDy aSt aLe aWk aSta aDue aCm aCb aCl aEnt aMt aBl aBar aPr (fup aLs k_p0 (fup (aLs k_p0) (aLm k_p0) s)) (fup aLnum k_p0 (fup (aLnum k_p0) (aLm k_p0) X)) aLm aSh aBrk 0) W from wr51 (j := k_p0) (i := (aLm k_p0)) (v := X)) ?_
        refine Ev.ps 1 rfl ?_
        refine Ev.getf (v := vR 52 0) (by rfl) (by rfl) (by rfl) (rd9) rfl ?_
        refine Ev.ps 2 rfl ?_
        refine Ev.aiI (k := k_p0) (v := vI (nI (aLm k_p0))) (by rfl) (by decide) (rd52) (by omega) (by have := hk_p0; omega) rfl ?_
        refine Ev.ps 2 rfl ?_
        refine Ev.st1 (b := nI ((aLm k_p0) + 1)) (nI_1 (aLm k_p0)) ?_
        refine Ev.asI (k := k_p0) (by rfl) (by rfl) (rd52) (by omega) (by have := hk_p0; omega) (show _ = enc C (mkR aMk aSu aMac aMem aTk aPaid aNd aDay aOw aMo aDy aSt aLe aWk aSta aDue aCm aCb aCl aEnt aMt aBl aBar aPr (fup aLs k_p0 (fup (aLs k_p0) (aLm k_p0) s)) (fup aLnum k_p0 (fup (aLnum k_p0) (aLm k_p0) X)) (fup aLm k_p0 ((aLm k_p0) + 1)) aSh aBrk 0) W from wr52 (i := k_p0) (v := (aLm k_p0) + 1)) ?_
        refine Ev.ps 1 rfl ?_
        refine Ev.getf (v := vR 52 0) (by rfl) (by rfl) (by rfl) (rd9) rfl ?_
        refine Ev.ps 1 rfl ?_
        refine Ev.aiI (k := k_p0) (v := vI (nI ((fup aLm k_p0 ((aLm k_p0) + 1)) k_p0))) (by rfl) (by decide) (rd52) (by omega) (by have := hk_p0; omega) rfl ?_
        exact Ev.re rfl rfl rfl rfl rfl
    · rw [if_neg c2]
      refine Ev.ps 2 rfl ?_
      refine Ev.pf (by rfl) (by rfl) (by rfl) (Nat.le_of_ble_eq_true rfl) rfl (Or.inl (by rfl)) (rd9) (show _ = enc C (mkR aMk aSu aMac aMem aTk aPaid aNd aDay aOw aMo aDy aSt aLe aWk aSta aDue aCm aCb aCl aEnt aMt aBl aBar aPr aLs aLnum aLm aSh aBrk 1) W from wr9_Thr (v := 1)) ?_
      refine Ev.ps 1 rfl ?_
      refine Ev.getf (v := vI 1) (by rfl) (by rfl) (by rfl) (rd9) rfl ?_
      refine Ev.ifi (by rfl) (by rfl) (fun z => by exact absurd z (by decide)) (fun _ => ?_)
      refine Ev.ps 1 rfl ?_
      exact Ev.re rfl rfl rfl rfl rfl
  · rw [if_neg c1]
    refine Ev.ps 2 rfl ?_
    refine Ev.pf (by rfl) (by rfl) (by rfl) (Nat.le_of_ble_eq_true rfl) rfl (Or.inl (by rfl)) (rd9) (show _ = enc C (mkR aMk aSu aMac aMem aTk aPaid aNd aDay aOw aMo aDy aSt aLe aWk aSta aDue aCm aCb aCl aEnt aMt aBl aBar aPr aLs aLnum aLm aSh aBrk 1) W from wr9_Thr (v := 1)) ?_
    refine Ev.ps 1 rfl ?_
    refine Ev.getf (v := vI 1) (by rfl) (by rfl) (by rfl) (rd9) rfl ?_
    refine Ev.ifi (by rfl) (by rfl) (fun z => by exact absurd z (by decide)) (fun _ => ?_)
    refine Ev.ps 1 rfl ?_
    exact Ev.re rfl rfl rfl rfl rfl
def f_r_addFee (aLm : Nat → Nat) (aLnum : Nat → Nat → Int32) (aLs : Nat → Nat → Int32) (p0 X : Int32) : Int32 × (Nat → Nat → Int32) × (Nat → Nat → Int32) × (Nat → Nat) × Int32 :=
  ((f_r_lays aLm aLnum aLs p0 102 X 999).1, (f_r_lays aLm aLnum aLs p0 102 X 999).2.1, (f_r_lays aLm aLnum aLs p0 102 X 999).2.2.1, (f_r_lays aLm aLnum aLs p0 102 X 999).2.2.2.1, (f_r_lays aLm aLnum aLs p0 102 X 999).2.2.2.2)
theorem s_r_addFee {d : Nat} {W : WD} {aMk : Nat → Nat} {aSu : Nat → Int32} {aMac : Nat} {aMem : Nat} {aTk : Nat → Nat → Int32} {aPaid : Nat → Int64} {aNd : Nat → Nat → Bool} {aDay : Int32} {aOw : Nat → Nat} {aMo : Nat → Nat} {aDy : Nat → Int32} {aSt : Nat → Int32} {aLe : Nat → Int32} {aWk : Nat → Int32} {aSta : Nat → Int32} {aDue : Nat → Int32} {aCm : Nat → Nat} {aCb : Nat → Nat → Nat} {aCl : Nat → Nat → Int32} {aEnt : Nat} {aMt : Nat → Nat} {aBl : Nat → Int32} {aBar : Nat} {aPr : Nat → Int32} {aLs : Nat → Nat → Int32} {aLnum : Nat → Nat → Int32} {aLm : Nat → Nat} {aSh : Nat → Nat → Int32} {aBrk : Nat} {aThr : Int32} {C : CD} {p0 : Int32} {X : Int32} (hW : WfR aMac aMem aEnt aBar aBrk aOw aMo aMk aCm aCb aMt aLm) : Cal (d + 3) 163 [vR 9 0, vI p0, vI X] (enc C (mkR aMk aSu aMac aMem aTk aPaid aNd aDay aOw aMo aDy aSt aLe aWk aSta aDue aCm aCb aCl aEnt aMt aBl aBar aPr aLs aLnum aLm aSh aBrk aThr) W) (.inl (some (vI ((f_r_addFee aLm aLnum aLs p0 X).1)))) (enc C (mkR aMk aSu aMac aMem aTk aPaid aNd aDay aOw aMo aDy aSt aLe aWk aSta aDue aCm aCb aCl aEnt aMt aBl aBar aPr ((f_r_addFee aLm aLnum aLs p0 X).2.1) ((f_r_addFee aLm aLnum aLs p0 X).2.2.1) ((f_r_addFee aLm aLnum aLs p0 X).2.2.2.1) aSh aBrk ((f_r_addFee aLm aLnum aLs p0 X).2.2.2.2)) W) := by
  obtain ⟨wMac, wMem, wEnt, wBar, wBrk, wOw, wMo, wMk, wCm, wCb, wMt, wLm⟩ := id hW
  refine Cal.mk (n := 3) rfl (Nat.le_of_ble_eq_true rfl) rfl ?_
  unfold f_r_addFee
  refine Ev.ps 5 rfl ?_
  refine Ev.vir (as := [vI p0, vI 102, vI X, vI 999]) (rest := []) (by rfl) (by rfl) (by rfl) (by rfl) rfl (Nat.le_of_ble_eq_true rfl) (by rfl) (by rw [rd9]; rfl) (s_r_lays hW (by unfold chr; decide)) ?_
  exact Ev.re rfl rfl rfl rfl rfl
def f_r_addCap (aLm : Nat → Nat) (aLnum : Nat → Nat → Int32) (aLs : Nat → Nat → Int32) (p0 X : Int32) : Int32 × (Nat → Nat → Int32) × (Nat → Nat → Int32) × (Nat → Nat) × Int32 :=
  ((f_r_lays aLm aLnum aLs p0 99 X 9999).1, (f_r_lays aLm aLnum aLs p0 99 X 9999).2.1, (f_r_lays aLm aLnum aLs p0 99 X 9999).2.2.1, (f_r_lays aLm aLnum aLs p0 99 X 9999).2.2.2.1, (f_r_lays aLm aLnum aLs p0 99 X 9999).2.2.2.2)
theorem s_r_addCap {d : Nat} {W : WD} {aMk : Nat → Nat} {aSu : Nat → Int32} {aMac : Nat} {aMem : Nat} {aTk : Nat → Nat → Int32} {aPaid : Nat → Int64} {aNd : Nat → Nat → Bool} {aDay : Int32} {aOw : Nat → Nat} {aMo : Nat → Nat} {aDy : Nat → Int32} {aSt : Nat → Int32} {aLe : Nat → Int32} {aWk : Nat → Int32} {aSta : Nat → Int32} {aDue : Nat → Int32} {aCm : Nat → Nat} {aCb : Nat → Nat → Nat} {aCl : Nat → Nat → Int32} {aEnt : Nat} {aMt : Nat → Nat} {aBl : Nat → Int32} {aBar : Nat} {aPr : Nat → Int32} {aLs : Nat → Nat → Int32} {aLnum : Nat → Nat → Int32} {aLm : Nat → Nat} {aSh : Nat → Nat → Int32} {aBrk : Nat} {aThr : Int32} {C : CD} {p0 : Int32} {X : Int32} (hW : WfR aMac aMem aEnt aBar aBrk aOw aMo aMk aCm aCb aMt aLm) : Cal (d + 3) 164 [vR 9 0, vI p0, vI X] (enc C (mkR aMk aSu aMac aMem aTk aPaid aNd aDay aOw aMo aDy aSt aLe aWk aSta aDue aCm aCb aCl aEnt aMt aBl aBar aPr aLs aLnum aLm aSh aBrk aThr) W) (.inl (some (vI ((f_r_addCap aLm aLnum aLs p0 X).1)))) (enc C (mkR aMk aSu aMac aMem aTk aPaid aNd aDay aOw aMo aDy aSt aLe aWk aSta aDue aCm aCb aCl aEnt aMt aBl aBar aPr ((f_r_addCap aLm aLnum aLs p0 X).2.1) ((f_r_addCap aLm aLnum aLs p0 X).2.2.1) ((f_r_addCap aLm aLnum aLs p0 X).2.2.2.1) aSh aBrk ((f_r_addCap aLm aLnum aLs p0 X).2.2.2.2)) W) := by
  obtain ⟨wMac, wMem, wEnt, wBar, wBrk, wOw, wMo, wMk, wCm, wCb, wMt, wLm⟩ := id hW
  refine Cal.mk (n := 3) rfl (Nat.le_of_ble_eq_true rfl) rfl ?_
  unfold f_r_addCap
  refine Ev.ps 5 rfl ?_
  refine Ev.vir (as := [vI p0, vI 99, vI X, vI 9999]) (rest := []) (by rfl) (by rfl) (by rfl) (by rfl) rfl (Nat.le_of_ble_eq_true rfl) (by rfl) (by rw [rd9]; rfl) (s_r_lays hW (by unfold chr; decide)) ?_
  exact Ev.re rfl rfl rfl rfl rfl
def f_r_addDouble (aLm : Nat → Nat) (aLnum : Nat → Nat → Int32) (aLs : Nat → Nat → Int32) (p0 X : Int32) : Int32 × (Nat → Nat → Int32) × (Nat → Nat → Int32) × (Nat → Nat) × Int32 :=
  ((f_r_lays aLm aLnum aLs p0 100 X 240).1, (f_r_lays aLm aLnum aLs p0 100 X 240).2.1, (f_r_lays aLm aLnum aLs p0 100 X 240).2.2.1, (f_r_lays aLm aLnum aLs p0 100 X 240).2.2.2.1, (f_r_lays aLm aLnum aLs p0 100 X 240).2.2.2.2)
theorem s_r_addDouble {d : Nat} {W : WD} {aMk : Nat → Nat} {aSu : Nat → Int32} {aMac : Nat} {aMem : Nat} {aTk : Nat → Nat → Int32} {aPaid : Nat → Int64} {aNd : Nat → Nat → Bool} {aDay : Int32} {aOw : Nat → Nat} {aMo : Nat → Nat} {aDy : Nat → Int32} {aSt : Nat → Int32} {aLe : Nat → Int32} {aWk : Nat → Int32} {aSta : Nat → Int32} {aDue : Nat → Int32} {aCm : Nat → Nat} {aCb : Nat → Nat → Nat} {aCl : Nat → Nat → Int32} {aEnt : Nat} {aMt : Nat → Nat} {aBl : Nat → Int32} {aBar : Nat} {aPr : Nat → Int32} {aLs : Nat → Nat → Int32} {aLnum : Nat → Nat → Int32} {aLm : Nat → Nat} {aSh : Nat → Nat → Int32} {aBrk : Nat} {aThr : Int32} {C : CD} {p0 : Int32} {X : Int32} (hW : WfR aMac aMem aEnt aBar aBrk aOw aMo aMk aCm aCb aMt aLm) : Cal (d + 3) 165 [vR 9 0, vI p0, vI X] (enc C (mkR aMk aSu aMac aMem aTk aPaid aNd aDay aOw aMo aDy aSt aLe aWk aSta aDue aCm aCb aCl aEnt aMt aBl aBar aPr aLs aLnum aLm aSh aBrk aThr) W) (.inl (some (vI ((f_r_addDouble aLm aLnum aLs p0 X).1)))) (enc C (mkR aMk aSu aMac aMem aTk aPaid aNd aDay aOw aMo aDy aSt aLe aWk aSta aDue aCm aCb aCl aEnt aMt aBl aBar aPr ((f_r_addDouble aLm aLnum aLs p0 X).2.1) ((f_r_addDouble aLm aLnum aLs p0 X).2.2.1) ((f_r_addDouble aLm aLnum aLs p0 X).2.2.2.1) aSh aBrk ((f_r_addDouble aLm aLnum aLs p0 X).2.2.2.2)) W) := by
  obtain ⟨wMac, wMem, wEnt, wBar, wBrk, wOw, wMo, wMk, wCm, wCb, wMt, wLm⟩ := id hW
  refine Cal.mk (n := 3) rfl (Nat.le_of_ble_eq_true rfl) rfl ?_
  unfold f_r_addDouble
  refine Ev.ps 5 rfl ?_
  refine Ev.vir (as := [vI p0, vI 100, vI X, vI 240]) (rest := []) (by rfl) (by rfl) (by rfl) (by rfl) rfl (Nat.le_of_ble_eq_true rfl) (by rfl) (by rw [rd9]; rfl) (s_r_lays hW (by unfold chr; decide)) ?_
  exact Ev.re rfl rfl rfl rfl rfl
def f_r_addDiscount (aLm : Nat → Nat) (aLnum : Nat → Nat → Int32) (aLs : Nat → Nat → Int32) (p0 X : Int32) : Int32 × (Nat → Nat → Int32) × (Nat → Nat → Int32) × (Nat → Nat) × Int32 :=
  ((f_r_lays aLm aLnum aLs p0 112 X 100).1, (f_r_lays aLm aLnum aLs p0 112 X 100).2.1, (f_r_lays aLm aLnum aLs p0 112 X 100).2.2.1, (f_r_lays aLm aLnum aLs p0 112 X 100).2.2.2.1, (f_r_lays aLm aLnum aLs p0 112 X 100).2.2.2.2)
theorem s_r_addDiscount {d : Nat} {W : WD} {aMk : Nat → Nat} {aSu : Nat → Int32} {aMac : Nat} {aMem : Nat} {aTk : Nat → Nat → Int32} {aPaid : Nat → Int64} {aNd : Nat → Nat → Bool} {aDay : Int32} {aOw : Nat → Nat} {aMo : Nat → Nat} {aDy : Nat → Int32} {aSt : Nat → Int32} {aLe : Nat → Int32} {aWk : Nat → Int32} {aSta : Nat → Int32} {aDue : Nat → Int32} {aCm : Nat → Nat} {aCb : Nat → Nat → Nat} {aCl : Nat → Nat → Int32} {aEnt : Nat} {aMt : Nat → Nat} {aBl : Nat → Int32} {aBar : Nat} {aPr : Nat → Int32} {aLs : Nat → Nat → Int32} {aLnum : Nat → Nat → Int32} {aLm : Nat → Nat} {aSh : Nat → Nat → Int32} {aBrk : Nat} {aThr : Int32} {C : CD} {p0 : Int32} {X : Int32} (hW : WfR aMac aMem aEnt aBar aBrk aOw aMo aMk aCm aCb aMt aLm) : Cal (d + 3) 166 [vR 9 0, vI p0, vI X] (enc C (mkR aMk aSu aMac aMem aTk aPaid aNd aDay aOw aMo aDy aSt aLe aWk aSta aDue aCm aCb aCl aEnt aMt aBl aBar aPr aLs aLnum aLm aSh aBrk aThr) W) (.inl (some (vI ((f_r_addDiscount aLm aLnum aLs p0 X).1)))) (enc C (mkR aMk aSu aMac aMem aTk aPaid aNd aDay aOw aMo aDy aSt aLe aWk aSta aDue aCm aCb aCl aEnt aMt aBl aBar aPr ((f_r_addDiscount aLm aLnum aLs p0 X).2.1) ((f_r_addDiscount aLm aLnum aLs p0 X).2.2.1) ((f_r_addDiscount aLm aLnum aLs p0 X).2.2.2.1) aSh aBrk ((f_r_addDiscount aLm aLnum aLs p0 X).2.2.2.2)) W) := by
  obtain ⟨wMac, wMem, wEnt, wBar, wBrk, wOw, wMo, wMk, wCm, wCb, wMt, wLm⟩ := id hW
  refine Cal.mk (n := 3) rfl (Nat.le_of_ble_eq_true rfl) rfl ?_
  unfold f_r_addDiscount
  refine Ev.ps 5 rfl ?_
  refine Ev.vir (as := [vI p0, vI 112, vI X, vI 100]) (rest := []) (by rfl) (by rfl) (by rfl) (by rfl) rfl (Nat.le_of_ble_eq_true rfl) (by rfl) (by rw [rd9]; rfl) (s_r_lays hW (by unfold chr; decide)) ?_
  exact Ev.re rfl rfl rfl rfl rfl
def f_r_costOf (aLm : Nat → Nat) (aLnum : Nat → Nat → Int32) (aLs : Nat → Nat → Int32) (zG5 : List Ob) (zc : Nat) (zn : Nat) (p0 X : Int32) : Int32 × Int32 × List Ob × Nat × Nat :=
  if f_r_isKind p0 then
    if f_r_in X 0 480 then ((f_r_cost aLm aLnum aLs (nP p0) X).1, 0, zG5 ++ [pl 6 (fun k => vI (((f_r_cost aLm aLnum aLs (nP p0) X).2) k))], zc + 1, zn + 6) else (0, 1, zG5, zc, zn)
  else
    (0, 1, zG5, zc, zn)
theorem s_r_costOf {d : Nat} {zO : Int64} {zD : UInt64} {zX : Nat} {zL : Nat} {zXs : Nat → Int32} {zG5 : List Ob} {zG6 : List Ob} {zG7 : List Ob} {zc : Nat} {zn : Nat} {aMk : Nat → Nat} {aSu : Nat → Int32} {aMac : Nat} {aMem : Nat} {aTk : Nat → Nat → Int32} {aPaid : Nat → Int64} {aNd : Nat → Nat → Bool} {aDay : Int32} {aOw : Nat → Nat} {aMo : Nat → Nat} {aDy : Nat → Int32} {aSt : Nat → Int32} {aLe : Nat → Int32} {aWk : Nat → Int32} {aSta : Nat → Int32} {aDue : Nat → Int32} {aCm : Nat → Nat} {aCb : Nat → Nat → Nat} {aCl : Nat → Nat → Int32} {aEnt : Nat} {aMt : Nat → Nat} {aBl : Nat → Int32} {aBar : Nat} {aPr : Nat → Int32} {aLs : Nat → Nat → Int32} {aLnum : Nat → Nat → Int32} {aLm : Nat → Nat} {aSh : Nat → Nat → Int32} {aBrk : Nat} {aThr : Int32} {C : CD} {p0 : Int32} {X : Int32} (hW : WfR aMac aMem aEnt aBar aBrk aOw aMo aMk aCm aCb aMt aLm) : Cal (d + 2) 167 [vR 9 0, vI p0, vI X] (enc C (mkR aMk aSu aMac aMem aTk aPaid aNd aDay aOw aMo aDy aSt aLe aWk aSta aDue aCm aCb aCl aEnt aMt aBl aBar aPr aLs aLnum aLm aSh aBrk aThr) (mkW zO zD zX zL zXs zG5 zG6 zG7 zc zn)) (.inl (some (vI ((f_r_costOf aLm aLnum aLs zG5 zc zn p0 X).1)))) (enc C (mkR aMk aSu aMac aMem aTk aPaid aNd aDay aOw aMo aDy aSt aLe aWk aSta aDue aCm aCb aCl aEnt aMt aBl aBar aPr aLs aLnum aLm aSh aBrk ((f_r_costOf aLm aLnum aLs zG5 zc zn p0 X).2.1)) (mkW zO zD zX zL zXs ((f_r_costOf aLm aLnum aLs zG5 zc zn p0 X).2.2.1) zG6 zG7 ((f_r_costOf aLm aLnum aLs zG5 zc zn p0 X).2.2.2.1) ((f_r_costOf aLm aLnum aLs zG5 zc zn p0 X).2.2.2.2))) := by
  obtain ⟨wMac, wMem, wEnt, wBar, wBrk, wOw, wMo, wMk, wCm, wCb, wMt, wLm⟩ := id hW
  refine Cal.mk (n := 3) rfl (Nat.le_of_ble_eq_true rfl) rfl ?_
  unfold f_r_costOf
  refine Ev.ps 2 rfl ?_
  refine Ev.sta (as := [vI p0]) (rest := [vR 9 0]) (by rfl) (by rfl) (by rfl) (by rfl) rfl (Nat.le_of_ble_eq_true rfl) (s_r_isKind ) ?_
  refine Ev.ifbe (by rfl) (by rfl) (fun c1 => ?_) (fun c1 => ?_)
  · rw [if_pos c1]
    have q_p0 := isKind_nat c1
    generalize nP p0 = k_p0 at q_p0 ⊢
    obtain ⟨rfl, hk_p0⟩ := q_p0
    refine Ev.ps 3 rfl ?_
    refine Ev.sta (as := [vI X, vI 0, vI 480]) (rest := [vR 9 0]) (by rfl) (by rfl) (by rfl) (by rfl) rfl (Nat.le_of_ble_eq_true rfl) (s_r_in ) ?_
    refine Ev.ifbe (by rfl) (by rfl) (fun c2 => ?_) (fun c2 => ?_)
    · rw [if_pos c2]
      refine Ev.ps 2 rfl ?_
      refine Ev.pf (by rfl) (by rfl) (by rfl) (Nat.le_of_ble_eq_true rfl) rfl (Or.inl (by rfl)) (rd9) (show _ = enc C (mkR aMk aSu aMac aMem aTk aPaid aNd aDay aOw aMo aDy aSt aLe aWk aSta aDue aCm aCb aCl aEnt aMt aBl aBar aPr aLs aLnum aLm aSh aBrk 0) (mkW zO zD zX zL zXs zG5 zG6 zG7 zc zn) from wr9_Thr (v := 0)) ?_
      refine Ev.ps 1 rfl ?_
      refine Ev.getf (v := vI 0) (by rfl) (by rfl) (by rfl) (rd9) rfl ?_
      refine Ev.ifi (by rfl) (by rfl) (fun _ => ?_) (fun z => by exact absurd z (by decide))
      refine Ev.ps 3 rfl ?_
      refine Ev.vir (as := [vI (nI k_p0), vI X]) (rest := []) (by rfl) (by rfl) (by rfl) (by rfl) rfl (Nat.le_of_ble_eq_true rfl) (by rfl) (by rw [rd9]; rfl) (s_r_cost hW (by have := hk_p0; omega)) ?_
      exact Ev.re rfl rfl rfl rfl rfl
    · rw [if_neg c2]
      refine Ev.ps 1 rfl ?_
      refine Ev.pf (by rfl) (by rfl) (by rfl) (Nat.le_of_ble_eq_true rfl) rfl (Or.inl (by rfl)) (rd9) (show _ = enc C (mkR aMk aSu aMac aMem aTk aPaid aNd aDay aOw aMo aDy aSt aLe aWk aSta aDue aCm aCb aCl aEnt aMt aBl aBar aPr aLs aLnum aLm aSh aBrk 1) (mkW zO zD zX zL zXs zG5 zG6 zG7 zc zn) from wr9_Thr (v := 1)) ?_
      refine Ev.ps 1 rfl ?_
      refine Ev.getf (v := vI 1) (by rfl) (by rfl) (by rfl) (rd9) rfl ?_
      refine Ev.ifi (by rfl) (by rfl) (fun z => by exact absurd z (by decide)) (fun _ => ?_)
      refine Ev.ps 2 rfl ?_
      exact Ev.re rfl rfl rfl rfl rfl
  · rw [if_neg c1]
    refine Ev.ps 1 rfl ?_
    refine Ev.pf (by rfl) (by rfl) (by rfl) (Nat.le_of_ble_eq_true rfl) rfl (Or.inl (by rfl)) (rd9) (show _ = enc C (mkR aMk aSu aMac aMem aTk aPaid aNd aDay aOw aMo aDy aSt aLe aWk aSta aDue aCm aCb aCl aEnt aMt aBl aBar aPr aLs aLnum aLm aSh aBrk 1) (mkW zO zD zX zL zXs zG5 zG6 zG7 zc zn) from wr9_Thr (v := 1)) ?_
    refine Ev.ps 1 rfl ?_
    refine Ev.getf (v := vI 1) (by rfl) (by rfl) (by rfl) (rd9) rfl ?_
    refine Ev.ifi (by rfl) (by rfl) (fun z => by exact absurd z (by decide)) (fun _ => ?_)
    refine Ev.ps 2 rfl ?_
    exact Ev.re rfl rfl rfl rfl rfl
def f_r_shareOf (aBrk : Nat) (aMem : Nat) (aSh : Nat → Nat → Int32) (p0 p1 : Int32) : Int32 × Int32 :=
  if f_r_in p0 0 ((nI aBrk) - 1) then if f_r_isMember aMem p1 then (aSh (nP p0) (nP p1), 0) else (0, 2) else (0, 1)
theorem s_r_shareOf {d : Nat} {W : WD} {aMk : Nat → Nat} {aSu : Nat → Int32} {aMac : Nat} {aMem : Nat} {aTk : Nat → Nat → Int32} {aPaid : Nat → Int64} {aNd : Nat → Nat → Bool} {aDay : Int32} {aOw : Nat → Nat} {aMo : Nat → Nat} {aDy : Nat → Int32} {aSt : Nat → Int32} {aLe : Nat → Int32} {aWk : Nat → Int32} {aSta : Nat → Int32} {aDue : Nat → Int32} {aCm : Nat → Nat} {aCb : Nat → Nat → Nat} {aCl : Nat → Nat → Int32} {aEnt : Nat} {aMt : Nat → Nat} {aBl : Nat → Int32} {aBar : Nat} {aPr : Nat → Int32} {aLs : Nat → Nat → Int32} {aLnum : Nat → Nat → Int32} {aLm : Nat → Nat} {aSh : Nat → Nat → Int32} {aBrk : Nat} {aThr : Int32} {C : CD} {p0 : Int32} {p1 : Int32} (hW : WfR aMac aMem aEnt aBar aBrk aOw aMo aMk aCm aCb aMt aLm) : Cal (d + 2) 169 [vR 9 0, vI p0, vI p1] (enc C (mkR aMk aSu aMac aMem aTk aPaid aNd aDay aOw aMo aDy aSt aLe aWk aSta aDue aCm aCb aCl aEnt aMt aBl aBar aPr aLs aLnum aLm aSh aBrk aThr) W) (.inl (some (vI ((f_r_shareOf aBrk aMem aSh p0 p1).1)))) (enc C (mkR aMk aSu aMac aMem aTk aPaid aNd aDay aOw aMo aDy aSt aLe aWk aSta aDue aCm aCb aCl aEnt aMt aBl aBar aPr aLs aLnum aLm aSh aBrk ((f_r_shareOf aBrk aMem aSh p0 p1).2)) W) := by
  obtain ⟨wMac, wMem, wEnt, wBar, wBrk, wOw, wMo, wMk, wCm, wCb, wMt, wLm⟩ := id hW
  refine Cal.mk (n := 3) rfl (Nat.le_of_ble_eq_true rfl) rfl ?_
  unfold f_r_shareOf
  refine Ev.ps 4 rfl ?_
  refine Ev.getf (v := vI (nI aBrk)) (by rfl) (by rfl) (by rfl) (rd9) rfl ?_
  refine Ev.ps 2 rfl ?_
  refine Ev.sta (as := [vI p0, vI 0, vI ((nI aBrk) - 1)]) (rest := [vR 9 0]) (by rfl) (by rfl) (by rfl) (by rfl) rfl (Nat.le_of_ble_eq_true rfl) (s_r_in ) ?_
  refine Ev.ifbn (by rfl) (by rfl) (fun c1 => ?_) (fun c1 => ?_)
  · rw [if_pos c1]
    have q_p0 := isBrk_nat wBrk c1
    generalize nP p0 = k_p0 at q_p0 ⊢
    obtain ⟨rfl, hk_p0⟩ := q_p0
    refine Ev.ps 2 rfl ?_
    refine Ev.vir (as := [vI p1]) (rest := [vR 9 0]) (by rfl) (by rfl) (by rfl) (by rfl) rfl (Nat.le_of_ble_eq_true rfl) (by rfl) (by rw [rd9]; rfl) (s_r_isMember ) ?_
    refine Ev.ifbn (by rfl) (by rfl) (fun c2 => ?_) (fun c2 => ?_)
    · rw [if_pos c2]
      have q_p1 := isMember_nat wMem c2
      generalize nP p1 = k_p1 at q_p1 ⊢
      obtain ⟨rfl, hk_p1⟩ := q_p1
      refine Ev.ps 1 rfl ?_
      refine Ev.pf (by rfl) (by rfl) (by rfl) (Nat.le_of_ble_eq_true rfl) rfl (Or.inl (by rfl)) (rd9) (show _ = enc C (mkR aMk aSu aMac aMem aTk aPaid aNd aDay aOw aMo aDy aSt aLe aWk aSta aDue aCm aCb aCl aEnt aMt aBl aBar aPr aLs aLnum aLm aSh aBrk 0) W from wr9_Thr (v := 0)) ?_
      refine Ev.ps 1 rfl ?_
      refine Ev.getf (v := vI 0) (by rfl) (by rfl) (by rfl) (rd9) rfl ?_
      refine Ev.ifi (by rfl) (by rfl) (fun _ => ?_) (fun z => by exact absurd z (by decide))
      refine Ev.ps 1 rfl ?_
      refine Ev.getf (v := vR 53 0) (by rfl) (by rfl) (by rfl) (rd9) rfl ?_
      refine Ev.ps 1 rfl ?_
      refine Ev.aiA (k := k_p0) (v := vR 54 k_p0) (by rfl) (by decide) (rd53) (by omega) (by have := hk_p0; omega) rfl ?_
      refine Ev.ps 1 rfl ?_
      refine Ev.aiI (k := k_p1) (v := vI (aSh k_p0 k_p1)) (by rfl) (by decide) (rd54 (by have := hk_p0; omega)) (by omega) (by have := hk_p1; omega) rfl ?_
      exact Ev.re rfl rfl rfl rfl rfl
    · rw [if_neg c2]
      refine Ev.ps 2 rfl ?_
      refine Ev.pf (by rfl) (by rfl) (by rfl) (Nat.le_of_ble_eq_true rfl) rfl (Or.inl (by rfl)) (rd9) (show _ = enc C (mkR aMk aSu aMac aMem aTk aPaid aNd aDay aOw aMo aDy aSt aLe aWk aSta aDue aCm aCb aCl aEnt aMt aBl aBar aPr aLs aLnum aLm aSh aBrk 2) W from wr9_Thr (v := 2)) ?_
      refine Ev.ps 1 rfl ?_
      refine Ev.getf (v := vI 2) (by rfl) (by rfl) (by rfl) (rd9) rfl ?_
      refine Ev.ifi (by rfl) (by rfl) (fun z => by exact absurd z (by decide)) (fun _ => ?_)
      refine Ev.ps 2 rfl ?_
      exact Ev.re rfl rfl rfl rfl rfl
  · rw [if_neg c1]
    refine Ev.ps 2 rfl ?_
    refine Ev.pf (by rfl) (by rfl) (by rfl) (Nat.le_of_ble_eq_true rfl) rfl (Or.inl (by rfl)) (rd9) (show _ = enc C (mkR aMk aSu aMac aMem aTk aPaid aNd aDay aOw aMo aDy aSt aLe aWk aSta aDue aCm aCb aCl aEnt aMt aBl aBar aPr aLs aLnum aLm aSh aBrk 1) W from wr9_Thr (v := 1)) ?_
    refine Ev.ps 1 rfl ?_
    refine Ev.getf (v := vI 1) (by rfl) (by rfl) (by rfl) (rd9) rfl ?_
    refine Ev.ifi (by rfl) (by rfl) (fun z => by exact absurd z (by decide)) (fun _ => ?_)
    refine Ev.ps 2 rfl ?_
    exact Ev.re rfl rfl rfl rfl rfl
def f_r_owes (aBrk : Nat) (aDue : Nat → Int32) (aEnt : Nat) (aMem : Nat) (aOw : Nat → Nat) (aPaid : Nat → Int64) (aSh : Nat → Nat → Int32) (p0 : Int32) : Int32 × Int32 :=
  if f_r_isMember aMem p0 then ((f_r_owed aBrk aDue aEnt aOw aPaid aSh (nP p0)).toInt32, 0) else (0, 1)
theorem s_r_owes {d : Nat} {W : WD} {aMk : Nat → Nat} {aSu : Nat → Int32} {aMac : Nat} {aMem : Nat} {aTk : Nat → Nat → Int32} {aPaid : Nat → Int64} {aNd : Nat → Nat → Bool} {aDay : Int32} {aOw : Nat → Nat} {aMo : Nat → Nat} {aDy : Nat → Int32} {aSt : Nat → Int32} {aLe : Nat → Int32} {aWk : Nat → Int32} {aSta : Nat → Int32} {aDue : Nat → Int32} {aCm : Nat → Nat} {aCb : Nat → Nat → Nat} {aCl : Nat → Nat → Int32} {aEnt : Nat} {aMt : Nat → Nat} {aBl : Nat → Int32} {aBar : Nat} {aPr : Nat → Int32} {aLs : Nat → Nat → Int32} {aLnum : Nat → Nat → Int32} {aLm : Nat → Nat} {aSh : Nat → Nat → Int32} {aBrk : Nat} {aThr : Int32} {C : CD} {p0 : Int32} (hW : WfR aMac aMem aEnt aBar aBrk aOw aMo aMk aCm aCb aMt aLm) : Cal (d + 2) 172 [vR 9 0, vI p0] (enc C (mkR aMk aSu aMac aMem aTk aPaid aNd aDay aOw aMo aDy aSt aLe aWk aSta aDue aCm aCb aCl aEnt aMt aBl aBar aPr aLs aLnum aLm aSh aBrk aThr) W) (.inl (some (vI ((f_r_owes aBrk aDue aEnt aMem aOw aPaid aSh p0).1)))) (enc C (mkR aMk aSu aMac aMem aTk aPaid aNd aDay aOw aMo aDy aSt aLe aWk aSta aDue aCm aCb aCl aEnt aMt aBl aBar aPr aLs aLnum aLm aSh aBrk ((f_r_owes aBrk aDue aEnt aMem aOw aPaid aSh p0).2)) W) := by
  obtain ⟨wMac, wMem, wEnt, wBar, wBrk, wOw, wMo, wMk, wCm, wCb, wMt, wLm⟩ := id hW
  refine Cal.mk (n := 2) rfl (Nat.le_of_ble_eq_true rfl) rfl ?_
  unfold f_r_owes
  refine Ev.ps 3 rfl ?_
  refine Ev.vir (as := [vI p0]) (rest := [vR 9 0]) (by rfl) (by rfl) (by rfl) (by rfl) rfl (Nat.le_of_ble_eq_true rfl) (by rfl) (by rw [rd9]; rfl) (s_r_isMember ) ?_
  refine Ev.ifbe (by rfl) (by rfl) (fun c1 => ?_) (fun c1 => ?_)
  · rw [if_pos c1]
    have q_p0 := isMember_nat wMem c1
    generalize nP p0 = k_p0 at q_p0 ⊢
    obtain ⟨rfl, hk_p0⟩ := q_p0
    refine Ev.ps 2 rfl ?_
    refine Ev.pf (by rfl) (by rfl) (by rfl) (Nat.le_of_ble_eq_true rfl) rfl (Or.inl (by rfl)) (rd9) (show _ = enc C (mkR aMk aSu aMac aMem aTk aPaid aNd aDay aOw aMo aDy aSt aLe aWk aSta aDue aCm aCb aCl aEnt aMt aBl aBar aPr aLs aLnum aLm aSh aBrk 0) W from wr9_Thr (v := 0)) ?_
    refine Ev.ps 1 rfl ?_
    refine Ev.getf (v := vI 0) (by rfl) (by rfl) (by rfl) (rd9) rfl ?_
    refine Ev.ifi (by rfl) (by rfl) (fun _ => ?_) (fun z => by exact absurd z (by decide))
    refine Ev.ps 2 rfl ?_
    refine Ev.vir (as := [vI (nI k_p0)]) (rest := []) (by rfl) (by rfl) (by rfl) (by rfl) rfl (Nat.le_of_ble_eq_true rfl) (by rfl) (by rw [rd9]; rfl) (s_r_owed hW (by have := hk_p0; omega)) ?_
    refine Ev.ps 1 rfl ?_
    exact Ev.re rfl rfl rfl rfl rfl
  · rw [if_neg c1]
    refine Ev.ps 1 rfl ?_
    refine Ev.pf (by rfl) (by rfl) (by rfl) (Nat.le_of_ble_eq_true rfl) rfl (Or.inl (by rfl)) (rd9) (show _ = enc C (mkR aMk aSu aMac aMem aTk aPaid aNd aDay aOw aMo aDy aSt aLe aWk aSta aDue aCm aCb aCl aEnt aMt aBl aBar aPr aLs aLnum aLm aSh aBrk 1) W from wr9_Thr (v := 1)) ?_
    refine Ev.ps 1 rfl ?_
    refine Ev.getf (v := vI 1) (by rfl) (by rfl) (by rfl) (rd9) rfl ?_
    refine Ev.ifi (by rfl) (by rfl) (fun z => by exact absurd z (by decide)) (fun _ => ?_)
    refine Ev.ps 2 rfl ?_
    exact Ev.re rfl rfl rfl rfl rfl
def f_r_owesByEntries (aBrk : Nat) (aDue : Nat → Int32) (aEnt : Nat) (aMem : Nat) (aOw : Nat → Nat) (aPaid : Nat → Int64) (aSh : Nat → Nat → Int32) (p0 : Int32) : Int32 × Int32 :=
  ((f_r_owes aBrk aDue aEnt aMem aOw aPaid aSh p0).1, (f_r_owes aBrk aDue aEnt aMem aOw aPaid aSh p0).2)
theorem s_r_owesByEntries {d : Nat} {W : WD} {aMk : Nat → Nat} {aSu : Nat → Int32} {aMac : Nat} {aMem : Nat} {aTk : Nat → Nat → Int32} {aPaid : Nat → Int64} {aNd : Nat → Nat → Bool} {aDay : Int32} {aOw : Nat → Nat} {aMo : Nat → Nat} {aDy : Nat → Int32} {aSt : Nat → Int32} {aLe : Nat → Int32} {aWk : Nat → Int32} {aSta : Nat → Int32} {aDue : Nat → Int32} {aCm : Nat → Nat} {aCb : Nat → Nat → Nat} {aCl : Nat → Nat → Int32} {aEnt : Nat} {aMt : Nat → Nat} {aBl : Nat → Int32} {aBar : Nat} {aPr : Nat → Int32} {aLs : Nat → Nat → Int32} {aLnum : Nat → Nat → Int32} {aLm : Nat → Nat} {aSh : Nat → Nat → Int32} {aBrk : Nat} {aThr : Int32} {C : CD} {p0 : Int32} (hW : WfR aMac aMem aEnt aBar aBrk aOw aMo aMk aCm aCb aMt aLm) : Cal (d + 3) 173 [vR 9 0, vI p0] (enc C (mkR aMk aSu aMac aMem aTk aPaid aNd aDay aOw aMo aDy aSt aLe aWk aSta aDue aCm aCb aCl aEnt aMt aBl aBar aPr aLs aLnum aLm aSh aBrk aThr) W) (.inl (some (vI ((f_r_owesByEntries aBrk aDue aEnt aMem aOw aPaid aSh p0).1)))) (enc C (mkR aMk aSu aMac aMem aTk aPaid aNd aDay aOw aMo aDy aSt aLe aWk aSta aDue aCm aCb aCl aEnt aMt aBl aBar aPr aLs aLnum aLm aSh aBrk ((f_r_owesByEntries aBrk aDue aEnt aMem aOw aPaid aSh p0).2)) W) := by
  obtain ⟨wMac, wMem, wEnt, wBar, wBrk, wOw, wMo, wMk, wCm, wCb, wMt, wLm⟩ := id hW
  refine Cal.mk (n := 2) rfl (Nat.le_of_ble_eq_true rfl) rfl ?_
  unfold f_r_owesByEntries
  refine Ev.ps 2 rfl ?_
  refine Ev.vir (as := [vI p0]) (rest := []) (by rfl) (by rfl) (by rfl) (by rfl) rfl (Nat.le_of_ble_eq_true rfl) (by rfl) (by rw [rd9]; rfl) (s_r_owes hW) ?_
  exact Ev.re rfl rfl rfl rfl rfl
def f_r_dueOf (aDue : Nat → Int32) (aEnt : Nat) (p0 : Int32) : Int32 × Int32 :=
  if f_r_isEntry aEnt p0 then (aDue (nP p0), 0) else (0, 1)
theorem s_r_dueOf {d : Nat} {W : WD} {aMk : Nat → Nat} {aSu : Nat → Int32} {aMac : Nat} {aMem : Nat} {aTk : Nat → Nat → Int32} {aPaid : Nat → Int64} {aNd : Nat → Nat → Bool} {aDay : Int32} {aOw : Nat → Nat} {aMo : Nat → Nat} {aDy : Nat → Int32} {aSt : Nat → Int32} {aLe : Nat → Int32} {aWk : Nat → Int32} {aSta : Nat → Int32} {aDue : Nat → Int32} {aCm : Nat → Nat} {aCb : Nat → Nat → Nat} {aCl : Nat → Nat → Int32} {aEnt : Nat} {aMt : Nat → Nat} {aBl : Nat → Int32} {aBar : Nat} {aPr : Nat → Int32} {aLs : Nat → Nat → Int32} {aLnum : Nat → Nat → Int32} {aLm : Nat → Nat} {aSh : Nat → Nat → Int32} {aBrk : Nat} {aThr : Int32} {C : CD} {p0 : Int32} (hW : WfR aMac aMem aEnt aBar aBrk aOw aMo aMk aCm aCb aMt aLm) : Cal (d + 2) 174 [vR 9 0, vI p0] (enc C (mkR aMk aSu aMac aMem aTk aPaid aNd aDay aOw aMo aDy aSt aLe aWk aSta aDue aCm aCb aCl aEnt aMt aBl aBar aPr aLs aLnum aLm aSh aBrk aThr) W) (.inl (some (vI ((f_r_dueOf aDue aEnt p0).1)))) (enc C (mkR aMk aSu aMac aMem aTk aPaid aNd aDay aOw aMo aDy aSt aLe aWk aSta aDue aCm aCb aCl aEnt aMt aBl aBar aPr aLs aLnum aLm aSh aBrk ((f_r_dueOf aDue aEnt p0).2)) W) := by
  obtain ⟨wMac, wMem, wEnt, wBar, wBrk, wOw, wMo, wMk, wCm, wCb, wMt, wLm⟩ := id hW
  refine Cal.mk (n := 2) rfl (Nat.le_of_ble_eq_true rfl) rfl ?_
  unfold f_r_dueOf
  refine Ev.ps 3 rfl ?_
  refine Ev.vir (as := [vI p0]) (rest := [vR 9 0]) (by rfl) (by rfl) (by rfl) (by rfl) rfl (Nat.le_of_ble_eq_true rfl) (by rfl) (by rw [rd9]; rfl) (s_r_isEntry ) ?_
  refine Ev.ifbe (by rfl) (by rfl) (fun c1 => ?_) (fun c1 => ?_)
  · rw [if_pos c1]
    have q_p0 := isEntry_nat wEnt c1
    generalize nP p0 = k_p0 at q_p0 ⊢
    obtain ⟨rfl, hk_p0⟩ := q_p0
    refine Ev.ps 2 rfl ?_
    refine Ev.pf (by rfl) (by rfl) (by rfl) (Nat.le_of_ble_eq_true rfl) rfl (Or.inl (by rfl)) (rd9) (show _ = enc C (mkR aMk aSu aMac aMem aTk aPaid aNd aDay aOw aMo aDy aSt aLe aWk aSta aDue aCm aCb aCl aEnt aMt aBl aBar aPr aLs aLnum aLm aSh aBrk 0) W from wr9_Thr (v := 0)) ?_
    refine Ev.ps 1 rfl ?_
    refine Ev.getf (v := vI 0) (by rfl) (by rfl) (by rfl) (rd9) rfl ?_
    refine Ev.ifi (by rfl) (by rfl) (fun _ => ?_) (fun z => by exact absurd z (by decide))
    refine Ev.ps 1 rfl ?_
    refine Ev.getf (v := vR 39 0) (by rfl) (by rfl) (by rfl) (rd9) rfl ?_
    refine Ev.ps 1 rfl ?_
    refine Ev.aiI (k := k_p0) (v := vI (aDue k_p0)) (by rfl) (by decide) (rd39) (by omega) (by have := hk_p0; omega) rfl ?_
    exact Ev.re rfl rfl rfl rfl rfl
  · rw [if_neg c1]
    refine Ev.ps 1 rfl ?_
    refine Ev.pf (by rfl) (by rfl) (by rfl) (Nat.le_of_ble_eq_true rfl) rfl (Or.inl (by rfl)) (rd9) (show _ = enc C (mkR aMk aSu aMac aMem aTk aPaid aNd aDay aOw aMo aDy aSt aLe aWk aSta aDue aCm aCb aCl aEnt aMt aBl aBar aPr aLs aLnum aLm aSh aBrk 1) W from wr9_Thr (v := 1)) ?_
    refine Ev.ps 1 rfl ?_
    refine Ev.getf (v := vI 1) (by rfl) (by rfl) (by rfl) (rd9) rfl ?_
    refine Ev.ifi (by rfl) (by rfl) (fun z => by exact absurd z (by decide)) (fun _ => ?_)
    refine Ev.ps 2 rfl ?_
    exact Ev.re rfl rfl rfl rfl rfl
def f_r_isLive (aDay : Int32) (aMem : Nat) (aNd : Nat → Nat → Bool) (aTk : Nat → Nat → Int32) (p0 p1 D : Int32) : Bool × Int32 :=
  if f_r_isMember aMem p0 then
    if f_r_isKind p1 then if f_r_in D aDay 999 then if f_r_live aNd aTk (nP p0) (nP p1) D then (true, 0) else (false, 0) else (false, 2) else (false, 2)
  else
    (false, 1)
theorem s_r_isLive {d : Nat} {W : WD} {aMk : Nat → Nat} {aSu : Nat → Int32} {aMac : Nat} {aMem : Nat} {aTk : Nat → Nat → Int32} {aPaid : Nat → Int64} {aNd : Nat → Nat → Bool} {aDay : Int32} {aOw : Nat → Nat} {aMo : Nat → Nat} {aDy : Nat → Int32} {aSt : Nat → Int32} {aLe : Nat → Int32} {aWk : Nat → Int32} {aSta : Nat → Int32} {aDue : Nat → Int32} {aCm : Nat → Nat} {aCb : Nat → Nat → Nat} {aCl : Nat → Nat → Int32} {aEnt : Nat} {aMt : Nat → Nat} {aBl : Nat → Int32} {aBar : Nat} {aPr : Nat → Int32} {aLs : Nat → Nat → Int32} {aLnum : Nat → Nat → Int32} {aLm : Nat → Nat} {aSh : Nat → Nat → Int32} {aBrk : Nat} {aThr : Int32} {C : CD} {p0 : Int32} {p1 : Int32} {D : Int32} (hW : WfR aMac aMem aEnt aBar aBrk aOw aMo aMk aCm aCb aMt aLm) (hA : Acy aNd) : Cal (d + 6) 124 [vR 9 0, vI p0, vI p1, vI D] (enc C (mkR aMk aSu aMac aMem aTk aPaid aNd aDay aOw aMo aDy aSt aLe aWk aSta aDue aCm aCb aCl aEnt aMt aBl aBar aPr aLs aLnum aLm aSh aBrk aThr) W) (.inl (some (vI (bI ((f_r_isLive aDay aMem aNd aTk p0 p1 D).1))))) (enc C (mkR aMk aSu aMac aMem aTk aPaid aNd aDay aOw aMo aDy aSt aLe aWk aSta aDue aCm aCb aCl aEnt aMt aBl aBar aPr aLs aLnum aLm aSh aBrk ((f_r_isLive aDay aMem aNd aTk p0 p1 D).2)) W) := by
  obtain ⟨wMac, wMem, wEnt, wBar, wBrk, wOw, wMo, wMk, wCm, wCb, wMt, wLm⟩ := id hW
  refine Cal.mk (n := 4) rfl (Nat.le_of_ble_eq_true rfl) rfl ?_
  unfold f_r_isLive
  refine Ev.ps 3 rfl ?_
  refine Ev.vir (as := [vI p0]) (rest := [vR 9 0]) (by rfl) (by rfl) (by rfl) (by rfl) rfl (Nat.le_of_ble_eq_true rfl) (by rfl) (by rw [rd9]; rfl) (s_r_isMember ) ?_
  refine Ev.ifbn (by rfl) (by rfl) (fun c1 => ?_) (fun c1 => ?_)
  · rw [if_pos c1]
    have q_p0 := isMember_nat wMem c1
    generalize nP p0 = k_p0 at q_p0 ⊢
    obtain ⟨rfl, hk_p0⟩ := q_p0
    refine Ev.ps 1 rfl ?_
    refine Ev.sta (as := [vI p1]) (rest := [vR 9 0]) (by rfl) (by rfl) (by rfl) (by rfl) rfl (Nat.le_of_ble_eq_true rfl) (s_r_isKind ) ?_
    refine Ev.ifbe (by rfl) (by rfl) (fun c2 => ?_) (fun c2 => ?_)
    · rw [if_pos c2]
      have q_p1 := isKind_nat c2
      generalize nP p1 = k_p1 at q_p1 ⊢
      obtain ⟨rfl, hk_p1⟩ := q_p1
      refine Ev.ps 2 rfl ?_
      refine Ev.getf (v := vI aDay) (by rfl) (by rfl) (by rfl) (rd9) rfl ?_
      refine Ev.ps 1 rfl ?_
      refine Ev.sta (as := [vI D, vI aDay, vI 999]) (rest := [vR 9 0]) (by rfl) (by rfl) (by rfl) (by rfl) rfl (Nat.le_of_ble_eq_true rfl) (s_r_in ) ?_
      refine Ev.ifbn (by rfl) (by rfl) (fun c3 => ?_) (fun c3 => ?_)
      · rw [if_pos c3]
        refine Ev.ps 1 rfl ?_
        refine Ev.pf (by rfl) (by rfl) (by rfl) (Nat.le_of_ble_eq_true rfl) rfl (Or.inl (by rfl)) (rd9) (show _ = enc C (mkR aMk aSu aMac aMem aTk aPaid aNd aDay aOw aMo aDy aSt aLe aWk aSta aDue aCm aCb aCl aEnt aMt aBl aBar aPr aLs aLnum aLm aSh aBrk 0) W from wr9_Thr (v := 0)) ?_
        refine Ev.ps 1 rfl ?_
        refine Ev.getf (v := vI 0) (by rfl) (by rfl) (by rfl) (rd9) rfl ?_
        refine Ev.ifi (by rfl) (by rfl) (fun z => by exact absurd z (by decide)) (fun _ => ?_)
        refine Ev.ps 4 rfl ?_
        refine Ev.vir (as := [vI (nI k_p0), vI (nI k_p1), vI D]) (rest := []) (by rfl) (by rfl) (by rfl) (by rfl) rfl (Nat.le_of_ble_eq_true rfl) (by rfl) (by rw [rd9]; rfl) (s_r_live hA (by have := hk_p0; omega) (by have := hk_p1; omega)) ?_
        refine Ev.ifbe (by rfl) (by rfl) (fun c4 => ?_) (fun c4 => ?_)
        · rw [if_pos c4]
          refine Ev.ps 2 rfl ?_
          exact Ev.re rfl rfl rfl rfl rfl
        · rw [if_neg c4]
          refine Ev.ps 1 rfl ?_
          exact Ev.re rfl rfl rfl rfl rfl
      · rw [if_neg c3]
        refine Ev.ps 2 rfl ?_
        refine Ev.pf (by rfl) (by rfl) (by rfl) (Nat.le_of_ble_eq_true rfl) rfl (Or.inl (by rfl)) (rd9) (show _ = enc C (mkR aMk aSu aMac aMem aTk aPaid aNd aDay aOw aMo aDy aSt aLe aWk aSta aDue aCm aCb aCl aEnt aMt aBl aBar aPr aLs aLnum aLm aSh aBrk 2) W from wr9_Thr (v := 2)) ?_
        refine Ev.ps 1 rfl ?_
        refine Ev.getf (v := vI 2) (by rfl) (by rfl) (by rfl) (rd9) rfl ?_
        refine Ev.ifi (by rfl) (by rfl) (fun _ => ?_) (fun z => by exact absurd z (by decide))
        refine Ev.ps 1 rfl ?_
        exact Ev.re rfl rfl rfl rfl rfl
    · rw [if_neg c2]
      refine Ev.ps 2 rfl ?_
      refine Ev.pf (by rfl) (by rfl) (by rfl) (Nat.le_of_ble_eq_true rfl) rfl (Or.inl (by rfl)) (rd9) (show _ = enc C (mkR aMk aSu aMac aMem aTk aPaid aNd aDay aOw aMo aDy aSt aLe aWk aSta aDue aCm aCb aCl aEnt aMt aBl aBar aPr aLs aLnum aLm aSh aBrk 2) W from wr9_Thr (v := 2)) ?_
      refine Ev.ps 1 rfl ?_
      refine Ev.getf (v := vI 2) (by rfl) (by rfl) (by rfl) (rd9) rfl ?_
      refine Ev.ifi (by rfl) (by rfl) (fun _ => ?_) (fun z => by exact absurd z (by decide))
      refine Ev.ps 1 rfl ?_
      exact Ev.re rfl rfl rfl rfl rfl
  · rw [if_neg c1]
    refine Ev.ps 2 rfl ?_
    refine Ev.pf (by rfl) (by rfl) (by rfl) (Nat.le_of_ble_eq_true rfl) rfl (Or.inl (by rfl)) (rd9) (show _ = enc C (mkR aMk aSu aMac aMem aTk aPaid aNd aDay aOw aMo aDy aSt aLe aWk aSta aDue aCm aCb aCl aEnt aMt aBl aBar aPr aLs aLnum aLm aSh aBrk 1) W from wr9_Thr (v := 1)) ?_
    refine Ev.ps 1 rfl ?_
    refine Ev.getf (v := vI 1) (by rfl) (by rfl) (by rfl) (rd9) rfl ?_
    refine Ev.ifi (by rfl) (by rfl) (fun _ => ?_) (fun z => by exact absurd z (by decide))
    refine Ev.ps 1 rfl ?_
    exact Ev.re rfl rfl rfl rfl rfl
