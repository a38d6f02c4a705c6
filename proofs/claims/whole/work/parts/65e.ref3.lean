/-! the reference: calls, on (written by gref3.py) -/
def f_r_minuteAt (aDay : Int32) (aDy : Nat → Int32) (aEnt : Nat) (aLe : Nat → Int32) (aMac : Nat) (aMo : Nat → Nat) (aSt : Nat → Int32) (aSta : Nat → Int32) (aSu : Nat → Int32) (aWk : Nat → Int32) (p0 D M : Int32) : Int32 × Int32 :=
  if (f_r_may aDay aMac p0 D 0).1 then if f_r_in M 0 479 then (f_r_minute aDy aEnt aLe aMo aSt aSta aSu aWk (nP p0) D M, 0) else (0, 2) else (0, (f_r_may aDay aMac p0 D 0).2)
theorem s_r_minuteAt {d : Nat} {W : WD} {aMk : Nat → Nat} {aSu : Nat → Int32} {aMac : Nat} {aMem : Nat} {aTk : Nat → Nat → Int32} {aPaid : Nat → Int64} {aNd : Nat → Nat → Bool} {aDay : Int32} {aOw : Nat → Nat} {aMo : Nat → Nat} {aDy : Nat → Int32} {aSt : Nat → Int32} {aLe : Nat → Int32} {aWk : Nat → Int32} {aSta : Nat → Int32} {aDue : Nat → Int32} {aCm : Nat → Nat} {aCb : Nat → Nat → Nat} {aCl : Nat → Nat → Int32} {aEnt : Nat} {aMt : Nat → Nat} {aBl : Nat → Int32} {aBar : Nat} {aPr : Nat → Int32} {aLs : Nat → Nat → Int32} {aLnum : Nat → Nat → Int32} {aLm : Nat → Nat} {aSh : Nat → Nat → Int32} {aBrk : Nat} {aThr : Int32} {C : CD} {p0 : Int32} {D : Int32} {M : Int32} (hW : WfR aMac aMem aEnt aBar aBrk aOw aMo aMk aCm aCb aMt aLm) : Cal (d + 3) 145 [vR 9 0, vI p0, vI D, vI M] (enc C (mkR aMk aSu aMac aMem aTk aPaid aNd aDay aOw aMo aDy aSt aLe aWk aSta aDue aCm aCb aCl aEnt aMt aBl aBar aPr aLs aLnum aLm aSh aBrk aThr) W) (.inl (some (vI ((f_r_minuteAt aDay aDy aEnt aLe aMac aMo aSt aSta aSu aWk p0 D M).1)))) (enc C (mkR aMk aSu aMac aMem aTk aPaid aNd aDay aOw aMo aDy aSt aLe aWk aSta aDue aCm aCb aCl aEnt aMt aBl aBar aPr aLs aLnum aLm aSh aBrk ((f_r_minuteAt aDay aDy aEnt aLe aMac aMo aSt aSta aSu aWk p0 D M).2)) W) := by
  obtain ⟨wMac, wMem, wEnt, wBar, wBrk, wOw, wMo, wMk, wCm, wCb, wMt, wLm⟩ := id hW
  refine Cal.mk (n := 4) rfl (Nat.le_of_ble_eq_true rfl) rfl ?_
  unfold f_r_minuteAt
  refine Ev.ps 4 rfl ?_
  refine Ev.vir (as := [vI p0, vI D, vI 0]) (rest := []) (by rfl) (by rfl) (by rfl) (by rfl) rfl (Nat.le_of_ble_eq_true rfl) (by rfl) (by rw [rd9]; rfl) (s_r_may hW) ?_
  refine Ev.ifbn (by rfl) (by rfl) (fun c1 => ?_) (fun c1 => ?_)
  · rw [if_pos c1]
    have q_p0 := isMachine_nat wMac (may_pos c1)
    generalize nP p0 = k_p0 at q_p0 ⊢
    obtain ⟨rfl, hk_p0⟩ := q_p0
    refine Ev.ps 4 rfl ?_
    refine Ev.sta (as := [vI M, vI 0, vI 479]) (rest := [vR 9 0]) (by rfl) (by rfl) (by rfl) (by rfl) rfl (Nat.le_of_ble_eq_true rfl) (s_r_in ) ?_
    refine Ev.ifbe (by rfl) (by rfl) (fun c2 => ?_) (fun c2 => ?_)
    · rw [if_pos c2]
      refine Ev.ps 2 rfl ?_
      refine Ev.pf (by rfl) (by rfl) (by rfl) (Nat.le_of_ble_eq_true rfl) rfl (Or.inl (by rfl)) (rd9) (show _ = enc C (mkR aMk aSu aMac aMem aTk aPaid aNd aDay aOw aMo aDy aSt aLe aWk aSta aDue aCm aCb aCl aEnt aMt aBl aBar aPr aLs aLnum aLm aSh aBrk 0) W from wr9_Thr (v := 0)) ?_
      refine Ev.ps 1 rfl ?_
      refine Ev.getf (v := vI 0) (by rfl) (by rfl) (by rfl) (rd9) rfl ?_
      refine Ev.ifi (by rfl) (by rfl) (fun _ => ?_) (fun z => by exact absurd z (by decide))
      refine Ev.ps 4 rfl ?_
      refine Ev.vir (as := [vI (nI k_p0), vI D, vI M]) (rest := []) (by rfl) (by rfl) (by rfl) (by rfl) rfl (Nat.le_of_ble_eq_true rfl) (by rfl) (by rw [rd9]; rfl) (s_r_minute hW (by have := hk_p0; omega)) ?_
      exact Ev.re rfl rfl rfl rfl (rstC rfl chr_minute)
    · rw [if_neg c2]
      refine Ev.ps 1 rfl ?_
      refine Ev.pf (by rfl) (by rfl) (by rfl) (Nat.le_of_ble_eq_true rfl) rfl (Or.inl (by rfl)) (rd9) (show _ = enc C (mkR aMk aSu aMac aMem aTk aPaid aNd aDay aOw aMo aDy aSt aLe aWk aSta aDue aCm aCb aCl aEnt aMt aBl aBar aPr aLs aLnum aLm aSh aBrk 2) W from wr9_Thr (v := 2)) ?_
      refine Ev.ps 1 rfl ?_
      refine Ev.getf (v := vI 2) (by rfl) (by rfl) (by rfl) (rd9) rfl ?_
      refine Ev.ifi (by rfl) (by rfl) (fun z => by exact absurd z (by decide)) (fun _ => ?_)
      refine Ev.ps 2 rfl ?_
      exact Ev.re rfl rfl rfl rfl rfl
  · rw [if_neg c1]
    refine Ev.ps 1 rfl ?_
    exact Ev.re rfl rfl rfl rfl rfl
def f_r_usedMinutes (aDay : Int32) (aDy : Nat → Int32) (aEnt : Nat) (aLe : Nat → Int32) (aMac : Nat) (aMo : Nat → Nat) (aSta : Nat → Int32) (p0 D : Int32) : Int32 × Int32 :=
  if (f_r_may aDay aMac p0 D 0).1 then (f_r_used aDy aEnt aLe aMo aSta (nP p0) D, (f_r_may aDay aMac (nI (nP p0)) D 0).2) else (0, (f_r_may aDay aMac p0 D 0).2)
theorem s_r_usedMinutes {d : Nat} {W : WD} {aMk : Nat → Nat} {aSu : Nat → Int32} {aMac : Nat} {aMem : Nat} {aTk : Nat → Nat → Int32} {aPaid : Nat → Int64} {aNd : Nat → Nat → Bool} {aDay : Int32} {aOw : Nat → Nat} {aMo : Nat → Nat} {aDy : Nat → Int32} {aSt : Nat → Int32} {aLe : Nat → Int32} {aWk : Nat → Int32} {aSta : Nat → Int32} {aDue : Nat → Int32} {aCm : Nat → Nat} {aCb : Nat → Nat → Nat} {aCl : Nat → Nat → Int32} {aEnt : Nat} {aMt : Nat → Nat} {aBl : Nat → Int32} {aBar : Nat} {aPr : Nat → Int32} {aLs : Nat → Nat → Int32} {aLnum : Nat → Nat → Int32} {aLm : Nat → Nat} {aSh : Nat → Nat → Int32} {aBrk : Nat} {aThr : Int32} {C : CD} {p0 : Int32} {D : Int32} (hW : WfR aMac aMem aEnt aBar aBrk aOw aMo aMk aCm aCb aMt aLm) : Cal (d + 3) 148 [vR 9 0, vI p0, vI D] (enc C (mkR aMk aSu aMac aMem aTk aPaid aNd aDay aOw aMo aDy aSt aLe aWk aSta aDue aCm aCb aCl aEnt aMt aBl aBar aPr aLs aLnum aLm aSh aBrk aThr) W) (.inl (some (vI ((f_r_usedMinutes aDay aDy aEnt aLe aMac aMo aSta p0 D).1)))) (enc C (mkR aMk aSu aMac aMem aTk aPaid aNd aDay aOw aMo aDy aSt aLe aWk aSta aDue aCm aCb aCl aEnt aMt aBl aBar aPr aLs aLnum aLm aSh aBrk ((f_r_usedMinutes aDay aDy aEnt aLe aMac aMo aSta p0 D).2)) W) := by
  obtain ⟨wMac, wMem, wEnt, wBar, wBrk, wOw, wMo, wMk, wCm, wCb, wMt, wLm⟩ := id hW
  refine Cal.mk (n := 3) rfl (Nat.le_of_ble_eq_true rfl) rfl ?_
  unfold f_r_usedMinutes
  refine Ev.ps 4 rfl ?_
  refine Ev.vir (as := [vI p0, vI D, vI 0]) (rest := []) (by rfl) (by rfl) (by rfl) (by rfl) rfl (Nat.le_of_ble_eq_true rfl) (by rfl) (by rw [rd9]; rfl) (s_r_may hW) ?_
  refine Ev.ifbe (by rfl) (by rfl) (fun c1 => ?_) (fun c1 => ?_)
  · rw [if_pos c1]
    have q_p0 := isMachine_nat wMac (may_pos c1)
    generalize nP p0 = k_p0 at q_p0 ⊢
    obtain ⟨rfl, hk_p0⟩ := q_p0
    refine Ev.ps 3 rfl ?_
    refine Ev.vir (as := [vI (nI k_p0), vI D]) (rest := []) (by rfl) (by rfl) (by rfl) (by rfl) rfl (Nat.le_of_ble_eq_true rfl) (by rfl) (by rw [rd9]; rfl) (s_r_used hW (by have := hk_p0; omega)) ?_
    refine Ev.ps 1 rfl ?_
    exact Ev.re rfl rfl rfl rfl rfl
  · rw [if_neg c1]
    refine Ev.ps 1 rfl ?_
    exact Ev.re rfl rfl rfl rfl rfl
def f_r_usedByMinutes (aDay : Int32) (aDy : Nat → Int32) (aEnt : Nat) (aLe : Nat → Int32) (aMac : Nat) (aMo : Nat → Nat) (aSta : Nat → Int32) (p0 D : Int32) : Int32 × Int32 :=
  ((f_r_usedMinutes aDay aDy aEnt aLe aMac aMo aSta p0 D).1, (f_r_usedMinutes aDay aDy aEnt aLe aMac aMo aSta p0 D).2)
theorem s_r_usedByMinutes {d : Nat} {W : WD} {aMk : Nat → Nat} {aSu : Nat → Int32} {aMac : Nat} {aMem : Nat} {aTk : Nat → Nat → Int32} {aPaid : Nat → Int64} {aNd : Nat → Nat → Bool} {aDay : Int32} {aOw : Nat → Nat} {aMo : Nat → Nat} {aDy : Nat → Int32} {aSt : Nat → Int32} {aLe : Nat → Int32} {aWk : Nat → Int32} {aSta : Nat → Int32} {aDue : Nat → Int32} {aCm : Nat → Nat} {aCb : Nat → Nat → Nat} {aCl : Nat → Nat → Int32} {aEnt : Nat} {aMt : Nat → Nat} {aBl : Nat → Int32} {aBar : Nat} {aPr : Nat → Int32} {aLs : Nat → Nat → Int32} {aLnum : Nat → Nat → Int32} {aLm : Nat → Nat} {aSh : Nat → Nat → Int32} {aBrk : Nat} {aThr : Int32} {C : CD} {p0 : Int32} {D : Int32} (hW : WfR aMac aMem aEnt aBar aBrk aOw aMo aMk aCm aCb aMt aLm) : Cal (d + 4) 149 [vR 9 0, vI p0, vI D] (enc C (mkR aMk aSu aMac aMem aTk aPaid aNd aDay aOw aMo aDy aSt aLe aWk aSta aDue aCm aCb aCl aEnt aMt aBl aBar aPr aLs aLnum aLm aSh aBrk aThr) W) (.inl (some (vI ((f_r_usedByMinutes aDay aDy aEnt aLe aMac aMo aSta p0 D).1)))) (enc C (mkR aMk aSu aMac aMem aTk aPaid aNd aDay aOw aMo aDy aSt aLe aWk aSta aDue aCm aCb aCl aEnt aMt aBl aBar aPr aLs aLnum aLm aSh aBrk ((f_r_usedByMinutes aDay aDy aEnt aLe aMac aMo aSta p0 D).2)) W) := by
  obtain ⟨wMac, wMem, wEnt, wBar, wBrk, wOw, wMo, wMk, wCm, wCb, wMt, wLm⟩ := id hW
  refine Cal.mk (n := 3) rfl (Nat.le_of_ble_eq_true rfl) rfl ?_
  unfold f_r_usedByMinutes
  refine Ev.ps 3 rfl ?_
  refine Ev.vir (as := [vI p0, vI D]) (rest := []) (by rfl) (by rfl) (by rfl) (by rfl) rfl (Nat.le_of_ble_eq_true rfl) (by rfl) (by rw [rd9]; rfl) (s_r_usedMinutes hW) ?_
  exact Ev.re rfl rfl rfl rfl rfl
def f_r_setupMinutes (aDay : Int32) (aDy : Nat → Int32) (aEnt : Nat) (aLe : Nat → Int32) (aMac : Nat) (aMo : Nat → Nat) (aSt : Nat → Int32) (aSta : Nat → Int32) (aSu : Nat → Int32) (aWk : Nat → Int32) (p0 D : Int32) : Int32 × Int32 :=
  if (f_r_may aDay aMac p0 D 0).1 then (f_r_minutes aDy aEnt aLe aMo aSt aSta aSu aWk (nP p0) D 115, (f_r_may aDay aMac (nI (nP p0)) D 0).2) else (0, (f_r_may aDay aMac p0 D 0).2)
theorem s_r_setupMinutes {d : Nat} {W : WD} {aMk : Nat → Nat} {aSu : Nat → Int32} {aMac : Nat} {aMem : Nat} {aTk : Nat → Nat → Int32} {aPaid : Nat → Int64} {aNd : Nat → Nat → Bool} {aDay : Int32} {aOw : Nat → Nat} {aMo : Nat → Nat} {aDy : Nat → Int32} {aSt : Nat → Int32} {aLe : Nat → Int32} {aWk : Nat → Int32} {aSta : Nat → Int32} {aDue : Nat → Int32} {aCm : Nat → Nat} {aCb : Nat → Nat → Nat} {aCl : Nat → Nat → Int32} {aEnt : Nat} {aMt : Nat → Nat} {aBl : Nat → Int32} {aBar : Nat} {aPr : Nat → Int32} {aLs : Nat → Nat → Int32} {aLnum : Nat → Nat → Int32} {aLm : Nat → Nat} {aSh : Nat → Nat → Int32} {aBrk : Nat} {aThr : Int32} {C : CD} {p0 : Int32} {D : Int32} (hW : WfR aMac aMem aEnt aBar aBrk aOw aMo aMk aCm aCb aMt aLm) : Cal (d + 4) 150 [vR 9 0, vI p0, vI D] (enc C (mkR aMk aSu aMac aMem aTk aPaid aNd aDay aOw aMo aDy aSt aLe aWk aSta aDue aCm aCb aCl aEnt aMt aBl aBar aPr aLs aLnum aLm aSh aBrk aThr) W) (.inl (some (vI ((f_r_setupMinutes aDay aDy aEnt aLe aMac aMo aSt aSta aSu aWk p0 D).1)))) (enc C (mkR aMk aSu aMac aMem aTk aPaid aNd aDay aOw aMo aDy aSt aLe aWk aSta aDue aCm aCb aCl aEnt aMt aBl aBar aPr aLs aLnum aLm aSh aBrk ((f_r_setupMinutes aDay aDy aEnt aLe aMac aMo aSt aSta aSu aWk p0 D).2)) W) := by
  obtain ⟨wMac, wMem, wEnt, wBar, wBrk, wOw, wMo, wMk, wCm, wCb, wMt, wLm⟩ := id hW
  refine Cal.mk (n := 3) rfl (Nat.le_of_ble_eq_true rfl) rfl ?_
  unfold f_r_setupMinutes
  refine Ev.ps 4 rfl ?_
  refine Ev.vir (as := [vI p0, vI D, vI 0]) (rest := []) (by rfl) (by rfl) (by rfl) (by rfl) rfl (Nat.le_of_ble_eq_true rfl) (by rfl) (by rw [rd9]; rfl) (s_r_may hW) ?_
  refine Ev.ifbe (by rfl) (by rfl) (fun c1 => ?_) (fun c1 => ?_)
  · rw [if_pos c1]
    have q_p0 := isMachine_nat wMac (may_pos c1)
    generalize nP p0 = k_p0 at q_p0 ⊢
    obtain ⟨rfl, hk_p0⟩ := q_p0
    refine Ev.ps 4 rfl ?_
    refine Ev.vir (as := [vI (nI k_p0), vI D, vI 115]) (rest := []) (by rfl) (by rfl) (by rfl) (by rfl) rfl (Nat.le_of_ble_eq_true rfl) (by rfl) (by rw [rd9]; rfl) (s_r_minutes hW (by have := hk_p0; omega)) ?_
    refine Ev.ps 1 rfl ?_
    exact Ev.re rfl rfl rfl rfl rfl
  · rw [if_neg c1]
    refine Ev.ps 1 rfl ?_
    exact Ev.re rfl rfl rfl rfl rfl
def r_firstStart_L43 (aDay : Int32) (aDy : Nat → Int32) (aEnt : Nat) (aLe : Nat → Int32) (aMac : Nat) (aMo : Nat → Nat) (aSt : Nat → Int32) (aSta : Nat → Int32) (aSu : Nat → Int32) (aWk : Nat → Int32) (k_p0 : Nat) (D : Int32) (M : Int32) (V : Int32) : Nat → Nat → (Int32 × Int32)
  | 0, j43 =>
    (0, 3)
  | k43 + 1, j43 =>
    if 480 < (nI j43) + M then
      (0, 3)
    else
      if f_r_isFree aDy aEnt aLe aMo aSt aSta aSu aWk k_p0 D (nI j43) M V then (nI j43, (f_r_may aDay aMac (nI k_p0) D aDay).2) else r_firstStart_L43 aDay aDy aEnt aLe aMac aMo aSt aSta aSu aWk k_p0 D M V k43 (j43 + 1) 
def f_r_firstStart (aDay : Int32) (aDy : Nat → Int32) (aEnt : Nat) (aLe : Nat → Int32) (aMac : Nat) (aMo : Nat → Nat) (aSt : Nat → Int32) (aSta : Nat → Int32) (aSu : Nat → Int32) (aWk : Nat → Int32) (p0 D M V : Int32) : Int32 × Int32 :=
  if (f_r_may aDay aMac p0 D aDay).1 then
    if f_r_in M 1 240 then if f_r_isWork V then r_firstStart_L43 aDay aDy aEnt aLe aMac aMo aSt aSta aSu aWk (nP p0) D M V 480 0  else (0, 2) else (0, 2)
  else
    (0, (f_r_may aDay aMac p0 D aDay).2)
theorem s_r_firstStart {d : Nat} {W : WD} {aMk : Nat → Nat} {aSu : Nat → Int32} {aMac : Nat} {aMem : Nat} {aTk : Nat → Nat → Int32} {aPaid : Nat → Int64} {aNd : Nat → Nat → Bool} {aDay : Int32} {aOw : Nat → Nat} {aMo : Nat → Nat} {aDy : Nat → Int32} {aSt : Nat → Int32} {aLe : Nat → Int32} {aWk : Nat → Int32} {aSta : Nat → Int32} {aDue : Nat → Int32} {aCm : Nat → Nat} {aCb : Nat → Nat → Nat} {aCl : Nat → Nat → Int32} {aEnt : Nat} {aMt : Nat → Nat} {aBl : Nat → Int32} {aBar : Nat} {aPr : Nat → Int32} {aLs : Nat → Nat → Int32} {aLnum : Nat → Nat → Int32} {aLm : Nat → Nat} {aSh : Nat → Nat → Int32} {aBrk : Nat} {aThr : Int32} {C : CD} {p0 : Int32} {D : Int32} {M : Int32} {V : Int32} (hW : WfR aMac aMem aEnt aBar aBrk aOw aMo aMk aCm aCb aMt aLm) : Cal (d + 3) 151 [vR 9 0, vI p0, vI D, vI M, vI V] (enc C (mkR aMk aSu aMac aMem aTk aPaid aNd aDay aOw aMo aDy aSt aLe aWk aSta aDue aCm aCb aCl aEnt aMt aBl aBar aPr aLs aLnum aLm aSh aBrk aThr) W) (.inl (some (vI ((f_r_firstStart aDay aDy aEnt aLe aMac aMo aSt aSta aSu aWk p0 D M V).1)))) (enc C (mkR aMk aSu aMac aMem aTk aPaid aNd aDay aOw aMo aDy aSt aLe aWk aSta aDue aCm aCb aCl aEnt aMt aBl aBar aPr aLs aLnum aLm aSh aBrk ((f_r_firstStart aDay aDy aEnt aLe aMac aMo aSt aSta aSu aWk p0 D M V).2)) W) := by
  obtain ⟨wMac, wMem, wEnt, wBar, wBrk, wOw, wMo, wMk, wCm, wCb, wMt, wLm⟩ := id hW
  refine Cal.mk (n := 6) rfl (Nat.le_of_ble_eq_true rfl) rfl ?_
  unfold f_r_firstStart
  refine Ev.ps 4 rfl ?_
  refine Ev.getf (v := vI aDay) (by rfl) (by rfl) (by rfl) (rd9) rfl ?_
  refine Ev.vir (as := [vI p0, vI D, vI aDay]) (rest := []) (by rfl) (by rfl) (by rfl) (by rfl) rfl (Nat.le_of_ble_eq_true rfl) (by rfl) (by rw [rd9]; rfl) (s_r_may hW) ?_
  refine Ev.ifbn (by rfl) (by rfl) (fun c1 => ?_) (fun c1 => ?_)
  · rw [if_pos c1]
    have q_p0 := isMachine_nat wMac (may_pos c1)
    generalize nP p0 = k_p0 at q_p0 ⊢
    obtain ⟨rfl, hk_p0⟩ := q_p0
    refine Ev.ps 3 rfl ?_
    refine Ev.sta (as := [vI M, vI 1, vI 240]) (rest := []) (by rfl) (by rfl) (by rfl) (by rfl) rfl (Nat.le_of_ble_eq_true rfl) (s_r_in ) ?_
    refine Ev.ifbe (by rfl) (by rfl) (fun c2 => ?_) (fun c2 => ?_)
    · rw [if_pos c2]
      refine Ev.ps 1 rfl ?_
      refine Ev.sta (as := [vI V]) (rest := []) (by rfl) (by rfl) (by rfl) (by rfl) rfl (Nat.le_of_ble_eq_true rfl) (s_r_isWork ) ?_
      refine Ev.ifbn (by rfl) (by rfl) (fun c3 => ?_) (fun c3 => ?_)
      · rw [if_pos c3]
        refine Ev.ps 2 rfl ?_
        have L43 : ∀ (k43 j43 : Nat), j43 + k43 = 480 → Ev (d + 3) (151, 43, [some (vR 9 0), some (vI (nI k_p0)), some (vI D), some (vI M), some (vI V), some (vI (nI j43))], []) (enc C (mkR aMk aSu aMac aMem aTk aPaid aNd aDay aOw aMo aDy aSt aLe aWk aSta aDue aCm aCb aCl aEnt aMt aBl aBar aPr aLs aLnum aLm aSh aBrk ((f_r_may aDay aMac (nI k_p0) D aDay).2)) W) ((.inl (some (vI ((r_firstStart_L43 aDay aDy aEnt aLe aMac aMo aSt aSta aSu aWk k_p0 D M V k43 j43 ).1)))), enc C (mkR aMk aSu aMac aMem aTk aPaid aNd aDay aOw aMo aDy aSt aLe aWk aSta aDue aCm aCb aCl aEnt aMt aBl aBar aPr aLs aLnum aLm aSh aBrk ((r_firstStart_L43 aDay aDy aEnt aLe aMac aMo aSt aSta aSu aWk k_p0 D M V k43 j43 ).2)) W) := by
          intro k43
          induction k43 with
          | zero =>
            intro j43 hj43
            rw [r_firstStart_L43]
            refine Ev.ps 4 rfl ?_
            refine Ev.igt (by rfl) (by rfl) (fun (c4 : 480 < (nI j43) + M) => ?_) (fun (c4 : ¬ 480 < (nI j43) + M) => ?_)
            · refine Ev.ps 2 rfl ?_
              refine Ev.vir (as := [vI 3]) (rest := []) (by rfl) (by rfl) (by rfl) (by rfl) rfl (Nat.le_of_ble_eq_true rfl) (by rfl) (by rw [rd9]; rfl) (s_r_raises (v := 3)) ?_
              exact Ev.re rfl rfl rfl rfl rfl
            · exact absurd (fs_end (by assumption) hj43) (by assumption)
          | succ k43 ih43 =>
            intro j43 hj43
            rw [r_firstStart_L43]
            refine Ev.ps 4 rfl ?_
            refine Ev.igt (by rfl) (by rfl) (fun (c5 : 480 < (nI j43) + M) => ?_) (fun (c5 : ¬ 480 < (nI j43) + M) => ?_)
            · rw [if_pos c5]
              refine Ev.ps 2 rfl ?_
              refine Ev.vir (as := [vI 3]) (rest := []) (by rfl) (by rfl) (by rfl) (by rfl) rfl (Nat.le_of_ble_eq_true rfl) (by rfl) (by rw [rd9]; rfl) (s_r_raises (v := 3)) ?_
              exact Ev.re rfl rfl rfl rfl rfl
            · rw [if_neg c5]
              refine Ev.ps 6 rfl ?_
              refine Ev.vir (as := [vI (nI k_p0), vI D, vI (nI j43), vI M, vI V]) (rest := []) (by rfl) (by rfl) (by rfl) (by rfl) rfl (Nat.le_of_ble_eq_true rfl) (by rfl) (by rw [rd9]; rfl) (s_r_isFree hW (by have := hk_p0; omega)) ?_
              refine Ev.ifbe (by rfl) (by rfl) (fun c6 => ?_) (fun c6 => ?_)
              · rw [if_pos c6]
                refine Ev.ps 1 rfl ?_
                exact Ev.re rfl rfl rfl rfl rfl
              · rw [if_neg c6]
                refine Ev.ps 2 rfl ?_
                have h9 := ih43 (j43 + 1) (by show j43 + 1 + k43 = 480; omega)
                rw [← nI_1] at h9
                exact h9
        exact L43 480 0 (by show 0 + 480 = 480; omega)
      · rw [if_neg c3]
        refine Ev.ps 2 rfl ?_
        refine Ev.vir (as := [vI 2]) (rest := []) (by rfl) (by rfl) (by rfl) (by rfl) rfl (Nat.le_of_ble_eq_true rfl) (by rfl) (by rw [rd9]; rfl) (s_r_raises (v := 2)) ?_
        exact Ev.re rfl rfl rfl rfl rfl
    · rw [if_neg c2]
      refine Ev.ps 2 rfl ?_
      refine Ev.vir (as := [vI 2]) (rest := []) (by rfl) (by rfl) (by rfl) (by rfl) rfl (Nat.le_of_ble_eq_true rfl) (by rfl) (by rw [rd9]; rfl) (s_r_raises (v := 2)) ?_
      exact Ev.re rfl rfl rfl rfl rfl
  · rw [if_neg c1]
    refine Ev.ps 1 rfl ?_
    exact Ev.re rfl rfl rfl rfl rfl
def f_r_firstByMinutes (aDay : Int32) (aDy : Nat → Int32) (aEnt : Nat) (aLe : Nat → Int32) (aMac : Nat) (aMo : Nat → Nat) (aSt : Nat → Int32) (aSta : Nat → Int32) (aSu : Nat → Int32) (aWk : Nat → Int32) (p0 D M V : Int32) : Int32 × Int32 :=
  ((f_r_firstStart aDay aDy aEnt aLe aMac aMo aSt aSta aSu aWk p0 D M V).1, (f_r_firstStart aDay aDy aEnt aLe aMac aMo aSt aSta aSu aWk p0 D M V).2)
theorem s_r_firstByMinutes {d : Nat} {W : WD} {aMk : Nat → Nat} {aSu : Nat → Int32} {aMac : Nat} {aMem : Nat} {aTk : Nat → Nat → Int32} {aPaid : Nat → Int64} {aNd : Nat → Nat → Bool} {aDay : Int32} {aOw : Nat → Nat} {aMo : Nat → Nat} {aDy : Nat → Int32} {aSt : Nat → Int32} {aLe : Nat → Int32} {aWk : Nat → Int32} {aSta : Nat → Int32} {aDue : Nat → Int32} {aCm : Nat → Nat} {aCb : Nat → Nat → Nat} {aCl : Nat → Nat → Int32} {aEnt : Nat} {aMt : Nat → Nat} {aBl : Nat → Int32} {aBar : Nat} {aPr : Nat → Int32} {aLs : Nat → Nat → Int32} {aLnum : Nat → Nat → Int32} {aLm : Nat → Nat} {aSh : Nat → Nat → Int32} {aBrk : Nat} {aThr : Int32} {C : CD} {p0 : Int32} {D : Int32} {M : Int32} {V : Int32} (hW : WfR aMac aMem aEnt aBar aBrk aOw aMo aMk aCm aCb aMt aLm) : Cal (d + 4) 152 [vR 9 0, vI p0, vI D, vI M, vI V] (enc C (mkR aMk aSu aMac aMem aTk aPaid aNd aDay aOw aMo aDy aSt aLe aWk aSta aDue aCm aCb aCl aEnt aMt aBl aBar aPr aLs aLnum aLm aSh aBrk aThr) W) (.inl (some (vI ((f_r_firstByMinutes aDay aDy aEnt aLe aMac aMo aSt aSta aSu aWk p0 D M V).1)))) (enc C (mkR aMk aSu aMac aMem aTk aPaid aNd aDay aOw aMo aDy aSt aLe aWk aSta aDue aCm aCb aCl aEnt aMt aBl aBar aPr aLs aLnum aLm aSh aBrk ((f_r_firstByMinutes aDay aDy aEnt aLe aMac aMo aSt aSta aSu aWk p0 D M V).2)) W) := by
  obtain ⟨wMac, wMem, wEnt, wBar, wBrk, wOw, wMo, wMk, wCm, wCb, wMt, wLm⟩ := id hW
  refine Cal.mk (n := 5) rfl (Nat.le_of_ble_eq_true rfl) rfl ?_
  unfold f_r_firstByMinutes
  refine Ev.ps 5 rfl ?_
  refine Ev.vir (as := [vI p0, vI D, vI M, vI V]) (rest := []) (by rfl) (by rfl) (by rfl) (by rfl) rfl (Nat.le_of_ble_eq_true rfl) (by rfl) (by rw [rd9]; rfl) (s_r_firstStart hW) ?_
  exact Ev.re rfl rfl rfl rfl rfl
def r_waiting_L18 (aDay : Int32) (aDy : Nat → Int32) (aMac : Nat) (aMo : Nat → Nat) (aSta : Nat → Int32) (k_p0 : Nat) (D : Int32) : Nat → Nat → Int32 → (Int32 × Int32)
  | 0, j18, sum =>
    (sum, (f_r_may aDay aMac (nI k_p0) D aDay).2)
  | k18 + 1, j18, sum =>
    if aSta j18 = 119 then
      if aMo j18 = k_p0 then
        if aDy j18 = D then r_waiting_L18 aDay aDy aMac aMo aSta k_p0 D k18 (j18 + 1) (sum + 1) else r_waiting_L18 aDay aDy aMac aMo aSta k_p0 D k18 (j18 + 1) (sum + 0)
      else
        r_waiting_L18 aDay aDy aMac aMo aSta k_p0 D k18 (j18 + 1) (sum + 0)
    else
      r_waiting_L18 aDay aDy aMac aMo aSta k_p0 D k18 (j18 + 1) (sum + 0)
def f_r_waiting (aDay : Int32) (aDy : Nat → Int32) (aEnt : Nat) (aMac : Nat) (aMo : Nat → Nat) (aSta : Nat → Int32) (p0 D : Int32) : Int32 × Int32 :=
  if (f_r_may aDay aMac p0 D aDay).1 then r_waiting_L18 aDay aDy aMac aMo aSta (nP p0) D aEnt 0 0 else (0, (f_r_may aDay aMac p0 D aDay).2)
theorem s_r_waiting {d : Nat} {W : WD} {aMk : Nat → Nat} {aSu : Nat → Int32} {aMac : Nat} {aMem : Nat} {aTk : Nat → Nat → Int32} {aPaid : Nat → Int64} {aNd : Nat → Nat → Bool} {aDay : Int32} {aOw : Nat → Nat} {aMo : Nat → Nat} {aDy : Nat → Int32} {aSt : Nat → Int32} {aLe : Nat → Int32} {aWk : Nat → Int32} {aSta : Nat → Int32} {aDue : Nat → Int32} {aCm : Nat → Nat} {aCb : Nat → Nat → Nat} {aCl : Nat → Nat → Int32} {aEnt : Nat} {aMt : Nat → Nat} {aBl : Nat → Int32} {aBar : Nat} {aPr : Nat → Int32} {aLs : Nat → Nat → Int32} {aLnum : Nat → Nat → Int32} {aLm : Nat → Nat} {aSh : Nat → Nat → Int32} {aBrk : Nat} {aThr : Int32} {C : CD} {p0 : Int32} {D : Int32} (hW : WfR aMac aMem aEnt aBar aBrk aOw aMo aMk aCm aCb aMt aLm) : Cal (d + 3) 153 [vR 9 0, vI p0, vI D] (enc C (mkR aMk aSu aMac aMem aTk aPaid aNd aDay aOw aMo aDy aSt aLe aWk aSta aDue aCm aCb aCl aEnt aMt aBl aBar aPr aLs aLnum aLm aSh aBrk aThr) W) (.inl (some (vI ((f_r_waiting aDay aDy aEnt aMac aMo aSta p0 D).1)))) (enc C (mkR aMk aSu aMac aMem aTk aPaid aNd aDay aOw aMo aDy aSt aLe aWk aSta aDue aCm aCb aCl aEnt aMt aBl aBar aPr aLs aLnum aLm aSh aBrk ((f_r_waiting aDay aDy aEnt aMac aMo aSta p0 D).2)) W) := by
  obtain ⟨wMac, wMem, wEnt, wBar, wBrk, wOw, wMo, wMk, wCm, wCb, wMt, wLm⟩ := id hW
  refine Cal.mk (n := 5) rfl (Nat.le_of_ble_eq_true rfl) rfl ?_
  unfold f_r_waiting
  refine Ev.ps 6 rfl ?_
  refine Ev.getf (v := vI aDay) (by rfl) (by rfl) (by rfl) (rd9) rfl ?_
  refine Ev.vir (as := [vI p0, vI D, vI aDay]) (rest := []) (by rfl) (by rfl) (by rfl) (by rfl) rfl (Nat.le_of_ble_eq_true rfl) (by rfl) (by rw [rd9]; rfl) (s_r_may hW) ?_
  refine Ev.ifbe (by rfl) (by rfl) (fun c1 => ?_) (fun c1 => ?_)
  · rw [if_pos c1]
    have q_p0 := isMachine_nat wMac (may_pos c1)
    generalize nP p0 = k_p0 at q_p0 ⊢
    obtain ⟨rfl, hk_p0⟩ := q_p0
    refine Ev.ps 2 rfl ?_
    have L18 : ∀ (k18 j18 : Nat) (sum : Int32), j18 + k18 = aEnt → Ev (d + 3) (153, 18, [some (vR 9 0), some (vI (nI k_p0)), some (vI D), some (vI sum), some (vI (nI j18))], []) (enc C (mkR aMk aSu aMac aMem aTk aPaid aNd aDay aOw aMo aDy aSt aLe aWk aSta aDue aCm aCb aCl aEnt aMt aBl aBar aPr aLs aLnum aLm aSh aBrk ((f_r_may aDay aMac (nI k_p0) D aDay).2)) W) ((.inl (some (vI ((r_waiting_L18 aDay aDy aMac aMo aSta k_p0 D k18 j18 sum).1)))), enc C (mkR aMk aSu aMac aMem aTk aPaid aNd aDay aOw aMo aDy aSt aLe aWk aSta aDue aCm aCb aCl aEnt aMt aBl aBar aPr aLs aLnum aLm aSh aBrk ((r_waiting_L18 aDay aDy aMac aMo aSta k_p0 D k18 j18 sum).2)) W) := by
      intro k18
      induction k18 with
      | zero =>
        intro j18 sum hj18
        rw [r_waiting_L18]
        refine Ev.ps 2 rfl ?_
        refine Ev.getf (v := vI (nI aEnt)) (by rfl) (by rfl) (by rfl) (rd9) rfl ?_
        refine Ev.igeN (a := j18) (b := aEnt) (by omega) (by omega) (by rfl) (by rfl) (fun (c2 : j18 < aEnt) => ?_) (fun (c2 : ¬ j18 < aEnt) => ?_)
        · exfalso; omega
        · refine Ev.ps 1 rfl ?_
          exact Ev.re rfl rfl rfl rfl rfl
      | succ k18 ih18 =>
        intro j18 sum hj18
        rw [r_waiting_L18]
        refine Ev.ps 2 rfl ?_
        refine Ev.getf (v := vI (nI aEnt)) (by rfl) (by rfl) (by rfl) (rd9) rfl ?_
        refine Ev.igeN (a := j18) (b := aEnt) (by omega) (by omega) (by rfl) (by rfl) (fun (c3 : j18 < aEnt) => ?_) (fun (c3 : ¬ j18 < aEnt) => ?_)
        · refine Ev.ps 2 rfl ?_
          refine Ev.getf (v := vR 38 0) (by rfl) (by rfl) (by rfl) (rd9) rfl ?_
          refine Ev.ps 1 rfl ?_
          refine Ev.aiC (k := j18) (v := vI (aSta j18)) (by rfl) (by decide) (rd38) (by omega) (by omega) rfl ?_
          refine Ev.ps 1 rfl ?_
          refine Ev.ine (by rfl) (by rfl) (fun (c4 : aSta j18 = 119) => ?_) (fun (c4 : ¬ aSta j18 = 119) => ?_)
          · rw [if_pos c4]
            refine Ev.ps 1 rfl ?_
            refine Ev.getf (v := vR 33 0) (by rfl) (by rfl) (by rfl) (rd9) rfl ?_
            refine Ev.ps 1 rfl ?_
            refine Ev.aiI (k := j18) (v := vI (nI (aMo j18))) (by rfl) (by decide) (rd33) (by omega) (by omega) rfl ?_
            refine Ev.ps 1 rfl ?_
            refine Ev.ineN (a := (aMo j18)) (b := k_p0) (by have := wMo j18; omega) (by have := hk_p0; omega) (by rfl) (by rfl) (fun (c5 : aMo j18 = k_p0) => ?_) (fun (c5 : ¬ aMo j18 = k_p0) => ?_)
            · rw [if_pos c5]
              refine Ev.ps 1 rfl ?_
              refine Ev.getf (v := vR 34 0) (by rfl) (by rfl) (by rfl) (rd9) rfl ?_
              refine Ev.ps 1 rfl ?_
              refine Ev.aiI (k := j18) (v := vI (aDy j18)) (by rfl) (by decide) (rd34) (by omega) (by omega) rfl ?_
              refine Ev.ps 1 rfl ?_
              refine Ev.ine (by rfl) (by rfl) (fun (c6 : aDy j18 = D) => ?_) (fun (c6 : ¬ aDy j18 = D) => ?_)
              · rw [if_pos c6]
                refine Ev.ps 6 rfl ?_
                have h9 := ih18 (j18 + 1) (sum + 1) (by show j18 + 1 + k18 = aEnt; omega)
                rw [← nI_1] at h9
                exact h9
              · rw [if_neg c6]
                refine Ev.ps 5 rfl ?_
                have h9 := ih18 (j18 + 1) (sum + 0) (by show j18 + 1 + k18 = aEnt; omega)
                rw [← nI_1] at h9
                exact h9
            · rw [if_neg c5]
              refine Ev.ps 5 rfl ?_
              have h9 := ih18 (j18 + 1) (sum + 0) (by show j18 + 1 + k18 = aEnt; omega)
              rw [← nI_1] at h9
              exact h9
          · rw [if_neg c4]
            refine Ev.ps 5 rfl ?_
            have h9 := ih18 (j18 + 1) (sum + 0) (by show j18 + 1 + k18 = aEnt; omega)
            rw [← nI_1] at h9
            exact h9
        · exfalso; omega
    exact L18 aEnt 0 0 (by show 0 + aEnt = aEnt; omega)
  · rw [if_neg c1]
    refine Ev.ps 1 rfl ?_
    exact Ev.re rfl rfl rfl rfl rfl
def f_r_deliver (aBar : Nat) (aBl : Nat → Int32) (aMt : Nat → Nat) (p0 L : Int32) : Int32 × (Nat → Nat) × (Nat → Int32) × Nat × Int32 :=
  if f_r_in p0 0 2 then
    if f_r_in L 1 5000 then if aBar = 30 then (0, aMt, aBl, aBar, 2) else ((nI (aBar + 1)) - 1, fup aMt aBar (nP p0), fup aBl aBar L, aBar + 1, 0) else (0, aMt, aBl, aBar, 1)
  else
    (0, aMt, aBl, aBar, 1)
theorem s_r_deliver {d : Nat} {W : WD} {aMk : Nat → Nat} {aSu : Nat → Int32} {aMac : Nat} {aMem : Nat} {aTk : Nat → Nat → Int32} {aPaid : Nat → Int64} {aNd : Nat → Nat → Bool} {aDay : Int32} {aOw : Nat → Nat} {aMo : Nat → Nat} {aDy : Nat → Int32} {aSt : Nat → Int32} {aLe : Nat → Int32} {aWk : Nat → Int32} {aSta : Nat → Int32} {aDue : Nat → Int32} {aCm : Nat → Nat} {aCb : Nat → Nat → Nat} {aCl : Nat → Nat → Int32} {aEnt : Nat} {aMt : Nat → Nat} {aBl : Nat → Int32} {aBar : Nat} {aPr : Nat → Int32} {aLs : Nat → Nat → Int32} {aLnum : Nat → Nat → Int32} {aLm : Nat → Nat} {aSh : Nat → Nat → Int32} {aBrk : Nat} {aThr : Int32} {C : CD} {p0 : Int32} {L : Int32} (hW : WfR aMac aMem aEnt aBar aBrk aOw aMo aMk aCm aCb aMt aLm) : Cal (d + 1) 154 [vR 9 0, vI p0, vI L] (enc C (mkR aMk aSu aMac aMem aTk aPaid aNd aDay aOw aMo aDy aSt aLe aWk aSta aDue aCm aCb aCl aEnt aMt aBl aBar aPr aLs aLnum aLm aSh aBrk aThr) W) (.inl (some (vI ((f_r_deliver aBar aBl aMt p0 L).1)))) (enc C (mkR aMk aSu aMac aMem aTk aPaid aNd aDay aOw aMo aDy aSt aLe aWk aSta aDue aCm aCb aCl aEnt ((f_r_deliver aBar aBl aMt p0 L).2.1) ((f_r_deliver aBar aBl aMt p0 L).2.2.1) ((f_r_deliver aBar aBl aMt p0 L).2.2.2.1) aPr aLs aLnum aLm aSh aBrk ((f_r_deliver aBar aBl aMt p0 L).2.2.2.2)) W) := by
  obtain ⟨wMac, wMem, wEnt, wBar, wBrk, wOw, wMo, wMk, wCm, wCb, wMt, wLm⟩ := id hW
  refine Cal.mk (n := 3) rfl (Nat.le_of_ble_eq_true rfl) rfl ?_
  unfold f_r_deliver
  refine Ev.ps 4 rfl ?_
  refine Ev.sta (as := [vI p0, vI 0, vI 2]) (rest := [vR 9 0]) (by rfl) (by rfl) (by rfl) (by rfl) rfl (Nat.le_of_ble_eq_true rfl) (s_r_in ) ?_
  refine Ev.ifbe (by rfl) (by rfl) (fun c1 => ?_) (fun c1 => ?_)
  · rw [if_pos c1]
    have q_p0 := isMat_nat c1
    generalize nP p0 = k_p0 at q_p0 ⊢
    obtain ⟨rfl, hk_p0⟩ := q_p0
    refine Ev.ps 3 rfl ?_
    refine Ev.sta (as := [vI L, vI 1, vI 5000]) (rest := [vR 9 0]) (by rfl) (by rfl) (by rfl) (by rfl) rfl (Nat.le_of_ble_eq_true rfl) (s_r_in ) ?_
    refine Ev.ifbn (by rfl) (by rfl) (fun c2 => ?_) (fun c2 => ?_)
    · rw [if_pos c2]
      refine Ev.ps 1 rfl ?_
      refine Ev.getf (v := vI (nI aBar)) (by rfl) (by rfl) (by rfl) (rd9) rfl ?_
      refine Ev.ps 1 rfl ?_
      refine Ev.ineN (a := aBar) (b := 30) (by omega) (by omega) (by rfl) (by rfl) (fun (c3 : aBar = 30) => ?_) (fun (c3 : ¬ aBar = 30) => ?_)
      · rw [if_pos c3]
        refine Ev.ps 2 rfl ?_
        refine Ev.pf (by rfl) (by rfl) (by rfl) (Nat.le_of_ble_eq_true rfl) rfl (Or.inl (by rfl)) (rd9) (show _ = enc C (mkR aMk aSu aMac aMem aTk aPaid aNd aDay aOw aMo aDy aSt aLe aWk aSta aDue aCm aCb aCl aEnt aMt aBl aBar aPr aLs aLnum aLm aSh aBrk 2) W from wr9_Thr (v := 2)) ?_
        refine Ev.ps 1 rfl ?_
        refine Ev.getf (v := vI 2) (by rfl) (by rfl) (by rfl) (rd9) rfl ?_
        refine Ev.ifi (by rfl) (by rfl) (fun z => by exact absurd z (by decide)) (fun _ => ?_)
        refine Ev.ps 1 rfl ?_
        exact Ev.re rfl rfl rfl rfl rfl
      · rw [if_neg c3]
        refine Ev.ps 1 rfl ?_
        refine Ev.pf (by rfl) (by rfl) (by rfl) (Nat.le_of_ble_eq_true rfl) rfl (Or.inl (by rfl)) (rd9) (show _ = enc C (mkR aMk aSu aMac aMem aTk aPaid aNd aDay aOw aMo aDy aSt aLe aWk aSta aDue aCm aCb aCl aEnt aMt aBl aBar aPr aLs aLnum aLm aSh aBrk 0) W from wr9_Thr (v := 0)) ?_
        refine Ev.ps 1 rfl ?_
        refine Ev.getf (v := vI 0) (by rfl) (by rfl) (by rfl) (rd9) rfl ?_
        refine Ev.ifi (by rfl) (by rfl) (fun _ => ?_) (fun z => by exact absurd z (by decide))
        refine Ev.ps 1 rfl ?_
        refine Ev.getf (v := vR 45 0) (by rfl) (by rfl) (by rfl) (rd9) rfl ?_
        refine Ev.ps 1 rfl ?_
        refine Ev.getf (v := vI (nI aBar)) (by rfl) (by rfl) (by rfl) (rd9) rfl ?_
        refine Ev.ps 1 rfl ?_
        refine Ev.asI (k := aBar) (by rfl) (by rfl) (rd45) (by omega) (by omega) (show _ = enc C (mkR aMk aSu aMac aMem aTk aPaid aNd aDay aOw aMo aDy aSt aLe aWk aSta aDue aCm aCb aCl aEnt (fup aMt aBar k_p0) aBl aBar aPr aLs aLnum aLm aSh aBrk 0) W from wr45 (i := aBar) (v := k_p0)) ?_
        refine Ev.ps 1 rfl ?_
        refine Ev.getf (v := vR 46 0) (by rfl) (by rfl) (by rfl) (rd9) rfl ?_
        refine Ev.ps 1 rfl ?_
        refine Ev.getf (v := vI (nI aBar)) (by rfl) (by rfl) (by rfl) (rd9) rfl ?_
        refine Ev.ps 1 rfl ?_
        refine Ev.asI (k := aBar) (by rfl) (by rfl) (rd46) (by omega) (by omega) (show _ = enc C (mkR aMk aSu aMac aMem aTk aPaid aNd aDay aOw aMo aDy aSt aLe aWk aSta aDue aCm aCb aCl aEnt (fup aMt aBar k_p0) (fup aBl aBar L) aBar aPr aLs aLnum aLm aSh aBrk 0) W from wr46 (i := aBar) (v := L)) ?_
        refine Ev.ps 2 rfl ?_
        refine Ev.getf (v := vI (nI aBar)) (by rfl) (by rfl) (by rfl) (rd9) rfl ?_
        refine Ev.ps 2 rfl ?_
        refine Ev.st1 (b := nI (aBar + 1)) (nI_1 aBar) ?_
        refine Ev.pf (by rfl) (by rfl) (by rfl) (Nat.le_of_ble_eq_true rfl) rfl (Or.inl (by rfl)) (rd9) (show _ = enc C (mkR aMk aSu aMac aMem aTk aPaid aNd aDay aOw aMo aDy aSt aLe aWk aSta aDue aCm aCb aCl aEnt (fup aMt aBar k_p0) (fup aBl aBar L) (aBar + 1) aPr aLs aLnum aLm aSh aBrk 0) W from wr9_Bar (v := aBar + 1)) ?_
        refine Ev.ps 1 rfl ?_
        refine Ev.getf (v := vI (nI (aBar + 1))) (by rfl) (by rfl) (by rfl) (rd9) rfl ?_
        refine Ev.ps 2 rfl ?_
        exact Ev.re rfl rfl rfl rfl rfl
    · rw [if_neg c2]
      refine Ev.ps 2 rfl ?_
      refine Ev.pf (by rfl) (by rfl) (by rfl) (Nat.le_of_ble_eq_true rfl) rfl (Or.inl (by rfl)) (rd9) (show _ = enc C (mkR aMk aSu aMac aMem aTk aPaid aNd aDay aOw aMo aDy aSt aLe aWk aSta aDue aCm aCb aCl aEnt aMt aBl aBar aPr aLs aLnum aLm aSh aBrk 1) W from wr9_Thr (v := 1)) ?_
      refine Ev.ps 1 rfl ?_
      refine Ev.getf (v := vI 1) (by rfl) (by rfl) (by rfl) (rd9) rfl ?_
      refine Ev.ifi (by rfl) (by rfl) (fun z => by exact absurd z (by decide)) (fun _ => ?_)
      refine Ev.ps 1 rfl ?_
      exact Ev.re rfl rfl rfl rfl rfl
  · rw [if_neg c1]
    refine Ev.ps 2 rfl ?_
    refine Ev.pf (by rfl) (by rfl) (by rfl) (Nat.le_of_ble_eq_true rfl) rfl (Or.inl (by rfl)) (rd9) (show _ = enc C (mkR aMk aSu aMac aMem aTk aPaid aNd aDay aOw aMo aDy aSt aLe aWk aSta aDue aCm aCb aCl aEnt aMt aBl aBar aPr aLs aLnum aLm aSh aBrk 1) W from wr9_Thr (v := 1)) ?_
    refine Ev.ps 1 rfl ?_
    refine Ev.getf (v := vI 1) (by rfl) (by rfl) (by rfl) (rd9) rfl ?_
    refine Ev.ifi (by rfl) (by rfl) (fun z => by exact absurd z (by decide)) (fun _ => ?_)
    refine Ev.ps 1 rfl ?_
    exact Ev.re rfl rfl rfl rfl rfl
