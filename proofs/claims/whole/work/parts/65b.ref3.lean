/-! the reference: calls, on (written by gref3.py) -/
def f_r_addMachine (aMac : Nat) (aMk : Nat → Nat) (aSu : Nat → Int32) (p0 S : Int32) : Int32 × (Nat → Nat) × (Nat → Int32) × Nat × Int32 :=
  if f_r_isKind p0 then
    if f_r_in S 0 30 then if aMac = 6 then (0, aMk, aSu, aMac, 2) else ((nI (aMac + 1)) - 1, fup aMk aMac (nP p0), fup aSu aMac S, aMac + 1, 0) else (0, aMk, aSu, aMac, 1)
  else
    (0, aMk, aSu, aMac, 1)
theorem s_r_addMachine {d : Nat} {W : WD} {aMk : Nat → Nat} {aSu : Nat → Int32} {aMac : Nat} {aMem : Nat} {aTk : Nat → Nat → Int32} {aPaid : Nat → Int64} {aNd : Nat → Nat → Bool} {aDay : Int32} {aOw : Nat → Nat} {aMo : Nat → Nat} {aDy : Nat → Int32} {aSt : Nat → Int32} {aLe : Nat → Int32} {aWk : Nat → Int32} {aSta : Nat → Int32} {aDue : Nat → Int32} {aCm : Nat → Nat} {aCb : Nat → Nat → Nat} {aCl : Nat → Nat → Int32} {aEnt : Nat} {aMt : Nat → Nat} {aBl : Nat → Int32} {aBar : Nat} {aPr : Nat → Int32} {aLs : Nat → Nat → Int32} {aLnum : Nat → Nat → Int32} {aLm : Nat → Nat} {aSh : Nat → Nat → Int32} {aBrk : Nat} {aThr : Int32} {C : CD} {p0 : Int32} {S : Int32} (hW : WfR aMac aMem aEnt aBar aBrk aOw aMo aMk aCm aCb aMt aLm) : Cal (d + 2) 116 [vR 9 0, vI p0, vI S] (enc C (mkR aMk aSu aMac aMem aTk aPaid aNd aDay aOw aMo aDy aSt aLe aWk aSta aDue aCm aCb aCl aEnt aMt aBl aBar aPr aLs aLnum aLm aSh aBrk aThr) W) (.inl (some (vI ((f_r_addMachine aMac aMk aSu p0 S).1)))) (enc C (mkR ((f_r_addMachine aMac aMk aSu p0 S).2.1) ((f_r_addMachine aMac aMk aSu p0 S).2.2.1) ((f_r_addMachine aMac aMk aSu p0 S).2.2.2.1) aMem aTk aPaid aNd aDay aOw aMo aDy aSt aLe aWk aSta aDue aCm aCb aCl aEnt aMt aBl aBar aPr aLs aLnum aLm aSh aBrk ((f_r_addMachine aMac aMk aSu p0 S).2.2.2.2)) W) := by
  obtain ⟨wMac, wMem, wEnt, wBar, wBrk, wOw, wMo, wMk, wCm, wCb, wMt, wLm⟩ := id hW
  refine Cal.mk (n := 3) rfl (Nat.le_of_ble_eq_true rfl) rfl ?_
  unfold f_r_addMachine
  refine Ev.ps 2 rfl ?_
  refine Ev.sta (as := [vI p0]) (rest := [vR 9 0]) (by rfl) (by rfl) (by rfl) (by rfl) rfl (Nat.le_of_ble_eq_true rfl) (s_r_isKind ) ?_
  refine Ev.ifbe (by rfl) (by rfl) (fun c1 => ?_) (fun c1 => ?_)
  · rw [if_pos c1]
    have q_p0 := isKind_nat c1
    generalize nP p0 = k_p0 at q_p0 ⊢
    obtain ⟨rfl, hk_p0⟩ := q_p0
    refine Ev.ps 3 rfl ?_
    refine Ev.sta (as := [vI S, vI 0, vI 30]) (rest := [vR 9 0]) (by rfl) (by rfl) (by rfl) (by rfl) rfl (Nat.le_of_ble_eq_true rfl) (s_r_in ) ?_
    refine Ev.ifbn (by rfl) (by rfl) (fun c2 => ?_) (fun c2 => ?_)
    · rw [if_pos c2]
      refine Ev.ps 1 rfl ?_
      refine Ev.getf (v := vI (nI aMac)) (by rfl) (by rfl) (by rfl) (rd9) rfl ?_
      refine Ev.ps 1 rfl ?_
      refine Ev.ineN (a := aMac) (b := 6) (by omega) (by omega) (by rfl) (by rfl) (fun (c3 : aMac = 6) => ?_) (fun (c3 : ¬ aMac = 6) => ?_)
      · rw [if_pos c3]
        refine Ev.ps 2 rfl ?_
        refine Ev.pf (by rfl) (by rfl) (by rfl) (Nat.le_of_ble_eq_true rfl) rfl (Or.inl (by rfl)) (rd9) (show _ = enc C (mkR aMk aSu aMac aMem aTk aPaid aNd aDay aOw aMo aDy aSt aLe aWk aSta aDue aCm aCb aCl aEnt aMt aBl aBar aPr aLs aLnum aLm aSh aBrk 2) W from wr9_Thr (v := 2)) ?_
        refine Ev.ps 1 rfl ?_
        refine Ev.getf (v := vI 2) (by rfl) (by rfl) (by rfl) (rd9) rfl ?_
        refine Ev.ifi (by rfl) (by rfl) (fun z => by exact absurd z (by decide)) (fun _ => ?_)
        refine Ev.ps 1 rfl ?_
        exact Ev.re rfl rfl rfl rfl rfl
      · rw [if_neg c3]
        refine Ev.ps 1 rfl ?_
        refine Ev.pf (by rfl) (by rfl) (by rfl) (Nat.le_of_ble_eq_true rfl) rfl (Or.inl (by rfl)) (rd9) (show _ = enc C (mkR aMk aSu aMac aMem aTk aPaid aNd aDay aOw aMo aDy aSt aLe aWk aSta aDue aCm aCb aCl aEnt aMt aBl aBar aPr aLs aLnum aLm aSh aBrk 0) W from wr9_Thr (v := 0)) ?_
        refine Ev.ps 1 rfl ?_
        refine Ev.getf (v := vI 0) (by rfl) (by rfl) (by rfl) (rd9) rfl ?_
        refine Ev.ifi (by rfl) (by rfl) (fun _ => ?_) (fun z => by exact absurd z (by decide))
        refine Ev.ps 1 rfl ?_
        refine Ev.getf (v := vR 25 0) (by rfl) (by rfl) (by rfl) (rd9) rfl ?_
        refine Ev.ps 1 rfl ?_
        refine Ev.getf (v := vI (nI aMac)) (by rfl) (by rfl) (by rfl) (rd9) rfl ?_
        refine Ev.ps 1 rfl ?_
        refine Ev.asI (k := aMac) (by rfl) (by rfl) (rd25) (by omega) (by omega) (show _ = enc C (mkR (fup aMk aMac k_p0) aSu aMac aMem aTk aPaid aNd aDay aOw aMo aDy aSt aLe aWk aSta aDue aCm aCb aCl aEnt aMt aBl aBar aPr aLs aLnum aLm aSh aBrk 0) W from wr25 (i := aMac) (v := k_p0)) ?_
        refine Ev.ps 1 rfl ?_
        refine Ev.getf (v := vR 26 0) (by rfl) (by rfl) (by rfl) (rd9) rfl ?_
        refine Ev.ps 1 rfl ?_
        refine Ev.getf (v := vI (nI aMac)) (by rfl) (by rfl) (by rfl) (rd9) rfl ?_
        refine Ev.ps 1 rfl ?_
        refine Ev.asI (k := aMac) (by rfl) (by rfl) (rd26) (by omega) (by omega) (show _ = enc C (mkR (fup aMk aMac k_p0) (fup aSu aMac S) aMac aMem aTk aPaid aNd aDay aOw aMo aDy aSt aLe aWk aSta aDue aCm aCb aCl aEnt aMt aBl aBar aPr aLs aLnum aLm aSh aBrk 0) W from wr26 (i := aMac) (v := S)) ?_
        refine Ev.ps 2 rfl ?_
        refine Ev.getf (v := vI (nI aMac)) (by rfl) (by rfl) (by rfl) (rd9) rfl ?_
        refine Ev.ps 2 rfl ?_
        refine Ev.st1 (b := nI (aMac + 1)) (nI_1 aMac) ?_
        refine Ev.pf (by rfl) (by rfl) (by rfl) (Nat.le_of_ble_eq_true rfl) rfl (Or.inl (by rfl)) (rd9) (show _ = enc C (mkR (fup aMk aMac k_p0) (fup aSu aMac S) (aMac + 1) aMem aTk aPaid aNd aDay aOw aMo aDy aSt aLe aWk aSta aDue aCm aCb aCl aEnt aMt aBl aBar aPr aLs aLnum aLm aSh aBrk 0) W from wr9_Mac (v := aMac + 1)) ?_
        refine Ev.ps 1 rfl ?_
        refine Ev.getf (v := vI (nI (aMac + 1))) (by rfl) (by rfl) (by rfl) (rd9) rfl ?_
        refine Ev.ps 2 rfl ?_
        exact Ev.re rfl rfl rfl rfl rfl
    · rw [if_neg c2]
      refine Ev.ps 2 rfl ?_
      refine Ev.pf (by rfl) (by rfl) (by rfl) (Nat.le_of_ble_eq_true rfl) rfl (Or.inl (by rfl)) (rd9) (show _ = enc C (mkR aMk aSu aMac aMem aTk aPaid aNd aDay aOw aMo aDy aSt aLe aWk aSta aDue aCm aCb aCl aEnt aMt aBl aBar aPr aLs aLnum aLm aSh aBrk 1) W from wr9_Thr (v := 1)) ?_
      refine Ev.ps 1 rfl ?_
      refine Ev.getf (v := vI 1) (by rfl) (by rfl) (by rfl) (rd9) rfl ?_
      refine Ev.ifi (by rfl) (by rfl) (fun z => by exact absurd z (by decide)) (fun _ => ?_)
      refine Ev.ps 1 rfl ?_
      exact Ev.re rfl rfl rfl rfl rfl
  · rw [if_neg c1]
    refine Ev.ps 2 rfl ?_
    refine Ev.pf (by rfl) (by rfl) (by rfl) (Nat.le_of_ble_eq_true rfl) rfl (Or.inl (by rfl)) (rd9) (show _ = enc C (mkR aMk aSu aMac aMem aTk aPaid aNd aDay aOw aMo aDy aSt aLe aWk aSta aDue aCm aCb aCl aEnt aMt aBl aBar aPr aLs aLnum aLm aSh aBrk 1) W from wr9_Thr (v := 1)) ?_
    refine Ev.ps 1 rfl ?_
    refine Ev.getf (v := vI 1) (by rfl) (by rfl) (by rfl) (rd9) rfl ?_
    refine Ev.ifi (by rfl) (by rfl) (fun z => by exact absurd z (by decide)) (fun _ => ?_)
    refine Ev.ps 1 rfl ?_
    exact Ev.re rfl rfl rfl rfl rfl
def f_r_addMember (aMem : Nat) (aTk : Nat → Nat → Int32)  : Int32 × Nat × (Nat → Nat → Int32) × Int32 :=
  if aMem = 10 then
    (0, aMem, aTk, 1)
  else
    ((nI (aMem + 1)) - 1, aMem + 1, fup (fup (fup (fup aTk aMem (fup (aTk aMem) 0 (-1))) aMem (fup ((fup aTk aMem (fup (aTk aMem) 0 (-1))) aMem) 1 (-1))) aMem (fup ((fup (fup aTk aMem (fup (aTk aMem) 0 (-1))) aMem (fup ((fup aTk aMem (fup (aTk aMem) 0 (-1))) aMem) 1 (-1))) aMem) 2 (-1))) aMem (fup ((fup (fup (fup aTk aMem (fup (aTk aMem) 0 (-1))) aMem (fup ((fup aTk aMem (fup (aTk aMem) 0 (-1))) aMem) 1 (-1))) aMem (fup ((fup (fup aTk aMem (fup (aTk aMem) 0 (-1))) aMem (fup ((fup aTk aMem (fup (aTk aMem) 0 (-1))) aMem) 1 (-1))) aMem) 2 (-1))) aMem) 3 (-1)), 0)
theorem s_r_addMember {d : Nat} {W : WD} {aMk : Nat → Nat} {aSu : Nat → Int32} {aMac : Nat} {aMem : Nat} {aTk : Nat → Nat → Int32} {aPaid : Nat → Int64} {aNd : Nat → Nat → Bool} {aDay : Int32} {aOw : Nat → Nat} {aMo : Nat → Nat} {aDy : Nat → Int32} {aSt : Nat → Int32} {aLe : Nat → Int32} {aWk : Nat → Int32} {aSta : Nat → Int32} {aDue : Nat → Int32} {aCm : Nat → Nat} {aCb : Nat → Nat → Nat} {aCl : Nat → Nat → Int32} {aEnt : Nat} {aMt : Nat → Nat} {aBl : Nat → Int32} {aBar : Nat} {aPr : Nat → Int32} {aLs : Nat → Nat → Int32} {aLnum : Nat → Nat → Int32} {aLm : Nat → Nat} {aSh : Nat → Nat → Int32} {aBrk : Nat} {aThr : Int32} {C : CD}  (hW : WfR aMac aMem aEnt aBar aBrk aOw aMo aMk aCm aCb aMt aLm) : Cal (d + 1) 117 [vR 9 0] (enc C (mkR aMk aSu aMac aMem aTk aPaid aNd aDay aOw aMo aDy aSt aLe aWk aSta aDue aCm aCb aCl aEnt aMt aBl aBar aPr aLs aLnum aLm aSh aBrk aThr) W) (.inl (some (vI ((f_r_addMember aMem aTk).1)))) (enc C (mkR aMk aSu aMac ((f_r_addMember aMem aTk).2.1) ((f_r_addMember aMem aTk).2.2.1) aPaid aNd aDay aOw aMo aDy aSt aLe aWk aSta aDue aCm aCb aCl aEnt aMt aBl aBar aPr aLs aLnum aLm aSh aBrk ((f_r_addMember aMem aTk).2.2.2)) W) := by
  obtain ⟨wMac, wMem, wEnt, wBar, wBrk, wOw, wMo, wMk, wCm, wCb, wMt, wLm⟩ := id hW
  refine Cal.mk (n := 2) rfl (Nat.le_of_ble_eq_true rfl) rfl ?_
  unfold f_r_addMember
  refine Ev.ps 1 rfl ?_
  refine Ev.getf (v := vI (nI aMem)) (by rfl) (by rfl) (by rfl) (rd9) rfl ?_
  refine Ev.ps 1 rfl ?_
  refine Ev.ineN (a := aMem) (b := 10) (by omega) (by omega) (by rfl) (by rfl) (fun (c1 : aMem = 10) => ?_) (fun (c1 : ¬ aMem = 10) => ?_)
  · rw [if_pos c1]
    refine Ev.ps 2 rfl ?_
    refine Ev.vir (as := [vI 1]) (rest := []) (by rfl) (by rfl) (by rfl) (by rfl) rfl (Nat.le_of_ble_eq_true rfl) (by rfl) (by rw [rd9]; rfl) (s_r_raises (v := 1)) ?_
    exact Ev.re rfl rfl rfl rfl rfl
  · rw [if_neg c1]
    refine Ev.ps 2 rfl ?_
    refine Ev.pf (by rfl) (by rfl) (by rfl) (Nat.le_of_ble_eq_true rfl) rfl (Or.inl (by rfl)) (rd9) (show _ = enc C (mkR aMk aSu aMac aMem aTk aPaid aNd aDay aOw aMo aDy aSt aLe aWk aSta aDue aCm aCb aCl aEnt aMt aBl aBar aPr aLs aLnum aLm aSh aBrk 0) W from wr9_Thr (v := 0)) ?_
    refine Ev.ps 4 rfl ?_
    refine Ev.icmp (by rfl) (by rfl) (fun z => by exact absurd z (by decide)) (fun _ => ?_)
    refine Ev.ps 1 rfl ?_
    refine Ev.getf (v := vR 27 0) (by rfl) (by rfl) (by rfl) (rd9) rfl ?_
    refine Ev.ps 1 rfl ?_
    refine Ev.getf (v := vI (nI aMem)) (by rfl) (by rfl) (by rfl) (rd9) rfl ?_
    refine Ev.aiA (k := aMem) (v := vR 28 aMem) (by rfl) (by decide) (rd27) (by omega) (by omega) rfl ?_
    refine Ev.ps 2 rfl ?_
    refine Ev.asI (k := 0) (by rfl) (by rfl) (rd28 (by omega)) (by omega) (by omega) (show _ = enc C (mkR aMk aSu aMac aMem (fup aTk aMem (fup (aTk aMem) 0 (-1))) aPaid aNd aDay aOw aMo aDy aSt aLe aWk aSta aDue aCm aCb aCl aEnt aMt aBl aBar aPr aLs aLnum aLm aSh aBrk 0) W from wr28 (j := aMem) (i := 0) (v := (-1))) ?_
    refine Ev.ps 4 rfl ?_
    refine Ev.icmp (by rfl) (by rfl) (fun z => by exact absurd z (by decide)) (fun _ => ?_)
    refine Ev.ps 1 rfl ?_
    refine Ev.getf (v := vR 27 0) (by rfl) (by rfl) (by rfl) (rd9) rfl ?_
    refine Ev.ps 1 rfl ?_
    refine Ev.getf (v := vI (nI aMem)) (by rfl) (by rfl) (by rfl) (rd9) rfl ?_
    refine Ev.aiA (k := aMem) (v := vR 28 aMem) (by rfl) (by decide) (rd27) (by omega) (by omega) rfl ?_
    refine Ev.ps 2 rfl ?_
    refine Ev.asI (k := 1) (by rfl) (by rfl) (rd28 (by omega)) (by omega) (by omega) (show _ = enc C (mkR aMk aSu aMac aMem (fup (fup aTk aMem (fup (aTk aMem) 0 (-1))) aMem (fup ((fup aTk aMem (fup (aTk aMem) 0 (-1))) aMem) 1 (-1))) aPaid aNd aDay aOw aMo aDy aSt aLe aWk aSta aDue aCm aCb aCl aEnt aMt aBl aBar aPr aLs aLnum aLm aSh aBrk 0) W from wr28 (j := aMem) (i := 1) (v := (-1))) ?_
    refine Ev.ps 4 rfl ?_
    refine Ev.icmp (by rfl) (by rfl) (fun z => by exact absurd z (by decide)) (fun _ => ?_)
    refine Ev.ps 1 rfl ?_
    refine Ev.getf (v := vR 27 0) (by rfl) (by rfl) (by rfl) (rd9) rfl ?_
    refine Ev.ps 1 rfl ?_
    refine Ev.getf (v := vI (nI aMem)) (by rfl) (by rfl) (by rfl) (rd9) rfl ?_
    refine Ev.aiA (k := aMem) (v := vR 28 aMem) (by rfl) (by decide) (rd27) (by omega) (by omega) rfl ?_
    refine Ev.ps 2 rfl ?_
    refine Ev.asI (k := 2) (by rfl) (by rfl) (rd28 (by omega)) (by omega) (by omega) (show _ = enc C (mkR aMk aSu aMac aMem (fup (fup (fup aTk aMem (fup (aTk aMem) 0 (-1))) aMem (fup ((fup aTk aMem (fup (aTk aMem) 0 (-1))) aMem) 1 (-1))) aMem (fup ((fup (fup aTk aMem (fup (aTk aMem) 0 (-1))) aMem (fup ((fup aTk aMem (fup (aTk aMem) 0 (-1))) aMem) 1 (-1))) aMem) 2 (-1))) aPaid aNd aDay aOw aMo aDy aSt aLe aWk aSta aDue aCm aCb aCl aEnt aMt aBl aBar aPr aLs aLnum aLm aSh aBrk 0) W from wr28 (j := aMem) (i := 2) (v := (-1))) ?_
    refine Ev.ps 4 rfl ?_
    refine Ev.icmp (by rfl) (by rfl) (fun z => by exact absurd z (by decide)) (fun _ => ?_)
    refine Ev.ps 1 rfl ?_
    refine Ev.getf (v := vR 27 0) (by rfl) (by rfl) (by rfl) (rd9) rfl ?_
    refine Ev.ps 1 rfl ?_
    refine Ev.getf (v := vI (nI aMem)) (by rfl) (by rfl) (by rfl) (rd9) rfl ?_
    refine Ev.aiA (k := aMem) (v := vR 28 aMem) (by rfl) (by decide) (rd27) (by omega) (by omega) rfl ?_
    refine Ev.ps 2 rfl ?_
    refine Ev.asI (k := 3) (by rfl) (by rfl) (rd28 (by omega)) (by omega) (by omega) (show _ = enc C (mkR aMk aSu aMac aMem (fup (fup (fup (fup aTk aMem (fup (aTk aMem) 0 (-1))) aMem (fup ((fup aTk aMem (fup (aTk aMem) 0 (-1))) aMem) 1 (-1))) aMem (fup ((fup (fup aTk aMem (fup (aTk aMem) 0 (-1))) aMem (fup ((fup aTk aMem (fup (aTk aMem) 0 (-1))) aMem) 1 (-1))) aMem) 2 (-1))) aMem (fup ((fup (fup (fup aTk aMem (fup (aTk aMem) 0 (-1))) aMem (fup ((fup aTk aMem (fup (aTk aMem) 0 (-1))) aMem) 1 (-1))) aMem (fup ((fup (fup aTk aMem (fup (aTk aMem) 0 (-1))) aMem (fup ((fup aTk aMem (fup (aTk aMem) 0 (-1))) aMem) 1 (-1))) aMem) 2 (-1))) aMem) 3 (-1))) aPaid aNd aDay aOw aMo aDy aSt aLe aWk aSta aDue aCm aCb aCl aEnt aMt aBl aBar aPr aLs aLnum aLm aSh aBrk 0) W from wr28 (j := aMem) (i := 3) (v := (-1))) ?_
    refine Ev.ps 4 rfl ?_
    refine Ev.icmp (by rfl) (by rfl) (fun _ => ?_) (fun z => by exact absurd z (by decide))
    refine Ev.ps 2 rfl ?_
    refine Ev.getf (v := vI (nI aMem)) (by rfl) (by rfl) (by rfl) (rd9) rfl ?_
    refine Ev.ps 2 rfl ?_
    refine Ev.st1 (b := nI (aMem + 1)) (nI_1 aMem) ?_
    refine Ev.pf (by rfl) (by rfl) (by rfl) (Nat.le_of_ble_eq_true rfl) rfl (Or.inl (by rfl)) (rd9) (show _ = enc C (mkR aMk aSu aMac (aMem + 1) (fup (fup (fup (fup aTk aMem (fup (aTk aMem) 0 (-1))) aMem (fup ((fup aTk aMem (fup (aTk aMem) 0 (-1))) aMem) 1 (-1))) aMem (fup ((fup (fup aTk aMem (fup (aTk aMem) 0 (-1))) aMem (fup ((fup aTk aMem (fup (aTk aMem) 0 (-1))) aMem) 1 (-1))) aMem) 2 (-1))) aMem (fup ((fup (fup (fup aTk aMem (fup (aTk aMem) 0 (-1))) aMem (fup ((fup aTk aMem (fup (aTk aMem) 0 (-1))) aMem) 1 (-1))) aMem (fup ((fup (fup aTk aMem (fup (aTk aMem) 0 (-1))) aMem (fup ((fup aTk aMem (fup (aTk aMem) 0 (-1))) aMem) 1 (-1))) aMem) 2 (-1))) aMem) 3 (-1))) aPaid aNd aDay aOw aMo aDy aSt aLe aWk aSta aDue aCm aCb aCl aEnt aMt aBl aBar aPr aLs aLnum aLm aSh aBrk 0) W from wr9_Mem (v := aMem + 1)) ?_
    refine Ev.ps 1 rfl ?_
    refine Ev.getf (v := vI (nI (aMem + 1))) (by rfl) (by rfl) (by rfl) (rd9) rfl ?_
    refine Ev.ps 2 rfl ?_
    exact Ev.re rfl rfl rfl rfl rfl
def f_r_day (aDay : Int32)  : Int32 × Int32 :=
  (aDay, 0)
theorem s_r_day {d : Nat} {W : WD} {aMk : Nat → Nat} {aSu : Nat → Int32} {aMac : Nat} {aMem : Nat} {aTk : Nat → Nat → Int32} {aPaid : Nat → Int64} {aNd : Nat → Nat → Bool} {aDay : Int32} {aOw : Nat → Nat} {aMo : Nat → Nat} {aDy : Nat → Int32} {aSt : Nat → Int32} {aLe : Nat → Int32} {aWk : Nat → Int32} {aSta : Nat → Int32} {aDue : Nat → Int32} {aCm : Nat → Nat} {aCb : Nat → Nat → Nat} {aCl : Nat → Nat → Int32} {aEnt : Nat} {aMt : Nat → Nat} {aBl : Nat → Int32} {aBar : Nat} {aPr : Nat → Int32} {aLs : Nat → Nat → Int32} {aLnum : Nat → Nat → Int32} {aLm : Nat → Nat} {aSh : Nat → Nat → Int32} {aBrk : Nat} {aThr : Int32} {C : CD}  (hW : WfR aMac aMem aEnt aBar aBrk aOw aMo aMk aCm aCb aMt aLm) : Cal (d + 0) 118 [vR 9 0] (enc C (mkR aMk aSu aMac aMem aTk aPaid aNd aDay aOw aMo aDy aSt aLe aWk aSta aDue aCm aCb aCl aEnt aMt aBl aBar aPr aLs aLnum aLm aSh aBrk aThr) W) (.inl (some (vI ((f_r_day aDay).1)))) (enc C (mkR aMk aSu aMac aMem aTk aPaid aNd aDay aOw aMo aDy aSt aLe aWk aSta aDue aCm aCb aCl aEnt aMt aBl aBar aPr aLs aLnum aLm aSh aBrk ((f_r_day aDay).2)) W) := by
  obtain ⟨wMac, wMem, wEnt, wBar, wBrk, wOw, wMo, wMk, wCm, wCb, wMt, wLm⟩ := id hW
  refine Cal.mk (n := 1) rfl (Nat.le_of_ble_eq_true rfl) rfl ?_
  unfold f_r_day
  refine Ev.ps 2 rfl ?_
  refine Ev.pf (by rfl) (by rfl) (by rfl) (Nat.le_of_ble_eq_true rfl) rfl (Or.inl (by rfl)) (rd9) (show _ = enc C (mkR aMk aSu aMac aMem aTk aPaid aNd aDay aOw aMo aDy aSt aLe aWk aSta aDue aCm aCb aCl aEnt aMt aBl aBar aPr aLs aLnum aLm aSh aBrk 0) W from wr9_Thr (v := 0)) ?_
  refine Ev.ps 1 rfl ?_
  refine Ev.getf (v := vI aDay) (by rfl) (by rfl) (by rfl) (rd9) rfl ?_
  exact Ev.re rfl rfl rfl rfl rfl
def f_r_entries (aEnt : Nat)  : Int32 × Int32 :=
  (nI aEnt, 0)
theorem s_r_entries {d : Nat} {W : WD} {aMk : Nat → Nat} {aSu : Nat → Int32} {aMac : Nat} {aMem : Nat} {aTk : Nat → Nat → Int32} {aPaid : Nat → Int64} {aNd : Nat → Nat → Bool} {aDay : Int32} {aOw : Nat → Nat} {aMo : Nat → Nat} {aDy : Nat → Int32} {aSt : Nat → Int32} {aLe : Nat → Int32} {aWk : Nat → Int32} {aSta : Nat → Int32} {aDue : Nat → Int32} {aCm : Nat → Nat} {aCb : Nat → Nat → Nat} {aCl : Nat → Nat → Int32} {aEnt : Nat} {aMt : Nat → Nat} {aBl : Nat → Int32} {aBar : Nat} {aPr : Nat → Int32} {aLs : Nat → Nat → Int32} {aLnum : Nat → Nat → Int32} {aLm : Nat → Nat} {aSh : Nat → Nat → Int32} {aBrk : Nat} {aThr : Int32} {C : CD}  (hW : WfR aMac aMem aEnt aBar aBrk aOw aMo aMk aCm aCb aMt aLm) : Cal (d + 0) 140 [vR 9 0] (enc C (mkR aMk aSu aMac aMem aTk aPaid aNd aDay aOw aMo aDy aSt aLe aWk aSta aDue aCm aCb aCl aEnt aMt aBl aBar aPr aLs aLnum aLm aSh aBrk aThr) W) (.inl (some (vI ((f_r_entries aEnt).1)))) (enc C (mkR aMk aSu aMac aMem aTk aPaid aNd aDay aOw aMo aDy aSt aLe aWk aSta aDue aCm aCb aCl aEnt aMt aBl aBar aPr aLs aLnum aLm aSh aBrk ((f_r_entries aEnt).2)) W) := by
  obtain ⟨wMac, wMem, wEnt, wBar, wBrk, wOw, wMo, wMk, wCm, wCb, wMt, wLm⟩ := id hW
  refine Cal.mk (n := 1) rfl (Nat.le_of_ble_eq_true rfl) rfl ?_
  unfold f_r_entries
  refine Ev.ps 2 rfl ?_
  refine Ev.pf (by rfl) (by rfl) (by rfl) (Nat.le_of_ble_eq_true rfl) rfl (Or.inl (by rfl)) (rd9) (show _ = enc C (mkR aMk aSu aMac aMem aTk aPaid aNd aDay aOw aMo aDy aSt aLe aWk aSta aDue aCm aCb aCl aEnt aMt aBl aBar aPr aLs aLnum aLm aSh aBrk 0) W from wr9_Thr (v := 0)) ?_
  refine Ev.ps 1 rfl ?_
  refine Ev.getf (v := vI (nI aEnt)) (by rfl) (by rfl) (by rfl) (rd9) rfl ?_
  exact Ev.re rfl rfl rfl rfl rfl
def f_r_isSound   : Bool × Int32 :=
  (true, 0)
theorem s_r_isSound {d : Nat} {W : WD} {aMk : Nat → Nat} {aSu : Nat → Int32} {aMac : Nat} {aMem : Nat} {aTk : Nat → Nat → Int32} {aPaid : Nat → Int64} {aNd : Nat → Nat → Bool} {aDay : Int32} {aOw : Nat → Nat} {aMo : Nat → Nat} {aDy : Nat → Int32} {aSt : Nat → Int32} {aLe : Nat → Int32} {aWk : Nat → Int32} {aSta : Nat → Int32} {aDue : Nat → Int32} {aCm : Nat → Nat} {aCb : Nat → Nat → Nat} {aCl : Nat → Nat → Int32} {aEnt : Nat} {aMt : Nat → Nat} {aBl : Nat → Int32} {aBar : Nat} {aPr : Nat → Int32} {aLs : Nat → Nat → Int32} {aLnum : Nat → Nat → Int32} {aLm : Nat → Nat} {aSh : Nat → Nat → Int32} {aBrk : Nat} {aThr : Int32} {C : CD}  (hW : WfR aMac aMem aEnt aBar aBrk aOw aMo aMk aCm aCb aMt aLm) : Cal (d + 0) 178 [vR 9 0] (enc C (mkR aMk aSu aMac aMem aTk aPaid aNd aDay aOw aMo aDy aSt aLe aWk aSta aDue aCm aCb aCl aEnt aMt aBl aBar aPr aLs aLnum aLm aSh aBrk aThr) W) (.inl (some (vI (bI f_r_isSound.1)))) (enc C (mkR aMk aSu aMac aMem aTk aPaid aNd aDay aOw aMo aDy aSt aLe aWk aSta aDue aCm aCb aCl aEnt aMt aBl aBar aPr aLs aLnum aLm aSh aBrk f_r_isSound.2) W) := by
  refine Cal.mk (n := 1) rfl (Nat.le_of_ble_eq_true rfl) rfl ?_
  unfold f_r_isSound
  refine Ev.ps 2 rfl ?_
  refine Ev.pf (by rfl) (by rfl) (by rfl) (Nat.le_of_ble_eq_true rfl) rfl (Or.inl (by rfl)) (rd9) (show _ = enc C (mkR aMk aSu aMac aMem aTk aPaid aNd aDay aOw aMo aDy aSt aLe aWk aSta aDue aCm aCb aCl aEnt aMt aBl aBar aPr aLs aLnum aLm aSh aBrk 0) W from wr9_Thr (v := 0)) ?_
  refine Ev.ps 1 rfl ?_
  exact Ev.re rfl rfl rfl rfl rfl
