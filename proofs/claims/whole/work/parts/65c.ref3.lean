/-! the reference: calls, on (written by gref3.py) -/
def f_r_adds (aDy : Nat → Int32) (aEnt : Nat) (aLe : Nat → Int32) (aMo : Nat → Nat) (aOw : Nat → Nat) (aSt : Nat → Int32) (aSta : Nat → Int32) (aWk : Nat → Int32) (m mc : Nat) (D S M V s : Int32) : Int32 × (Nat → Nat) × (Nat → Nat) × (Nat → Int32) × (Nat → Int32) × (Nat → Int32) × (Nat → Int32) × (Nat → Int32) × Nat :=
  ((nI (aEnt + 1)) - 1, fup aOw aEnt m, fup aMo aEnt mc, fup aDy aEnt D, fup aSt aEnt S, fup aLe aEnt M, fup aWk aEnt V, fup aSta aEnt s, aEnt + 1)
theorem s_r_adds {d : Nat} {W : WD} {aMk : Nat → Nat} {aSu : Nat → Int32} {aMac : Nat} {aMem : Nat} {aTk : Nat → Nat → Int32} {aPaid : Nat → Int64} {aNd : Nat → Nat → Bool} {aDay : Int32} {aOw : Nat → Nat} {aMo : Nat → Nat} {aDy : Nat → Int32} {aSt : Nat → Int32} {aLe : Nat → Int32} {aWk : Nat → Int32} {aSta : Nat → Int32} {aDue : Nat → Int32} {aCm : Nat → Nat} {aCb : Nat → Nat → Nat} {aCl : Nat → Nat → Int32} {aEnt : Nat} {aMt : Nat → Nat} {aBl : Nat → Int32} {aBar : Nat} {aPr : Nat → Int32} {aLs : Nat → Nat → Int32} {aLnum : Nat → Nat → Int32} {aLm : Nat → Nat} {aSh : Nat → Nat → Int32} {aBrk : Nat} {aThr : Int32} {C : CD} {m : Nat} {mc : Nat} {D : Int32} {S : Int32} {M : Int32} {V : Int32} {s : Int32} (hW : WfR aMac aMem aEnt aBar aBrk aOw aMo aMk aCm aCb aMt aLm) (he : aEnt < 150) (hV : chr V) (hs : chr s) : Cal (d + 0) 134 [vR 9 0, vI (nI m), vI (nI mc), vI D, vI S, vI M, vI V, vI s] (enc C (mkR aMk aSu aMac aMem aTk aPaid aNd aDay aOw aMo aDy aSt aLe aWk aSta aDue aCm aCb aCl aEnt aMt aBl aBar aPr aLs aLnum aLm aSh aBrk aThr) W) (.inl (some (vI ((f_r_adds aDy aEnt aLe aMo aOw aSt aSta aWk m mc D S M V s).1)))) (enc C (mkR aMk aSu aMac aMem aTk aPaid aNd aDay ((f_r_adds aDy aEnt aLe aMo aOw aSt aSta aWk m mc D S M V s).2.1) ((f_r_adds aDy aEnt aLe aMo aOw aSt aSta aWk m mc D S M V s).2.2.1) ((f_r_adds aDy aEnt aLe aMo aOw aSt aSta aWk m mc D S M V s).2.2.2.1) ((f_r_adds aDy aEnt aLe aMo aOw aSt aSta aWk m mc D S M V s).2.2.2.2.1) ((f_r_adds aDy aEnt aLe aMo aOw aSt aSta aWk m mc D S M V s).2.2.2.2.2.1) ((f_r_adds aDy aEnt aLe aMo aOw aSt aSta aWk m mc D S M V s).2.2.2.2.2.2.1) ((f_r_adds aDy aEnt aLe aMo aOw aSt aSta aWk m mc D S M V s).2.2.2.2.2.2.2.1) aDue aCm aCb aCl ((f_r_adds aDy aEnt aLe aMo aOw aSt aSta aWk m mc D S M V s).2.2.2.2.2.2.2.2) aMt aBl aBar aPr aLs aLnum aLm aSh aBrk aThr) W) := by
  obtain ⟨wMac, wMem, wEnt, wBar, wBrk, wOw, wMo, wMk, wCm, wCb, wMt, wLm⟩ := id hW
  refine Cal.mk (n := 8) rfl (Nat.le_of_ble_eq_true rfl) rfl ?_
  unfold f_r_adds
  refine Ev.ps 1 rfl ?_
  refine Ev.getf (v := vR 32 0) (by rfl) (by rfl) (by rfl) (rd9) rfl ?_
  refine Ev.ps 1 rfl ?_
  refine Ev.getf (v := vI (nI aEnt)) (by rfl) (by rfl) (by rfl) (rd9) rfl ?_
  refine Ev.ps 1 rfl ?_
  refine Ev.asI (k := aEnt) (by rfl) (by rfl) (rd32) (by omega) (by omega) (show _ = enc C (mkR aMk aSu aMac aMem aTk aPaid aNd aDay (fup aOw aEnt m) aMo aDy aSt aLe aWk aSta aDue aCm aCb aCl aEnt aMt aBl aBar aPr aLs aLnum aLm aSh aBrk aThr) W from wr32 (i := aEnt) (v := m)) ?_
  refine Ev.ps 1 rfl ?_
  refine Ev.getf (v := vR 33 0) (by rfl) (by rfl) (by rfl) (rd9) rfl ?_
  refine Ev.ps 1 rfl ?_
  refine Ev.getf (v := vI (nI aEnt)) (by rfl) (by rfl) (by rfl) (rd9) rfl ?_
  refine Ev.ps 1 rfl ?_
  refine Ev.asI (k := aEnt) (by rfl) (by rfl) (rd33) (by omega) (by omega) (show _ = enc C (mkR aMk aSu aMac aMem aTk aPaid aNd aDay (fup aOw aEnt m) (fup aMo aEnt mc) aDy aSt aLe aWk aSta aDue aCm aCb aCl aEnt aMt aBl aBar aPr aLs aLnum aLm aSh aBrk aThr) W from wr33 (i := aEnt) (v := mc)) ?_
  refine Ev.ps 1 rfl ?_
  refine Ev.getf (v := vR 34 0) (by rfl) (by rfl) (by rfl) (rd9) rfl ?_
  refine Ev.ps 1 rfl ?_
  refine Ev.getf (v := vI (nI aEnt)) (by rfl) (by rfl) (by rfl) (rd9) rfl ?_
  refine Ev.ps 1 rfl ?_
  refine Ev.asI (k := aEnt) (by rfl) (by rfl) (rd34) (by omega) (by omega) (show _ = enc C (mkR aMk aSu aMac aMem aTk aPaid aNd aDay (fup aOw aEnt m) (fup aMo aEnt mc) (fup aDy aEnt D) aSt aLe aWk aSta aDue aCm aCb aCl aEnt aMt aBl aBar aPr aLs aLnum aLm aSh aBrk aThr) W from wr34 (i := aEnt) (v := D)) ?_
  refine Ev.ps 1 rfl ?_
  refine Ev.getf (v := vR 35 0) (by rfl) (by rfl) (by rfl) (rd9) rfl ?_
  refine Ev.ps 1 rfl ?_
  refine Ev.getf (v := vI (nI aEnt)) (by rfl) (by rfl) (by rfl) (rd9) rfl ?_
  refine Ev.ps 1 rfl ?_
  refine Ev.asI (k := aEnt) (by rfl) (by rfl) (rd35) (by omega) (by omega) (show _ = enc C (mkR aMk aSu aMac aMem aTk aPaid aNd aDay (fup aOw aEnt m) (fup aMo aEnt mc) (fup aDy aEnt D) (fup aSt aEnt S) aLe aWk aSta aDue aCm aCb aCl aEnt aMt aBl aBar aPr aLs aLnum aLm aSh aBrk aThr) W from wr35 (i := aEnt) (v := S)) ?_
  refine Ev.ps 1 rfl ?_
  refine Ev.getf (v := vR 36 0) (by rfl) (by rfl) (by rfl) (rd9) rfl ?_
  refine Ev.ps 1 rfl ?_
  refine Ev.getf (v := vI (nI aEnt)) (by rfl) (by rfl) (by rfl) (rd9) rfl ?_
  refine Ev.ps 1 rfl ?_
  refine Ev.asI (k := aEnt) (by rfl) (by rfl) (rd36) (by omega) (by omega) (show _ = enc C (mkR aMk aSu aMac aMem aTk aPaid aNd aDay (fup aOw aEnt m) (fup aMo aEnt mc) (fup aDy aEnt D) (fup aSt aEnt S) (fup aLe aEnt M) aWk aSta aDue aCm aCb aCl aEnt aMt aBl aBar aPr aLs aLnum aLm aSh aBrk aThr) W from wr36 (i := aEnt) (v := M)) ?_
  refine Ev.ps 1 rfl ?_
  refine Ev.getf (v := vR 37 0) (by rfl) (by rfl) (by rfl) (rd9) rfl ?_
  refine Ev.ps 1 rfl ?_
  refine Ev.getf (v := vI (nI aEnt)) (by rfl) (by rfl) (by rfl) (rd9) rfl ?_
  refine Ev.ps 1 rfl ?_
  refine Ev.asC (k := aEnt) (by rfl) (by rfl) (by assumption) (rd37) (by omega) (by omega) (show _ = enc C (mkR aMk aSu aMac aMem aTk aPaid aNd aDay (fup aOw aEnt m) (fup aMo aEnt mc) (fup aDy aEnt D) (fup aSt aEnt S) (fup aLe aEnt M) (fup aWk aEnt V) aSta aDue aCm aCb aCl aEnt aMt aBl aBar aPr aLs aLnum aLm aSh aBrk aThr) W from wr37 (i := aEnt) (v := V)) ?_
  refine Ev.ps 1 rfl ?_
  refine Ev.getf (v := vR 38 0) (by rfl) (by rfl) (by rfl) (rd9) rfl ?_
  refine Ev.ps 1 rfl ?_
  refine Ev.getf (v := vI (nI aEnt)) (by rfl) (by rfl) (by rfl) (rd9) rfl ?_
  refine Ev.ps 1 rfl ?_
  refine Ev.asC (k := aEnt) (by rfl) (by rfl) (by assumption) (rd38) (by omega) (by omega) (show _ = enc C (mkR aMk aSu aMac aMem aTk aPaid aNd aDay (fup aOw aEnt m) (fup aMo aEnt mc) (fup aDy aEnt D) (fup aSt aEnt S) (fup aLe aEnt M) (fup aWk aEnt V) (fup aSta aEnt s) aDue aCm aCb aCl aEnt aMt aBl aBar aPr aLs aLnum aLm aSh aBrk aThr) W from wr38 (i := aEnt) (v := s)) ?_
  refine Ev.ps 2 rfl ?_
  refine Ev.getf (v := vI (nI aEnt)) (by rfl) (by rfl) (by rfl) (rd9) rfl ?_
  refine Ev.ps 2 rfl ?_
  refine Ev.st1 (b := nI (aEnt + 1)) (nI_1 aEnt) ?_
  refine Ev.pf (by rfl) (by rfl) (by rfl) (Nat.le_of_ble_eq_true rfl) rfl (Or.inl (by rfl)) (rd9) (show _ = enc C (mkR aMk aSu aMac aMem aTk aPaid aNd aDay (fup aOw aEnt m) (fup aMo aEnt mc) (fup aDy aEnt D) (fup aSt aEnt S) (fup aLe aEnt M) (fup aWk aEnt V) (fup aSta aEnt s) aDue aCm aCb aCl (aEnt + 1) aMt aBl aBar aPr aLs aLnum aLm aSh aBrk aThr) W from wr9_Ent (v := aEnt + 1)) ?_
  refine Ev.ps 1 rfl ?_
  refine Ev.getf (v := vI (nI (aEnt + 1))) (by rfl) (by rfl) (by rfl) (rd9) rfl ?_
  refine Ev.ps 2 rfl ?_
  exact Ev.re rfl rfl rfl rfl rfl
def f_r_book (aDay : Int32) (aDy : Nat → Int32) (aEnt : Nat) (aLe : Nat → Int32) (aMac : Nat) (aMem : Nat) (aMk : Nat → Nat) (aMo : Nat → Nat) (aNd : Nat → Nat → Bool) (aOw : Nat → Nat) (aSt : Nat → Int32) (aSta : Nat → Int32) (aSu : Nat → Int32) (aTk : Nat → Nat → Int32) (aWk : Nat → Int32) (p0 p1 D S M V : Int32) : Int32 × (Nat → Nat) × (Nat → Nat) × (Nat → Int32) × (Nat → Int32) × (Nat → Int32) × (Nat → Int32) × (Nat → Int32) × Nat × Int32 :=
  if 0 < f_r_lacks aDay aMac aMem p0 p1 D S M V then
    (0, aOw, aMo, aDy, aSt, aLe, aWk, aSta, aEnt, f_r_lacks aDay aMac aMem p0 p1 D S M V)
  else
    if f_r_letter aDy aEnt aLe aMk aMo aNd aOw aSt aSta aSu aTk aWk (nP p0) (nP p1) D S M V = 105 then
      (0, aOw, aMo, aDy, aSt, aLe, aWk, aSta, aEnt, 3)
    else
      if f_r_letter aDy aEnt aLe aMk aMo aNd aOw aSt aSta aSu aTk aWk (nP p0) (nP p1) D S M V = 109 then
        (0, aOw, aMo, aDy, aSt, aLe, aWk, aSta, aEnt, 4)
      else
        if f_r_letter aDy aEnt aLe aMk aMo aNd aOw aSt aSta aSu aTk aWk (nP p0) (nP p1) D S M V = 116 then
          (0, aOw, aMo, aDy, aSt, aLe, aWk, aSta, aEnt, 5)
        else
          if aEnt = 150 then
            (0, aOw, aMo, aDy, aSt, aLe, aWk, aSta, aEnt, 6)
          else
            ((f_r_adds aDy aEnt aLe aMo aOw aSt aSta aWk (nP p0) (nP p1) D S M V 98).1, (f_r_adds aDy aEnt aLe aMo aOw aSt aSta aWk (nP p0) (nP p1) D S M V 98).2.1, (f_r_adds aDy aEnt aLe aMo aOw aSt aSta aWk (nP p0) (nP p1) D S M V 98).2.2.1, (f_r_adds aDy aEnt aLe aMo aOw aSt aSta aWk (nP p0) (nP p1) D S M V 98).2.2.2.1, (f_r_adds aDy aEnt aLe aMo aOw aSt aSta aWk (nP p0) (nP p1) D S M V 98).2.2.2.2.1, (f_r_adds aDy aEnt aLe aMo aOw aSt aSta aWk (nP p0) (nP p1) D S M V 98).2.2.2.2.2.1, (f_r_adds aDy aEnt aLe aMo aOw aSt aSta aWk (nP p0) (nP p1) D S M V 98).2.2.2.2.2.2.1, (f_r_adds aDy aEnt aLe aMo aOw aSt aSta aWk (nP p0) (nP p1) D S M V 98).2.2.2.2.2.2.2.1, (f_r_adds aDy aEnt aLe aMo aOw aSt aSta aWk (nP p0) (nP p1) D S M V 98).2.2.2.2.2.2.2.2, 0)
theorem s_r_book {d : Nat} {W : WD} {aMk : Nat → Nat} {aSu : Nat → Int32} {aMac : Nat} {aMem : Nat} {aTk : Nat → Nat → Int32} {aPaid : Nat → Int64} {aNd : Nat → Nat → Bool} {aDay : Int32} {aOw : Nat → Nat} {aMo : Nat → Nat} {aDy : Nat → Int32} {aSt : Nat → Int32} {aLe : Nat → Int32} {aWk : Nat → Int32} {aSta : Nat → Int32} {aDue : Nat → Int32} {aCm : Nat → Nat} {aCb : Nat → Nat → Nat} {aCl : Nat → Nat → Int32} {aEnt : Nat} {aMt : Nat → Nat} {aBl : Nat → Int32} {aBar : Nat} {aPr : Nat → Int32} {aLs : Nat → Nat → Int32} {aLnum : Nat → Nat → Int32} {aLm : Nat → Nat} {aSh : Nat → Nat → Int32} {aBrk : Nat} {aThr : Int32} {C : CD} {p0 : Int32} {p1 : Int32} {D : Int32} {S : Int32} {M : Int32} {V : Int32} (hW : WfR aMac aMem aEnt aBar aBrk aOw aMo aMk aCm aCb aMt aLm) (hA : Acy aNd) (hV : chr V) : Cal (d + 8) 135 [vR 9 0, vI p0, vI p1, vI D, vI S, vI M, vI V] (enc C (mkR aMk aSu aMac aMem aTk aPaid aNd aDay aOw aMo aDy aSt aLe aWk aSta aDue aCm aCb aCl aEnt aMt aBl aBar aPr aLs aLnum aLm aSh aBrk aThr) W) (.inl (some (vI ((f_r_book aDay aDy aEnt aLe aMac aMem aMk aMo aNd aOw aSt aSta aSu aTk aWk p0 p1 D S M V).1)))) (enc C (mkR aMk aSu aMac aMem aTk aPaid aNd aDay ((f_r_book aDay aDy aEnt aLe aMac aMem aMk aMo aNd aOw aSt aSta aSu aTk aWk p0 p1 D S M V).2.1) ((f_r_book aDay aDy aEnt aLe aMac aMem aMk aMo aNd aOw aSt aSta aSu aTk aWk p0 p1 D S M V).2.2.1) ((f_r_book aDay aDy aEnt aLe aMac aMem aMk aMo aNd aOw aSt aSta aSu aTk aWk p0 p1 D S M V).2.2.2.1) ((f_r_book aDay aDy aEnt aLe aMac aMem aMk aMo aNd aOw aSt aSta aSu aTk aWk p0 p1 D S M V).2.2.2.2.1) ((f_r_book aDay aDy aEnt aLe aMac aMem aMk aMo aNd aOw aSt aSta aSu aTk aWk p0 p1 D S M V).2.2.2.2.2.1) ((f_r_book aDay aDy aEnt aLe aMac aMem aMk aMo aNd aOw aSt aSta aSu aTk aWk p0 p1 D S M V).2.2.2.2.2.2.1) ((f_r_book aDay aDy aEnt aLe aMac aMem aMk aMo aNd aOw aSt aSta aSu aTk aWk p0 p1 D S M V).2.2.2.2.2.2.2.1) aDue aCm aCb aCl ((f_r_book aDay aDy aEnt aLe aMac aMem aMk aMo aNd aOw aSt aSta aSu aTk aWk p0 p1 D S M V).2.2.2.2.2.2.2.2.1) aMt aBl aBar aPr aLs aLnum aLm aSh aBrk ((f_r_book aDay aDy aEnt aLe aMac aMem aMk aMo aNd aOw aSt aSta aSu aTk aWk p0 p1 D S M V).2.2.2.2.2.2.2.2.2)) W) := by
  obtain ⟨wMac, wMem, wEnt, wBar, wBrk, wOw, wMo, wMk, wCm, wCb, wMt, wLm⟩ := id hW
  refine Cal.mk (n := 8) rfl (Nat.le_of_ble_eq_true rfl) rfl ?_
  unfold f_r_book
  refine Ev.ps 8 rfl ?_
  refine Ev.vir (as := [vI p0, vI p1, vI D, vI S, vI M, vI V]) (rest := [vR 9 0]) (by rfl) (by rfl) (by rfl) (by rfl) rfl (Nat.le_of_ble_eq_true rfl) (by rfl) (by rw [rd9]; rfl) (s_r_lacks hW) ?_
  refine Ev.pf (by rfl) (by rfl) (by rfl) (Nat.le_of_ble_eq_true rfl) rfl (Or.inl (by rfl)) (rd9) (show _ = enc C (mkR aMk aSu aMac aMem aTk aPaid aNd aDay aOw aMo aDy aSt aLe aWk aSta aDue aCm aCb aCl aEnt aMt aBl aBar aPr aLs aLnum aLm aSh aBrk (f_r_lacks aDay aMac aMem p0 p1 D S M V)) W from wr9_Thr (v := f_r_lacks aDay aMac aMem p0 p1 D S M V)) ?_
  refine Ev.ps 1 rfl ?_
  refine Ev.getf (v := vI (f_r_lacks aDay aMac aMem p0 p1 D S M V)) (by rfl) (by rfl) (by rfl) (rd9) rfl ?_
  refine Ev.zle (by rfl) (by rfl) (fun (c1 : 0 < f_r_lacks aDay aMac aMem p0 p1 D S M V) => ?_) (fun (c1 : ¬ 0 < f_r_lacks aDay aMac aMem p0 p1 D S M V) => ?_)
  · rw [if_pos c1]
    refine Ev.ps 1 rfl ?_
    exact Ev.re rfl rfl rfl rfl rfl
  · rw [if_neg c1]
    have q_p0 := isMember_nat wMem (lacks_pos c1).1
    generalize nP p0 = k_p0 at q_p0 ⊢
    obtain ⟨rfl, hk_p0⟩ := q_p0
    have q_p1 := isMachine_nat wMac (lacks_pos c1).2
    generalize nP p1 = k_p1 at q_p1 ⊢
    obtain ⟨rfl, hk_p1⟩ := q_p1
    refine Ev.ps 7 rfl ?_
    refine Ev.vir (as := [vI (nI k_p0), vI (nI k_p1), vI D, vI S, vI M, vI V]) (rest := []) (by rfl) (by rfl) (by rfl) (by rfl) rfl (Nat.le_of_ble_eq_true rfl) (by rfl) (by rw [rd9]; rfl) (s_r_letter hW hA (by have := hk_p0; omega) (by have := hk_p1; omega)) ?_
    refine Ev.ps 4 rfl ?_
    refine Ev.ine (by rfl) (by rfl) (fun (c2 : f_r_letter aDy aEnt aLe aMk aMo aNd aOw aSt aSta aSu aTk aWk k_p0 k_p1 D S M V = 105) => ?_) (fun (c2 : ¬ f_r_letter aDy aEnt aLe aMk aMo aNd aOw aSt aSta aSu aTk aWk k_p0 k_p1 D S M V = 105) => ?_)
    · rw [if_pos c2]
      refine Ev.ps 2 rfl ?_
      refine Ev.pf (by rfl) (by rfl) (by rfl) (Nat.le_of_ble_eq_true rfl) rfl (Or.inl (by rfl)) (rd9) (show _ = enc C (mkR aMk aSu aMac aMem aTk aPaid aNd aDay aOw aMo aDy aSt aLe aWk aSta aDue aCm aCb aCl aEnt aMt aBl aBar aPr aLs aLnum aLm aSh aBrk 3) W from wr9_Thr (v := 3)) ?_
      refine Ev.ps 1 rfl ?_
      refine Ev.getf (v := vI 3) (by rfl) (by rfl) (by rfl) (rd9) rfl ?_
      refine Ev.ifi (by rfl) (by rfl) (fun z => by exact absurd z (by decide)) (fun _ => ?_)
      refine Ev.ps 2 rfl ?_
      exact Ev.re rfl rfl rfl rfl rfl
    · rw [if_neg c2]
      refine Ev.ps 2 rfl ?_
      refine Ev.ine (by rfl) (by rfl) (fun (c3 : f_r_letter aDy aEnt aLe aMk aMo aNd aOw aSt aSta aSu aTk aWk k_p0 k_p1 D S M V = 109) => ?_) (fun (c3 : ¬ f_r_letter aDy aEnt aLe aMk aMo aNd aOw aSt aSta aSu aTk aWk k_p0 k_p1 D S M V = 109) => ?_)
      · rw [if_pos c3]
        refine Ev.ps 2 rfl ?_
        refine Ev.pf (by rfl) (by rfl) (by rfl) (Nat.le_of_ble_eq_true rfl) rfl (Or.inl (by rfl)) (rd9) (show _ = enc C (mkR aMk aSu aMac aMem aTk aPaid aNd aDay aOw aMo aDy aSt aLe aWk aSta aDue aCm aCb aCl aEnt aMt aBl aBar aPr aLs aLnum aLm aSh aBrk 4) W from wr9_Thr (v := 4)) ?_
        refine Ev.ps 1 rfl ?_
        refine Ev.getf (v := vI 4) (by rfl) (by rfl) (by rfl) (rd9) rfl ?_
        refine Ev.ifi (by rfl) (by rfl) (fun z => by exact absurd z (by decide)) (fun _ => ?_)
        refine Ev.ps 2 rfl ?_
        exact Ev.re rfl rfl rfl rfl rfl
      · rw [if_neg c3]
        refine Ev.ps 2 rfl ?_
        refine Ev.ine (by rfl) (by rfl) (fun (c4 : f_r_letter aDy aEnt aLe aMk aMo aNd aOw aSt aSta aSu aTk aWk k_p0 k_p1 D S M V = 116) => ?_) (fun (c4 : ¬ f_r_letter aDy aEnt aLe aMk aMo aNd aOw aSt aSta aSu aTk aWk k_p0 k_p1 D S M V = 116) => ?_)
        · rw [if_pos c4]
          refine Ev.ps 2 rfl ?_
          refine Ev.pf (by rfl) (by rfl) (by rfl) (Nat.le_of_ble_eq_true rfl) rfl (Or.inl (by rfl)) (rd9) (show _ = enc C (mkR aMk aSu aMac aMem aTk aPaid aNd aDay aOw aMo aDy aSt aLe aWk aSta aDue aCm aCb aCl aEnt aMt aBl aBar aPr aLs aLnum aLm aSh aBrk 5) W from wr9_Thr (v := 5)) ?_
          refine Ev.ps 1 rfl ?_
          refine Ev.getf (v := vI 5) (by rfl) (by rfl) (by rfl) (rd9) rfl ?_
          refine Ev.ifi (by rfl) (by rfl) (fun z => by exact absurd z (by decide)) (fun _ => ?_)
          refine Ev.ps 2 rfl ?_
          exact Ev.re rfl rfl rfl rfl rfl
        · rw [if_neg c4]
          refine Ev.ps 1 rfl ?_
          refine Ev.getf (v := vI (nI aEnt)) (by rfl) (by rfl) (by rfl) (rd9) rfl ?_
          refine Ev.ps 1 rfl ?_
          refine Ev.ineN (a := aEnt) (b := 150) (by omega) (by omega) (by rfl) (by rfl) (fun (c5 : aEnt = 150) => ?_) (fun (c5 : ¬ aEnt = 150) => ?_)
          · rw [if_pos c5]
            refine Ev.ps 2 rfl ?_
            refine Ev.pf (by rfl) (by rfl) (by rfl) (Nat.le_of_ble_eq_true rfl) rfl (Or.inl (by rfl)) (rd9) (show _ = enc C (mkR aMk aSu aMac aMem aTk aPaid aNd aDay aOw aMo aDy aSt aLe aWk aSta aDue aCm aCb aCl aEnt aMt aBl aBar aPr aLs aLnum aLm aSh aBrk 6) W from wr9_Thr (v := 6)) ?_
            refine Ev.ps 1 rfl ?_
            refine Ev.getf (v := vI 6) (by rfl) (by rfl) (by rfl) (rd9) rfl ?_
            refine Ev.ifi (by rfl) (by rfl) (fun z => by exact absurd z (by decide)) (fun _ => ?_)
            refine Ev.ps 2 rfl ?_
            exact Ev.re rfl rfl rfl rfl rfl
          · rw [if_neg c5]
            refine Ev.ps 1 rfl ?_
            refine Ev.pf (by rfl) (by rfl) (by rfl) (Nat.le_of_ble_eq_true rfl) rfl (Or.inl (by rfl)) (rd9) (show _ = enc C (mkR aMk aSu aMac aMem aTk aPaid aNd aDay aOw aMo aDy aSt aLe aWk aSta aDue aCm aCb aCl aEnt aMt aBl aBar aPr aLs aLnum aLm aSh aBrk 0) W from wr9_Thr (v := 0)) ?_
            refine Ev.ps 1 rfl ?_
            refine Ev.getf (v := vI 0) (by rfl) (by rfl) (by rfl) (rd9) rfl ?_
            refine Ev.ifi (by rfl) (by rfl) (fun _ => ?_) (fun z => by exact absurd z (by decide))
            refine Ev.ps 8 rfl ?_
            refine Ev.vir (as := [vI (nI k_p0), vI (nI k_p1), vI D, vI S, vI M, vI V, vI 98]) (rest := []) (by rfl) (by rfl) (by rfl) (by rfl) rfl (Nat.le_of_ble_eq_true rfl) (by rfl) (by rw [rd9]; rfl) (s_r_adds hW (by omega) hV (by unfold chr; decide)) ?_
            exact Ev.re rfl rfl rfl rfl rfl
def f_r_await (aDay : Int32) (aDy : Nat → Int32) (aEnt : Nat) (aLe : Nat → Int32) (aMac : Nat) (aMem : Nat) (aMk : Nat → Nat) (aMo : Nat → Nat) (aNd : Nat → Nat → Bool) (aOw : Nat → Nat) (aSt : Nat → Int32) (aSta : Nat → Int32) (aSu : Nat → Int32) (aTk : Nat → Nat → Int32) (aWk : Nat → Int32) (p0 p1 D S M V : Int32) : Int32 × (Nat → Nat) × (Nat → Nat) × (Nat → Int32) × (Nat → Int32) × (Nat → Int32) × (Nat → Int32) × (Nat → Int32) × Nat × Int32 :=
  if 0 < f_r_lacks aDay aMac aMem p0 p1 D S M V then
    (0, aOw, aMo, aDy, aSt, aLe, aWk, aSta, aEnt, f_r_lacks aDay aMac aMem p0 p1 D S M V)
  else
    if f_r_letter aDy aEnt aLe aMk aMo aNd aOw aSt aSta aSu aTk aWk (nP p0) (nP p1) D S M V = 105 then
      (0, aOw, aMo, aDy, aSt, aLe, aWk, aSta, aEnt, 3)
    else
      if f_r_letter aDy aEnt aLe aMk aMo aNd aOw aSt aSta aSu aTk aWk (nP p0) (nP p1) D S M V = 111 then
        (0, aOw, aMo, aDy, aSt, aLe, aWk, aSta, aEnt, 4)
      else
        if aEnt = 150 then
          (0, aOw, aMo, aDy, aSt, aLe, aWk, aSta, aEnt, 4)
        else
          ((f_r_adds aDy aEnt aLe aMo aOw aSt aSta aWk (nP p0) (nP p1) D S M V 119).1, (f_r_adds aDy aEnt aLe aMo aOw aSt aSta aWk (nP p0) (nP p1) D S M V 119).2.1, (f_r_adds aDy aEnt aLe aMo aOw aSt aSta aWk (nP p0) (nP p1) D S M V 119).2.2.1, (f_r_adds aDy aEnt aLe aMo aOw aSt aSta aWk (nP p0) (nP p1) D S M V 119).2.2.2.1, (f_r_adds aDy aEnt aLe aMo aOw aSt aSta aWk (nP p0) (nP p1) D S M V 119).2.2.2.2.1, (f_r_adds aDy aEnt aLe aMo aOw aSt aSta aWk (nP p0) (nP p1) D S M V 119).2.2.2.2.2.1, (f_r_adds aDy aEnt aLe aMo aOw aSt aSta aWk (nP p0) (nP p1) D S M V 119).2.2.2.2.2.2.1, (f_r_adds aDy aEnt aLe aMo aOw aSt aSta aWk (nP p0) (nP p1) D S M V 119).2.2.2.2.2.2.2.1, (f_r_adds aDy aEnt aLe aMo aOw aSt aSta aWk (nP p0) (nP p1) D S M V 119).2.2.2.2.2.2.2.2, 0)
theorem s_r_await {d : Nat} {W : WD} {aMk : Nat → Nat} {aSu : Nat → Int32} {aMac : Nat} {aMem : Nat} {aTk : Nat → Nat → Int32} {aPaid : Nat → Int64} {aNd : Nat → Nat → Bool} {aDay : Int32} {aOw : Nat → Nat} {aMo : Nat → Nat} {aDy : Nat → Int32} {aSt : Nat → Int32} {aLe : Nat → Int32} {aWk : Nat → Int32} {aSta : Nat → Int32} {aDue : Nat → Int32} {aCm : Nat → Nat} {aCb : Nat → Nat → Nat} {aCl : Nat → Nat → Int32} {aEnt : Nat} {aMt : Nat → Nat} {aBl : Nat → Int32} {aBar : Nat} {aPr : Nat → Int32} {aLs : Nat → Nat → Int32} {aLnum : Nat → Nat → Int32} {aLm : Nat → Nat} {aSh : Nat → Nat → Int32} {aBrk : Nat} {aThr : Int32} {C : CD} {p0 : Int32} {p1 : Int32} {D : Int32} {S : Int32} {M : Int32} {V : Int32} (hW : WfR aMac aMem aEnt aBar aBrk aOw aMo aMk aCm aCb aMt aLm) (hA : Acy aNd) (hV : chr V) : Cal (d + 8) 136 [vR 9 0, vI p0, vI p1, vI D, vI S, vI M, vI V] (enc C (mkR aMk aSu aMac aMem aTk aPaid aNd aDay aOw aMo aDy aSt aLe aWk aSta aDue aCm aCb aCl aEnt aMt aBl aBar aPr aLs aLnum aLm aSh aBrk aThr) W) (.inl (some (vI ((f_r_await aDay aDy aEnt aLe aMac aMem aMk aMo aNd aOw aSt aSta aSu aTk aWk p0 p1 D S M V).1)))) (enc C (mkR aMk aSu aMac aMem aTk aPaid aNd aDay ((f_r_await aDay aDy aEnt aLe aMac aMem aMk aMo aNd aOw aSt aSta aSu aTk aWk p0 p1 D S M V).2.1) ((f_r_await aDay aDy aEnt aLe aMac aMem aMk aMo aNd aOw aSt aSta aSu aTk aWk p0 p1 D S M V).2.2.1) ((f_r_await aDay aDy aEnt aLe aMac aMem aMk aMo aNd aOw aSt aSta aSu aTk aWk p0 p1 D S M V).2.2.2.1) ((f_r_await aDay aDy aEnt aLe aMac aMem aMk aMo aNd aOw aSt aSta aSu aTk aWk p0 p1 D S M V).2.2.2.2.1) ((f_r_await aDay aDy aEnt aLe aMac aMem aMk aMo aNd aOw aSt aSta aSu aTk aWk p0 p1 D S M V).2.2.2.2.2.1) ((f_r_await aDay aDy aEnt aLe aMac aMem aMk aMo aNd aOw aSt aSta aSu aTk aWk p0 p1 D S M V).2.2.2.2.2.2.1) ((f_r_await aDay aDy aEnt aLe aMac aMem aMk aMo aNd aOw aSt aSta aSu aTk aWk p0 p1 D S M V).2.2.2.2.2.2.2.1) aDue aCm aCb aCl ((f_r_await aDay aDy aEnt aLe aMac aMem aMk aMo aNd aOw aSt aSta aSu aTk aWk p0 p1 D S M V).2.2.2.2.2.2.2.2.1) aMt aBl aBar aPr aLs aLnum aLm aSh aBrk ((f_r_await aDay aDy aEnt aLe aMac aMem aMk aMo aNd aOw aSt aSta aSu aTk aWk p0 p1 D S M V).2.2.2.2.2.2.2.2.2)) W) := by
  obtain ⟨wMac, wMem, wEnt, wBar, wBrk, wOw, wMo, wMk, wCm, wCb, wMt, wLm⟩ := id hW
  refine Cal.mk (n := 8) rfl (Nat.le_of_ble_eq_true rfl) rfl ?_
  unfold f_r_await
  refine Ev.ps 8 rfl ?_
  refine Ev.vir (as := [vI p0, vI p1, vI D, vI S, vI M, vI V]) (rest := [vR 9 0]) (by rfl) (by rfl) (by rfl) (by rfl) rfl (Nat.le_of_ble_eq_true rfl) (by rfl) (by rw [rd9]; rfl) (s_r_lacks hW) ?_
  refine Ev.pf (by rfl) (by rfl) (by rfl) (Nat.le_of_ble_eq_true rfl) rfl (Or.inl (by rfl)) (rd9) (show _ = enc C (mkR aMk aSu aMac aMem aTk aPaid aNd aDay aOw aMo aDy aSt aLe aWk aSta aDue aCm aCb aCl aEnt aMt aBl aBar aPr aLs aLnum aLm aSh aBrk (f_r_lacks aDay aMac aMem p0 p1 D S M V)) W from wr9_Thr (v := f_r_lacks aDay aMac aMem p0 p1 D S M V)) ?_
  refine Ev.ps 1 rfl ?_
  refine Ev.getf (v := vI (f_r_lacks aDay aMac aMem p0 p1 D S M V)) (by rfl) (by rfl) (by rfl) (rd9) rfl ?_
  refine Ev.zle (by rfl) (by rfl) (fun (c1 : 0 < f_r_lacks aDay aMac aMem p0 p1 D S M V) => ?_) (fun (c1 : ¬ 0 < f_r_lacks aDay aMac aMem p0 p1 D S M V) => ?_)
  · rw [if_pos c1]
    refine Ev.ps 1 rfl ?_
    exact Ev.re rfl rfl rfl rfl rfl
  · rw [if_neg c1]
    have q_p0 := isMember_nat wMem (lacks_pos c1).1
    generalize nP p0 = k_p0 at q_p0 ⊢
    obtain ⟨rfl, hk_p0⟩ := q_p0
    have q_p1 := isMachine_nat wMac (lacks_pos c1).2
    generalize nP p1 = k_p1 at q_p1 ⊢
    obtain ⟨rfl, hk_p1⟩ := q_p1
    refine Ev.ps 7 rfl ?_
    refine Ev.vir (as := [vI (nI k_p0), vI (nI k_p1), vI D, vI S, vI M, vI V]) (rest := []) (by rfl) (by rfl) (by rfl) (by rfl) rfl (Nat.le_of_ble_eq_true rfl) (by rfl) (by rw [rd9]; rfl) (s_r_letter hW hA (by have := hk_p0; omega) (by have := hk_p1; omega)) ?_
    refine Ev.ps 4 rfl ?_
    refine Ev.ine (by rfl) (by rfl) (fun (c2 : f_r_letter aDy aEnt aLe aMk aMo aNd aOw aSt aSta aSu aTk aWk k_p0 k_p1 D S M V = 105) => ?_) (fun (c2 : ¬ f_r_letter aDy aEnt aLe aMk aMo aNd aOw aSt aSta aSu aTk aWk k_p0 k_p1 D S M V = 105) => ?_)
    · rw [if_pos c2]
      refine Ev.ps 2 rfl ?_
      refine Ev.pf (by rfl) (by rfl) (by rfl) (Nat.le_of_ble_eq_true rfl) rfl (Or.inl (by rfl)) (rd9) (show _ = enc C (mkR aMk aSu aMac aMem aTk aPaid aNd aDay aOw aMo aDy aSt aLe aWk aSta aDue aCm aCb aCl aEnt aMt aBl aBar aPr aLs aLnum aLm aSh aBrk 3) W from wr9_Thr (v := 3)) ?_
      refine Ev.ps 1 rfl ?_
      refine Ev.getf (v := vI 3) (by rfl) (by rfl) (by rfl) (rd9) rfl ?_
      refine Ev.ifi (by rfl) (by rfl) (fun z => by exact absurd z (by decide)) (fun _ => ?_)
      refine Ev.ps 2 rfl ?_
      exact Ev.re rfl rfl rfl rfl rfl
    · rw [if_neg c2]
      refine Ev.ps 2 rfl ?_
      refine Ev.ieq (by rfl) (by rfl) (fun (c3 : f_r_letter aDy aEnt aLe aMk aMo aNd aOw aSt aSta aSu aTk aWk k_p0 k_p1 D S M V = 111) => ?_) (fun (c3 : ¬ f_r_letter aDy aEnt aLe aMk aMo aNd aOw aSt aSta aSu aTk aWk k_p0 k_p1 D S M V = 111) => ?_)
      · rw [if_pos c3]
        refine Ev.ps 2 rfl ?_
        refine Ev.pf (by rfl) (by rfl) (by rfl) (Nat.le_of_ble_eq_true rfl) rfl (Or.inl (by rfl)) (rd9) (show _ = enc C (mkR aMk aSu aMac aMem aTk aPaid aNd aDay aOw aMo aDy aSt aLe aWk aSta aDue aCm aCb aCl aEnt aMt aBl aBar aPr aLs aLnum aLm aSh aBrk 4) W from wr9_Thr (v := 4)) ?_
        refine Ev.ps 1 rfl ?_
        refine Ev.getf (v := vI 4) (by rfl) (by rfl) (by rfl) (rd9) rfl ?_
        refine Ev.ifi (by rfl) (by rfl) (fun z => by exact absurd z (by decide)) (fun _ => ?_)
        refine Ev.ps 2 rfl ?_
        exact Ev.re rfl rfl rfl rfl rfl
      · rw [if_neg c3]
        refine Ev.ps 1 rfl ?_
        refine Ev.getf (v := vI (nI aEnt)) (by rfl) (by rfl) (by rfl) (rd9) rfl ?_
        refine Ev.ps 1 rfl ?_
        refine Ev.ineN (a := aEnt) (b := 150) (by omega) (by omega) (by rfl) (by rfl) (fun (c4 : aEnt = 150) => ?_) (fun (c4 : ¬ aEnt = 150) => ?_)
        · rw [if_pos c4]
          refine Ev.ps 2 rfl ?_
          refine Ev.pf (by rfl) (by rfl) (by rfl) (Nat.le_of_ble_eq_true rfl) rfl (Or.inl (by rfl)) (rd9) (show _ = enc C (mkR aMk aSu aMac aMem aTk aPaid aNd aDay aOw aMo aDy aSt aLe aWk aSta aDue aCm aCb aCl aEnt aMt aBl aBar aPr aLs aLnum aLm aSh aBrk 4) W from wr9_Thr (v := 4)) ?_
          refine Ev.ps 1 rfl ?_
          refine Ev.getf (v := vI 4) (by rfl) (by rfl) (by rfl) (rd9) rfl ?_
          refine Ev.ifi (by rfl) (by rfl) (fun z => by exact absurd z (by decide)) (fun _ => ?_)
          refine Ev.ps 2 rfl ?_
          exact Ev.re rfl rfl rfl rfl rfl
        · rw [if_neg c4]
          refine Ev.ps 1 rfl ?_
          refine Ev.pf (by rfl) (by rfl) (by rfl) (Nat.le_of_ble_eq_true rfl) rfl (Or.inl (by rfl)) (rd9) (show _ = enc C (mkR aMk aSu aMac aMem aTk aPaid aNd aDay aOw aMo aDy aSt aLe aWk aSta aDue aCm aCb aCl aEnt aMt aBl aBar aPr aLs aLnum aLm aSh aBrk 0) W from wr9_Thr (v := 0)) ?_
          refine Ev.ps 1 rfl ?_
          refine Ev.getf (v := vI 0) (by rfl) (by rfl) (by rfl) (rd9) rfl ?_
          refine Ev.ifi (by rfl) (by rfl) (fun _ => ?_) (fun z => by exact absurd z (by decide))
          refine Ev.ps 8 rfl ?_
          refine Ev.vir (as := [vI (nI k_p0), vI (nI k_p1), vI D, vI S, vI M, vI V, vI 119]) (rest := []) (by rfl) (by rfl) (by rfl) (by rfl) rfl (Nat.le_of_ble_eq_true rfl) (by rfl) (by rw [rd9]; rfl) (s_r_adds hW (by omega) hV (by unfold chr; decide)) ?_
          exact Ev.re rfl rfl rfl rfl rfl
def f_r_check (aDay : Int32) (aDy : Nat → Int32) (aEnt : Nat) (aLe : Nat → Int32) (aMac : Nat) (aMem : Nat) (aMk : Nat → Nat) (aMo : Nat → Nat) (aNd : Nat → Nat → Bool) (aOw : Nat → Nat) (aSt : Nat → Int32) (aSta : Nat → Int32) (aSu : Nat → Int32) (aTk : Nat → Nat → Int32) (aWk : Nat → Int32) (p0 p1 D S M V : Int32) : Int32 × Int32 :=
  if 0 < f_r_lacks aDay aMac aMem p0 p1 D S M V then
    (0, f_r_lacks aDay aMac aMem p0 p1 D S M V)
  else
    (f_r_letter aDy aEnt aLe aMk aMo aNd aOw aSt aSta aSu aTk aWk (nP p0) (nP p1) D S M V, f_r_lacks aDay aMac aMem (nI (nP p0)) (nI (nP p1)) D S M V)
theorem s_r_check {d : Nat} {W : WD} {aMk : Nat → Nat} {aSu : Nat → Int32} {aMac : Nat} {aMem : Nat} {aTk : Nat → Nat → Int32} {aPaid : Nat → Int64} {aNd : Nat → Nat → Bool} {aDay : Int32} {aOw : Nat → Nat} {aMo : Nat → Nat} {aDy : Nat → Int32} {aSt : Nat → Int32} {aLe : Nat → Int32} {aWk : Nat → Int32} {aSta : Nat → Int32} {aDue : Nat → Int32} {aCm : Nat → Nat} {aCb : Nat → Nat → Nat} {aCl : Nat → Nat → Int32} {aEnt : Nat} {aMt : Nat → Nat} {aBl : Nat → Int32} {aBar : Nat} {aPr : Nat → Int32} {aLs : Nat → Nat → Int32} {aLnum : Nat → Nat → Int32} {aLm : Nat → Nat} {aSh : Nat → Nat → Int32} {aBrk : Nat} {aThr : Int32} {C : CD} {p0 : Int32} {p1 : Int32} {D : Int32} {S : Int32} {M : Int32} {V : Int32} (hW : WfR aMac aMem aEnt aBar aBrk aOw aMo aMk aCm aCb aMt aLm) (hA : Acy aNd) (hV : chr V) : Cal (d + 8) 137 [vR 9 0, vI p0, vI p1, vI D, vI S, vI M, vI V] (enc C (mkR aMk aSu aMac aMem aTk aPaid aNd aDay aOw aMo aDy aSt aLe aWk aSta aDue aCm aCb aCl aEnt aMt aBl aBar aPr aLs aLnum aLm aSh aBrk aThr) W) (.inl (some (vI ((f_r_check aDay aDy aEnt aLe aMac aMem aMk aMo aNd aOw aSt aSta aSu aTk aWk p0 p1 D S M V).1)))) (enc C (mkR aMk aSu aMac aMem aTk aPaid aNd aDay aOw aMo aDy aSt aLe aWk aSta aDue aCm aCb aCl aEnt aMt aBl aBar aPr aLs aLnum aLm aSh aBrk ((f_r_check aDay aDy aEnt aLe aMac aMem aMk aMo aNd aOw aSt aSta aSu aTk aWk p0 p1 D S M V).2)) W) := by
  obtain ⟨wMac, wMem, wEnt, wBar, wBrk, wOw, wMo, wMk, wCm, wCb, wMt, wLm⟩ := id hW
  refine Cal.mk (n := 7) rfl (Nat.le_of_ble_eq_true rfl) rfl ?_
  unfold f_r_check
  refine Ev.ps 8 rfl ?_
  refine Ev.vir (as := [vI p0, vI p1, vI D, vI S, vI M, vI V]) (rest := [vR 9 0]) (by rfl) (by rfl) (by rfl) (by rfl) rfl (Nat.le_of_ble_eq_true rfl) (by rfl) (by rw [rd9]; rfl) (s_r_lacks hW) ?_
  refine Ev.pf (by rfl) (by rfl) (by rfl) (Nat.le_of_ble_eq_true rfl) rfl (Or.inl (by rfl)) (rd9) (show _ = enc C (mkR aMk aSu aMac aMem aTk aPaid aNd aDay aOw aMo aDy aSt aLe aWk aSta aDue aCm aCb aCl aEnt aMt aBl aBar aPr aLs aLnum aLm aSh aBrk (f_r_lacks aDay aMac aMem p0 p1 D S M V)) W from wr9_Thr (v := f_r_lacks aDay aMac aMem p0 p1 D S M V)) ?_
  refine Ev.ps 1 rfl ?_
  refine Ev.getf (v := vI (f_r_lacks aDay aMac aMem p0 p1 D S M V)) (by rfl) (by rfl) (by rfl) (rd9) rfl ?_
  refine Ev.zle (by rfl) (by rfl) (fun (c1 : 0 < f_r_lacks aDay aMac aMem p0 p1 D S M V) => ?_) (fun (c1 : ¬ 0 < f_r_lacks aDay aMac aMem p0 p1 D S M V) => ?_)
  · rw [if_pos c1]
    refine Ev.ps 2 rfl ?_
    exact Ev.re rfl rfl rfl rfl rfl
  · rw [if_neg c1]
    have q_p0 := isMember_nat wMem (lacks_pos c1).1
    generalize nP p0 = k_p0 at q_p0 ⊢
    obtain ⟨rfl, hk_p0⟩ := q_p0
    have q_p1 := isMachine_nat wMac (lacks_pos c1).2
    generalize nP p1 = k_p1 at q_p1 ⊢
    obtain ⟨rfl, hk_p1⟩ := q_p1
    refine Ev.ps 7 rfl ?_
    refine Ev.vir (as := [vI (nI k_p0), vI (nI k_p1), vI D, vI S, vI M, vI V]) (rest := []) (by rfl) (by rfl) (by rfl) (by rfl) rfl (Nat.le_of_ble_eq_true rfl) (by rfl) (by rw [rd9]; rfl) (s_r_letter hW hA (by have := hk_p0; omega) (by have := hk_p1; omega)) ?_
    exact Ev.re rfl rfl rfl rfl (rstC rfl chr_letter)
