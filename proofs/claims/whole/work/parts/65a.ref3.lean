/-! the reference: calls (written by gref3.py) -/
theorem s_r_thrown {d : Nat} {C : CD} {W : WD} {aMk : Nat → Nat} {aSu : Nat → Int32} {aMac : Nat} {aMem : Nat} {aTk : Nat → Nat → Int32} {aPaid : Nat → Int64} {aNd : Nat → Nat → Bool} {aDay : Int32} {aOw : Nat → Nat} {aMo : Nat → Nat} {aDy : Nat → Int32} {aSt : Nat → Int32} {aLe : Nat → Int32} {aWk : Nat → Int32} {aSta : Nat → Int32} {aDue : Nat → Int32} {aCm : Nat → Nat} {aCb : Nat → Nat → Nat} {aCl : Nat → Nat → Int32} {aEnt : Nat} {aMt : Nat → Nat} {aBl : Nat → Int32} {aBar : Nat} {aPr : Nat → Int32} {aLs : Nat → Nat → Int32} {aLnum : Nat → Nat → Int32} {aLm : Nat → Nat} {aSh : Nat → Nat → Int32} {aBrk : Nat} {aThr : Int32} : Cal d 109 [vR 9 0] (enc C (mkR aMk aSu aMac aMem aTk aPaid aNd aDay aOw aMo aDy aSt aLe aWk aSta aDue aCm aCb aCl aEnt aMt aBl aBar aPr aLs aLnum aLm aSh aBrk aThr) W) (.inl (some (vI aThr))) (enc C (mkR aMk aSu aMac aMem aTk aPaid aNd aDay aOw aMo aDy aSt aLe aWk aSta aDue aCm aCb aCl aEnt aMt aBl aBar aPr aLs aLnum aLm aSh aBrk aThr) W) := by
  refine Cal.mk (n := 1) rfl (Nat.le_of_ble_eq_true rfl) rfl ?_
  refine Ev.ps 1 rfl ?_
  refine Ev.getf (v := vI aThr) (by rfl) (by rfl) (by rfl) (rd9) rfl ?_
  exact Ev.re rfl rfl rfl rfl rfl
theorem s_r_raises {d : Nat} {C : CD} {W : WD} {aMk : Nat → Nat} {aSu : Nat → Int32} {aMac : Nat} {aMem : Nat} {aTk : Nat → Nat → Int32} {aPaid : Nat → Int64} {aNd : Nat → Nat → Bool} {aDay : Int32} {aOw : Nat → Nat} {aMo : Nat → Nat} {aDy : Nat → Int32} {aSt : Nat → Int32} {aLe : Nat → Int32} {aWk : Nat → Int32} {aSta : Nat → Int32} {aDue : Nat → Int32} {aCm : Nat → Nat} {aCb : Nat → Nat → Nat} {aCl : Nat → Nat → Int32} {aEnt : Nat} {aMt : Nat → Nat} {aBl : Nat → Int32} {aBar : Nat} {aPr : Nat → Int32} {aLs : Nat → Nat → Int32} {aLnum : Nat → Nat → Int32} {aLm : Nat → Nat} {aSh : Nat → Nat → Int32} {aBrk : Nat} {aThr : Int32} {v : Int32} : Cal d 110 [vR 9 0, vI v] (enc C (mkR aMk aSu aMac aMem aTk aPaid aNd aDay aOw aMo aDy aSt aLe aWk aSta aDue aCm aCb aCl aEnt aMt aBl aBar aPr aLs aLnum aLm aSh aBrk aThr) W) (.inl (some (vI 0))) (enc C (mkR aMk aSu aMac aMem aTk aPaid aNd aDay aOw aMo aDy aSt aLe aWk aSta aDue aCm aCb aCl aEnt aMt aBl aBar aPr aLs aLnum aLm aSh aBrk v) W) := by
  refine Cal.mk (n := 2) rfl (Nat.le_of_ble_eq_true rfl) rfl ?_
  refine Ev.ps 2 rfl ?_
  refine Ev.pf (by rfl) (by rfl) (by rfl) (Nat.le_of_ble_eq_true rfl) rfl (Or.inl (by rfl)) (rd9) (wr9_Thr (v := v)) ?_
  refine Ev.ps 1 rfl ?_
  exact Ev.re rfl rfl rfl rfl rfl
def r_cost_L18 (aLnum : Nat → Nat → Int32) (aLs : Nat → Nat → Int32) (kd : Nat) (M : Int32) : Nat → Int32 → (Nat → Int32) → (Int32 × (Nat → Int32))
  | 0, n, A5 =>
    (n, A5)
  | k18 + 1, n, A5 =>
    if nI k18 < 0 then
      (n, A5)
    else
      if aLs kd k18 = 100 then
        r_cost_L18 aLnum aLs kd M k18 (n + (if 0 < (n - (aLnum kd k18)) then (n - (aLnum kd k18)) else 0)) (fup A5 k18 (n + (if 0 < (n - (aLnum kd k18)) then (n - (aLnum kd k18)) else 0)))
      else
        r_cost_L18 aLnum aLs kd M k18 (n + 0) (fup A5 k18 (n + 0))
def r_cost_L89 (aLm : Nat → Nat) (aLnum : Nat → Nat → Int32) (aLs : Nat → Nat → Int32) (kd : Nat) (M : Int32) : Nat → Nat → Int32 → (Int32 × (Nat → Int32))
  | 0, j89, am =>
    (am, ((r_cost_L18 aLnum aLs kd M (aLm kd) M (fun _ => 0)).2))
  | k89 + 1, j89, am =>
    if aLs kd j89 = 102 then
      r_cost_L89 aLm aLnum aLs kd M k89 (j89 + 1) (am + (aLnum kd j89))
    else
      if aLs kd j89 = 99 then
        r_cost_L89 aLm aLnum aLs kd M k89 (j89 + 1) (if (aLnum kd j89) < am then (aLnum kd j89) else am)
      else
        if aLs kd j89 = 112 then r_cost_L89 aLm aLnum aLs kd M k89 (j89 + 1) (am - ((am * (aLnum kd j89)) / 100)) else r_cost_L89 aLm aLnum aLs kd M k89 (j89 + 1) am
def f_r_cost (aLm : Nat → Nat) (aLnum : Nat → Nat → Int32) (aLs : Nat → Nat → Int32) (kd : Nat) (M : Int32) : Int32 × (Nat → Int32) :=
  r_cost_L89 aLm aLnum aLs kd M (aLm kd - 1) 1 ((aLnum kd 0) * (((r_cost_L18 aLnum aLs kd M (aLm kd) M (fun _ => 0)).2) 0))
theorem s_r_cost {d : Nat} {zO : Int64} {zD : UInt64} {zX : Nat} {zL : Nat} {zXs : Nat → Int32} {zG5 : List Ob} {zG6 : List Ob} {zG7 : List Ob} {zc : Nat} {zn : Nat} {aMk : Nat → Nat} {aSu : Nat → Int32} {aMac : Nat} {aMem : Nat} {aTk : Nat → Nat → Int32} {aPaid : Nat → Int64} {aNd : Nat → Nat → Bool} {aDay : Int32} {aOw : Nat → Nat} {aMo : Nat → Nat} {aDy : Nat → Int32} {aSt : Nat → Int32} {aLe : Nat → Int32} {aWk : Nat → Int32} {aSta : Nat → Int32} {aDue : Nat → Int32} {aCm : Nat → Nat} {aCb : Nat → Nat → Nat} {aCl : Nat → Nat → Int32} {aEnt : Nat} {aMt : Nat → Nat} {aBl : Nat → Int32} {aBar : Nat} {aPr : Nat → Int32} {aLs : Nat → Nat → Int32} {aLnum : Nat → Nat → Int32} {aLm : Nat → Nat} {aSh : Nat → Nat → Int32} {aBrk : Nat} {aThr : Int32} {C : CD} {kd : Nat} {M : Int32} (hW : WfR aMac aMem aEnt aBar aBrk aOw aMo aMk aCm aCb aMt aLm) (hkd : kd < 4) : Cal (d + 0) 160 [vR 9 0, vI (nI kd), vI M] (enc C (mkR aMk aSu aMac aMem aTk aPaid aNd aDay aOw aMo aDy aSt aLe aWk aSta aDue aCm aCb aCl aEnt aMt aBl aBar aPr aLs aLnum aLm aSh aBrk aThr) (mkW zO zD zX zL zXs zG5 zG6 zG7 zc zn)) (.inl (some (vI ((f_r_cost aLm aLnum aLs kd M).1)))) (enc C (mkR aMk aSu aMac aMem aTk aPaid aNd aDay aOw aMo aDy aSt aLe aWk aSta aDue aCm aCb aCl aEnt aMt aBl aBar aPr aLs aLnum aLm aSh aBrk aThr) (mkW zO zD zX zL zXs (zG5 ++ [pl 6 (fun k => vI (((f_r_cost aLm aLnum aLs kd M).2) k))]) zG6 zG7 (zc + 1) (zn + 6))) := by
  obtain ⟨wMac, wMem, wEnt, wBar, wBrk, wOw, wMo, wMk, wCm, wCb, wMt, wLm⟩ := id hW
  have wl := wLm kd
  refine Cal.mk (n := 9) rfl (Nat.le_of_ble_eq_true rfl) rfl ?_
  unfold f_r_cost
  refine Ev.ps 3 rfl ?_
  refine Ev.na (N := 6) (by rfl) (by rfl) ⟨by rfl, by decide, by rfl⟩ (by omega) rfl (nw55) ?_
  refine Ev.ps 2 rfl ?_
  refine Ev.getf (v := vR 52 0) (by rfl) (by rfl) (by rfl) (rd9) rfl ?_
  refine Ev.ps 1 rfl ?_
  refine Ev.aiI (k := kd) (v := vI (nI (aLm kd))) (by rfl) (by decide) (rd52) (by omega) (by omega) rfl ?_
  refine Ev.ps 3 rfl ?_
  have L18 : ∀ {x : Re × Hp}, ∀ (k18 : Nat) (n : Int32) (A5 : Nat → Int32), k18 ≤ aLm kd → (∀ (e18_5 : Option MV), Da e18_5 → Ev (d + 0) (160, 71, [some (vR 9 0), some (vI (nI kd)), some (vI M), some (vI ((r_cost_L18 aLnum aLs kd M k18 n A5).1)), some (vR 55 ((zG5).length)), e18_5, none, none, none], []) (enc C (mkR aMk aSu aMac aMem aTk aPaid aNd aDay aOw aMo aDy aSt aLe aWk aSta aDue aCm aCb aCl aEnt aMt aBl aBar aPr aLs aLnum aLm aSh aBrk aThr) (mkW zO zD zX zL zXs (zG5 ++ [pl 6 (fun k => vI (((r_cost_L18 aLnum aLs kd M k18 n A5).2) k))]) zG6 zG7 (zc + 1) (zn + 6))) x) → Ev (d + 0) (160, 18, [some (vR 9 0), some (vI (nI kd)), some (vI M), some (vI n), some (vR 55 ((zG5).length)), some (vI (nI k18 - 1)), none, none, none], []) (enc C (mkR aMk aSu aMac aMem aTk aPaid aNd aDay aOw aMo aDy aSt aLe aWk aSta aDue aCm aCb aCl aEnt aMt aBl aBar aPr aLs aLnum aLm aSh aBrk aThr) (mkW zO zD zX zL zXs (zG5 ++ [pl 6 (fun k => vI (A5 k))]) zG6 zG7 (zc + 1) (zn + 6))) x := by
    intro x k18
    induction k18 with
    | zero =>
      intro n A5 hj18 K18
      rw [show (nI 0 - 1 : Int32) = -1 from rfl]
      rw [r_cost_L18] at K18
      refine Ev.ps 1 rfl ?_
      refine Ev.ifi (by rfl) (by rfl) (fun _ => ?_) (fun z => by exact absurd z (by decide))
      exact K18 _ Da.i
    | succ k18 ih18 =>
      intro n A5 hj18 K18
      rw [nI_pred]
      rw [r_cost_L18] at K18
      refine Ev.ps 1 rfl ?_
      refine Ev.zlt (by rfl) (by rfl) (fun (c1 : nI k18 < 0) => ?_) (fun (c1 : ¬ nI k18 < 0) => ?_)
      · rw [if_pos c1] at K18
        exact K18 _ Da.i
      · rw [if_neg c1] at K18
        refine Ev.ps 2 rfl ?_
        refine Ev.getf (v := vR 48 0) (by rfl) (by rfl) (by rfl) (rd9) rfl ?_
        refine Ev.ps 1 rfl ?_
        refine Ev.aiA (k := kd) (v := vR 49 kd) (by rfl) (by decide) (rd48) (by omega) (by omega) rfl ?_
        refine Ev.ps 1 rfl ?_
        refine Ev.aiC (k := k18) (v := vI (aLs kd k18)) (by rfl) (by decide) (rd49 (by omega)) (by omega) (by omega) rfl ?_
        refine Ev.ps 1 rfl ?_
        refine Ev.ine (by rfl) (by rfl) (fun (c2 : aLs kd k18 = 100) => ?_) (fun (c2 : ¬ aLs kd k18 = 100) => ?_)
        · rw [if_pos c2] at K18
          refine Ev.ps 3 rfl ?_
          refine Ev.getf (v := vR 50 0) (by rfl) (by rfl) (by rfl) (rd9) rfl ?_
          refine Ev.ps 1 rfl ?_
          refine Ev.aiA (k := kd) (v := vR 51 kd) (by rfl) (by decide) (rd50) (by omega) (by omega) rfl ?_
          refine Ev.ps 1 rfl ?_
          refine Ev.aiI (k := k18) (v := vI (aLnum kd k18)) (by rfl) (by decide) (rd51 (by omega)) (by omega) (by omega) rfl ?_
          refine Ev.ps 1 rfl ?_
          refine Ev.mx (by rfl) (by rfl) (Nat.le_of_ble_eq_true rfl) ?_
          refine Ev.ps 6 rfl ?_
          refine Ev.asI (k := k18) (by rfl) (by rfl) (rd55) (by omega) (by omega) ((congrArg (hput _ _ _) (pl_setI (f := A5) (F := fun _ v => vI v) (v := (n + (if 0 < (n - (aLnum kd k18)) then (n - (aLnum kd k18)) else 0))))).trans wr55) ?_
          refine Ev.ps 2 rfl ?_
          have h9 := ih18  (n + (if 0 < (n - (aLnum kd k18)) then (n - (aLnum kd k18)) else 0)) (fup A5 k18 (n + (if 0 < (n - (aLnum kd k18)) then (n - (aLnum kd k18)) else 0))) (by omega) K18
          rw [nI_sm1] at h9
          exact h9
        · rw [if_neg c2] at K18
          refine Ev.ps 6 rfl ?_
          refine Ev.asI (k := k18) (by rfl) (by rfl) (rd55) (by omega) (by omega) ((congrArg (hput _ _ _) (pl_setI (f := A5) (F := fun _ v => vI v) (v := (n + 0)))).trans wr55) ?_
          refine Ev.ps 2 rfl ?_
          have h9 := ih18  (n + 0) (fup A5 k18 (n + 0)) (by omega) K18
          rw [nI_sm1] at h9
          exact h9
  refine L18 (aLm kd) M (fun _ => 0) (Nat.le_refl _) ?_
  intro e18_5 he18_5
  refine Ev.ps 1 rfl ?_
  refine Ev.getf (v := vR 50 0) (by rfl) (by rfl) (by rfl) (rd9) rfl ?_
  refine Ev.ps 1 rfl ?_
  refine Ev.aiA (k := kd) (v := vR 51 kd) (by rfl) (by decide) (rd50) (by omega) (by omega) rfl ?_
  refine Ev.ps 1 rfl ?_
  refine Ev.aiI (k := 0) (v := vI (aLnum kd 0)) (by rfl) (by decide) (rd51 (by omega)) (by omega) (by omega) rfl ?_
  refine Ev.ps 2 rfl ?_
  refine Ev.aiI (k := 0) (v := vI (((r_cost_L18 aLnum aLs kd M (aLm kd) M (fun _ => 0)).2) 0)) (by rfl) (by decide) (rd55) (by omega) (by omega) rfl ?_
  refine Ev.ps 4 rfl ?_
  have L89 : ∀ (k89 j89 : Nat) (am : Int32) (o89_7 : Option MV) (o89_8 : Option MV), j89 + k89 = aLm kd → Da o89_7 → Da o89_8 → Ev (d + 0) (160, 89, [some (vR 9 0), some (vI (nI kd)), some (vI M), some (vI ((r_cost_L18 aLnum aLs kd M (aLm kd) M (fun _ => 0)).1)), some (vR 55 ((zG5).length)), some (vI am), some (vI (nI j89)), o89_7, o89_8], []) (enc C (mkR aMk aSu aMac aMem aTk aPaid aNd aDay aOw aMo aDy aSt aLe aWk aSta aDue aCm aCb aCl aEnt aMt aBl aBar aPr aLs aLnum aLm aSh aBrk aThr) (mkW zO zD zX zL zXs (zG5 ++ [pl 6 (fun k => vI (((r_cost_L18 aLnum aLs kd M (aLm kd) M (fun _ => 0)).2) k))]) zG6 zG7 (zc + 1) (zn + 6))) ((.inl (some (vI ((r_cost_L89 aLm aLnum aLs kd M k89 j89 am).1)))), enc C (mkR aMk aSu aMac aMem aTk aPaid aNd aDay aOw aMo aDy aSt aLe aWk aSta aDue aCm aCb aCl aEnt aMt aBl aBar aPr aLs aLnum aLm aSh aBrk aThr) (mkW zO zD zX zL zXs (zG5 ++ [pl 6 (fun k => vI (((r_cost_L89 aLm aLnum aLs kd M k89 j89 am).2) k))]) zG6 zG7 (zc + 1) (zn + 6))) := by
    intro k89
    induction k89 with
    | zero =>
      intro j89 am o89_7 o89_8 hj89 ho89_7 ho89_8
      rw [r_cost_L89]
      refine Ev.ps 2 rfl ?_
      refine Ev.getf (v := vR 52 0) (by rfl) (by rfl) (by rfl) (rd9) rfl ?_
      refine Ev.ps 1 rfl ?_
      refine Ev.aiI (k := kd) (v := vI (nI (aLm kd))) (by rfl) (by decide) (rd52) (by omega) (by omega) rfl ?_
      refine Ev.igeN (a := j89) (b := (aLm kd)) (by omega) (by have := wLm kd; omega) (by rfl) (by rfl) (fun (c3 : j89 < aLm kd) => ?_) (fun (c3 : ¬ j89 < aLm kd) => ?_)
      · exfalso; omega
      · refine Ev.ps 1 rfl ?_
        exact Ev.re rfl rfl rfl rfl rfl
    | succ k89 ih89 =>
      intro j89 am o89_7 o89_8 hj89 ho89_7 ho89_8
      rw [r_cost_L89]
      refine Ev.ps 2 rfl ?_
      refine Ev.getf (v := vR 52 0) (by rfl) (by rfl) (by rfl) (rd9) rfl ?_
      refine Ev.ps 1 rfl ?_
      refine Ev.aiI (k := kd) (v := vI (nI (aLm kd))) (by rfl) (by decide) (rd52) (by omega) (by omega) rfl ?_
      refine Ev.igeN (a := j89) (b := (aLm kd)) (by omega) (by have := wLm kd; omega) (by rfl) (by rfl) (fun (c4 : j89 < aLm kd) => ?_) (fun (c4 : ¬ j89 < aLm kd) => ?_)
      · refine Ev.ps 1 rfl ?_
        refine Ev.getf (v := vR 48 0) (by rfl) (by rfl) (by rfl) (rd9) rfl ?_
        refine Ev.ps 1 rfl ?_
        refine Ev.aiA (k := kd) (v := vR 49 kd) (by rfl) (by decide) (rd48) (by omega) (by omega) rfl ?_
        refine Ev.ps 1 rfl ?_
        refine Ev.aiC (k := j89) (v := vI (aLs kd j89)) (by rfl) (by decide) (rd49 (by omega)) (by omega) (by omega) rfl ?_
        refine Ev.ps 2 rfl ?_
        refine Ev.getf (v := vR 50 0) (by rfl) (by rfl) (by rfl) (rd9) rfl ?_
        refine Ev.ps 1 rfl ?_
        refine Ev.aiA (k := kd) (v := vR 51 kd) (by rfl) (by decide) (rd50) (by omega) (by omega) rfl ?_
        refine Ev.ps 1 rfl ?_
        refine Ev.aiI (k := j89) (v := vI (aLnum kd j89)) (by rfl) (by decide) (rd51 (by omega)) (by omega) (by omega) rfl ?_
        refine Ev.ps 3 rfl ?_
        refine Ev.ine (by rfl) (by rfl) (fun (c5 : aLs kd j89 = 102) => ?_) (fun (c5 : ¬ aLs kd j89 = 102) => ?_)
        · rw [if_pos c5]
          refine Ev.ps 7 rfl ?_
          have h9 := ih89 (j89 + 1) (am + (aLnum kd j89)) (some (vI (aLs kd j89))) (some (vI (aLnum kd j89))) (by show j89 + 1 + k89 = aLm kd; omega) Da.i Da.i
          rw [← nI_1] at h9
          exact h9
        · rw [if_neg c5]
          refine Ev.ps 2 rfl ?_
          refine Ev.ine (by rfl) (by rfl) (fun (c6 : aLs kd j89 = 99) => ?_) (fun (c6 : ¬ aLs kd j89 = 99) => ?_)
          · rw [if_pos c6]
            refine Ev.ps 2 rfl ?_
            refine Ev.mn (by rfl) (by rfl) (Nat.le_of_ble_eq_true rfl) ?_
            refine Ev.ps 4 rfl ?_
            have h9 := ih89 (j89 + 1) (if (aLnum kd j89) < am then (aLnum kd j89) else am) (some (vI (aLs kd j89))) (some (vI (aLnum kd j89))) (by show j89 + 1 + k89 = aLm kd; omega) Da.i Da.i
            rw [← nI_1] at h9
            exact h9
          · rw [if_neg c6]
            refine Ev.ps 2 rfl ?_
            refine Ev.ine (by rfl) (by rfl) (fun (c7 : aLs kd j89 = 112) => ?_) (fun (c7 : ¬ aLs kd j89 = 112) => ?_)
            · rw [if_pos c7]
              refine Ev.ps 11 rfl ?_
              have h9 := ih89 (j89 + 1) (am - ((am * (aLnum kd j89)) / 100)) (some (vI (aLs kd j89))) (some (vI (aLnum kd j89))) (by show j89 + 1 + k89 = aLm kd; omega) Da.i Da.i
              rw [← nI_1] at h9
              exact h9
            · rw [if_neg c7]
              refine Ev.ps 4 rfl ?_
              have h9 := ih89 (j89 + 1) am (some (vI (aLs kd j89))) (some (vI (aLnum kd j89))) (by show j89 + 1 + k89 = aLm kd; omega) Da.i Da.i
              rw [← nI_1] at h9
              exact h9
      · exfalso; omega
  exact L89 (aLm kd - 1) 1 ((aLnum kd 0) * (((r_cost_L18 aLnum aLs kd M (aLm kd) M (fun _ => 0)).2) 0)) none none (by show 1 + (aLm kd - 1) = aLm kd; omega) Da.n Da.n
def r_gives_L2 (aDy : Nat → Int32) (aEnt : Nat) (aLe : Nat → Int32) (aMk : Nat → Nat) (aMo : Nat → Nat) (aNd : Nat → Nat → Bool) (aOw : Nat → Nat) (aSt : Nat → Int32) (aSu : Nat → Int32) (aTk : Nat → Nat → Int32) (aWk : Nat → Int32)  : Nat → Nat → (Nat → Int32) → ((Nat → Int32))
  | 0, j2, aSta_2 =>
    aSta_2
  | k2 + 1, j2, aSta_2 =>
    if j2 < aEnt then
      if aSta_2 j2 = 119 then
        if f_r_letter aDy aEnt aLe aMk aMo aNd aOw aSt aSta_2 aSu aTk aWk (aOw j2) (aMo j2) (aDy j2) (aSt j2) (aLe j2) (aWk j2) = 111 then r_gives_L2 aDy aEnt aLe aMk aMo aNd aOw aSt aSu aTk aWk  k2 0 (fup aSta_2 j2 98) else r_gives_L2 aDy aEnt aLe aMk aMo aNd aOw aSt aSu aTk aWk  k2 (j2 + 1) aSta_2
      else
        r_gives_L2 aDy aEnt aLe aMk aMo aNd aOw aSt aSu aTk aWk  k2 (j2 + 1) aSta_2
    else
      aSta_2
def f_r_gives (aDy : Nat → Int32) (aEnt : Nat) (aLe : Nat → Int32) (aMk : Nat → Nat) (aMo : Nat → Nat) (aNd : Nat → Nat → Bool) (aOw : Nat → Nat) (aSt : Nat → Int32) (aSta : Nat → Int32) (aSu : Nat → Int32) (aTk : Nat → Nat → Int32) (aWk : Nat → Int32)  : (Nat → Int32) :=
  r_gives_L2 aDy aEnt aLe aMk aMo aNd aOw aSt aSu aTk aWk  (wcnt aSta aEnt * 200 + (aEnt - 0)) 0 aSta
theorem s_r_gives {d : Nat} {W : WD} {aMk : Nat → Nat} {aSu : Nat → Int32} {aMac : Nat} {aMem : Nat} {aTk : Nat → Nat → Int32} {aPaid : Nat → Int64} {aNd : Nat → Nat → Bool} {aDay : Int32} {aOw : Nat → Nat} {aMo : Nat → Nat} {aDy : Nat → Int32} {aSt : Nat → Int32} {aLe : Nat → Int32} {aWk : Nat → Int32} {aSta : Nat → Int32} {aDue : Nat → Int32} {aCm : Nat → Nat} {aCb : Nat → Nat → Nat} {aCl : Nat → Nat → Int32} {aEnt : Nat} {aMt : Nat → Nat} {aBl : Nat → Int32} {aBar : Nat} {aPr : Nat → Int32} {aLs : Nat → Nat → Int32} {aLnum : Nat → Nat → Int32} {aLm : Nat → Nat} {aSh : Nat → Nat → Int32} {aBrk : Nat} {aThr : Int32} {C : CD}  (hW : WfR aMac aMem aEnt aBar aBrk aOw aMo aMk aCm aCb aMt aLm) (hA : Acy aNd) : Cal (d + 8) 131 [vR 9 0] (enc C (mkR aMk aSu aMac aMem aTk aPaid aNd aDay aOw aMo aDy aSt aLe aWk aSta aDue aCm aCb aCl aEnt aMt aBl aBar aPr aLs aLnum aLm aSh aBrk aThr) W) (.inl none) (enc C (mkR aMk aSu aMac aMem aTk aPaid aNd aDay aOw aMo aDy aSt aLe aWk (f_r_gives aDy aEnt aLe aMk aMo aNd aOw aSt aSta aSu aTk aWk) aDue aCm aCb aCl aEnt aMt aBl aBar aPr aLs aLnum aLm aSh aBrk aThr) W) := by
  obtain ⟨wMac, wMem, wEnt, wBar, wBrk, wOw, wMo, wMk, wCm, wCb, wMt, wLm⟩ := id hW
  refine Cal.mk (n := 2) rfl (Nat.le_of_ble_eq_true rfl) rfl ?_
  unfold f_r_gives
  refine Ev.ps 2 rfl ?_
  have L2 : ∀ (k2 j2 : Nat) (aSta_2 : Nat → Int32), wcnt aSta_2 aEnt * 200 + (aEnt - j2) ≤ k2 → j2 ≤ aEnt → Ev (d + 8) (131, 2, [some (vR 9 0), some (vI (nI j2))], []) (enc C (mkR aMk aSu aMac aMem aTk aPaid aNd aDay aOw aMo aDy aSt aLe aWk aSta_2 aDue aCm aCb aCl aEnt aMt aBl aBar aPr aLs aLnum aLm aSh aBrk aThr) W) ((.inl none), enc C (mkR aMk aSu aMac aMem aTk aPaid aNd aDay aOw aMo aDy aSt aLe aWk (r_gives_L2 aDy aEnt aLe aMk aMo aNd aOw aSt aSu aTk aWk  k2 j2 aSta_2) aDue aCm aCb aCl aEnt aMt aBl aBar aPr aLs aLnum aLm aSh aBrk aThr) W) := by
    intro k2
    induction k2 with
    | zero =>
      intro j2 aSta_2 hj2 hle
      rw [r_gives_L2]
      refine Ev.ps 2 rfl ?_
      refine Ev.getf (v := vI (nI aEnt)) (by rfl) (by rfl) (by rfl) (rd9) rfl ?_
      refine Ev.igeN (a := j2) (b := aEnt) (by omega) (by omega) (by rfl) (by rfl) (fun (c1 : j2 < aEnt) => ?_) (fun (c1 : ¬ j2 < aEnt) => ?_)
      · exfalso; omega
      · exact Ev.re rfl rfl rfl rfl rfl
    | succ k2 ih2 =>
      intro j2 aSta_2 hj2 hle
      rw [r_gives_L2]
      refine Ev.ps 2 rfl ?_
      refine Ev.getf (v := vI (nI aEnt)) (by rfl) (by rfl) (by rfl) (rd9) rfl ?_
      refine Ev.igeN (a := j2) (b := aEnt) (by omega) (by omega) (by rfl) (by rfl) (fun (c2 : j2 < aEnt) => ?_) (fun (c2 : ¬ j2 < aEnt) => ?_)
      · rw [if_pos c2]
        refine Ev.ps 1 rfl ?_
        refine Ev.getf (v := vR 38 0) (by rfl) (by rfl) (by rfl) (rd9) rfl ?_
        refine Ev.ps 1 rfl ?_
        refine Ev.aiC (k := j2) (v := vI (aSta_2 j2)) (by rfl) (by decide) (rd38) (by omega) (by omega) rfl ?_
        refine Ev.ps 1 rfl ?_
        refine Ev.ine (by rfl) (by rfl) (fun (c3 : aSta_2 j2 = 119) => ?_) (fun (c3 : ¬ aSta_2 j2 = 119) => ?_)
        · rw [if_pos c3]
          refine Ev.ps 2 rfl ?_
          refine Ev.getf (v := vR 32 0) (by rfl) (by rfl) (by rfl) (rd9) rfl ?_
          refine Ev.ps 1 rfl ?_
          refine Ev.aiI (k := j2) (v := vI (nI (aOw j2))) (by rfl) (by decide) (rd32) (by omega) (by omega) rfl ?_
          refine Ev.ps 1 rfl ?_
          refine Ev.getf (v := vR 33 0) (by rfl) (by rfl) (by rfl) (rd9) rfl ?_
          refine Ev.ps 1 rfl ?_
          refine Ev.aiI (k := j2) (v := vI (nI (aMo j2))) (by rfl) (by decide) (rd33) (by omega) (by omega) rfl ?_
          refine Ev.ps 1 rfl ?_
          refine Ev.getf (v := vR 34 0) (by rfl) (by rfl) (by rfl) (rd9) rfl ?_
          refine Ev.ps 1 rfl ?_
          refine Ev.aiI (k := j2) (v := vI (aDy j2)) (by rfl) (by decide) (rd34) (by omega) (by omega) rfl ?_
          refine Ev.ps 1 rfl ?_
          refine Ev.getf (v := vR 35 0) (by rfl) (by rfl) (by rfl) (rd9) rfl ?_
          refine Ev.ps 1 rfl ?_
          refine Ev.aiI (k := j2) (v := vI (aSt j2)) (by rfl) (by decide) (rd35) (by omega) (by omega) rfl ?_
          refine Ev.ps 1 rfl ?_
          refine Ev.getf (v := vR 36 0) (by rfl) (by rfl) (by rfl) (rd9) rfl ?_
          refine Ev.ps 1 rfl ?_
          refine Ev.aiI (k := j2) (v := vI (aLe j2)) (by rfl) (by decide) (rd36) (by omega) (by omega) rfl ?_
          refine Ev.ps 1 rfl ?_
          refine Ev.getf (v := vR 37 0) (by rfl) (by rfl) (by rfl) (rd9) rfl ?_
          refine Ev.ps 1 rfl ?_
          refine Ev.aiC (k := j2) (v := vI (aWk j2)) (by rfl) (by decide) (rd37) (by omega) (by omega) rfl ?_
          refine Ev.vir (as := [vI (nI (aOw j2)), vI (nI (aMo j2)), vI (aDy j2), vI (aSt j2), vI (aLe j2), vI (aWk j2)]) (rest := []) (by rfl) (by rfl) (by rfl) (by rfl) rfl (Nat.le_of_ble_eq_true rfl) (by rfl) (by rw [rd9]; rfl) (s_r_letter hW hA (by have := wOw j2; omega) (by have := wMo j2; omega)) ?_
          refine Ev.ps 1 rfl ?_
          refine Ev.ine (by rfl) (by rfl) (fun (c4 : f_r_letter aDy aEnt aLe aMk aMo aNd aOw aSt aSta_2 aSu aTk aWk (aOw j2) (aMo j2) (aDy j2) (aSt j2) (aLe j2) (aWk j2) = 111) => ?_) (fun (c4 : ¬ f_r_letter aDy aEnt aLe aMk aMo aNd aOw aSt aSta_2 aSu aTk aWk (aOw j2) (aMo j2) (aDy j2) (aSt j2) (aLe j2) (aWk j2) = 111) => ?_)
          · rw [if_pos c4]
            refine Ev.ps 1 rfl ?_
            refine Ev.getf (v := vR 38 0) (by rfl) (by rfl) (by rfl) (rd9) rfl ?_
            refine Ev.ps 2 rfl ?_
            refine Ev.asC (k := j2) (by rfl) (by rfl) (by unfold chr; decide) (rd38) (by omega) (by omega) (show _ = enc C (mkR aMk aSu aMac aMem aTk aPaid aNd aDay aOw aMo aDy aSt aLe aWk (fup aSta_2 j2 98) aDue aCm aCb aCl aEnt aMt aBl aBar aPr aLs aLnum aLm aSh aBrk aThr) W from wr38 (i := j2) (v := 98)) ?_
            refine Ev.ps 3 rfl ?_
            have h9 := ih2 0 (fup aSta_2 j2 98) (by have hq := wcnt_dec (s := aSta_2) (v := 98) (e := j2) (by assumption) (by decide) aEnt (by omega); show wcnt (fup aSta_2 j2 98) aEnt * 200 + (aEnt - 0) ≤ k2; omega) (by omega)
            exact h9
          · rw [if_neg c4]
            refine Ev.ps 2 rfl ?_
            have h9 := ih2 (j2 + 1) aSta_2 (by show wcnt aSta_2 aEnt * 200 + (aEnt - (j2 + 1)) ≤ k2; omega) (by omega)
            rw [← nI_1] at h9
            exact h9
        · rw [if_neg c3]
          refine Ev.ps 2 rfl ?_
          have h9 := ih2 (j2 + 1) aSta_2 (by show wcnt aSta_2 aEnt * 200 + (aEnt - (j2 + 1)) ≤ k2; omega) (by omega)
          rw [← nI_1] at h9
          exact h9
      · rw [if_neg c2]
        exact Ev.re rfl rfl rfl rfl rfl
  exact L2 (wcnt aSta aEnt * 200 + (aEnt - 0)) 0 aSta (Nat.le_refl _) (Nat.zero_le _)
