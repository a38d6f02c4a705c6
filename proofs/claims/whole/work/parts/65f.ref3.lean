/-! the reference: calls, on (written by gref3.py) -/
def r_cut_L81 (aBl : Nat → Int32) (aCb : Nat → Nat → Nat) (aCl : Nat → Nat → Int32) (aCm : Nat → Nat) (aEnt : Nat) (aMt : Nat → Nat) (aSta : Nat → Int32) (k_p0 : Nat) (k_p1 : Nat) (L : Int32) : Nat → Nat → Option Nat → (Int32 × (Nat → Nat) × (Nat → Nat → Nat) × (Nat → Nat → Int32) × Int32)
  | 0, j81, best =>
    oE best (
      (0, aCm, aCb, aCl, 4)
      ) (fun k7 =>
      (nI k7, fup aCm k_p0 ((aCm k_p0) + 1), fup aCb k_p0 (fup (aCb k_p0) (aCm k_p0) k7), fup aCl k_p0 (fup (aCl k_p0) (aCm k_p0) L), 0)
      )
  | k81 + 1, j81, best =>
    if aMt j81 = k_p1 then
      if f_r_free aBl aCb aCl aCm aEnt aSta j81 < L + 3 then
        r_cut_L81 aBl aCb aCl aCm aEnt aMt aSta k_p0 k_p1 L k81 (j81 + 1) best
      else
        oE best (
          r_cut_L81 aBl aCb aCl aCm aEnt aMt aSta k_p0 k_p1 L k81 (j81 + 1) (some j81)
          ) (fun k12 =>
          if f_r_free aBl aCb aCl aCm aEnt aSta j81 < f_r_free aBl aCb aCl aCm aEnt aSta k12 then r_cut_L81 aBl aCb aCl aCm aEnt aMt aSta k_p0 k_p1 L k81 (j81 + 1) (some j81) else r_cut_L81 aBl aCb aCl aCm aEnt aMt aSta k_p0 k_p1 L k81 (j81 + 1) (some k12)
          )
    else
      r_cut_L81 aBl aCb aCl aCm aEnt aMt aSta k_p0 k_p1 L k81 (j81 + 1) best
def f_r_cut (aBar : Nat) (aBl : Nat → Int32) (aCb : Nat → Nat → Nat) (aCl : Nat → Nat → Int32) (aCm : Nat → Nat) (aEnt : Nat) (aMt : Nat → Nat) (aSta : Nat → Int32) (p0 p1 L : Int32) : Int32 × (Nat → Nat) × (Nat → Nat → Nat) × (Nat → Nat → Int32) × Int32 :=
  if f_r_isEntry aEnt p0 then
    if f_r_in p1 0 2 then
      if f_r_in L 1 5000 then
        if aSta (nP p0) = 98 then if aCm (nP p0) = 5 then (0, aCm, aCb, aCl, 3) else r_cut_L81 aBl aCb aCl aCm aEnt aMt aSta (nP p0) (nP p1) L aBar 0 none else (0, aCm, aCb, aCl, 3)
      else
        (0, aCm, aCb, aCl, 2)
    else
      (0, aCm, aCb, aCl, 2)
  else
    (0, aCm, aCb, aCl, 1)
theorem s_r_cut {d : Nat} {W : WD} {aMk : Nat → Nat} {aSu : Nat → Int32} {aMac : Nat} {aMem : Nat} {aTk : Nat → Nat → Int32} {aPaid : Nat → Int64} {aNd : Nat → Nat → Bool} {aDay : Int32} {aOw : Nat → Nat} {aMo : Nat → Nat} {aDy : Nat → Int32} {aSt : Nat → Int32} {aLe : Nat → Int32} {aWk : Nat → Int32} {aSta : Nat → Int32} {aDue : Nat → Int32} {aCm : Nat → Nat} {aCb : Nat → Nat → Nat} {aCl : Nat → Nat → Int32} {aEnt : Nat} {aMt : Nat → Nat} {aBl : Nat → Int32} {aBar : Nat} {aPr : Nat → Int32} {aLs : Nat → Nat → Int32} {aLnum : Nat → Nat → Int32} {aLm : Nat → Nat} {aSh : Nat → Nat → Int32} {aBrk : Nat} {aThr : Int32} {C : CD} {p0 : Int32} {p1 : Int32} {L : Int32} (hW : WfR aMac aMem aEnt aBar aBrk aOw aMo aMk aCm aCb aMt aLm) : Cal (d + 2) 156 [vR 9 0, vI p0, vI p1, vI L] (enc C (mkR aMk aSu aMac aMem aTk aPaid aNd aDay aOw aMo aDy aSt aLe aWk aSta aDue aCm aCb aCl aEnt aMt aBl aBar aPr aLs aLnum aLm aSh aBrk aThr) W) (.inl (some (vI ((f_r_cut aBar aBl aCb aCl aCm aEnt aMt aSta p0 p1 L).1)))) (enc C (mkR aMk aSu aMac aMem aTk aPaid aNd aDay aOw aMo aDy aSt aLe aWk aSta aDue ((f_r_cut aBar aBl aCb aCl aCm aEnt aMt aSta p0 p1 L).2.1) ((f_r_cut aBar aBl aCb aCl aCm aEnt aMt aSta p0 p1 L).2.2.1) ((f_r_cut aBar aBl aCb aCl aCm aEnt aMt aSta p0 p1 L).2.2.2.1) aEnt aMt aBl aBar aPr aLs aLnum aLm aSh aBrk ((f_r_cut aBar aBl aCb aCl aCm aEnt aMt aSta p0 p1 L).2.2.2.2)) W) := by
  obtain ⟨wMac, wMem, wEnt, wBar, wBrk, wOw, wMo, wMk, wCm, wCb, wMt, wLm⟩ := id hW
  refine Cal.mk (n := 7) rfl (Nat.le_of_ble_eq_true rfl) rfl ?_
  unfold f_r_cut
  refine Ev.ps 3 rfl ?_
  refine Ev.vir (as := [vI p0]) (rest := [vR 9 0]) (by rfl) (by rfl) (by rfl) (by rfl) rfl (Nat.le_of_ble_eq_true rfl) (by rfl) (by rw [rd9]; rfl) (s_r_isEntry ) ?_
  refine Ev.ifbn (by rfl) (by rfl) (fun c1 => ?_) (fun c1 => ?_)
  · rw [if_pos c1]
    have q_p0 := isEntry_nat wEnt c1
    generalize nP p0 = k_p0 at q_p0 ⊢
    obtain ⟨rfl, hk_p0⟩ := q_p0
    refine Ev.ps 3 rfl ?_
    refine Ev.sta (as := [vI p1, vI 0, vI 2]) (rest := [vR 9 0]) (by rfl) (by rfl) (by rfl) (by rfl) rfl (Nat.le_of_ble_eq_true rfl) (s_r_in ) ?_
    refine Ev.ifbe (by rfl) (by rfl) (fun c2 => ?_) (fun c2 => ?_)
    · rw [if_pos c2]
      have q_p1 := isMat_nat c2
      generalize nP p1 = k_p1 at q_p1 ⊢
      obtain ⟨rfl, hk_p1⟩ := q_p1
      refine Ev.ps 3 rfl ?_
      refine Ev.sta (as := [vI L, vI 1, vI 5000]) (rest := [vR 9 0]) (by rfl) (by rfl) (by rfl) (by rfl) rfl (Nat.le_of_ble_eq_true rfl) (s_r_in ) ?_
      refine Ev.ifbn (by rfl) (by rfl) (fun c3 => ?_) (fun c3 => ?_)
      · rw [if_pos c3]
        refine Ev.ps 1 rfl ?_
        refine Ev.getf (v := vR 38 0) (by rfl) (by rfl) (by rfl) (rd9) rfl ?_
        refine Ev.ps 1 rfl ?_
        refine Ev.aiC (k := k_p0) (v := vI (aSta k_p0)) (by rfl) (by decide) (rd38) (by omega) (by have := hk_p0; omega) rfl ?_
        refine Ev.ps 1 rfl ?_
        refine Ev.ine (by rfl) (by rfl) (fun (c4 : aSta k_p0 = 98) => ?_) (fun (c4 : ¬ aSta k_p0 = 98) => ?_)
        · rw [if_pos c4]
          refine Ev.ps 1 rfl ?_
          refine Ev.getf (v := vR 40 0) (by rfl) (by rfl) (by rfl) (rd9) rfl ?_
          refine Ev.ps 1 rfl ?_
          refine Ev.aiI (k := k_p0) (v := vI (nI (aCm k_p0))) (by rfl) (by decide) (rd40) (by omega) (by have := hk_p0; omega) rfl ?_
          refine Ev.ps 1 rfl ?_
          refine Ev.ineN (a := (aCm k_p0)) (b := 5) (by have := wCm k_p0; omega) (by omega) (by rfl) (by rfl) (fun (c5 : aCm k_p0 = 5) => ?_) (fun (c5 : ¬ aCm k_p0 = 5) => ?_)
          · rw [if_pos c5]
            refine Ev.ps 2 rfl ?_
            refine Ev.pf (by rfl) (by rfl) (by rfl) (Nat.le_of_ble_eq_true rfl) rfl (Or.inl (by rfl)) (rd9) (show _ = enc C (mkR aMk aSu aMac aMem aTk aPaid aNd aDay aOw aMo aDy aSt aLe aWk aSta aDue aCm aCb aCl aEnt aMt aBl aBar aPr aLs aLnum aLm aSh aBrk 3) W from wr9_Thr (v := 3)) ?_
            refine Ev.ps 1 rfl ?_
            refine Ev.getf (v := vI 3) (by rfl) (by rfl) (by rfl) (rd9) rfl ?_
            refine Ev.ifi (by rfl) (by rfl) (fun z => by exact absurd z (by decide)) (fun _ => ?_)
            refine Ev.ps 1 rfl ?_
            exact Ev.re rfl rfl rfl rfl rfl
          · rw [if_neg c5]
            refine Ev.ps 1 rfl ?_
            refine Ev.pf (by rfl) (by rfl) (by rfl) (Nat.le_of_ble_eq_true rfl) rfl (Or.inl (by rfl)) (rd9) (show _ = enc C (mkR aMk aSu aMac aMem aTk aPaid aNd aDay aOw aMo aDy aSt aLe aWk aSta aDue aCm aCb aCl aEnt aMt aBl aBar aPr aLs aLnum aLm aSh aBrk 0) W from wr9_Thr (v := 0)) ?_
            refine Ev.ps 1 rfl ?_
            refine Ev.getf (v := vI 0) (by rfl) (by rfl) (by rfl) (rd9) rfl ?_
            refine Ev.ifi (by rfl) (by rfl) (fun _ => ?_) (fun z => by exact absurd z (by decide))
            refine Ev.ps 4 rfl ?_
            have L81 : ∀ (k81 j81 : Nat) (best : Option Nat) (o81_6 : Option MV), j81 + k81 = aBar → Da o81_6 → (∀ k, best = some k → k < aBar) → Ev (d + 2) (156, 81, [some (vR 9 0), some (vI (nI k_p0)), some (vI (nI k_p1)), some (vI L), some (vI (oI best)), some (vI (nI j81)), o81_6], []) (enc C (mkR aMk aSu aMac aMem aTk aPaid aNd aDay aOw aMo aDy aSt aLe aWk aSta aDue aCm aCb aCl aEnt aMt aBl aBar aPr aLs aLnum aLm aSh aBrk 0) W) ((.inl (some (vI ((r_cut_L81 aBl aCb aCl aCm aEnt aMt aSta k_p0 k_p1 L k81 j81 best).1)))), enc C (mkR aMk aSu aMac aMem aTk aPaid aNd aDay aOw aMo aDy aSt aLe aWk aSta aDue ((r_cut_L81 aBl aCb aCl aCm aEnt aMt aSta k_p0 k_p1 L k81 j81 best).2.1) ((r_cut_L81 aBl aCb aCl aCm aEnt aMt aSta k_p0 k_p1 L k81 j81 best).2.2.1) ((r_cut_L81 aBl aCb aCl aCm aEnt aMt aSta k_p0 k_p1 L k81 j81 best).2.2.2.1) aEnt aMt aBl aBar aPr aLs aLnum aLm aSh aBrk ((r_cut_L81 aBl aCb aCl aCm aEnt aMt aSta k_p0 k_p1 L k81 j81 best).2.2.2.2)) W) := by
              intro k81
              induction k81 with
              | zero =>
                intro j81 best o81_6 hj81 ho81_6 hbest
                rw [r_cut_L81]
                refine Ev.ps 2 rfl ?_
                refine Ev.getf (v := vI (nI aBar)) (by rfl) (by rfl) (by rfl) (rd9) rfl ?_
                refine Ev.igeN (a := j81) (b := aBar) (by omega) (by omega) (by rfl) (by rfl) (fun (c6 : j81 < aBar) => ?_) (fun (c6 : ¬ j81 < aBar) => ?_)
                · exfalso; omega
                · refine Ev.ps 2 rfl ?_
                  cases best with
                  | none =>
                    dsimp only [oE]
                    refine Ev.icmp (by rfl) (by rfl) (fun z => by exact absurd z (by decide)) (fun _ => ?_)
                    refine Ev.ps 2 rfl ?_
                    refine Ev.vir (as := [vI 4]) (rest := []) (by rfl) (by rfl) (by rfl) (by rfl) rfl (Nat.le_of_ble_eq_true rfl) (by rfl) (by rw [rd9]; rfl) (s_r_raises (v := 4)) ?_
                    exact Ev.re rfl rfl rfl rfl rfl
                  | some k7 =>
                    dsimp only [oE]
                    refine Ev.icmp (by rfl) (by rfl) (fun _ => ?_) (fun z => by exact absurd (nI_nm1 (by have := hbest _ rfl; omega)) (of_decide_eq_false z))
                    refine Ev.ps 1 rfl ?_
                    refine Ev.getf (v := vR 41 0) (by rfl) (by rfl) (by rfl) (rd9) rfl ?_
                    refine Ev.ps 1 rfl ?_
                    refine Ev.aiA (k := k_p0) (v := vR 42 k_p0) (by rfl) (by decide) (rd41) (by omega) (by have := hk_p0; omega) rfl ?_
                    refine Ev.ps 1 rfl ?_
                    refine Ev.getf (v := vR 40 0) (by rfl) (by rfl) (by rfl) (rd9) rfl ?_
                    refine Ev.ps 1 rfl ?_
                    refine Ev.aiI (k := k_p0) (v := vI (nI (aCm k_p0))) (by rfl) (by decide) (rd40) (by omega) (by have := hk_p0; omega) rfl ?_
                    refine Ev.ps 1 rfl ?_
                    refine Ev.asI (k := (aCm k_p0)) (by rfl) (by rfl) (rd42 (by have := hk_p0; omega)) (by omega) (by have := wCm k_p0; omega) (show _ = enc C (mkR aMk aSu aMac aMem aTk aPaid aNd aDay aOw aMo aDy aSt aLe aWk aSta aDue aCm (fup aCb k_p0 (fup (aCb k_p0) (aCm k_p0) k7)) aCl aEnt aMt aBl aBar aPr aLs aLnum aLm aSh aBrk 0) W from wr42 (j := k_p0) (i := (aCm k_p0)) (v := k7)) ?_
                    refine Ev.ps 1 rfl ?_
                    refine Ev.getf (v := vR 43 0) (by rfl) (by rfl) (by rfl) (rd9) rfl ?_
                    refine Ev.ps 1 rfl ?_
                    refine Ev.aiA (k := k_p0) (v := vR 44 k_p0) (by rfl) (by decide) (rd43) (by omega) (by have := hk_p0; omega) rfl ?_
                    refine Ev.ps 1 rfl ?_
                    refine Ev.getf (v := vR 40 0) (by rfl) (by rfl) (by rfl) (rd9) rfl ?_
                    refine Ev.ps 1 rfl ?_
                    refine Ev.aiI (k := k_p0) (v := vI (nI (aCm k_p0))) (by rfl) (by decide) (rd40) (by omega) (by have := hk_p0; omega) rfl ?_
                    refine Ev.ps 1 rfl ?_
                    refine Ev.asI (k := (aCm k_p0)) (by rfl) (by rfl) (rd44 (by have := hk_p0; omega)) (by omega) (by have := wCm k_p0; omega) (show _ = enc C (mkR aMk aSu aMac aMem aTk aPaid aNd aDay aOw aMo aDy aSt aLe aWk aSta aDue aCm (fup aCb k_p0 (fup (aCb k_p0) (aCm k_p0) k7)) (fup aCl k_p0 (fup (aCl k_p0) (aCm k_p0) L)) aEnt aMt aBl aBar aPr aLs aLnum aLm aSh aBrk 0) W from wr44 (j := k_p0) (i := (aCm k_p0)) (v := L)) ?_
                    refine Ev.ps 1 rfl ?_
                    refine Ev.getf (v := vR 40 0) (by rfl) (by rfl) (by rfl) (rd9) rfl ?_
                    refine Ev.ps 2 rfl ?_
                    refine Ev.aiI (k := k_p0) (v := vI (nI (aCm k_p0))) (by rfl) (by decide) (rd40) (by omega) (by have := hk_p0; omega) rfl ?_
                    refine Ev.ps 2 rfl ?_
                    refine Ev.st1 (b := nI ((aCm k_p0) + 1)) (nI_1 (aCm k_p0)) ?_
                    refine Ev.asI (k := k_p0) (by rfl) (by rfl) (rd40) (by omega) (by have := hk_p0; omega) (show _ = enc C (mkR aMk aSu aMac aMem aTk aPaid aNd aDay aOw aMo aDy aSt aLe aWk aSta aDue (fup aCm k_p0 ((aCm k_p0) + 1)) (fup aCb k_p0 (fup (aCb k_p0) (aCm k_p0) k7)) (fup aCl k_p0 (fup (aCl k_p0) (aCm k_p0) L)) aEnt aMt aBl aBar aPr aLs aLnum aLm aSh aBrk 0) W from wr40 (i := k_p0) (v := (aCm k_p0) + 1)) ?_
                    refine Ev.ps 1 rfl ?_
                    exact Ev.re rfl rfl rfl rfl rfl
              | succ k81 ih81 =>
                intro j81 best o81_6 hj81 ho81_6 hbest
                rw [r_cut_L81]
                refine Ev.ps 2 rfl ?_
                refine Ev.getf (v := vI (nI aBar)) (by rfl) (by rfl) (by rfl) (rd9) rfl ?_
                refine Ev.igeN (a := j81) (b := aBar) (by omega) (by omega) (by rfl) (by rfl) (fun (c9 : j81 < aBar) => ?_) (fun (c9 : ¬ j81 < aBar) => ?_)
                · refine Ev.ps 1 rfl ?_
                  refine Ev.getf (v := vR 45 0) (by rfl) (by rfl) (by rfl) (rd9) rfl ?_
                  refine Ev.ps 1 rfl ?_
                  refine Ev.aiI (k := j81) (v := vI (nI (aMt j81))) (by rfl) (by decide) (rd45) (by omega) (by omega) rfl ?_
                  refine Ev.ps 1 rfl ?_
                  refine Ev.ineN (a := (aMt j81)) (b := k_p1) (by have := wMt j81; omega) (by have := hk_p1; omega) (by rfl) (by rfl) (fun (c10 : aMt j81 = k_p1) => ?_) (fun (c10 : ¬ aMt j81 = k_p1) => ?_)
                  · rw [if_pos c10]
                    refine Ev.ps 2 rfl ?_
                    refine Ev.vir (as := [vI (nI j81)]) (rest := []) (by rfl) (by rfl) (by rfl) (by rfl) rfl (Nat.le_of_ble_eq_true rfl) (by rfl) (by rw [rd9]; rfl) (s_r_free hW (by omega)) ?_
                    refine Ev.ps 3 rfl ?_
                    refine Ev.ilt (by rfl) (by rfl) (fun (c11 : f_r_free aBl aCb aCl aCm aEnt aSta j81 < L + 3) => ?_) (fun (c11 : ¬ f_r_free aBl aCb aCl aCm aEnt aSta j81 < L + 3) => ?_)
                    · rw [if_pos c11]
                      refine Ev.ps 3 rfl ?_
                      refine Ev.ifi (by rfl) (by rfl) (fun _ => ?_) (fun z => by exact absurd z (by decide))
                      refine Ev.ps 4 rfl ?_
                      have h9 := ih81 (j81 + 1) best (some (vI 0)) (by show j81 + 1 + k81 = aBar; omega) Da.i (by intro k9 z9; first | exact hbest k9 z9 | (cases z9; omega))
                      rw [← nI_1] at h9
                      exact h9
                    · rw [if_neg c11]
                      refine Ev.ps 4 rfl ?_
                      refine Ev.ifi (by rfl) (by rfl) (fun z => by exact absurd z (by decide)) (fun _ => ?_)
                      refine Ev.ps 2 rfl ?_
                      cases best with
                      | none =>
                        dsimp only [oE]
                        refine Ev.icmp (by rfl) (by rfl) (fun _ => ?_) (fun z => by exact absurd z (by decide))
                        refine Ev.ps 5 rfl ?_
                        have h9 := ih81 (j81 + 1) (some j81) (some (vI 1)) (by show j81 + 1 + k81 = aBar; omega) Da.i (by intro k9 z9; first | exact hbest k9 z9 | (cases z9; omega))
                        rw [← nI_1] at h9
                        exact h9
                      | some k12 =>
                        dsimp only [oE]
                        refine Ev.icmp (by rfl) (by rfl) (fun z => by exact absurd (of_decide_eq_true z) (nI_nm1 (by have := hbest _ rfl; omega))) (fun _ => ?_)
                        refine Ev.ps 2 rfl ?_
                        refine Ev.vir (as := [vI (nI j81)]) (rest := []) (by rfl) (by rfl) (by rfl) (by rfl) rfl (Nat.le_of_ble_eq_true rfl) (by rfl) (by rw [rd9]; rfl) (s_r_free hW (by omega)) ?_
                        refine Ev.ps 2 rfl ?_
                        refine Ev.vir (as := [vI (nI k12)]) (rest := [vI (f_r_free aBl aCb aCl aCm aEnt aSta j81)]) (by rfl) (by rfl) (by rfl) (by rfl) rfl (Nat.le_of_ble_eq_true rfl) (by rfl) (by rw [rd9]; rfl) (s_r_free hW (by have := hbest _ rfl; omega)) ?_
                        refine Ev.ige (by rfl) (by rfl) (fun (c14 : f_r_free aBl aCb aCl aCm aEnt aSta j81 < f_r_free aBl aCb aCl aCm aEnt aSta k12) => ?_) (fun (c14 : ¬ f_r_free aBl aCb aCl aCm aEnt aSta j81 < f_r_free aBl aCb aCl aCm aEnt aSta k12) => ?_)
                        · rw [if_pos c14]
                          refine Ev.ps 5 rfl ?_
                          have h9 := ih81 (j81 + 1) (some j81) (some (vI 1)) (by show j81 + 1 + k81 = aBar; omega) Da.i (by intro k9 z9; first | exact hbest k9 z9 | (cases z9; omega))
                          rw [← nI_1] at h9
                          exact h9
                        · rw [if_neg c14]
                          refine Ev.ps 4 rfl ?_
                          have h9 := ih81 (j81 + 1) (some k12) (some (vI 1)) (by show j81 + 1 + k81 = aBar; omega) Da.i (by intro k9 z9; first | exact hbest k9 z9 | (cases z9; omega))
                          rw [← nI_1] at h9
                          exact h9
                  · rw [if_neg c10]
                    refine Ev.ps 3 rfl ?_
                    refine Ev.ifi (by rfl) (by rfl) (fun _ => ?_) (fun z => by exact absurd z (by decide))
                    refine Ev.ps 4 rfl ?_
                    have h9 := ih81 (j81 + 1) best (some (vI 0)) (by show j81 + 1 + k81 = aBar; omega) Da.i (by intro k9 z9; first | exact hbest k9 z9 | (cases z9; omega))
                    rw [← nI_1] at h9
                    exact h9
                · exfalso; omega
            exact L81 aBar 0 none none (by show 0 + aBar = aBar; omega) Da.n (fun _ z => nomatch z)
        · rw [if_neg c4]
          refine Ev.ps 2 rfl ?_
          refine Ev.pf (by rfl) (by rfl) (by rfl) (Nat.le_of_ble_eq_true rfl) rfl (Or.inl (by rfl)) (rd9) (show _ = enc C (mkR aMk aSu aMac aMem aTk aPaid aNd aDay aOw aMo aDy aSt aLe aWk aSta aDue aCm aCb aCl aEnt aMt aBl aBar aPr aLs aLnum aLm aSh aBrk 3) W from wr9_Thr (v := 3)) ?_
          refine Ev.ps 1 rfl ?_
          refine Ev.getf (v := vI 3) (by rfl) (by rfl) (by rfl) (rd9) rfl ?_
          refine Ev.ifi (by rfl) (by rfl) (fun z => by exact absurd z (by decide)) (fun _ => ?_)
          refine Ev.ps 1 rfl ?_
          exact Ev.re rfl rfl rfl rfl rfl
      · rw [if_neg c3]
        refine Ev.ps 2 rfl ?_
        refine Ev.pf (by rfl) (by rfl) (by rfl) (Nat.le_of_ble_eq_true rfl) rfl (Or.inl (by rfl)) (rd9) (show _ = enc C (mkR aMk aSu aMac aMem aTk aPaid aNd aDay aOw aMo aDy aSt aLe aWk aSta aDue aCm aCb aCl aEnt aMt aBl aBar aPr aLs aLnum aLm aSh aBrk 2) W from wr9_Thr (v := 2)) ?_
        refine Ev.ps 1 rfl ?_
        refine Ev.getf (v := vI 2) (by rfl) (by rfl) (by rfl) (rd9) rfl ?_
        refine Ev.ifi (by rfl) (by rfl) (fun z => by exact absurd z (by decide)) (fun _ => ?_)
        refine Ev.ps 1 rfl ?_
        exact Ev.re rfl rfl rfl rfl rfl
    · rw [if_neg c2]
      refine Ev.ps 2 rfl ?_
      refine Ev.pf (by rfl) (by rfl) (by rfl) (Nat.le_of_ble_eq_true rfl) rfl (Or.inl (by rfl)) (rd9) (show _ = enc C (mkR aMk aSu aMac aMem aTk aPaid aNd aDay aOw aMo aDy aSt aLe aWk aSta aDue aCm aCb aCl aEnt aMt aBl aBar aPr aLs aLnum aLm aSh aBrk 2) W from wr9_Thr (v := 2)) ?_
      refine Ev.ps 1 rfl ?_
      refine Ev.getf (v := vI 2) (by rfl) (by rfl) (by rfl) (rd9) rfl ?_
      refine Ev.ifi (by rfl) (by rfl) (fun z => by exact absurd z (by decide)) (fun _ => ?_)
      refine Ev.ps 1 rfl ?_
      exact Ev.re rfl rfl rfl rfl rfl
  · rw [if_neg c1]
    refine Ev.ps 2 rfl ?_
    refine Ev.pf (by rfl) (by rfl) (by rfl) (Nat.le_of_ble_eq_true rfl) rfl (Or.inl (by rfl)) (rd9) (show _ = enc C (mkR aMk aSu aMac aMem aTk aPaid aNd aDay aOw aMo aDy aSt aLe aWk aSta aDue aCm aCb aCl aEnt aMt aBl aBar aPr aLs aLnum aLm aSh aBrk 1) W from wr9_Thr (v := 1)) ?_
    refine Ev.ps 1 rfl ?_
    refine Ev.getf (v := vI 1) (by rfl) (by rfl) (by rfl) (rd9) rfl ?_
    refine Ev.ifi (by rfl) (by rfl) (fun z => by exact absurd z (by decide)) (fun _ => ?_)
    refine Ev.ps 1 rfl ?_
    exact Ev.re rfl rfl rfl rfl rfl
