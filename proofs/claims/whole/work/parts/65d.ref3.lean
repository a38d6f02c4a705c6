/-! the reference: calls, on (written by gref3.py) -/
def f_r_cancel (aDay : Int32) (aDue : Nat → Int32) (aDy : Nat → Int32) (aEnt : Nat) (aLe : Nat → Int32) (aLm : Nat → Nat) (aLnum : Nat → Nat → Int32) (aLs : Nat → Nat → Int32) (aMk : Nat → Nat) (aMo : Nat → Nat) (aNd : Nat → Nat → Bool) (aOw : Nat → Nat) (aSt : Nat → Int32) (aSta : Nat → Int32) (aSu : Nat → Int32) (aTk : Nat → Nat → Int32) (aWk : Nat → Int32) (zG5 : List Ob) (zc : Nat) (zn : Nat) (p0 : Int32) : Int32 × (Nat → Int32) × (Nat → Int32) × Int32 × List Ob × Nat × Nat :=
  if f_r_isEntry aEnt p0 then
    if aSta (nP p0) = 119 then
      if aSta (nP p0) = 119 then
        (119, f_r_gives aDy aEnt aLe aMk aMo aNd aOw aSt (fup aSta (nP p0) 99) aSu aTk aWk, fup aDue (nP p0) 0, 0, zG5, zc, zn)
      else
        if aDy (nP p0) = aDay then
          (104, f_r_gives aDy aEnt aLe aMk aMo aNd aOw aSt (fup aSta (nP p0) 99) aSu aTk aWk, fup aDue (nP p0) (((f_r_cost aLm aLnum aLs (aMk (aMo (nP p0))) (aLe (nP p0))).1) / 2), 0, zG5 ++ [pl 6 (fun k => vI (((f_r_cost aLm aLnum aLs (aMk (aMo (nP p0))) (aLe (nP p0))).2) k))], zc + 1, zn + 6)
        else
          (102, f_r_gives aDy aEnt aLe aMk aMo aNd aOw aSt (fup aSta (nP p0) 99) aSu aTk aWk, fup aDue (nP p0) 0, 0, zG5, zc, zn)
    else
      if aSta (nP p0) = 98 then
        if aSta (nP p0) = 119 then
          (119, f_r_gives aDy aEnt aLe aMk aMo aNd aOw aSt (fup aSta (nP p0) 99) aSu aTk aWk, fup aDue (nP p0) 0, 0, zG5, zc, zn)
        else
          if aDy (nP p0) = aDay then
            (104, f_r_gives aDy aEnt aLe aMk aMo aNd aOw aSt (fup aSta (nP p0) 99) aSu aTk aWk, fup aDue (nP p0) (((f_r_cost aLm aLnum aLs (aMk (aMo (nP p0))) (aLe (nP p0))).1) / 2), 0, zG5 ++ [pl 6 (fun k => vI (((f_r_cost aLm aLnum aLs (aMk (aMo (nP p0))) (aLe (nP p0))).2) k))], zc + 1, zn + 6)
          else
            (102, f_r_gives aDy aEnt aLe aMk aMo aNd aOw aSt (fup aSta (nP p0) 99) aSu aTk aWk, fup aDue (nP p0) 0, 0, zG5, zc, zn)
      else
        (0, aSta, aDue, 2, zG5, zc, zn)
  else
    (0, aSta, aDue, 1, zG5, zc, zn)
theorem s_r_cancel {d : Nat} {zO : Int64} {zD : UInt64} {zX : Nat} {zL : Nat} {zXs : Nat → Int32} {zG5 : List Ob} {zG6 : List Ob} {zG7 : List Ob} {zc : Nat} {zn : Nat} {aMk : Nat → Nat} {aSu : Nat → Int32} {aMac : Nat} {aMem : Nat} {aTk : Nat → Nat → Int32} {aPaid : Nat → Int64} {aNd : Nat → Nat → Bool} {aDay : Int32} {aOw : Nat → Nat} {aMo : Nat → Nat} {aDy : Nat → Int32} {aSt : Nat → Int32} {aLe : Nat → Int32} {aWk : Nat → Int32} {aSta : Nat → Int32} {aDue : Nat → Int32} {aCm : Nat → Nat} {aCb : Nat → Nat → Nat} {aCl : Nat → Nat → Int32} {aEnt : Nat} {aMt : Nat → Nat} {aBl : Nat → Int32} {aBar : Nat} {aPr : Nat → Int32} {aLs : Nat → Nat → Int32} {aLnum : Nat → Nat → Int32} {aLm : Nat → Nat} {aSh : Nat → Nat → Int32} {aBrk : Nat} {aThr : Int32} {C : CD} {p0 : Int32} (hW : WfR aMac aMem aEnt aBar aBrk aOw aMo aMk aCm aCb aMt aLm) (hA : Acy aNd) : Cal (d + 9) 138 [vR 9 0, vI p0] (enc C (mkR aMk aSu aMac aMem aTk aPaid aNd aDay aOw aMo aDy aSt aLe aWk aSta aDue aCm aCb aCl aEnt aMt aBl aBar aPr aLs aLnum aLm aSh aBrk aThr) (mkW zO zD zX zL zXs zG5 zG6 zG7 zc zn)) (.inl (some (vI ((f_r_cancel aDay aDue aDy aEnt aLe aLm aLnum aLs aMk aMo aNd aOw aSt aSta aSu aTk aWk zG5 zc zn p0).1)))) (enc C (mkR aMk aSu aMac aMem aTk aPaid aNd aDay aOw aMo aDy aSt aLe aWk ((f_r_cancel aDay aDue aDy aEnt aLe aLm aLnum aLs aMk aMo aNd aOw aSt aSta aSu aTk aWk zG5 zc zn p0).2.1) ((f_r_cancel aDay aDue aDy aEnt aLe aLm aLnum aLs aMk aMo aNd aOw aSt aSta aSu aTk aWk zG5 zc zn p0).2.2.1) aCm aCb aCl aEnt aMt aBl aBar aPr aLs aLnum aLm aSh aBrk ((f_r_cancel aDay aDue aDy aEnt aLe aLm aLnum aLs aMk aMo aNd aOw aSt aSta aSu aTk aWk zG5 zc zn p0).2.2.2.1)) (mkW zO zD zX zL zXs ((f_r_cancel aDay aDue aDy aEnt aLe aLm aLnum aLs aMk aMo aNd aOw aSt aSta aSu aTk aWk zG5 zc zn p0).2.2.2.2.1) zG6 zG7 ((f_r_cancel aDay aDue aDy aEnt aLe aLm aLnum aLs aMk aMo aNd aOw aSt aSta aSu aTk aWk zG5 zc zn p0).2.2.2.2.2.1) ((f_r_cancel aDay aDue aDy aEnt aLe aLm aLnum aLs aMk aMo aNd aOw aSt aSta aSu aTk aWk zG5 zc zn p0).2.2.2.2.2.2))) := by
  obtain ⟨wMac, wMem, wEnt, wBar, wBrk, wOw, wMo, wMk, wCm, wCb, wMt, wLm⟩ := id hW
  refine Cal.mk (n := 3) rfl (Nat.le_of_ble_eq_true rfl) rfl ?_
  unfold f_r_cancel
  refine Ev.ps 3 rfl ?_
  refine Ev.vir (as := [vI p0]) (rest := [vR 9 0]) (by rfl) (by rfl) (by rfl) (by rfl) rfl (Nat.le_of_ble_eq_true rfl) (by rfl) (by rw [rd9]; rfl) (s_r_isEntry ) ?_
  refine Ev.ifbn (by rfl) (by rfl) (fun c1 => ?_) (fun c1 => ?_)
  · rw [if_pos c1]
    have q_p0 := isEntry_nat wEnt c1
    generalize nP p0 = k_p0 at q_p0 ⊢
    obtain ⟨rfl, hk_p0⟩ := q_p0
    refine Ev.ps 1 rfl ?_
    refine Ev.getf (v := vR 38 0) (by rfl) (by rfl) (by rfl) (rd9) rfl ?_
    refine Ev.ps 1 rfl ?_
    refine Ev.aiC (k := k_p0) (v := vI (aSta k_p0)) (by rfl) (by decide) (rd38) (by omega) (by have := hk_p0; omega) rfl ?_
    refine Ev.ps 1 rfl ?_
    refine Ev.ieq (by rfl) (by rfl) (fun (c2 : aSta k_p0 = 119) => ?_) (fun (c2 : ¬ aSta k_p0 = 119) => ?_)
    · rw [if_pos c2]
      refine Ev.ps 1 rfl ?_
      refine Ev.pf (by rfl) (by rfl) (by rfl) (Nat.le_of_ble_eq_true rfl) rfl (Or.inl (by rfl)) (rd9) (show _ = enc C (mkR aMk aSu aMac aMem aTk aPaid aNd aDay aOw aMo aDy aSt aLe aWk aSta aDue aCm aCb aCl aEnt aMt aBl aBar aPr aLs aLnum aLm aSh aBrk 0) (mkW zO zD zX zL zXs zG5 zG6 zG7 zc zn) from wr9_Thr (v := 0)) ?_
      refine Ev.ps 1 rfl ?_
      refine Ev.getf (v := vI 0) (by rfl) (by rfl) (by rfl) (rd9) rfl ?_
      refine Ev.ifi (by rfl) (by rfl) (fun _ => ?_) (fun z => by exact absurd z (by decide))
      refine Ev.ps 1 rfl ?_
      refine Ev.getf (v := vR 38 0) (by rfl) (by rfl) (by rfl) (rd9) rfl ?_
      refine Ev.ps 1 rfl ?_
      refine Ev.aiC (k := k_p0) (v := vI (aSta k_p0)) (by rfl) (by decide) (rd38) (by omega) (by have := hk_p0; omega) rfl ?_
      refine Ev.ps 1 rfl ?_
      refine Ev.ine (by rfl) (by rfl) (fun (c3 : aSta k_p0 = 119) => ?_) (fun (c3 : ¬ aSta k_p0 = 119) => ?_)
      · rw [if_pos c3]
        refine Ev.ps 4 rfl ?_
        refine Ev.getf (v := vR 39 0) (by rfl) (by rfl) (by rfl) (rd9) rfl ?_
        refine Ev.ps 3 rfl ?_
        refine Ev.icmp (by rfl) (by rfl) (fun _ => ?_) (fun z => by exact absurd z (by decide))
        refine Ev.ps 1 rfl ?_
        refine Ev.asI (k := k_p0) (by rfl) (by rfl) (rd39) (by omega) (by have := hk_p0; omega) (show _ = enc C (mkR aMk aSu aMac aMem aTk aPaid aNd aDay aOw aMo aDy aSt aLe aWk aSta (fup aDue k_p0 0) aCm aCb aCl aEnt aMt aBl aBar aPr aLs aLnum aLm aSh aBrk 0) (mkW zO zD zX zL zXs zG5 zG6 zG7 zc zn) from wr39 (i := k_p0) (v := 0)) ?_
        refine Ev.ps 1 rfl ?_
        refine Ev.getf (v := vR 38 0) (by rfl) (by rfl) (by rfl) (rd9) rfl ?_
        refine Ev.ps 2 rfl ?_
        refine Ev.asC (k := k_p0) (by rfl) (by rfl) (by unfold chr; decide) (rd38) (by omega) (by have := hk_p0; omega) (show _ = enc C (mkR aMk aSu aMac aMem aTk aPaid aNd aDay aOw aMo aDy aSt aLe aWk (fup aSta k_p0 99) (fup aDue k_p0 0) aCm aCb aCl aEnt aMt aBl aBar aPr aLs aLnum aLm aSh aBrk 0) (mkW zO zD zX zL zXs zG5 zG6 zG7 zc zn) from wr38 (i := k_p0) (v := 99)) ?_
        refine Ev.ps 1 rfl ?_
        refine Ev.vir (as := []) (rest := []) (by rfl) (by rfl) (by rfl) (by rfl) rfl (Nat.le_of_ble_eq_true rfl) (by rfl) (by rw [rd9]; rfl) (s_r_gives hW hA) ?_
        refine Ev.ps 1 rfl ?_
        exact Ev.re rfl rfl rfl rfl rfl
      · rw [if_neg c3]
        refine Ev.ps 1 rfl ?_
        refine Ev.getf (v := vR 34 0) (by rfl) (by rfl) (by rfl) (rd9) rfl ?_
        refine Ev.ps 1 rfl ?_
        refine Ev.aiI (k := k_p0) (v := vI (aDy k_p0)) (by rfl) (by decide) (rd34) (by omega) (by have := hk_p0; omega) rfl ?_
        refine Ev.ps 1 rfl ?_
        refine Ev.getf (v := vI aDay) (by rfl) (by rfl) (by rfl) (rd9) rfl ?_
        refine Ev.ine (by rfl) (by rfl) (fun (c4 : aDy k_p0 = aDay) => ?_) (fun (c4 : ¬ aDy k_p0 = aDay) => ?_)
        · rw [if_pos c4]
          refine Ev.ps 4 rfl ?_
          refine Ev.getf (v := vR 39 0) (by rfl) (by rfl) (by rfl) (rd9) rfl ?_
          refine Ev.ps 3 rfl ?_
          refine Ev.icmp (by rfl) (by rfl) (fun z => by exact absurd z (by decide)) (fun _ => ?_)
          refine Ev.ps 2 rfl ?_
          refine Ev.getf (v := vR 25 0) (by rfl) (by rfl) (by rfl) (rd9) rfl ?_
          refine Ev.ps 1 rfl ?_
          refine Ev.getf (v := vR 33 0) (by rfl) (by rfl) (by rfl) (rd9) rfl ?_
          refine Ev.ps 1 rfl ?_
          refine Ev.aiI (k := k_p0) (v := vI (nI (aMo k_p0))) (by rfl) (by decide) (rd33) (by omega) (by have := hk_p0; omega) rfl ?_
          refine Ev.aiI (k := (aMo k_p0)) (v := vI (nI (aMk (aMo k_p0)))) (by rfl) (by decide) (rd25) (by omega) (by have := wMo k_p0; omega) rfl ?_
          refine Ev.ps 1 rfl ?_
          refine Ev.getf (v := vR 36 0) (by rfl) (by rfl) (by rfl) (rd9) rfl ?_
          refine Ev.ps 1 rfl ?_
          refine Ev.aiI (k := k_p0) (v := vI (aLe k_p0)) (by rfl) (by decide) (rd36) (by omega) (by have := hk_p0; omega) rfl ?_
          refine Ev.vir (as := [vI (nI (aMk (aMo k_p0))), vI (aLe k_p0)]) (rest := [vI (nI k_p0), vR 39 0]) (by rfl) (by rfl) (by rfl) (by rfl) rfl (Nat.le_of_ble_eq_true rfl) (by rfl) (by rw [rd9]; rfl) (s_r_cost hW (by have := wMk (aMo k_p0); omega)) ?_
          refine Ev.ps 3 rfl ?_
          refine Ev.asI (k := k_p0) (by rfl) (by rfl) (rd39) (by omega) (by have := hk_p0; omega) (show _ = enc C (mkR aMk aSu aMac aMem aTk aPaid aNd aDay aOw aMo aDy aSt aLe aWk aSta (fup aDue k_p0 (((f_r_cost aLm aLnum aLs (aMk (aMo k_p0)) (aLe k_p0)).1) / 2)) aCm aCb aCl aEnt aMt aBl aBar aPr aLs aLnum aLm aSh aBrk 0) (mkW zO zD zX zL zXs (zG5 ++ [pl 6 (fun k => vI (((f_r_cost aLm aLnum aLs (aMk (aMo k_p0)) (aLe k_p0)).2) k))]) zG6 zG7 (zc + 1) (zn + 6)) from wr39 (i := k_p0) (v := ((f_r_cost aLm aLnum aLs (aMk (aMo k_p0)) (aLe k_p0)).1) / 2)) ?_
          refine Ev.ps 1 rfl ?_
          refine Ev.getf (v := vR 38 0) (by rfl) (by rfl) (by rfl) (rd9) rfl ?_
          refine Ev.ps 2 rfl ?_
          refine Ev.asC (k := k_p0) (by rfl) (by rfl) (by unfold chr; decide) (rd38) (by omega) (by have := hk_p0; omega) (show _ = enc C (mkR aMk aSu aMac aMem aTk aPaid aNd aDay aOw aMo aDy aSt aLe aWk (fup aSta k_p0 99) (fup aDue k_p0 (((f_r_cost aLm aLnum aLs (aMk (aMo k_p0)) (aLe k_p0)).1) / 2)) aCm aCb aCl aEnt aMt aBl aBar aPr aLs aLnum aLm aSh aBrk 0) (mkW zO zD zX zL zXs (zG5 ++ [pl 6 (fun k => vI (((f_r_cost aLm aLnum aLs (aMk (aMo k_p0)) (aLe k_p0)).2) k))]) zG6 zG7 (zc + 1) (zn + 6)) from wr38 (i := k_p0) (v := 99)) ?_
          refine Ev.ps 1 rfl ?_
          refine Ev.vir (as := []) (rest := []) (by rfl) (by rfl) (by rfl) (by rfl) rfl (Nat.le_of_ble_eq_true rfl) (by rfl) (by rw [rd9]; rfl) (s_r_gives hW hA) ?_
          refine Ev.ps 1 rfl ?_
          exact Ev.re rfl rfl rfl rfl rfl
        · rw [if_neg c4]
          refine Ev.ps 3 rfl ?_
          refine Ev.getf (v := vR 39 0) (by rfl) (by rfl) (by rfl) (rd9) rfl ?_
          refine Ev.ps 3 rfl ?_
          refine Ev.icmp (by rfl) (by rfl) (fun _ => ?_) (fun z => by exact absurd z (by decide))
          refine Ev.ps 1 rfl ?_
          refine Ev.asI (k := k_p0) (by rfl) (by rfl) (rd39) (by omega) (by have := hk_p0; omega) (show _ = enc C (mkR aMk aSu aMac aMem aTk aPaid aNd aDay aOw aMo aDy aSt aLe aWk aSta (fup aDue k_p0 0) aCm aCb aCl aEnt aMt aBl aBar aPr aLs aLnum aLm aSh aBrk 0) (mkW zO zD zX zL zXs zG5 zG6 zG7 zc zn) from wr39 (i := k_p0) (v := 0)) ?_
          refine Ev.ps 1 rfl ?_
          refine Ev.getf (v := vR 38 0) (by rfl) (by rfl) (by rfl) (rd9) rfl ?_
          refine Ev.ps 2 rfl ?_
          refine Ev.asC (k := k_p0) (by rfl) (by rfl) (by unfold chr; decide) (rd38) (by omega) (by have := hk_p0; omega) (show _ = enc C (mkR aMk aSu aMac aMem aTk aPaid aNd aDay aOw aMo aDy aSt aLe aWk (fup aSta k_p0 99) (fup aDue k_p0 0) aCm aCb aCl aEnt aMt aBl aBar aPr aLs aLnum aLm aSh aBrk 0) (mkW zO zD zX zL zXs zG5 zG6 zG7 zc zn) from wr38 (i := k_p0) (v := 99)) ?_
          refine Ev.ps 1 rfl ?_
          refine Ev.vir (as := []) (rest := []) (by rfl) (by rfl) (by rfl) (by rfl) rfl (Nat.le_of_ble_eq_true rfl) (by rfl) (by rw [rd9]; rfl) (s_r_gives hW hA) ?_
          refine Ev.ps 1 rfl ?_
          exact Ev.re rfl rfl rfl rfl rfl
    · rw [if_neg c2]
      refine Ev.ps 1 rfl ?_
      refine Ev.getf (v := vR 38 0) (by rfl) (by rfl) (by rfl) (rd9) rfl ?_
      refine Ev.ps 1 rfl ?_
      refine Ev.aiC (k := k_p0) (v := vI (aSta k_p0)) (by rfl) (by decide) (rd38) (by omega) (by have := hk_p0; omega) rfl ?_
      refine Ev.ps 1 rfl ?_
      refine Ev.ieq (by rfl) (by rfl) (fun (c5 : aSta k_p0 = 98) => ?_) (fun (c5 : ¬ aSta k_p0 = 98) => ?_)
      · rw [if_pos c5]
        refine Ev.ps 1 rfl ?_
        refine Ev.pf (by rfl) (by rfl) (by rfl) (Nat.le_of_ble_eq_true rfl) rfl (Or.inl (by rfl)) (rd9) (show _ = enc C (mkR aMk aSu aMac aMem aTk aPaid aNd aDay aOw aMo aDy aSt aLe aWk aSta aDue aCm aCb aCl aEnt aMt aBl aBar aPr aLs aLnum aLm aSh aBrk 0) (mkW zO zD zX zL zXs zG5 zG6 zG7 zc zn) from wr9_Thr (v := 0)) ?_
        refine Ev.ps 1 rfl ?_
        refine Ev.getf (v := vI 0) (by rfl) (by rfl) (by rfl) (rd9) rfl ?_
        refine Ev.ifi (by rfl) (by rfl) (fun _ => ?_) (fun z => by exact absurd z (by decide))
        refine Ev.ps 1 rfl ?_
        refine Ev.getf (v := vR 38 0) (by rfl) (by rfl) (by rfl) (rd9) rfl ?_
        refine Ev.ps 1 rfl ?_
        refine Ev.aiC (k := k_p0) (v := vI (aSta k_p0)) (by rfl) (by decide) (rd38) (by omega) (by have := hk_p0; omega) rfl ?_
        refine Ev.ps 1 rfl ?_
        refine Ev.ine (by rfl) (by rfl) (fun (c6 : aSta k_p0 = 119) => ?_) (fun (c6 : ¬ aSta k_p0 = 119) => ?_)
        · rw [if_pos c6]
          refine Ev.ps 4 rfl ?_
          refine Ev.getf (v := vR 39 0) (by rfl) (by rfl) (by rfl) (rd9) rfl ?_
          refine Ev.ps 3 rfl ?_
          refine Ev.icmp (by rfl) (by rfl) (fun _ => ?_) (fun z => by exact absurd z (by decide))
          refine Ev.ps 1 rfl ?_
          refine Ev.asI (k := k_p0) (by rfl) (by rfl) (rd39) (by omega) (by have := hk_p0; omega) (show _ = enc C (mkR aMk aSu aMac aMem aTk aPaid aNd aDay aOw aMo aDy aSt aLe aWk aSta (fup aDue k_p0 0) aCm aCb aCl aEnt aMt aBl aBar aPr aLs aLnum aLm aSh aBrk 0) (mkW zO zD zX zL zXs zG5 zG6 zG7 zc zn) from wr39 (i := k_p0) (v := 0)) ?_
          refine Ev.ps 1 rfl ?_
          refine Ev.getf (v := vR 38 0) (by rfl) (by rfl) (by rfl) (rd9) rfl ?_
          refine Ev.ps 2 rfl ?_
          refine Ev.asC (k := k_p0) (by rfl) (by rfl) (by unfold chr; decide) (rd38) (by omega) (by have := hk_p0; omega) (show _ = enc C (mkR aMk aSu aMac aMem aTk aPaid aNd aDay aOw aMo aDy aSt aLe aWk (fup aSta k_p0 99) (fup aDue k_p0 0) aCm aCb aCl aEnt aMt aBl aBar aPr aLs aLnum aLm aSh aBrk 0) (mkW zO zD zX zL zXs zG5 zG6 zG7 zc zn) from wr38 (i := k_p0) (v := 99)) ?_
          refine Ev.ps 1 rfl ?_
          refine Ev.vir (as := []) (rest := []) (by rfl) (by rfl) (by rfl) (by rfl) rfl (Nat.le_of_ble_eq_true rfl) (by rfl) (by rw [rd9]; rfl) (s_r_gives hW hA) ?_
          refine Ev.ps 1 rfl ?_
          exact Ev.re rfl rfl rfl rfl rfl
        · rw [if_neg c6]
          refine Ev.ps 1 rfl ?_
          refine Ev.getf (v := vR 34 0) (by rfl) (by rfl) (by rfl) (rd9) rfl ?_
          refine Ev.ps 1 rfl ?_
          refine Ev.aiI (k := k_p0) (v := vI (aDy k_p0)) (by rfl) (by decide) (rd34) (by omega) (by have := hk_p0; omega) rfl ?_
          refine Ev.ps 1 rfl ?_
          refine Ev.getf (v := vI aDay) (by rfl) (by rfl) (by rfl) (rd9) rfl ?_
          refine Ev.ine (by rfl) (by rfl) (fun (c7 : aDy k_p0 = aDay) => ?_) (fun (c7 : ¬ aDy k_p0 = aDay) => ?_)
          · rw [if_pos c7]
            refine Ev.ps 4 rfl ?_
            refine Ev.getf (v := vR 39 0) (by rfl) (by rfl) (by rfl) (rd9) rfl ?_
            refine Ev.ps 3 rfl ?_
            refine Ev.icmp (by rfl) (by rfl) (fun z => by exact absurd z (by decide)) (fun _ => ?_)
            refine Ev.ps 2 rfl ?_
            refine Ev.getf (v := vR 25 0) (by rfl) (by rfl) (by rfl) (rd9) rfl ?_
            refine Ev.ps 1 rfl ?_
            refine Ev.getf (v := vR 33 0) (by rfl) (by rfl) (by rfl) (rd9) rfl ?_
            refine Ev.ps 1 rfl ?_
            refine Ev.aiI (k := k_p0) (v := vI (nI (aMo k_p0))) (by rfl) (by decide) (rd33) (by omega) (by have := hk_p0; omega) rfl ?_
            refine Ev.aiI (k := (aMo k_p0)) (v := vI (nI (aMk (aMo k_p0)))) (by rfl) (by decide) (rd25) (by omega) (by have := wMo k_p0; omega) rfl ?_
            refine Ev.ps 1 rfl ?_
            refine Ev.getf (v := vR 36 0) (by rfl) (by rfl) (by rfl) (rd9) rfl ?_
            refine Ev.ps 1 rfl ?_
            refine Ev.aiI (k := k_p0) (v := vI (aLe k_p0)) (by rfl) (by decide) (rd36) (by omega) (by have := hk_p0; omega) rfl ?_
            refine Ev.vir (as := [vI (nI (aMk (aMo k_p0))), vI (aLe k_p0)]) (rest := [vI (nI k_p0), vR 39 0]) (by rfl) (by rfl) (by rfl) (by rfl) rfl (Nat.le_of_ble_eq_true rfl) (by rfl) (by rw [rd9]; rfl) (s_r_cost hW (by have := wMk (aMo k_p0); omega)) ?_
            refine Ev.ps 3 rfl ?_
            refine Ev.asI (k := k_p0) (by rfl) (by rfl) (rd39) (by omega) (by have := hk_p0; omega) (show _ = enc C (mkR aMk aSu aMac aMem aTk aPaid aNd aDay aOw aMo aDy aSt aLe aWk aSta (fup aDue k_p0 (((f_r_cost aLm aLnum aLs (aMk (aMo k_p0)) (aLe k_p0)).1) / 2)) aCm aCb aCl aEnt aMt aBl aBar aPr aLs aLnum aLm aSh aBrk 0) (mkW zO zD zX zL zXs (zG5 ++ [pl 6 (fun k => vI (((f_r_cost aLm aLnum aLs (aMk (aMo k_p0)) (aLe k_p0)).2) k))]) zG6 zG7 (zc + 1) (zn + 6)) from wr39 (i := k_p0) (v := ((f_r_cost aLm aLnum aLs (aMk (aMo k_p0)) (aLe k_p0)).1) / 2)) ?_
            refine Ev.ps 1 rfl ?_
            refine Ev.getf (v := vR 38 0) (by rfl) (by rfl) (by rfl) (rd9) rfl ?_
            refine Ev.ps 2 rfl ?_
            refine Ev.asC (k := k_p0) (by rfl) (by rfl) (by unfold chr; decide) (rd38) (by omega) (by have := hk_p0; omega) (show _ = enc C (mkR aMk aSu aMac aMem aTk aPaid aNd aDay aOw aMo aDy aSt aLe aWk (fup aSta k_p0 99) (fup aDue k_p0 (((f_r_cost aLm aLnum aLs (aMk (aMo k_p0)) (aLe k_p0)).1) / 2)) aCm aCb aCl aEnt aMt aBl aBar aPr aLs aLnum aLm aSh aBrk 0) (mkW zO zD zX zL zXs (zG5 ++ [pl 6 (fun k => vI (((f_r_cost aLm aLnum aLs (aMk (aMo k_p0)) (aLe k_p0)).2) k))]) zG6 zG7 (zc + 1) (zn + 6)) from wr38 (i := k_p0) (v := 99)) ?_
            refine Ev.ps 1 rfl ?_
            refine Ev.vir (as := []) (rest := []) (by rfl) (by rfl) (by rfl) (by rfl) rfl (Nat.le_of_ble_eq_true rfl) (by rfl) (by rw [rd9]; rfl) (s_r_gives hW hA) ?_
            refine Ev.ps 1 rfl ?_
            exact Ev.re rfl rfl rfl rfl rfl
          · rw [if_neg c7]
            refine Ev.ps 3 rfl ?_
            refine Ev.getf (v := vR 39 0) (by rfl) (by rfl) (by rfl) (rd9) rfl ?_
            refine Ev.ps 3 rfl ?_
            refine Ev.icmp (by rfl) (by rfl) (fun _ => ?_) (fun z => by exact absurd z (by decide))
            refine Ev.ps 1 rfl ?_
            refine Ev.asI (k := k_p0) (by rfl) (by rfl) (rd39) (by omega) (by have := hk_p0; omega) (show _ = enc C (mkR aMk aSu aMac aMem aTk aPaid aNd aDay aOw aMo aDy aSt aLe aWk aSta (fup aDue k_p0 0) aCm aCb aCl aEnt aMt aBl aBar aPr aLs aLnum aLm aSh aBrk 0) (mkW zO zD zX zL zXs zG5 zG6 zG7 zc zn) from wr39 (i := k_p0) (v := 0)) ?_
            refine Ev.ps 1 rfl ?_
            refine Ev.getf (v := vR 38 0) (by rfl) (by rfl) (by rfl) (rd9) rfl ?_
            refine Ev.ps 2 rfl ?_
            refine Ev.asC (k := k_p0) (by rfl) (by rfl) (by unfold chr; decide) (rd38) (by omega) (by have := hk_p0; omega) (show _ = enc C (mkR aMk aSu aMac aMem aTk aPaid aNd aDay aOw aMo aDy aSt aLe aWk (fup aSta k_p0 99) (fup aDue k_p0 0) aCm aCb aCl aEnt aMt aBl aBar aPr aLs aLnum aLm aSh aBrk 0) (mkW zO zD zX zL zXs zG5 zG6 zG7 zc zn) from wr38 (i := k_p0) (v := 99)) ?_
            refine Ev.ps 1 rfl ?_
            refine Ev.vir (as := []) (rest := []) (by rfl) (by rfl) (by rfl) (by rfl) rfl (Nat.le_of_ble_eq_true rfl) (by rfl) (by rw [rd9]; rfl) (s_r_gives hW hA) ?_
            refine Ev.ps 1 rfl ?_
            exact Ev.re rfl rfl rfl rfl rfl
      · rw [if_neg c5]
        refine Ev.ps 2 rfl ?_
        refine Ev.pf (by rfl) (by rfl) (by rfl) (Nat.le_of_ble_eq_true rfl) rfl (Or.inl (by rfl)) (rd9) (show _ = enc C (mkR aMk aSu aMac aMem aTk aPaid aNd aDay aOw aMo aDy aSt aLe aWk aSta aDue aCm aCb aCl aEnt aMt aBl aBar aPr aLs aLnum aLm aSh aBrk 2) (mkW zO zD zX zL zXs zG5 zG6 zG7 zc zn) from wr9_Thr (v := 2)) ?_
        refine Ev.ps 1 rfl ?_
        refine Ev.getf (v := vI 2) (by rfl) (by rfl) (by rfl) (rd9) rfl ?_
        refine Ev.ifi (by rfl) (by rfl) (fun z => by exact absurd z (by decide)) (fun _ => ?_)
        refine Ev.ps 1 rfl ?_
        exact Ev.re rfl rfl rfl rfl rfl
  · rw [if_neg c1]
    refine Ev.ps 2 rfl ?_
    refine Ev.pf (by rfl) (by rfl) (by rfl) (Nat.le_of_ble_eq_true rfl) rfl (Or.inl (by rfl)) (rd9) (show _ = enc C (mkR aMk aSu aMac aMem aTk aPaid aNd aDay aOw aMo aDy aSt aLe aWk aSta aDue aCm aCb aCl aEnt aMt aBl aBar aPr aLs aLnum aLm aSh aBrk 1) (mkW zO zD zX zL zXs zG5 zG6 zG7 zc zn) from wr9_Thr (v := 1)) ?_
    refine Ev.ps 1 rfl ?_
    refine Ev.getf (v := vI 1) (by rfl) (by rfl) (by rfl) (rd9) rfl ?_
    refine Ev.ifi (by rfl) (by rfl) (fun z => by exact absurd z (by decide)) (fun _ => ?_)
    refine Ev.ps 1 rfl ?_
    exact Ev.re rfl rfl rfl rfl rfl
def f_r_stateOf (aEnt : Nat) (aSta : Nat → Int32) (p0 : Int32) : Int32 × Int32 :=
  if f_r_isEntry aEnt p0 then (aSta (nP p0), 0) else (0, 1)
theorem s_r_stateOf {d : Nat} {W : WD} {aMk : Nat → Nat} {aSu : Nat → Int32} {aMac : Nat} {aMem : Nat} {aTk : Nat → Nat → Int32} {aPaid : Nat → Int64} {aNd : Nat → Nat → Bool} {aDay : Int32} {aOw : Nat → Nat} {aMo : Nat → Nat} {aDy : Nat → Int32} {aSt : Nat → Int32} {aLe : Nat → Int32} {aWk : Nat → Int32} {aSta : Nat → Int32} {aDue : Nat → Int32} {aCm : Nat → Nat} {aCb : Nat → Nat → Nat} {aCl : Nat → Nat → Int32} {aEnt : Nat} {aMt : Nat → Nat} {aBl : Nat → Int32} {aBar : Nat} {aPr : Nat → Int32} {aLs : Nat → Nat → Int32} {aLnum : Nat → Nat → Int32} {aLm : Nat → Nat} {aSh : Nat → Nat → Int32} {aBrk : Nat} {aThr : Int32} {C : CD} {p0 : Int32} (hW : WfR aMac aMem aEnt aBar aBrk aOw aMo aMk aCm aCb aMt aLm) (hS : ∀ e, chr (aSta e)) : Cal (d + 2) 139 [vR 9 0, vI p0] (enc C (mkR aMk aSu aMac aMem aTk aPaid aNd aDay aOw aMo aDy aSt aLe aWk aSta aDue aCm aCb aCl aEnt aMt aBl aBar aPr aLs aLnum aLm aSh aBrk aThr) W) (.inl (some (vI ((f_r_stateOf aEnt aSta p0).1)))) (enc C (mkR aMk aSu aMac aMem aTk aPaid aNd aDay aOw aMo aDy aSt aLe aWk aSta aDue aCm aCb aCl aEnt aMt aBl aBar aPr aLs aLnum aLm aSh aBrk ((f_r_stateOf aEnt aSta p0).2)) W) := by
  obtain ⟨wMac, wMem, wEnt, wBar, wBrk, wOw, wMo, wMk, wCm, wCb, wMt, wLm⟩ := id hW
  refine Cal.mk (n := 2) rfl (Nat.le_of_ble_eq_true rfl) rfl ?_
  unfold f_r_stateOf
  refine Ev.ps 3 rfl ?_
  refine Ev.vir (as := [vI p0]) (rest := [vR 9 0]) (by rfl) (by rfl) (by rfl) (by rfl) rfl (Nat.le_of_ble_eq_true rfl) (by rfl) (by rw [rd9]; rfl) (s_r_isEntry ) ?_
  refine Ev.ifbe (by rfl) (by rfl) (fun c1 => ?_) (fun c1 => ?_)
  · rw [if_pos c1]
    have q_p0 := isEntry_nat wEnt c1
    generalize nP p0 = k_p0 at q_p0 ⊢
    obtain ⟨rfl, hk_p0⟩ := q_p0
    refine Ev.ps 2 rfl ?_
    refine Ev.pf (by rfl) (by rfl) (by rfl) (Nat.le_of_ble_eq_true rfl) rfl (Or.inl (by rfl)) (rd9) (show _ = enc C (mkR aMk aSu aMac aMem aTk aPaid aNd aDay aOw aMo aDy aSt aLe aWk aSta aDue aCm aCb aCl aEnt aMt aBl aBar aPr aLs aLnum aLm aSh aBrk 0) W from wr9_Thr (v := 0)) ?_
    refine Ev.ps 1 rfl ?_
    refine Ev.getf (v := vI 0) (by rfl) (by rfl) (by rfl) (rd9) rfl ?_
    refine Ev.ifi (by rfl) (by rfl) (fun _ => ?_) (fun z => by exact absurd z (by decide))
    refine Ev.ps 1 rfl ?_
    refine Ev.getf (v := vR 38 0) (by rfl) (by rfl) (by rfl) (rd9) rfl ?_
    refine Ev.ps 1 rfl ?_
    refine Ev.aiC (k := k_p0) (v := vI (aSta k_p0)) (by rfl) (by decide) (rd38) (by omega) (by have := hk_p0; omega) rfl ?_
    exact Ev.re rfl rfl rfl rfl (rstC rfl (hS _))
  · rw [if_neg c1]
    refine Ev.ps 1 rfl ?_
    refine Ev.pf (by rfl) (by rfl) (by rfl) (Nat.le_of_ble_eq_true rfl) rfl (Or.inl (by rfl)) (rd9) (show _ = enc C (mkR aMk aSu aMac aMem aTk aPaid aNd aDay aOw aMo aDy aSt aLe aWk aSta aDue aCm aCb aCl aEnt aMt aBl aBar aPr aLs aLnum aLm aSh aBrk 1) W from wr9_Thr (v := 1)) ?_
    refine Ev.ps 1 rfl ?_
    refine Ev.getf (v := vI 1) (by rfl) (by rfl) (by rfl) (rd9) rfl ?_
    refine Ev.ifi (by rfl) (by rfl) (fun z => by exact absurd z (by decide)) (fun _ => ?_)
    refine Ev.ps 2 rfl ?_
    exact Ev.re rfl rfl rfl rfl rfl
def r_endDay_L101 (aCb : Nat → Nat → Nat) (aCl : Nat → Nat → Int32) (aMt : Nat → Nat) (aPr : Nat → Int32) (j32 : Nat) : Nat → Nat → (Nat → Int32) → ((Nat → Int32))
  | 0, j101, aDue_101 =>
    aDue_101
  | k101 + 1, j101, aDue_101 =>
    r_endDay_L101 aCb aCl aMt aPr j32 k101 (j101 + 1) (fup aDue_101 j32 ((aDue_101 j32) + ((((aCl j32 j101) * (aPr (aMt (aCb j32 j101)))) + 99) / 100)))
def r_endDay_L32 (aCb : Nat → Nat → Nat) (aCl : Nat → Nat → Int32) (aCm : Nat → Nat) (aDay : Int32) (aDy : Nat → Int32) (aLe : Nat → Int32) (aLm : Nat → Nat) (aLnum : Nat → Nat → Int32) (aLs : Nat → Nat → Int32) (aMk : Nat → Nat) (aMo : Nat → Nat) (aMt : Nat → Nat) (aPr : Nat → Int32)  : Nat → Nat → Int32 → (Nat → Int32) → (Nat → Int32) → List Ob → Nat → Nat → (Int32 × (Nat → Int32) × (Nat → Int32) × List Ob × Nat × Nat)
  | 0, j32, many, aSta_32, aDue_32, zG5_32, zc_32, zn_32 =>
    (many, aSta_32, aDue_32, zG5_32, zc_32, zn_32)
  | k32 + 1, j32, many, aSta_32, aDue_32, zG5_32, zc_32, zn_32 =>
    if aDy j32 = aDay then
      if aSta_32 j32 = 98 then
        r_endDay_L32 aCb aCl aCm aDay aDy aLe aLm aLnum aLs aMk aMo aMt aPr  k32 (j32 + 1) (many + 1) (fup aSta_32 j32 100) (r_endDay_L101 aCb aCl aMt aPr j32 (aCm j32) 0 (fup aDue_32 j32 ((f_r_cost aLm aLnum aLs (aMk (aMo j32)) (aLe j32)).1))) (zG5_32 ++ [pl 6 (fun k => vI (((f_r_cost aLm aLnum aLs (aMk (aMo j32)) (aLe j32)).2) k))]) (zc_32 + 1) (zn_32 + 6)
      else
        if aDy j32 = aDay then
          if aSta_32 j32 = 119 then
            r_endDay_L32 aCb aCl aCm aDay aDy aLe aLm aLnum aLs aMk aMo aMt aPr  k32 (j32 + 1) many (fup aSta_32 j32 120) aDue_32 zG5_32 zc_32 zn_32
          else
            r_endDay_L32 aCb aCl aCm aDay aDy aLe aLm aLnum aLs aMk aMo aMt aPr  k32 (j32 + 1) many aSta_32 aDue_32 zG5_32 zc_32 zn_32
        else
          r_endDay_L32 aCb aCl aCm aDay aDy aLe aLm aLnum aLs aMk aMo aMt aPr  k32 (j32 + 1) many aSta_32 aDue_32 zG5_32 zc_32 zn_32
    else
      if aDy j32 = aDay then
        if aSta_32 j32 = 119 then
          r_endDay_L32 aCb aCl aCm aDay aDy aLe aLm aLnum aLs aMk aMo aMt aPr  k32 (j32 + 1) many (fup aSta_32 j32 120) aDue_32 zG5_32 zc_32 zn_32
        else
          r_endDay_L32 aCb aCl aCm aDay aDy aLe aLm aLnum aLs aMk aMo aMt aPr  k32 (j32 + 1) many aSta_32 aDue_32 zG5_32 zc_32 zn_32
      else
        r_endDay_L32 aCb aCl aCm aDay aDy aLe aLm aLnum aLs aMk aMo aMt aPr  k32 (j32 + 1) many aSta_32 aDue_32 zG5_32 zc_32 zn_32
def f_r_endDay (aCb : Nat → Nat → Nat) (aCl : Nat → Nat → Int32) (aCm : Nat → Nat) (aDay : Int32) (aDue : Nat → Int32) (aDy : Nat → Int32) (aEnt : Nat) (aLe : Nat → Int32) (aLm : Nat → Nat) (aLnum : Nat → Nat → Int32) (aLs : Nat → Nat → Int32) (aMk : Nat → Nat) (aMo : Nat → Nat) (aMt : Nat → Nat) (aNd : Nat → Nat → Bool) (aOw : Nat → Nat) (aPr : Nat → Int32) (aSt : Nat → Int32) (aSta : Nat → Int32) (aSu : Nat → Int32) (aTk : Nat → Nat → Int32) (aWk : Nat → Int32) (zG5 : List Ob) (zc : Nat) (zn : Nat)  : Int32 × Int32 × (Nat → Int32) × (Nat → Int32) × Int32 × List Ob × Nat × Nat :=
  if aDay = 900 then
    (0, aDay, aSta, aDue, 1, zG5, zc, zn)
  else
    ((r_endDay_L32 aCb aCl aCm aDay aDy aLe aLm aLnum aLs aMk aMo aMt aPr  aEnt 0 0 aSta aDue zG5 zc zn).1, aDay + 1, f_r_gives aDy aEnt aLe aMk aMo aNd aOw aSt ((r_endDay_L32 aCb aCl aCm aDay aDy aLe aLm aLnum aLs aMk aMo aMt aPr  aEnt 0 0 aSta aDue zG5 zc zn).2.1) aSu aTk aWk, (r_endDay_L32 aCb aCl aCm aDay aDy aLe aLm aLnum aLs aMk aMo aMt aPr  aEnt 0 0 aSta aDue zG5 zc zn).2.2.1, 0, (r_endDay_L32 aCb aCl aCm aDay aDy aLe aLm aLnum aLs aMk aMo aMt aPr  aEnt 0 0 aSta aDue zG5 zc zn).2.2.2.1, (r_endDay_L32 aCb aCl aCm aDay aDy aLe aLm aLnum aLs aMk aMo aMt aPr  aEnt 0 0 aSta aDue zG5 zc zn).2.2.2.2.1, (r_endDay_L32 aCb aCl aCm aDay aDy aLe aLm aLnum aLs aMk aMo aMt aPr  aEnt 0 0 aSta aDue zG5 zc zn).2.2.2.2.2)
theorem s_r_endDay {d : Nat} {zO : Int64} {zD : UInt64} {zX : Nat} {zL : Nat} {zXs : Nat → Int32} {zG5 : List Ob} {zG6 : List Ob} {zG7 : List Ob} {zc : Nat} {zn : Nat} {aMk : Nat → Nat} {aSu : Nat → Int32} {aMac : Nat} {aMem : Nat} {aTk : Nat → Nat → Int32} {aPaid : Nat → Int64} {aNd : Nat → Nat → Bool} {aDay : Int32} {aOw : Nat → Nat} {aMo : Nat → Nat} {aDy : Nat → Int32} {aSt : Nat → Int32} {aLe : Nat → Int32} {aWk : Nat → Int32} {aSta : Nat → Int32} {aDue : Nat → Int32} {aCm : Nat → Nat} {aCb : Nat → Nat → Nat} {aCl : Nat → Nat → Int32} {aEnt : Nat} {aMt : Nat → Nat} {aBl : Nat → Int32} {aBar : Nat} {aPr : Nat → Int32} {aLs : Nat → Nat → Int32} {aLnum : Nat → Nat → Int32} {aLm : Nat → Nat} {aSh : Nat → Nat → Int32} {aBrk : Nat} {aThr : Int32} {C : CD}  (hW : WfR aMac aMem aEnt aBar aBrk aOw aMo aMk aCm aCb aMt aLm) (hA : Acy aNd) : Cal (d + 9) 141 [vR 9 0] (enc C (mkR aMk aSu aMac aMem aTk aPaid aNd aDay aOw aMo aDy aSt aLe aWk aSta aDue aCm aCb aCl aEnt aMt aBl aBar aPr aLs aLnum aLm aSh aBrk aThr) (mkW zO zD zX zL zXs zG5 zG6 zG7 zc zn)) (.inl (some (vI ((f_r_endDay aCb aCl aCm aDay aDue aDy aEnt aLe aLm aLnum aLs aMk aMo aMt aNd aOw aPr aSt aSta aSu aTk aWk zG5 zc zn).1)))) (enc C (mkR aMk aSu aMac aMem aTk aPaid aNd ((f_r_endDay aCb aCl aCm aDay aDue aDy aEnt aLe aLm aLnum aLs aMk aMo aMt aNd aOw aPr aSt aSta aSu aTk aWk zG5 zc zn).2.1) aOw aMo aDy aSt aLe aWk ((f_r_endDay aCb aCl aCm aDay aDue aDy aEnt aLe aLm aLnum aLs aMk aMo aMt aNd aOw aPr aSt aSta aSu aTk aWk zG5 zc zn).2.2.1) ((f_r_endDay aCb aCl aCm aDay aDue aDy aEnt aLe aLm aLnum aLs aMk aMo aMt aNd aOw aPr aSt aSta aSu aTk aWk zG5 zc zn).2.2.2.1) aCm aCb aCl aEnt aMt aBl aBar aPr aLs aLnum aLm aSh aBrk ((f_r_endDay aCb aCl aCm aDay aDue aDy aEnt aLe aLm aLnum aLs aMk aMo aMt aNd aOw aPr aSt aSta aSu aTk aWk zG5 zc zn).2.2.2.2.1)) (mkW zO zD zX zL zXs ((f_r_endDay aCb aCl aCm aDay aDue aDy aEnt aLe aLm aLnum aLs aMk aMo aMt aNd aOw aPr aSt aSta aSu aTk aWk zG5 zc zn).2.2.2.2.2.1) zG6 zG7 ((f_r_endDay aCb aCl aCm aDay aDue aDy aEnt aLe aLm aLnum aLs aMk aMo aMt aNd aOw aPr aSt aSta aSu aTk aWk zG5 zc zn).2.2.2.2.2.2.1) ((f_r_endDay aCb aCl aCm aDay aDue aDy aEnt aLe aLm aLnum aLs aMk aMo aMt aNd aOw aPr aSt aSta aSu aTk aWk zG5 zc zn).2.2.2.2.2.2.2))) := by
  obtain ⟨wMac, wMem, wEnt, wBar, wBrk, wOw, wMo, wMk, wCm, wCb, wMt, wLm⟩ := id hW
  refine Cal.mk (n := 4) rfl (Nat.le_of_ble_eq_true rfl) rfl ?_
  unfold f_r_endDay
  refine Ev.ps 2 rfl ?_
  refine Ev.getf (v := vI aDay) (by rfl) (by rfl) (by rfl) (rd9) rfl ?_
  refine Ev.ps 1 rfl ?_
  refine Ev.ine (by rfl) (by rfl) (fun (c1 : aDay = 900) => ?_) (fun (c1 : ¬ aDay = 900) => ?_)
  · rw [if_pos c1]
    refine Ev.ps 2 rfl ?_
    refine Ev.pf (by rfl) (by rfl) (by rfl) (Nat.le_of_ble_eq_true rfl) rfl (Or.inl (by rfl)) (rd9) (show _ = enc C (mkR aMk aSu aMac aMem aTk aPaid aNd aDay aOw aMo aDy aSt aLe aWk aSta aDue aCm aCb aCl aEnt aMt aBl aBar aPr aLs aLnum aLm aSh aBrk 1) (mkW zO zD zX zL zXs zG5 zG6 zG7 zc zn) from wr9_Thr (v := 1)) ?_
    refine Ev.ps 1 rfl ?_
    refine Ev.getf (v := vI 1) (by rfl) (by rfl) (by rfl) (rd9) rfl ?_
    refine Ev.ifi (by rfl) (by rfl) (fun z => by exact absurd z (by decide)) (fun _ => ?_)
    refine Ev.ps 1 rfl ?_
    exact Ev.re rfl rfl rfl rfl rfl
  · rw [if_neg c1]
    refine Ev.ps 1 rfl ?_
    refine Ev.pf (by rfl) (by rfl) (by rfl) (Nat.le_of_ble_eq_true rfl) rfl (Or.inl (by rfl)) (rd9) (show _ = enc C (mkR aMk aSu aMac aMem aTk aPaid aNd aDay aOw aMo aDy aSt aLe aWk aSta aDue aCm aCb aCl aEnt aMt aBl aBar aPr aLs aLnum aLm aSh aBrk 0) (mkW zO zD zX zL zXs zG5 zG6 zG7 zc zn) from wr9_Thr (v := 0)) ?_
    refine Ev.ps 1 rfl ?_
    refine Ev.getf (v := vI 0) (by rfl) (by rfl) (by rfl) (rd9) rfl ?_
    refine Ev.ifi (by rfl) (by rfl) (fun _ => ?_) (fun z => by exact absurd z (by decide))
    refine Ev.ps 4 rfl ?_
    have L32 : ∀ {x : Re × Hp}, ∀ (k32 j32 : Nat) (many : Int32) (aSta_32 : Nat → Int32) (aDue_32 : Nat → Int32) (zG5_32 : List Ob) (zc_32 : Nat) (zn_32 : Nat) (o32_3 : Option MV), j32 + k32 = aEnt → Da o32_3 → (∀ (e32_3 : Option MV) (e32_2 : Option MV), Da e32_3 → Da e32_2 → Ev (d + 9) (141, 203, [some (vR 9 0), some (vI ((r_endDay_L32 aCb aCl aCm aDay aDy aLe aLm aLnum aLs aMk aMo aMt aPr  k32 j32 many aSta_32 aDue_32 zG5_32 zc_32 zn_32).1)), e32_2, e32_3], []) (enc C (mkR aMk aSu aMac aMem aTk aPaid aNd aDay aOw aMo aDy aSt aLe aWk ((r_endDay_L32 aCb aCl aCm aDay aDy aLe aLm aLnum aLs aMk aMo aMt aPr  k32 j32 many aSta_32 aDue_32 zG5_32 zc_32 zn_32).2.1) ((r_endDay_L32 aCb aCl aCm aDay aDy aLe aLm aLnum aLs aMk aMo aMt aPr  k32 j32 many aSta_32 aDue_32 zG5_32 zc_32 zn_32).2.2.1) aCm aCb aCl aEnt aMt aBl aBar aPr aLs aLnum aLm aSh aBrk 0) (mkW zO zD zX zL zXs ((r_endDay_L32 aCb aCl aCm aDay aDy aLe aLm aLnum aLs aMk aMo aMt aPr  k32 j32 many aSta_32 aDue_32 zG5_32 zc_32 zn_32).2.2.2.1) zG6 zG7 ((r_endDay_L32 aCb aCl aCm aDay aDy aLe aLm aLnum aLs aMk aMo aMt aPr  k32 j32 many aSta_32 aDue_32 zG5_32 zc_32 zn_32).2.2.2.2.1) ((r_endDay_L32 aCb aCl aCm aDay aDy aLe aLm aLnum aLs aMk aMo aMt aPr  k32 j32 many aSta_32 aDue_32 zG5_32 zc_32 zn_32).2.2.2.2.2))) x) → Ev (d + 9) (141, 32, [some (vR 9 0), some (vI many), some (vI (nI j32)), o32_3], []) (enc C (mkR aMk aSu aMac aMem aTk aPaid aNd aDay aOw aMo aDy aSt aLe aWk aSta_32 aDue_32 aCm aCb aCl aEnt aMt aBl aBar aPr aLs aLnum aLm aSh aBrk 0) (mkW zO zD zX zL zXs zG5_32 zG6 zG7 zc_32 zn_32)) x := by
      intro x k32
      induction k32 with
      | zero =>
        intro j32 many aSta_32 aDue_32 zG5_32 zc_32 zn_32 o32_3 hj32 ho32_3 K32
        rw [r_endDay_L32] at K32
        refine Ev.ps 2 rfl ?_
        refine Ev.getf (v := vI (nI aEnt)) (by rfl) (by rfl) (by rfl) (rd9) rfl ?_
        refine Ev.igeN (a := j32) (b := aEnt) (by omega) (by omega) (by rfl) (by rfl) (fun (c2 : j32 < aEnt) => ?_) (fun (c2 : ¬ j32 < aEnt) => ?_)
        · exfalso; omega
        · exact K32 _ _ ho32_3 Da.i
      | succ k32 ih32 =>
        intro j32 many aSta_32 aDue_32 zG5_32 zc_32 zn_32 o32_3 hj32 ho32_3 K32
        rw [r_endDay_L32] at K32
        refine Ev.ps 2 rfl ?_
        refine Ev.getf (v := vI (nI aEnt)) (by rfl) (by rfl) (by rfl) (rd9) rfl ?_
        refine Ev.igeN (a := j32) (b := aEnt) (by omega) (by omega) (by rfl) (by rfl) (fun (c3 : j32 < aEnt) => ?_) (fun (c3 : ¬ j32 < aEnt) => ?_)
        · refine Ev.ps 1 rfl ?_
          refine Ev.getf (v := vR 34 0) (by rfl) (by rfl) (by rfl) (rd9) rfl ?_
          refine Ev.ps 1 rfl ?_
          refine Ev.aiI (k := j32) (v := vI (aDy j32)) (by rfl) (by decide) (rd34) (by omega) (by omega) rfl ?_
          refine Ev.ps 1 rfl ?_
          refine Ev.getf (v := vI aDay) (by rfl) (by rfl) (by rfl) (rd9) rfl ?_
          refine Ev.ine (by rfl) (by rfl) (fun (c4 : aDy j32 = aDay) => ?_) (fun (c4 : ¬ aDy j32 = aDay) => ?_)
          · rw [if_pos c4] at K32
            refine Ev.ps 1 rfl ?_
            refine Ev.getf (v := vR 38 0) (by rfl) (by rfl) (by rfl) (rd9) rfl ?_
            refine Ev.ps 1 rfl ?_
            refine Ev.aiC (k := j32) (v := vI (aSta_32 j32)) (by rfl) (by decide) (rd38) (by omega) (by omega) rfl ?_
            refine Ev.ps 1 rfl ?_
            refine Ev.ine (by rfl) (by rfl) (fun (c5 : aSta_32 j32 = 98) => ?_) (fun (c5 : ¬ aSta_32 j32 = 98) => ?_)
            · rw [if_pos c5] at K32
              refine Ev.ps 1 rfl ?_
              refine Ev.getf (v := vR 38 0) (by rfl) (by rfl) (by rfl) (rd9) rfl ?_
              refine Ev.ps 2 rfl ?_
              refine Ev.asC (k := j32) (by rfl) (by rfl) (by unfold chr; decide) (rd38) (by omega) (by omega) (show _ = enc C (mkR aMk aSu aMac aMem aTk aPaid aNd aDay aOw aMo aDy aSt aLe aWk (fup aSta_32 j32 100) aDue_32 aCm aCb aCl aEnt aMt aBl aBar aPr aLs aLnum aLm aSh aBrk 0) (mkW zO zD zX zL zXs zG5_32 zG6 zG7 zc_32 zn_32) from wr38 (i := j32) (v := 100)) ?_
              refine Ev.ps 1 rfl ?_
              refine Ev.getf (v := vR 39 0) (by rfl) (by rfl) (by rfl) (rd9) rfl ?_
              refine Ev.ps 3 rfl ?_
              refine Ev.getf (v := vR 25 0) (by rfl) (by rfl) (by rfl) (rd9) rfl ?_
              refine Ev.ps 1 rfl ?_
              refine Ev.getf (v := vR 33 0) (by rfl) (by rfl) (by rfl) (rd9) rfl ?_
              refine Ev.ps 1 rfl ?_
              refine Ev.aiI (k := j32) (v := vI (nI (aMo j32))) (by rfl) (by decide) (rd33) (by omega) (by omega) rfl ?_
              refine Ev.aiI (k := (aMo j32)) (v := vI (nI (aMk (aMo j32)))) (by rfl) (by decide) (rd25) (by omega) (by have := wMo j32; omega) rfl ?_
              refine Ev.ps 1 rfl ?_
              refine Ev.getf (v := vR 36 0) (by rfl) (by rfl) (by rfl) (rd9) rfl ?_
              refine Ev.ps 1 rfl ?_
              refine Ev.aiI (k := j32) (v := vI (aLe j32)) (by rfl) (by decide) (rd36) (by omega) (by omega) rfl ?_
              refine Ev.vir (as := [vI (nI (aMk (aMo j32))), vI (aLe j32)]) (rest := [vI (nI j32), vR 39 0]) (by rfl) (by rfl) (by rfl) (by rfl) rfl (Nat.le_of_ble_eq_true rfl) (by rfl) (by rw [rd9]; rfl) (s_r_cost hW (by have := wMk (aMo j32); omega)) ?_
              refine Ev.asI (k := j32) (by rfl) (by rfl) (rd39) (by omega) (by omega) (show _ = enc C (mkR aMk aSu aMac aMem aTk aPaid aNd aDay aOw aMo aDy aSt aLe aWk (fup aSta_32 j32 100) (fup aDue_32 j32 ((f_r_cost aLm aLnum aLs (aMk (aMo j32)) (aLe j32)).1)) aCm aCb aCl aEnt aMt aBl aBar aPr aLs aLnum aLm aSh aBrk 0) (mkW zO zD zX zL zXs (zG5_32 ++ [pl 6 (fun k => vI (((f_r_cost aLm aLnum aLs (aMk (aMo j32)) (aLe j32)).2) k))]) zG6 zG7 (zc_32 + 1) (zn_32 + 6)) from wr39 (i := j32) (v := (f_r_cost aLm aLnum aLs (aMk (aMo j32)) (aLe j32)).1)) ?_
              refine Ev.ps 2 rfl ?_
              have L101 : ∀ {x : Re × Hp}, ∀ (k101 j101 : Nat) (aDue_101 : Nat → Int32), j101 + k101 = aCm j32 → (∀ (e101_3 : Option MV), Da e101_3 → Ev (d + 9) (141, 159, [some (vR 9 0), some (vI many), some (vI (nI j32)), e101_3], []) (enc C (mkR aMk aSu aMac aMem aTk aPaid aNd aDay aOw aMo aDy aSt aLe aWk (fup aSta_32 j32 100) (r_endDay_L101 aCb aCl aMt aPr j32 k101 j101 aDue_101) aCm aCb aCl aEnt aMt aBl aBar aPr aLs aLnum aLm aSh aBrk 0) (mkW zO zD zX zL zXs (zG5_32 ++ [pl 6 (fun k => vI (((f_r_cost aLm aLnum aLs (aMk (aMo j32)) (aLe j32)).2) k))]) zG6 zG7 (zc_32 + 1) (zn_32 + 6))) x) → Ev (d + 9) (141, 101, [some (vR 9 0), some (vI many), some (vI (nI j32)), some (vI (nI j101))], []) (enc C (mkR aMk aSu aMac aMem aTk aPaid aNd aDay aOw aMo aDy aSt aLe aWk (fup aSta_32 j32 100) aDue_101 aCm aCb aCl aEnt aMt aBl aBar aPr aLs aLnum aLm aSh aBrk 0) (mkW zO zD zX zL zXs (zG5_32 ++ [pl 6 (fun k => vI (((f_r_cost aLm aLnum aLs (aMk (aMo j32)) (aLe j32)).2) k))]) zG6 zG7 (zc_32 + 1) (zn_32 + 6))) x := by
                intro x k101
                induction k101 with
                | zero =>
                  intro j101 aDue_101 hj101 K101
                  rw [r_endDay_L101] at K101
                  refine Ev.ps 2 rfl ?_
                  refine Ev.getf (v := vR 40 0) (by rfl) (by rfl) (by rfl) (rd9) rfl ?_
                  refine Ev.ps 1 rfl ?_
                  refine Ev.aiI (k := j32) (v := vI (nI (aCm j32))) (by rfl) (by decide) (rd40) (by omega) (by omega) rfl ?_
                  refine Ev.igeN (a := j101) (b := (aCm j32)) (by have := wCm j32; omega) (by have := wCm j32; omega) (by rfl) (by rfl) (fun (c6 : j101 < aCm j32) => ?_) (fun (c6 : ¬ j101 < aCm j32) => ?_)
                  · exfalso; omega
                  · exact K101 _ Da.i
                | succ k101 ih101 =>
                  intro j101 aDue_101 hj101 K101
                  rw [r_endDay_L101] at K101
                  refine Ev.ps 2 rfl ?_
                  refine Ev.getf (v := vR 40 0) (by rfl) (by rfl) (by rfl) (rd9) rfl ?_
                  refine Ev.ps 1 rfl ?_
                  refine Ev.aiI (k := j32) (v := vI (nI (aCm j32))) (by rfl) (by decide) (rd40) (by omega) (by omega) rfl ?_
                  refine Ev.igeN (a := j101) (b := (aCm j32)) (by have := wCm j32; omega) (by have := wCm j32; omega) (by rfl) (by rfl) (fun (c7 : j101 < aCm j32) => ?_) (fun (c7 : ¬ j101 < aCm j32) => ?_)
                  · refine Ev.ps 1 rfl ?_
                    refine Ev.getf (v := vR 39 0) (by rfl) (by rfl) (by rfl) (rd9) rfl ?_
                    refine Ev.ps 2 rfl ?_
                    refine Ev.aiI (k := j32) (v := vI (aDue_101 j32)) (by rfl) (by decide) (rd39) (by omega) (by omega) rfl ?_
                    refine Ev.ps 1 rfl ?_
                    refine Ev.getf (v := vR 43 0) (by rfl) (by rfl) (by rfl) (rd9) rfl ?_
                    refine Ev.ps 1 rfl ?_
                    refine Ev.aiA (k := j32) (v := vR 44 j32) (by rfl) (by decide) (rd43) (by omega) (by omega) rfl ?_
                    refine Ev.ps 1 rfl ?_
                    refine Ev.aiI (k := j101) (v := vI (aCl j32 j101)) (by rfl) (by decide) (rd44 (by omega)) (by omega) (by have := wCm j32; omega) rfl ?_
                    refine Ev.ps 1 rfl ?_
                    refine Ev.getf (v := vR 47 0) (by rfl) (by rfl) (by rfl) (rd9) rfl ?_
                    refine Ev.ps 1 rfl ?_
                    refine Ev.getf (v := vR 45 0) (by rfl) (by rfl) (by rfl) (rd9) rfl ?_
                    refine Ev.ps 1 rfl ?_
                    refine Ev.getf (v := vR 41 0) (by rfl) (by rfl) (by rfl) (rd9) rfl ?_
                    refine Ev.ps 1 rfl ?_
                    refine Ev.aiA (k := j32) (v := vR 42 j32) (by rfl) (by decide) (rd41) (by omega) (by omega) rfl ?_
                    refine Ev.ps 1 rfl ?_
                    refine Ev.aiI (k := j101) (v := vI (nI (aCb j32 j101))) (by rfl) (by decide) (rd42 (by omega)) (by omega) (by have := wCm j32; omega) rfl ?_
                    refine Ev.aiI (k := (aCb j32 j101)) (v := vI (nI (aMt (aCb j32 j101)))) (by rfl) (by decide) (rd45) (by omega) (by have := wCb j32 j101; omega) rfl ?_
                    refine Ev.aiI (k := (aMt (aCb j32 j101))) (v := vI (aPr (aMt (aCb j32 j101)))) (by rfl) (by decide) (rd47) (by omega) (by have := wMt (aCb j32 j101); omega) rfl ?_
                    refine Ev.ps 6 rfl ?_
                    refine Ev.asI (k := j32) (by rfl) (by rfl) (rd39) (by omega) (by omega) (show _ = enc C (mkR aMk aSu aMac aMem aTk aPaid aNd aDay aOw aMo aDy aSt aLe aWk (fup aSta_32 j32 100) (fup aDue_101 j32 ((aDue_101 j32) + ((((aCl j32 j101) * (aPr (aMt (aCb j32 j101)))) + 99) / 100))) aCm aCb aCl aEnt aMt aBl aBar aPr aLs aLnum aLm aSh aBrk 0) (mkW zO zD zX zL zXs (zG5_32 ++ [pl 6 (fun k => vI (((f_r_cost aLm aLnum aLs (aMk (aMo j32)) (aLe j32)).2) k))]) zG6 zG7 (zc_32 + 1) (zn_32 + 6)) from wr39 (i := j32) (v := (aDue_101 j32) + ((((aCl j32 j101) * (aPr (aMt (aCb j32 j101)))) + 99) / 100))) ?_
                    refine Ev.ps 2 rfl ?_
                    have h9 := ih101 (j101 + 1) (fup aDue_101 j32 ((aDue_101 j32) + ((((aCl j32 j101) * (aPr (aMt (aCb j32 j101)))) + 99) / 100))) (by show j101 + 1 + k101 = aCm j32; omega) K101
                    rw [← nI_1] at h9
                    exact h9
                  · exfalso; omega
              refine L101 (aCm j32) 0 (fup aDue_32 j32 ((f_r_cost aLm aLnum aLs (aMk (aMo j32)) (aLe j32)).1)) (by show 0 + aCm j32 = aCm j32; omega) ?_
              intro e101_3 he101_3
              refine Ev.ps 4 rfl ?_
              have h9 := ih32 (j32 + 1) (many + 1) (fup aSta_32 j32 100) (r_endDay_L101 aCb aCl aMt aPr j32 (aCm j32) 0 (fup aDue_32 j32 ((f_r_cost aLm aLnum aLs (aMk (aMo j32)) (aLe j32)).1))) (zG5_32 ++ [pl 6 (fun k => vI (((f_r_cost aLm aLnum aLs (aMk (aMo j32)) (aLe j32)).2) k))]) (zc_32 + 1) (zn_32 + 6) e101_3 (by show j32 + 1 + k32 = aEnt; omega) he101_3 K32
              rw [← nI_1] at h9
              exact h9
            · rw [if_neg c5] at K32
              refine Ev.ps 1 rfl ?_
              refine Ev.getf (v := vR 34 0) (by rfl) (by rfl) (by rfl) (rd9) rfl ?_
              refine Ev.ps 1 rfl ?_
              refine Ev.aiI (k := j32) (v := vI (aDy j32)) (by rfl) (by decide) (rd34) (by omega) (by omega) rfl ?_
              refine Ev.ps 1 rfl ?_
              refine Ev.getf (v := vI aDay) (by rfl) (by rfl) (by rfl) (rd9) rfl ?_
              refine Ev.ine (by rfl) (by rfl) (fun (c8 : aDy j32 = aDay) => ?_) (fun (c8 : ¬ aDy j32 = aDay) => ?_)
              · rw [if_pos c8] at K32
                refine Ev.ps 1 rfl ?_
                refine Ev.getf (v := vR 38 0) (by rfl) (by rfl) (by rfl) (rd9) rfl ?_
                refine Ev.ps 1 rfl ?_
                refine Ev.aiC (k := j32) (v := vI (aSta_32 j32)) (by rfl) (by decide) (rd38) (by omega) (by omega) rfl ?_
                refine Ev.ps 1 rfl ?_
                refine Ev.ine (by rfl) (by rfl) (fun (c9 : aSta_32 j32 = 119) => ?_) (fun (c9 : ¬ aSta_32 j32 = 119) => ?_)
                · rw [if_pos c9] at K32
                  refine Ev.ps 1 rfl ?_
                  refine Ev.getf (v := vR 38 0) (by rfl) (by rfl) (by rfl) (rd9) rfl ?_
                  refine Ev.ps 2 rfl ?_
                  refine Ev.asC (k := j32) (by rfl) (by rfl) (by unfold chr; decide) (rd38) (by omega) (by omega) (show _ = enc C (mkR aMk aSu aMac aMem aTk aPaid aNd aDay aOw aMo aDy aSt aLe aWk (fup aSta_32 j32 120) aDue_32 aCm aCb aCl aEnt aMt aBl aBar aPr aLs aLnum aLm aSh aBrk 0) (mkW zO zD zX zL zXs zG5_32 zG6 zG7 zc_32 zn_32) from wr38 (i := j32) (v := 120)) ?_
                  refine Ev.ps 2 rfl ?_
                  have h9 := ih32 (j32 + 1) many (fup aSta_32 j32 120) aDue_32 zG5_32 zc_32 zn_32 o32_3 (by show j32 + 1 + k32 = aEnt; omega) ho32_3 K32
                  rw [← nI_1] at h9
                  exact h9
                · rw [if_neg c9] at K32
                  refine Ev.ps 2 rfl ?_
                  have h9 := ih32 (j32 + 1) many aSta_32 aDue_32 zG5_32 zc_32 zn_32 o32_3 (by show j32 + 1 + k32 = aEnt; omega) ho32_3 K32
                  rw [← nI_1] at h9
                  exact h9
              · rw [if_neg c8] at K32
                refine Ev.ps 2 rfl ?_
                have h9 := ih32 (j32 + 1) many aSta_32 aDue_32 zG5_32 zc_32 zn_32 o32_3 (by show j32 + 1 + k32 = aEnt; omega) ho32_3 K32
                rw [← nI_1] at h9
                exact h9
          · rw [if_neg c4] at K32
            refine Ev.ps 1 rfl ?_
            refine Ev.getf (v := vR 34 0) (by rfl) (by rfl) (by rfl) (rd9) rfl ?_
            refine Ev.ps 1 rfl ?_
            refine Ev.aiI (k := j32) (v := vI (aDy j32)) (by rfl) (by decide) (rd34) (by omega) (by omega) rfl ?_
            refine Ev.ps 1 rfl ?_
            refine Ev.getf (v := vI aDay) (by rfl) (by rfl) (by rfl) (rd9) rfl ?_
            refine Ev.ine (by rfl) (by rfl) (fun (c10 : aDy j32 = aDay) => ?_) (fun (c10 : ¬ aDy j32 = aDay) => ?_)
            · rw [if_pos c10] at K32
              refine Ev.ps 1 rfl ?_
              refine Ev.getf (v := vR 38 0) (by rfl) (by rfl) (by rfl) (rd9) rfl ?_
              refine Ev.ps 1 rfl ?_
              refine Ev.aiC (k := j32) (v := vI (aSta_32 j32)) (by rfl) (by decide) (rd38) (by omega) (by omega) rfl ?_
              refine Ev.ps 1 rfl ?_
              refine Ev.ine (by rfl) (by rfl) (fun (c11 : aSta_32 j32 = 119) => ?_) (fun (c11 : ¬ aSta_32 j32 = 119) => ?_)
              · rw [if_pos c11] at K32
                refine Ev.ps 1 rfl ?_
                refine Ev.getf (v := vR 38 0) (by rfl) (by rfl) (by rfl) (rd9) rfl ?_
                refine Ev.ps 2 rfl ?_
                refine Ev.asC (k := j32) (by rfl) (by rfl) (by unfold chr; decide) (rd38) (by omega) (by omega) (show _ = enc C (mkR aMk aSu aMac aMem aTk aPaid aNd aDay aOw aMo aDy aSt aLe aWk (fup aSta_32 j32 120) aDue_32 aCm aCb aCl aEnt aMt aBl aBar aPr aLs aLnum aLm aSh aBrk 0) (mkW zO zD zX zL zXs zG5_32 zG6 zG7 zc_32 zn_32) from wr38 (i := j32) (v := 120)) ?_
                refine Ev.ps 2 rfl ?_
                have h9 := ih32 (j32 + 1) many (fup aSta_32 j32 120) aDue_32 zG5_32 zc_32 zn_32 o32_3 (by show j32 + 1 + k32 = aEnt; omega) ho32_3 K32
                rw [← nI_1] at h9
                exact h9
              · rw [if_neg c11] at K32
                refine Ev.ps 2 rfl ?_
                have h9 := ih32 (j32 + 1) many aSta_32 aDue_32 zG5_32 zc_32 zn_32 o32_3 (by show j32 + 1 + k32 = aEnt; omega) ho32_3 K32
                rw [← nI_1] at h9
                exact h9
            · rw [if_neg c10] at K32
              refine Ev.ps 2 rfl ?_
              have h9 := ih32 (j32 + 1) many aSta_32 aDue_32 zG5_32 zc_32 zn_32 o32_3 (by show j32 + 1 + k32 = aEnt; omega) ho32_3 K32
              rw [← nI_1] at h9
              exact h9
        · exfalso; omega
    refine L32 aEnt 0 0 aSta aDue zG5 zc zn none (by show 0 + aEnt = aEnt; omega) Da.n ?_
    intro e32_3 e32_2 he32_3 he32_2
    refine Ev.ps 2 rfl ?_
    refine Ev.getf (v := vI aDay) (by rfl) (by rfl) (by rfl) (rd9) rfl ?_
    refine Ev.ps 2 rfl ?_
    refine Ev.pf (by rfl) (by rfl) (by rfl) (Nat.le_of_ble_eq_true rfl) rfl (Or.inl (by rfl)) (rd9) (show _ = enc C (mkR aMk aSu aMac aMem aTk aPaid aNd (aDay + 1) aOw aMo aDy aSt aLe aWk ((r_endDay_L32 aCb aCl aCm aDay aDy aLe aLm aLnum aLs aMk aMo aMt aPr  aEnt 0 0 aSta aDue zG5 zc zn).2.1) ((r_endDay_L32 aCb aCl aCm aDay aDy aLe aLm aLnum aLs aMk aMo aMt aPr  aEnt 0 0 aSta aDue zG5 zc zn).2.2.1) aCm aCb aCl aEnt aMt aBl aBar aPr aLs aLnum aLm aSh aBrk 0) (mkW zO zD zX zL zXs ((r_endDay_L32 aCb aCl aCm aDay aDy aLe aLm aLnum aLs aMk aMo aMt aPr  aEnt 0 0 aSta aDue zG5 zc zn).2.2.2.1) zG6 zG7 ((r_endDay_L32 aCb aCl aCm aDay aDy aLe aLm aLnum aLs aMk aMo aMt aPr  aEnt 0 0 aSta aDue zG5 zc zn).2.2.2.2.1) ((r_endDay_L32 aCb aCl aCm aDay aDy aLe aLm aLnum aLs aMk aMo aMt aPr  aEnt 0 0 aSta aDue zG5 zc zn).2.2.2.2.2)) from wr9_Day (v := aDay + 1)) ?_
    refine Ev.ps 1 rfl ?_
    refine Ev.vir (as := []) (rest := []) (by rfl) (by rfl) (by rfl) (by rfl) rfl (Nat.le_of_ble_eq_true rfl) (by rfl) (by rw [rd9]; rfl) (s_r_gives hW hA) ?_
    refine Ev.ps 1 rfl ?_
    exact Ev.re rfl rfl rfl rfl rfl
