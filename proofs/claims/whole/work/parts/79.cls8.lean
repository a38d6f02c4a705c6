/-! the class: cancel, induct, isSound, layers (written by gcls8.py) -/
theorem chr_ccl {qDay : Int32} {qEd : Nat → Int32} {qSt : Nat → Int32} {e : Nat} : chr (f_c_cletter qDay qEd qSt e) := by
  unfold f_c_cletter
  repeat' split
  all_goals (unfold chr; decide)
def f_c_cancel (qBf : Nat → Int32) (qCb : Nat → Nat) (qCl : Nat → Int32) (qCu : Nat → List Nat) (qDay : Int32) (qDu : Nat → Int32) (qEc : Nat → Nat) (qEd : Nat → Int32) (qEe : Nat → Int32) (qEl : Nat → Int32) (qEm : Nat → Nat) (qEn : Nat) (qEs : Nat → Int32) (qEw : Nat → Int32) (qLy : Nat → Ly) (qMh : Nat → List Nat) (qMk : Nat → Nat) (qMs : Nat → Int32) (qNb : Nat → Int32) (qPl : Nat → Nat → Int32) (qPo : Nat → Int32) (qSt : Nat → Int32) (qTf : Nat → Nat) (zc : Nat) (zn : Nat) (p0 : Int32) : Re × (Nat → List Nat) × (Nat → Int32) × (Nat → Int32) × (Nat → Int32) × (Nat → List Nat) × (Nat → Int32) × Nat × Nat :=
  if f_r_isEntry qEn p0 = true then
    if f_c_isOpen qSt (nP p0) then
      if f_c_cletter qDay qEd qSt (nP p0) = 104 then
        ((.inl (some (vI (f_c_cletter qDay qEd qSt (nP p0))))), (f_c_bookW qEc qEd qEe qEl qEm qEn qEs qEw ((f_c_withdraw qBf qCb qCl qCu qEc qEd qEs qMh qSt (nP p0)).1) qMk qMs qNb qPl ((f_c_withdraw qBf qCb qCl qCu qEc qEd qEs qMh qSt (nP p0)).2.1) zc zn).1, (f_c_charge qDu qEm qPo (nP p0) ((f_c_timePrice qEc qEl qLy qMk qTf (nP p0)) / 2)).1, (f_c_bookW qEc qEd qEe qEl qEm qEn qEs qEw ((f_c_withdraw qBf qCb qCl qCu qEc qEd qEs qMh qSt (nP p0)).1) qMk qMs qNb qPl ((f_c_withdraw qBf qCb qCl qCu qEc qEd qEs qMh qSt (nP p0)).2.1) zc zn).2.1, (f_c_charge qDu qEm qPo (nP p0) ((f_c_timePrice qEc qEl qLy qMk qTf (nP p0)) / 2)).2, (f_c_withdraw qBf qCb qCl qCu qEc qEd qEs qMh qSt (nP p0)).2.2.1, (f_c_withdraw qBf qCb qCl qCu qEc qEd qEs qMh qSt (nP p0)).2.2.2, (f_c_bookW qEc qEd qEe qEl qEm qEn qEs qEw ((f_c_withdraw qBf qCb qCl qCu qEc qEd qEs qMh qSt (nP p0)).1) qMk qMs qNb qPl ((f_c_withdraw qBf qCb qCl qCu qEc qEd qEs qMh qSt (nP p0)).2.1) zc zn).2.2.1, (f_c_bookW qEc qEd qEe qEl qEm qEn qEs qEw ((f_c_withdraw qBf qCb qCl qCu qEc qEd qEs qMh qSt (nP p0)).1) qMk qMs qNb qPl ((f_c_withdraw qBf qCb qCl qCu qEc qEd qEs qMh qSt (nP p0)).2.1) zc zn).2.2.2)
      else
        ((.inl (some (vI (f_c_cletter qDay qEd qSt (nP p0))))), (f_c_bookW qEc qEd qEe qEl qEm qEn qEs qEw ((f_c_withdraw qBf qCb qCl qCu qEc qEd qEs qMh qSt (nP p0)).1) qMk qMs qNb qPl ((f_c_withdraw qBf qCb qCl qCu qEc qEd qEs qMh qSt (nP p0)).2.1) zc zn).1, qPo, (f_c_bookW qEc qEd qEe qEl qEm qEn qEs qEw ((f_c_withdraw qBf qCb qCl qCu qEc qEd qEs qMh qSt (nP p0)).1) qMk qMs qNb qPl ((f_c_withdraw qBf qCb qCl qCu qEc qEd qEs qMh qSt (nP p0)).2.1) zc zn).2.1, qDu, (f_c_withdraw qBf qCb qCl qCu qEc qEd qEs qMh qSt (nP p0)).2.2.1, (f_c_withdraw qBf qCb qCl qCu qEc qEd qEs qMh qSt (nP p0)).2.2.2, (f_c_bookW qEc qEd qEe qEl qEm qEn qEs qEw ((f_c_withdraw qBf qCb qCl qCu qEc qEd qEs qMh qSt (nP p0)).1) qMk qMs qNb qPl ((f_c_withdraw qBf qCb qCl qCu qEc qEd qEs qMh qSt (nP p0)).2.1) zc zn).2.2.1, (f_c_bookW qEc qEd qEe qEl qEm qEn qEs qEw ((f_c_withdraw qBf qCb qCl qCu qEc qEd qEs qMh qSt (nP p0)).1) qMk qMs qNb qPl ((f_c_withdraw qBf qCb qCl qCu qEc qEd qEs qMh qSt (nP p0)).2.1) zc zn).2.2.2)
    else
      ((.inr 5), qMh, qPo, qSt, qDu, qCu, qBf, zc + 1, zn + 6)
  else
    ((.inr 4), qMh, qPo, qSt, qDu, qCu, qBf, zc + 1, zn + 6)
theorem s_c_cancel {d : Nat} {zO : Int64} {zD : UInt64} {zX : Nat} {zL : Nat} {zXs : Nat → Int32} {zG5 : List Ob} {zG6 : List Ob} {zG7 : List Ob} {zc : Nat} {zn : Nat} {R : RD} {qNb : Nat → Int32} {qTf : Nat → Nat} {qLn : Nat} {qLy : Nat → Ly} {qMn : Nat} {qMk : Nat → Nat} {qMs : Nat → Int32} {qMh : Nat → List Nat} {qPn : Nat} {qPl : Nat → Nat → Int32} {qPo : Nat → Int32} {qPp : Nat → Int32} {qEn : Nat} {qEm : Nat → Nat} {qEc : Nat → Nat} {qEd : Nat → Int32} {qEs : Nat → Int32} {qEl : Nat → Int32} {qEe : Nat → Int32} {qEw : Nat → Int32} {qSt : Nat → Int32} {qDu : Nat → Int32} {qCu : Nat → List Nat} {qCn : Nat} {qCb : Nat → Nat} {qCl : Nat → Int32} {qBn : Nat} {qBm : Nat → Nat} {qBl : Nat → Int32} {qBf : Nat → Int32} {qKn : Nat} {qKl : Nat → Nat} {qKs : Nat → Nat → Int32} {qPr : Nat → Int32} {qDay : Int32} {qG2 : List Ob} {qG4 : List Ob} {qX1 : List Ob} {qX3 : List Ob} {p0 : Int32} (hW : WfC qMn qPn qEn qBn qKn qCn qLn qMk qEm qEc qCb qBm qTf qKl qMh qCu qLy) (hI : HI qEc qSt qMh) : Cal (d + 14) 30 [vR 8 0, vI p0] (enc (mkC qNb qTf qLn qLy qMn qMk qMs qMh qPn qPl qPo qPp qEn qEm qEc qEd qEs qEl qEe qEw qSt qDu qCu qCn qCb qCl qBn qBm qBl qBf qKn qKl qKs qPr qDay qG2 qG4 qX1 qX3) R (mkW zO zD zX zL zXs zG5 zG6 zG7 zc zn)) ((f_c_cancel qBf qCb qCl qCu qDay qDu qEc qEd qEe qEl qEm qEn qEs qEw qLy qMh qMk qMs qNb qPl qPo qSt qTf zc zn p0).1) (enc (mkC qNb qTf qLn qLy qMn qMk qMs ((f_c_cancel qBf qCb qCl qCu qDay qDu qEc qEd qEe qEl qEm qEn qEs qEw qLy qMh qMk qMs qNb qPl qPo qSt qTf zc zn p0).2.1) qPn qPl ((f_c_cancel qBf qCb qCl qCu qDay qDu qEc qEd qEe qEl qEm qEn qEs qEw qLy qMh qMk qMs qNb qPl qPo qSt qTf zc zn p0).2.2.1) qPp qEn qEm qEc qEd qEs qEl qEe qEw ((f_c_cancel qBf qCb qCl qCu qDay qDu qEc qEd qEe qEl qEm qEn qEs qEw qLy qMh qMk qMs qNb qPl qPo qSt qTf zc zn p0).2.2.2.1) ((f_c_cancel qBf qCb qCl qCu qDay qDu qEc qEd qEe qEl qEm qEn qEs qEw qLy qMh qMk qMs qNb qPl qPo qSt qTf zc zn p0).2.2.2.2.1) ((f_c_cancel qBf qCb qCl qCu qDay qDu qEc qEd qEe qEl qEm qEn qEs qEw qLy qMh qMk qMs qNb qPl qPo qSt qTf zc zn p0).2.2.2.2.2.1) qCn qCb qCl qBn qBm qBl ((f_c_cancel qBf qCb qCl qCu qDay qDu qEc qEd qEe qEl qEm qEn qEs qEw qLy qMh qMk qMs qNb qPl qPo qSt qTf zc zn p0).2.2.2.2.2.2.1) qKn qKl qKs qPr qDay qG2 qG4 qX1 qX3) R (mkW zO zD zX zL zXs zG5 zG6 zG7 ((f_c_cancel qBf qCb qCl qCu qDay qDu qEc qEd qEe qEl qEm qEn qEs qEw qLy qMh qMk qMs qNb qPl qPo qSt qTf zc zn p0).2.2.2.2.2.2.2.1) ((f_c_cancel qBf qCb qCl qCu qDay qDu qEc qEd qEe qEl qEm qEn qEs qEw qLy qMh qMk qMs qNb qPl qPo qSt qTf zc zn p0).2.2.2.2.2.2.2.2))) := by
  obtain ⟨wMn, wPn, wEn, wBn, wKn, wMk, wEm, wEc, wCb, wBm, wTf, wKl, wMh, wMl, wCu, wCl, wLy⟩ := id hW
  refine Cal.mk (n := 4) rfl (Nat.le_of_ble_eq_true rfl) rfl ?_
  unfold f_c_cancel
  refine Ev.ps 2 rfl ?_
  by_cases c1 : f_r_isEntry qEn p0 = true
  · rw [if_pos c1]
    have q_p0 := isEntry_nat wEn c1
    generalize nP p0 = k_p0 at q_p0 ⊢
    obtain ⟨rfl, hk_p0⟩ := q_p0
    refine Ev.vir (as := [vI (nI k_p0)]) (rest := []) (by rfl) (by rfl) (by rfl) (by rfl) rfl (Nat.le_of_ble_eq_true rfl) (by rfl) (by rw [rd8]; rfl) (s_entryAt rd8 (by rfl) rd13 (by omega) hk_p0 (by rw [rd3 hk_p0]; rfl)) ?_
    refine Ev.ps 2 rfl ?_
    refine Ev.vir (as := []) (rest := []) (by rfl) (by rfl) (by rfl) (by rfl) rfl (Nat.le_of_ble_eq_true rfl) (by rfl) (by rw [rd3 (by have := hk_p0; omega)]; rfl) (s_c_isOpen hW (by have := hk_p0; omega)) ?_
    refine Ev.ifbn (by rfl) (by rfl) (fun c2 => ?_) (fun c2 => ?_)
    · rw [if_pos c2]
      refine Ev.ps 2 rfl ?_
      refine Ev.vir (as := [vR 3 k_p0]) (rest := []) (by rfl) (by rfl) (by rfl) (by rfl) rfl (Nat.le_of_ble_eq_true rfl) (by rfl) (by rw [rd8]; rfl) (s_c_cletter hW (by have := hk_p0; omega)) ?_
      refine Ev.ps 2 rfl ?_
      refine Ev.sta (as := [vR 3 k_p0]) (rest := []) (by rfl) (by rfl) (by rfl) (by rfl) rfl (Nat.le_of_ble_eq_true rfl) (s_c_withdraw hW (by have := hk_p0; omega)) ?_
      have hW2 := wd_W (e := k_p0) (qSt := qSt) (qEd := qEd) (qEs := qEs) (qBf := qBf) (qCl := qCl) hW
      have hI2 := wd_I (e := k_p0) (qEd := qEd) (qEs := qEs) (qBf := qBf) (qCl := qCl) (qCu := qCu) (qCb := qCb) hI
      refine Ev.ps 2 rfl ?_
      refine Ev.ine (by rfl) (by rfl) (fun (c3 : f_c_cletter qDay qEd qSt k_p0 = 104) => ?_) (fun (c3 : ¬ f_c_cletter qDay qEd qSt k_p0 = 104) => ?_)
      · rw [if_pos c3]
        refine Ev.ps 2 rfl ?_
        refine Ev.sta (as := [vR 3 k_p0]) (rest := [vR 3 k_p0]) (by rfl) (by rfl) (by rfl) (by rfl) rfl (Nat.le_of_ble_eq_true rfl) (s_c_timePrice hW2 (by have := hk_p0; omega)) ?_
        refine Ev.ps 2 rfl ?_
        refine Ev.sta (as := [vR 3 k_p0, vI ((f_c_timePrice qEc qEl qLy qMk qTf k_p0) / 2)]) (rest := []) (by rfl) (by rfl) (by rfl) (by rfl) rfl (Nat.le_of_ble_eq_true rfl) (s_c_charge hW2 (by have := hk_p0; omega)) ?_
        refine Ev.ps 1 rfl ?_
        refine Ev.vir (as := []) (rest := []) (by rfl) (by rfl) (by rfl) (by rfl) rfl (Nat.le_of_ble_eq_true rfl) (by rfl) (by rw [rd8]; rfl) (s_c_bookW hW2 hI2) ?_
        refine Ev.ps 1 rfl ?_
        exact Ev.re rfl rfl rfl rfl (rstC rfl chr_ccl)
      · rw [if_neg c3]
        refine Ev.ps 1 rfl ?_
        refine Ev.vir (as := []) (rest := []) (by rfl) (by rfl) (by rfl) (by rfl) rfl (Nat.le_of_ble_eq_true rfl) (by rfl) (by rw [rd8]; rfl) (s_c_bookW hW2 hI2) ?_
        refine Ev.ps 1 rfl ?_
        exact Ev.re rfl rfl rfl rfl (rstC rfl chr_ccl)
    · rw [if_neg c2]
      exact Ev.thwE (by rfl)
  · rw [if_neg c1]
    exact Ev.virX (as := [vI p0]) (rest := []) (by rfl) (by rfl) (by rfl) (by rfl) rfl (Nat.le_of_ble_eq_true rfl) (by rfl) (by rw [rd8]; rfl) (cexc (s_entryAtX rd8 (by rfl) rd13 (not_in_nat (by omega) c1))) (by rfl)
def f_c_induct (qDay : Int32) (qEc : Nat → Nat) (qEd : Nat → Int32) (qEe : Nat → Int32) (qEl : Nat → Int32) (qEm : Nat → Nat) (qEn : Nat) (qEs : Nat → Int32) (qEw : Nat → Int32) (qMh : Nat → List Nat) (qMk : Nat → Nat) (qMs : Nat → Int32) (qNb : Nat → Int32) (qPl : Nat → Nat → Int32) (qPn : Nat) (qSt : Nat → Int32) (zc : Nat) (zn : Nat) (p0 p1 : Int32) : Re × (Nat → List Nat) × (Nat → Nat → Int32) × (Nat → Int32) × Nat × Nat :=
  if f_r_isMember qPn p0 = true then
    if f_r_isKind p1 = true then
      if f_c_needsLive qNb qPl (nP p0) (nP p1) qDay then
        if f_c_lastTaken qPl (nP p0) (nP p1) = (-1) then
          ((.inl (some (vI (-1)))), (f_c_bookW qEc qEd qEe qEl qEm qEn qEs qEw qMh qMk qMs qNb (f_c_take qPl (nP p0) (nP p1) qDay) qSt zc zn).1, f_c_take qPl (nP p0) (nP p1) qDay, (f_c_bookW qEc qEd qEe qEl qEm qEn qEs qEw qMh qMk qMs qNb (f_c_take qPl (nP p0) (nP p1) qDay) qSt zc zn).2.1, (f_c_bookW qEc qEd qEe qEl qEm qEn qEs qEw qMh qMk qMs qNb (f_c_take qPl (nP p0) (nP p1) qDay) qSt zc zn).2.2.1, (f_c_bookW qEc qEd qEe qEl qEm qEn qEs qEw qMh qMk qMs qNb (f_c_take qPl (nP p0) (nP p1) qDay) qSt zc zn).2.2.2)
        else
          ((.inl (some (vI (qDay - (f_c_lastTaken qPl (nP p0) (nP p1)))))), (f_c_bookW qEc qEd qEe qEl qEm qEn qEs qEw qMh qMk qMs qNb (f_c_take qPl (nP p0) (nP p1) qDay) qSt zc zn).1, f_c_take qPl (nP p0) (nP p1) qDay, (f_c_bookW qEc qEd qEe qEl qEm qEn qEs qEw qMh qMk qMs qNb (f_c_take qPl (nP p0) (nP p1) qDay) qSt zc zn).2.1, (f_c_bookW qEc qEd qEe qEl qEm qEn qEs qEw qMh qMk qMs qNb (f_c_take qPl (nP p0) (nP p1) qDay) qSt zc zn).2.2.1, (f_c_bookW qEc qEd qEe qEl qEm qEn qEs qEw qMh qMk qMs qNb (f_c_take qPl (nP p0) (nP p1) qDay) qSt zc zn).2.2.2)
      else
        ((.inr 2), qMh, qPl, qSt, zc + 1, zn + 6)
    else
      ((.inr 1), qMh, qPl, qSt, zc + 1, zn + 6)
  else
    ((.inr 0), qMh, qPl, qSt, zc + 1, zn + 6)
theorem s_c_induct {d : Nat} {zO : Int64} {zD : UInt64} {zX : Nat} {zL : Nat} {zXs : Nat → Int32} {zG5 : List Ob} {zG6 : List Ob} {zG7 : List Ob} {zc : Nat} {zn : Nat} {R : RD} {qNb : Nat → Int32} {qTf : Nat → Nat} {qLn : Nat} {qLy : Nat → Ly} {qMn : Nat} {qMk : Nat → Nat} {qMs : Nat → Int32} {qMh : Nat → List Nat} {qPn : Nat} {qPl : Nat → Nat → Int32} {qPo : Nat → Int32} {qPp : Nat → Int32} {qEn : Nat} {qEm : Nat → Nat} {qEc : Nat → Nat} {qEd : Nat → Int32} {qEs : Nat → Int32} {qEl : Nat → Int32} {qEe : Nat → Int32} {qEw : Nat → Int32} {qSt : Nat → Int32} {qDu : Nat → Int32} {qCu : Nat → List Nat} {qCn : Nat} {qCb : Nat → Nat} {qCl : Nat → Int32} {qBn : Nat} {qBm : Nat → Nat} {qBl : Nat → Int32} {qBf : Nat → Int32} {qKn : Nat} {qKl : Nat → Nat} {qKs : Nat → Nat → Int32} {qPr : Nat → Int32} {qDay : Int32} {qG2 : List Ob} {qG4 : List Ob} {qX1 : List Ob} {qX3 : List Ob} {p0 : Int32} {p1 : Int32} (hW : WfC qMn qPn qEn qBn qKn qCn qLn qMk qEm qEc qCb qBm qTf qKl qMh qCu qLy) (hI : HI qEc qSt qMh) : Cal (d + 14) 25 [vR 8 0, vI p0, vI p1] (enc (mkC qNb qTf qLn qLy qMn qMk qMs qMh qPn qPl qPo qPp qEn qEm qEc qEd qEs qEl qEe qEw qSt qDu qCu qCn qCb qCl qBn qBm qBl qBf qKn qKl qKs qPr qDay qG2 qG4 qX1 qX3) R (mkW zO zD zX zL zXs zG5 zG6 zG7 zc zn)) ((f_c_induct qDay qEc qEd qEe qEl qEm qEn qEs qEw qMh qMk qMs qNb qPl qPn qSt zc zn p0 p1).1) (enc (mkC qNb qTf qLn qLy qMn qMk qMs ((f_c_induct qDay qEc qEd qEe qEl qEm qEn qEs qEw qMh qMk qMs qNb qPl qPn qSt zc zn p0 p1).2.1) qPn ((f_c_induct qDay qEc qEd qEe qEl qEm qEn qEs qEw qMh qMk qMs qNb qPl qPn qSt zc zn p0 p1).2.2.1) qPo qPp qEn qEm qEc qEd qEs qEl qEe qEw ((f_c_induct qDay qEc qEd qEe qEl qEm qEn qEs qEw qMh qMk qMs qNb qPl qPn qSt zc zn p0 p1).2.2.2.1) qDu qCu qCn qCb qCl qBn qBm qBl qBf qKn qKl qKs qPr qDay qG2 qG4 qX1 qX3) R (mkW zO zD zX zL zXs zG5 zG6 zG7 ((f_c_induct qDay qEc qEd qEe qEl qEm qEn qEs qEw qMh qMk qMs qNb qPl qPn qSt zc zn p0 p1).2.2.2.2.1) ((f_c_induct qDay qEc qEd qEe qEl qEm qEn qEs qEw qMh qMk qMs qNb qPl qPn qSt zc zn p0 p1).2.2.2.2.2))) := by
  obtain ⟨wMn, wPn, wEn, wBn, wKn, wMk, wEm, wEc, wCb, wBm, wTf, wKl, wMh, wMl, wCu, wCl, wLy⟩ := id hW
  refine Cal.mk (n := 6) rfl (Nat.le_of_ble_eq_true rfl) rfl ?_
  unfold f_c_induct
  refine Ev.ps 2 rfl ?_
  by_cases c1 : f_r_isMember qPn p0 = true
  · rw [if_pos c1]
    have q_p0 := isMember_nat wPn c1
    generalize nP p0 = k_p0 at q_p0 ⊢
    obtain ⟨rfl, hk_p0⟩ := q_p0
    refine Ev.vir (as := [vI (nI k_p0)]) (rest := []) (by rfl) (by rfl) (by rfl) (by rfl) rfl (Nat.le_of_ble_eq_true rfl) (by rfl) (by rw [rd8]; rfl) (s_memberAt rd8 (by rfl) rd12 (by omega) hk_p0 (by rw [rd7 hk_p0]; rfl)) ?_
    refine Ev.ps 3 rfl ?_
    by_cases c2 : f_r_isKind p1 = true
    · rw [if_pos c2]
      have q_p1 := isKind_nat c2
      generalize nP p1 = k_p1 at q_p1 ⊢
      obtain ⟨rfl, hk_p1⟩ := q_p1
      refine Ev.vir (as := [vI (nI k_p1)]) (rest := []) (by rfl) (by rfl) (by rfl) (by rfl) rfl (Nat.le_of_ble_eq_true rfl) (by rfl) (by rw [rd8]; rfl) (s_kindAt rd8 (by rfl) rd10 (by decide) hk_p1 (by rw [rd4 hk_p1]; rfl)) ?_
      refine Ev.ps 5 rfl ?_
      refine Ev.getf (v := vI qDay) (by rfl) (by rfl) (by rfl) (rd8) rfl ?_
      refine Ev.ps 1 rfl ?_
      refine Ev.vir (as := [vR 7 k_p0, vR 4 k_p1, vI qDay, vI 0]) (rest := []) (by rfl) (by rfl) (by rfl) (by rfl) rfl (Nat.le_of_ble_eq_true rfl) (by rfl) (by rw [rd8]; rfl) (s_c_needsLive (by have := hk_p0; omega) (by have := hk_p1; omega)) ?_
      refine Ev.ifbn (by rfl) (by rfl) (fun c3 => ?_) (fun c3 => ?_)
      · rw [if_pos c3]
        refine Ev.ps 2 rfl ?_
        refine Ev.vir (as := [vR 4 k_p1]) (rest := []) (by rfl) (by rfl) (by rfl) (by rfl) rfl (Nat.le_of_ble_eq_true rfl) (by rfl) (by rw [rd7 (by have := hk_p0; omega)]; rfl) (s_c_lastTaken hW (by have := hk_p0; omega) (by have := hk_p1; omega)) ?_
        refine Ev.ps 4 rfl ?_
        refine Ev.getf (v := vI qDay) (by rfl) (by rfl) (by rfl) (rd8) rfl ?_
        refine Ev.vir (as := [vR 4 k_p1, vI qDay]) (rest := []) (by rfl) (by rfl) (by rfl) (by rfl) rfl (Nat.le_of_ble_eq_true rfl) (by rfl) (by rw [rd7 (by have := hk_p0; omega)]; rfl) (s_c_take hW (by have := hk_p0; omega) (by have := hk_p1; omega)) ?_
        refine Ev.ps 1 rfl ?_
        refine Ev.vir (as := []) (rest := []) (by rfl) (by rfl) (by rfl) (by rfl) rfl (Nat.le_of_ble_eq_true rfl) (by rfl) (by rw [rd8]; rfl) (s_c_bookW hW hI) ?_
        refine Ev.ps 2 rfl ?_
        refine Ev.ine (by rfl) (by rfl) (fun (c4 : f_c_lastTaken qPl k_p0 k_p1 = (-1)) => ?_) (fun (c4 : ¬ f_c_lastTaken qPl k_p0 k_p1 = (-1)) => ?_)
        · rw [if_pos c4]
          refine Ev.ps 2 rfl ?_
          exact Ev.re rfl rfl rfl rfl rfl
        · rw [if_neg c4]
          refine Ev.ps 1 rfl ?_
          refine Ev.getf (v := vI qDay) (by rfl) (by rfl) (by rfl) (rd8) rfl ?_
          refine Ev.ps 2 rfl ?_
          exact Ev.re rfl rfl rfl rfl rfl
      · rw [if_neg c3]
        exact Ev.thwE (by rfl)
    · rw [if_neg c2]
      exact Ev.virX (as := [vI p1]) (rest := []) (by rfl) (by rfl) (by rfl) (by rfl) rfl (Nat.le_of_ble_eq_true rfl) (by rfl) (by rw [rd8]; rfl) (cexc (s_kindAtX rd8 (by rfl) rd10 (not_in_nat (n := 4) (by decide) c2))) (by rfl)
  · rw [if_neg c1]
    exact Ev.virX (as := [vI p0]) (rest := []) (by rfl) (by rfl) (by rfl) (by rfl) rfl (Nat.le_of_ble_eq_true rfl) (by rfl) (by rw [rd8]; rfl) (cexc (s_memberAtX rd8 (by rfl) rd12 (not_in_nat (by omega) c1))) (by rfl)
def f_c_isSound (qBf : Nat → Int32) (qBl : Nat → Int32) (qBn : Nat) (qCb : Nat → Nat) (qCl : Nat → Int32) (qCu : Nat → List Nat) (qDay : Int32) (qDu : Nat → Int32) (qEc : Nat → Nat) (qEd : Nat → Int32) (qEe : Nat → Int32) (qEl : Nat → Int32) (qEm : Nat → Nat) (qEn : Nat) (qEs : Nat → Int32) (qEw : Nat → Int32) (qKl : Nat → Nat) (qKn : Nat) (qKs : Nat → Nat → Int32) (qMh : Nat → List Nat) (qMk : Nat → Nat) (qMn : Nat) (qMs : Nat → Int32) (qNb : Nat → Int32) (qPl : Nat → Nat → Int32) (qPn : Nat) (qPo : Nat → Int32) (qPp : Nat → Int32) (qSt : Nat → Int32)  : Bool :=
  if f_c_entSound qEc qEd qEe qEl qEm qEn qEs qEw qMh qMk qMs qNb qPl qSt then
    if f_c_barsAgree qBf qBl qBn qCb qCl qCu qEn then
      if f_c_debtsAgree qDu qEm qEn qKl qKn qKs qPn qPo qPp then if f_c_minAgree qDay qEc qEd qEe qEl qEm qEs qEw qMh qMn qMs qSt then true else false else false
    else
      false
  else
    false
theorem s_c_isSound {d : Nat} {zO : Int64} {zD : UInt64} {zX : Nat} {zL : Nat} {zXs : Nat → Int32} {zG5 : List Ob} {zG6 : List Ob} {zG7 : List Ob} {zc : Nat} {zn : Nat} {R : RD} {qNb : Nat → Int32} {qTf : Nat → Nat} {qLn : Nat} {qLy : Nat → Ly} {qMn : Nat} {qMk : Nat → Nat} {qMs : Nat → Int32} {qMh : Nat → List Nat} {qPn : Nat} {qPl : Nat → Nat → Int32} {qPo : Nat → Int32} {qPp : Nat → Int32} {qEn : Nat} {qEm : Nat → Nat} {qEc : Nat → Nat} {qEd : Nat → Int32} {qEs : Nat → Int32} {qEl : Nat → Int32} {qEe : Nat → Int32} {qEw : Nat → Int32} {qSt : Nat → Int32} {qDu : Nat → Int32} {qCu : Nat → List Nat} {qCn : Nat} {qCb : Nat → Nat} {qCl : Nat → Int32} {qBn : Nat} {qBm : Nat → Nat} {qBl : Nat → Int32} {qBf : Nat → Int32} {qKn : Nat} {qKl : Nat → Nat} {qKs : Nat → Nat → Int32} {qPr : Nat → Int32} {qDay : Int32} {qG2 : List Ob} {qG4 : List Ob} {qX1 : List Ob} {qX3 : List Ob}  (hW : WfC qMn qPn qEn qBn qKn qCn qLn qMk qEm qEc qCb qBm qTf qKl qMh qCu qLy) (hD : 0 ≤ qDay.toInt ∧ qDay.toInt ≤ 900) : Cal (d + 13) 61 [vR 8 0] (enc (mkC qNb qTf qLn qLy qMn qMk qMs qMh qPn qPl qPo qPp qEn qEm qEc qEd qEs qEl qEe qEw qSt qDu qCu qCn qCb qCl qBn qBm qBl qBf qKn qKl qKs qPr qDay qG2 qG4 qX1 qX3) R (mkW zO zD zX zL zXs zG5 zG6 zG7 zc zn)) (.inl (some (vI (bI (f_c_isSound qBf qBl qBn qCb qCl qCu qDay qDu qEc qEd qEe qEl qEm qEn qEs qEw qKl qKn qKs qMh qMk qMn qMs qNb qPl qPn qPo qPp qSt))))) (enc (mkC qNb qTf qLn qLy qMn qMk qMs qMh qPn qPl qPo qPp qEn qEm qEc qEd qEs qEl qEe qEw qSt qDu qCu qCn qCb qCl qBn qBm qBl qBf qKn qKl qKs qPr qDay qG2 qG4 qX1 qX3) R (mkW zO zD zX zL zXs zG5 zG6 zG7 zc zn)) := by
  obtain ⟨wMn, wPn, wEn, wBn, wKn, wMk, wEm, wEc, wCb, wBm, wTf, wKl, wMh, wMl, wCu, wCl, wLy⟩ := id hW
  refine Cal.mk (n := 1) rfl (Nat.le_of_ble_eq_true rfl) rfl ?_
  unfold f_c_isSound
  refine Ev.ps 1 rfl ?_
  refine Ev.vir (as := []) (rest := []) (by rfl) (by rfl) (by rfl) (by rfl) rfl (Nat.le_of_ble_eq_true rfl) (by rfl) (by rw [rd8]; rfl) (s_c_entSound hW) ?_
  refine Ev.ifbe (by rfl) (by rfl) (fun c1 => ?_) (fun c1 => ?_)
  · rw [if_pos c1]
    refine Ev.ps 1 rfl ?_
    refine Ev.vir (as := []) (rest := []) (by rfl) (by rfl) (by rfl) (by rfl) rfl (Nat.le_of_ble_eq_true rfl) (by rfl) (by rw [rd8]; rfl) (s_c_barsAgree hW) ?_
    refine Ev.ifbe (by rfl) (by rfl) (fun c2 => ?_) (fun c2 => ?_)
    · rw [if_pos c2]
      refine Ev.ps 1 rfl ?_
      refine Ev.vir (as := []) (rest := []) (by rfl) (by rfl) (by rfl) (by rfl) rfl (Nat.le_of_ble_eq_true rfl) (by rfl) (by rw [rd8]; rfl) (s_c_debtsAgree hW) ?_
      refine Ev.ifbe (by rfl) (by rfl) (fun c3 => ?_) (fun c3 => ?_)
      · rw [if_pos c3]
        refine Ev.ps 1 rfl ?_
        refine Ev.vir (as := []) (rest := []) (by rfl) (by rfl) (by rfl) (by rfl) rfl (Nat.le_of_ble_eq_true rfl) (by rfl) (by rw [rd8]; rfl) (s_c_minAgree hW hD) ?_
        refine Ev.ifbe (by rfl) (by rfl) (fun c4 => ?_) (fun c4 => ?_)
        · rw [if_pos c4]
          refine Ev.ps 2 rfl ?_
          exact Ev.re rfl rfl rfl rfl rfl
        · rw [if_neg c4]
          refine Ev.ps 1 rfl ?_
          exact Ev.re rfl rfl rfl rfl rfl
      · rw [if_neg c3]
        refine Ev.ps 1 rfl ?_
        exact Ev.re rfl rfl rfl rfl rfl
    · rw [if_neg c2]
      refine Ev.ps 1 rfl ?_
      exact Ev.re rfl rfl rfl rfl rfl
  · rw [if_neg c1]
    refine Ev.ps 1 rfl ?_
    exact Ev.re rfl rfl rfl rfl rfl
