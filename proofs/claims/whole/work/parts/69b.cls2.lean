/-! the class: calls that only read, 1 (written by gcls2.py) -/
def f_c_check (qDay : Int32) (qEc : Nat → Nat) (qEd : Nat → Int32) (qEe : Nat → Int32) (qEl : Nat → Int32) (qEm : Nat → Nat) (qEn : Nat) (qEs : Nat → Int32) (qEw : Nat → Int32) (qMh : Nat → List Nat) (qMk : Nat → Nat) (qMn : Nat) (qMs : Nat → Int32) (qNb : Nat → Int32) (qPl : Nat → Nat → Int32) (qPn : Nat) (qSt : Nat → Int32) (zc : Nat) (zn : Nat) (p0 p1 D S M V : Int32) : Re × Nat × Nat :=
  if f_r_isMember qPn p0 = true then
    if f_r_isMachine qMn p1 = true then
      if timeOk qDay D S M V = true then ((.inl (some (vI (f_c_judge qEn qEm qEc qEd qEs qEl qEe qEw qSt qMh qMk qMs qNb qPl (nP p0) (nP p1) D S M V)))), zc, zn) else ((.inr 1), zc + 1, zn + 6)
    else
      ((.inr 0), zc + 1, zn + 6)
  else
    ((.inr 0), zc + 1, zn + 6)
theorem s_c_check {d : Nat} {zO : Int64} {zD : UInt64} {zX : Nat} {zL : Nat} {zXs : Nat → Int32} {zG5 : List Ob} {zG6 : List Ob} {zG7 : List Ob} {zc : Nat} {zn : Nat} {R : RD} {qNb : Nat → Int32} {qTf : Nat → Nat} {qLn : Nat} {qLy : Nat → Ly} {qMn : Nat} {qMk : Nat → Nat} {qMs : Nat → Int32} {qMh : Nat → List Nat} {qPn : Nat} {qPl : Nat → Nat → Int32} {qPo : Nat → Int32} {qPp : Nat → Int32} {qEn : Nat} {qEm : Nat → Nat} {qEc : Nat → Nat} {qEd : Nat → Int32} {qEs : Nat → Int32} {qEl : Nat → Int32} {qEe : Nat → Int32} {qEw : Nat → Int32} {qSt : Nat → Int32} {qDu : Nat → Int32} {qCu : Nat → List Nat} {qCn : Nat} {qCb : Nat → Nat} {qCl : Nat → Int32} {qBn : Nat} {qBm : Nat → Nat} {qBl : Nat → Int32} {qBf : Nat → Int32} {qKn : Nat} {qKl : Nat → Nat} {qKs : Nat → Nat → Int32} {qPr : Nat → Int32} {qDay : Int32} {qG2 : List Ob} {qG4 : List Ob} {qX1 : List Ob} {qX3 : List Ob} {p0 : Int32} {p1 : Int32} {D : Int32} {S : Int32} {M : Int32} {V : Int32} (hW : WfC qMn qPn qEn qBn qKn qCn qLn qMk qEm qEc qCb qBm qTf qKl qMh qCu qLy) : Cal (d + 11) 29 [vR 8 0, vI p0, vI p1, vI D, vI S, vI M, vI V] (enc (mkC qNb qTf qLn qLy qMn qMk qMs qMh qPn qPl qPo qPp qEn qEm qEc qEd qEs qEl qEe qEw qSt qDu qCu qCn qCb qCl qBn qBm qBl qBf qKn qKl qKs qPr qDay qG2 qG4 qX1 qX3) R (mkW zO zD zX zL zXs zG5 zG6 zG7 zc zn)) ((f_c_check qDay qEc qEd qEe qEl qEm qEn qEs qEw qMh qMk qMn qMs qNb qPl qPn qSt zc zn p0 p1 D S M V).1) (enc (mkC qNb qTf qLn qLy qMn qMk qMs qMh qPn qPl qPo qPp qEn qEm qEc qEd qEs qEl qEe qEw qSt qDu qCu qCn qCb qCl qBn qBm qBl qBf qKn qKl qKs qPr qDay qG2 qG4 qX1 qX3) R (mkW zO zD zX zL zXs zG5 zG6 zG7 ((f_c_check qDay qEc qEd qEe qEl qEm qEn qEs qEw qMh qMk qMn qMs qNb qPl qPn qSt zc zn p0 p1 D S M V).2.1) ((f_c_check qDay qEc qEd qEe qEl qEm qEn qEs qEw qMh qMk qMn qMs qNb qPl qPn qSt zc zn p0 p1 D S M V).2.2))) := by
  obtain ⟨wMn, wPn, wEn, wBn, wKn, wMk, wEm, wEc, wCb, wBm, wTf, wKl, wMh, wMl, wCu, wCl, wLy⟩ := id hW
  refine Cal.mk (n := 9) rfl (Nat.le_of_ble_eq_true rfl) rfl ?_
  unfold f_c_check
  refine Ev.ps 2 rfl ?_
  by_cases c1 : f_r_isMember qPn p0 = true
  · rw [if_pos c1]
    have q_p0 := isMember_nat wPn c1
    generalize nP p0 = k_p0 at q_p0 ⊢
    obtain ⟨rfl, hk_p0⟩ := q_p0
    refine Ev.vir (as := [vI (nI k_p0)]) (rest := []) (by rfl) (by rfl) (by rfl) (by rfl) rfl (Nat.le_of_ble_eq_true rfl) (by rfl) (by rw [rd8]; rfl) (s_memberAt rd8 (by rfl) rd12 (by omega) hk_p0 (by rw [rd7 hk_p0]; rfl)) ?_
    refine Ev.ps 3 rfl ?_
    by_cases c2 : f_r_isMachine qMn p1 = true
    · rw [if_pos c2]
      have q_p1 := isMachine_nat wMn c2
      generalize nP p1 = k_p1 at q_p1 ⊢
      obtain ⟨rfl, hk_p1⟩ := q_p1
      refine Ev.vir (as := [vI (nI k_p1)]) (rest := []) (by rfl) (by rfl) (by rfl) (by rfl) rfl (Nat.le_of_ble_eq_true rfl) (by rfl) (by rw [rd8]; rfl) (s_machineAt rd8 (by rfl) rd11 (by omega) hk_p1 (by rw [rd6 hk_p1]; rfl)) ?_
      refine Ev.ps 6 rfl ?_
      by_cases c3 : timeOk qDay D S M V = true
      · rw [if_pos c3]
        refine Ev.vir (as := [vI D, vI S, vI M, vI V]) (rest := []) (by rfl) (by rfl) (by rfl) (by rfl) rfl (Nat.le_of_ble_eq_true rfl) (by rfl) (by rw [rd8]; rfl) (s_c_timeOk hW c3) ?_
        refine Ev.ps 7 rfl ?_
        refine Ev.vir (as := [vR 7 k_p0, vR 6 k_p1, vI D, vI S, vI M, vI V]) (rest := []) (by rfl) (by rfl) (by rfl) (by rfl) rfl (Nat.le_of_ble_eq_true rfl) (by rfl) (by rw [rd8]; rfl) (s_c_judge hW (by have := hk_p0; omega) (by have := hk_p1; omega)) ?_
        exact Ev.re rfl rfl rfl rfl (rstC rfl chr_judge)
      · rw [if_neg c3]
        exact Ev.virX (as := [vI D, vI S, vI M, vI V]) (rest := []) (by rfl) (by rfl) (by rfl) (by rfl) rfl (Nat.le_of_ble_eq_true rfl) (by rfl) (by rw [rd8]; rfl) (s_c_timeX hW c3) (by rfl)
    · rw [if_neg c2]
      exact Ev.virX (as := [vI p1]) (rest := []) (by rfl) (by rfl) (by rfl) (by rfl) rfl (Nat.le_of_ble_eq_true rfl) (by rfl) (by rw [rd8]; rfl) (cexc (s_machineAtX rd8 (by rfl) rd11 (not_in_nat (by omega) c2))) (by rfl)
  · rw [if_neg c1]
    exact Ev.virX (as := [vI p0]) (rest := []) (by rfl) (by rfl) (by rfl) (by rfl) rfl (Nat.le_of_ble_eq_true rfl) (by rfl) (by rw [rd8]; rfl) (cexc (s_memberAtX rd8 (by rfl) rd12 (not_in_nat (by omega) c1))) (by rfl)
def f_c_minuteAt (qDay : Int32) (qEc : Nat → Nat) (qEd : Nat → Int32) (qEe : Nat → Int32) (qEl : Nat → Int32) (qEm : Nat → Nat) (qEs : Nat → Int32) (qEw : Nat → Int32) (qMh : Nat → List Nat) (qMn : Nat) (qMs : Nat → Int32) (qSt : Nat → Int32) (zc : Nat) (zn : Nat) (p0 D M : Int32) : Re × Nat × Nat :=
  if f_r_isMachine qMn p0 = true then
    if f_r_in D 0 (qDay + 6) = true then
      if f_r_in M 0 479 = true then
        ((.inl (some (vI (f_c_letter qEm qEc qEd qEs qEl qEe qEw qSt qMh qMs (nP p0) (f_c_placeOf qEd qEs qMh (nP p0) D 0) D M)))), zc, zn)
      else
        ((.inr 1), zc + 1, zn + 6)
    else
      ((.inr 1), zc + 1, zn + 6)
  else
    ((.inr 0), zc + 1, zn + 6)
theorem s_c_minuteAt {d : Nat} {zO : Int64} {zD : UInt64} {zX : Nat} {zL : Nat} {zXs : Nat → Int32} {zG5 : List Ob} {zG6 : List Ob} {zG7 : List Ob} {zc : Nat} {zn : Nat} {R : RD} {qNb : Nat → Int32} {qTf : Nat → Nat} {qLn : Nat} {qLy : Nat → Ly} {qMn : Nat} {qMk : Nat → Nat} {qMs : Nat → Int32} {qMh : Nat → List Nat} {qPn : Nat} {qPl : Nat → Nat → Int32} {qPo : Nat → Int32} {qPp : Nat → Int32} {qEn : Nat} {qEm : Nat → Nat} {qEc : Nat → Nat} {qEd : Nat → Int32} {qEs : Nat → Int32} {qEl : Nat → Int32} {qEe : Nat → Int32} {qEw : Nat → Int32} {qSt : Nat → Int32} {qDu : Nat → Int32} {qCu : Nat → List Nat} {qCn : Nat} {qCb : Nat → Nat} {qCl : Nat → Int32} {qBn : Nat} {qBm : Nat → Nat} {qBl : Nat → Int32} {qBf : Nat → Int32} {qKn : Nat} {qKl : Nat → Nat} {qKs : Nat → Nat → Int32} {qPr : Nat → Int32} {qDay : Int32} {qG2 : List Ob} {qG4 : List Ob} {qX1 : List Ob} {qX3 : List Ob} {p0 : Int32} {D : Int32} {M : Int32} (hW : WfC qMn qPn qEn qBn qKn qCn qLn qMk qEm qEc qCb qBm qTf qKl qMh qCu qLy) : Cal (d + 2) 34 [vR 8 0, vI p0, vI D, vI M] (enc (mkC qNb qTf qLn qLy qMn qMk qMs qMh qPn qPl qPo qPp qEn qEm qEc qEd qEs qEl qEe qEw qSt qDu qCu qCn qCb qCl qBn qBm qBl qBf qKn qKl qKs qPr qDay qG2 qG4 qX1 qX3) R (mkW zO zD zX zL zXs zG5 zG6 zG7 zc zn)) ((f_c_minuteAt qDay qEc qEd qEe qEl qEm qEs qEw qMh qMn qMs qSt zc zn p0 D M).1) (enc (mkC qNb qTf qLn qLy qMn qMk qMs qMh qPn qPl qPo qPp qEn qEm qEc qEd qEs qEl qEe qEw qSt qDu qCu qCn qCb qCl qBn qBm qBl qBf qKn qKl qKs qPr qDay qG2 qG4 qX1 qX3) R (mkW zO zD zX zL zXs zG5 zG6 zG7 ((f_c_minuteAt qDay qEc qEd qEe qEl qEm qEs qEw qMh qMn qMs qSt zc zn p0 D M).2.1) ((f_c_minuteAt qDay qEc qEd qEe qEl qEm qEs qEw qMh qMn qMs qSt zc zn p0 D M).2.2))) := by
  obtain ⟨wMn, wPn, wEn, wBn, wKn, wMk, wEm, wEc, wCb, wBm, wTf, wKl, wMh, wMl, wCu, wCl, wLy⟩ := id hW
  refine Cal.mk (n := 5) rfl (Nat.le_of_ble_eq_true rfl) rfl ?_
  unfold f_c_minuteAt
  refine Ev.ps 2 rfl ?_
  by_cases c1 : f_r_isMachine qMn p0 = true
  · rw [if_pos c1]
    have q_p0 := isMachine_nat wMn c1
    generalize nP p0 = k_p0 at q_p0 ⊢
    obtain ⟨rfl, hk_p0⟩ := q_p0
    refine Ev.vir (as := [vI (nI k_p0)]) (rest := []) (by rfl) (by rfl) (by rfl) (by rfl) rfl (Nat.le_of_ble_eq_true rfl) (by rfl) (by rw [rd8]; rfl) (s_machineAt rd8 (by rfl) rd11 (by omega) hk_p0 (by rw [rd6 hk_p0]; rfl)) ?_
    refine Ev.ps 4 rfl ?_
    refine Ev.getf (v := vI qDay) (by rfl) (by rfl) (by rfl) (rd8) rfl ?_
    refine Ev.ps 2 rfl ?_
    by_cases c2 : f_r_in D 0 (qDay + 6) = true
    · rw [if_pos c2]
      refine Ev.sta (as := [vI D, vI 0, vI (qDay + 6)]) (rest := []) (by rfl) (by rfl) (by rfl) (by rfl) rfl (Nat.le_of_ble_eq_true rfl) (s_range (in_lo c2) (in_hi c2)) ?_
      refine Ev.ps 3 rfl ?_
      by_cases c3 : f_r_in M 0 479 = true
      · rw [if_pos c3]
        refine Ev.sta (as := [vI M, vI 0, vI 479]) (rest := []) (by rfl) (by rfl) (by rfl) (by rfl) rfl (Nat.le_of_ble_eq_true rfl) (s_range (in_lo c3) (in_hi c3)) ?_
        refine Ev.ps 4 rfl ?_
        refine Ev.vir (as := [vI D, vI 0]) (rest := [vR 6 k_p0]) (by rfl) (by rfl) (by rfl) (by rfl) rfl (Nat.le_of_ble_eq_true rfl) (by rfl) (by rw [rd6 (by have := hk_p0; omega)]; rfl) (s_c_placeOf hW (by have := hk_p0; omega)) ?_
        refine Ev.ps 2 rfl ?_
        refine Ev.sta (as := [vR 6 k_p0, vI (nI (f_c_placeOf qEd qEs qMh k_p0 D 0)), vI D, vI M]) (rest := []) (by rfl) (by rfl) (by rfl) (by rfl) rfl (Nat.le_of_ble_eq_true rfl) (s_c_letter hW (by have := hk_p0; omega) (by have := place_le (qEd := qEd) (qEs := qEs) (qMh := qMh) (mm := k_p0) (D := D) (S := 0); have := wMl k_p0; omega)) ?_
        exact Ev.re rfl rfl rfl rfl (rstC rfl (chr_cletterL _ _))
      · rw [if_neg c3]
        exact Ev.staX (as := [vI M, vI 0, vI 479]) (rest := []) (by rfl) (by rfl) (by rfl) (by rfl) rfl (Nat.le_of_ble_eq_true rfl) (cexc (s_rangeX (in_not c3))) (by rfl)
    · rw [if_neg c2]
      exact Ev.staX (as := [vI D, vI 0, vI (qDay + 6)]) (rest := []) (by rfl) (by rfl) (by rfl) (by rfl) rfl (Nat.le_of_ble_eq_true rfl) (cexc (s_rangeX (in_not c2))) (by rfl)
  · rw [if_neg c1]
    exact Ev.virX (as := [vI p0]) (rest := []) (by rfl) (by rfl) (by rfl) (by rfl) rfl (Nat.le_of_ble_eq_true rfl) (by rfl) (by rw [rd8]; rfl) (cexc (s_machineAtX rd8 (by rfl) rd11 (not_in_nat (by omega) c1))) (by rfl)
def f_c_usedMinutes (qDay : Int32) (qEd : Nat → Int32) (qEl : Nat → Int32) (qEs : Nat → Int32) (qMh : Nat → List Nat) (qMn : Nat) (zc : Nat) (zn : Nat) (p0 D : Int32) : Re × Nat × Nat :=
  if f_r_isMachine qMn p0 = true then
    if f_r_in D 0 (qDay + 6) = true then ((.inl (some (vI (f_c_lengths qEd qEl qEs qMh (nP p0) D)))), zc, zn) else ((.inr 1), zc + 1, zn + 6)
  else
    ((.inr 0), zc + 1, zn + 6)
theorem s_c_usedMinutes {d : Nat} {zO : Int64} {zD : UInt64} {zX : Nat} {zL : Nat} {zXs : Nat → Int32} {zG5 : List Ob} {zG6 : List Ob} {zG7 : List Ob} {zc : Nat} {zn : Nat} {R : RD} {qNb : Nat → Int32} {qTf : Nat → Nat} {qLn : Nat} {qLy : Nat → Ly} {qMn : Nat} {qMk : Nat → Nat} {qMs : Nat → Int32} {qMh : Nat → List Nat} {qPn : Nat} {qPl : Nat → Nat → Int32} {qPo : Nat → Int32} {qPp : Nat → Int32} {qEn : Nat} {qEm : Nat → Nat} {qEc : Nat → Nat} {qEd : Nat → Int32} {qEs : Nat → Int32} {qEl : Nat → Int32} {qEe : Nat → Int32} {qEw : Nat → Int32} {qSt : Nat → Int32} {qDu : Nat → Int32} {qCu : Nat → List Nat} {qCn : Nat} {qCb : Nat → Nat} {qCl : Nat → Int32} {qBn : Nat} {qBm : Nat → Nat} {qBl : Nat → Int32} {qBf : Nat → Int32} {qKn : Nat} {qKl : Nat → Nat} {qKs : Nat → Nat → Int32} {qPr : Nat → Int32} {qDay : Int32} {qG2 : List Ob} {qG4 : List Ob} {qX1 : List Ob} {qX3 : List Ob} {p0 : Int32} {D : Int32} (hW : WfC qMn qPn qEn qBn qKn qCn qLn qMk qEm qEc qCb qBm qTf qKl qMh qCu qLy) : Cal (d + 3) 35 [vR 8 0, vI p0, vI D] (enc (mkC qNb qTf qLn qLy qMn qMk qMs qMh qPn qPl qPo qPp qEn qEm qEc qEd qEs qEl qEe qEw qSt qDu qCu qCn qCb qCl qBn qBm qBl qBf qKn qKl qKs qPr qDay qG2 qG4 qX1 qX3) R (mkW zO zD zX zL zXs zG5 zG6 zG7 zc zn)) ((f_c_usedMinutes qDay qEd qEl qEs qMh qMn zc zn p0 D).1) (enc (mkC qNb qTf qLn qLy qMn qMk qMs qMh qPn qPl qPo qPp qEn qEm qEc qEd qEs qEl qEe qEw qSt qDu qCu qCn qCb qCl qBn qBm qBl qBf qKn qKl qKs qPr qDay qG2 qG4 qX1 qX3) R (mkW zO zD zX zL zXs zG5 zG6 zG7 ((f_c_usedMinutes qDay qEd qEl qEs qMh qMn zc zn p0 D).2.1) ((f_c_usedMinutes qDay qEd qEl qEs qMh qMn zc zn p0 D).2.2))) := by
  obtain ⟨wMn, wPn, wEn, wBn, wKn, wMk, wEm, wEc, wCb, wBm, wTf, wKl, wMh, wMl, wCu, wCl, wLy⟩ := id hW
  refine Cal.mk (n := 4) rfl (Nat.le_of_ble_eq_true rfl) rfl ?_
  unfold f_c_usedMinutes
  refine Ev.ps 2 rfl ?_
  by_cases c1 : f_r_isMachine qMn p0 = true
  · rw [if_pos c1]
    have q_p0 := isMachine_nat wMn c1
    generalize nP p0 = k_p0 at q_p0 ⊢
    obtain ⟨rfl, hk_p0⟩ := q_p0
    refine Ev.vir (as := [vI (nI k_p0)]) (rest := []) (by rfl) (by rfl) (by rfl) (by rfl) rfl (Nat.le_of_ble_eq_true rfl) (by rfl) (by rw [rd8]; rfl) (s_machineAt rd8 (by rfl) rd11 (by omega) hk_p0 (by rw [rd6 hk_p0]; rfl)) ?_
    refine Ev.ps 4 rfl ?_
    refine Ev.getf (v := vI qDay) (by rfl) (by rfl) (by rfl) (rd8) rfl ?_
    refine Ev.ps 2 rfl ?_
    by_cases c2 : f_r_in D 0 (qDay + 6) = true
    · rw [if_pos c2]
      refine Ev.sta (as := [vI D, vI 0, vI (qDay + 6)]) (rest := []) (by rfl) (by rfl) (by rfl) (by rfl) rfl (Nat.le_of_ble_eq_true rfl) (s_range (in_lo c2) (in_hi c2)) ?_
      refine Ev.ps 2 rfl ?_
      refine Ev.sta (as := [vR 6 k_p0, vI D]) (rest := []) (by rfl) (by rfl) (by rfl) (by rfl) rfl (Nat.le_of_ble_eq_true rfl) (s_c_lengths hW (by have := hk_p0; omega)) ?_
      exact Ev.re rfl rfl rfl rfl rfl
    · rw [if_neg c2]
      exact Ev.staX (as := [vI D, vI 0, vI (qDay + 6)]) (rest := []) (by rfl) (by rfl) (by rfl) (by rfl) rfl (Nat.le_of_ble_eq_true rfl) (cexc (s_rangeX (in_not c2))) (by rfl)
  · rw [if_neg c1]
    exact Ev.virX (as := [vI p0]) (rest := []) (by rfl) (by rfl) (by rfl) (by rfl) rfl (Nat.le_of_ble_eq_true rfl) (by rfl) (by rw [rd8]; rfl) (cexc (s_machineAtX rd8 (by rfl) rd11 (not_in_nat (by omega) c1))) (by rfl)
def f_c_usedByMinutes (qDay : Int32) (qEc : Nat → Nat) (qEd : Nat → Int32) (qEe : Nat → Int32) (qEl : Nat → Int32) (qEm : Nat → Nat) (qEs : Nat → Int32) (qEw : Nat → Int32) (qMh : Nat → List Nat) (qMn : Nat) (qMs : Nat → Int32) (qSt : Nat → Int32) (zc : Nat) (zn : Nat) (p0 D : Int32) : Re × Nat × Nat :=
  if f_r_isMachine qMn p0 = true then
    if f_r_in D 0 (qDay + 6) = true then ((.inl (some (vI (f_c_count qEm qEc qEd qEs qEl qEe qEw qSt qMh qMs (nP p0) D)))), zc, zn) else ((.inr 1), zc + 1, zn + 6)
  else
    ((.inr 0), zc + 1, zn + 6)
theorem s_c_usedByMinutes {d : Nat} {zO : Int64} {zD : UInt64} {zX : Nat} {zL : Nat} {zXs : Nat → Int32} {zG5 : List Ob} {zG6 : List Ob} {zG7 : List Ob} {zc : Nat} {zn : Nat} {R : RD} {qNb : Nat → Int32} {qTf : Nat → Nat} {qLn : Nat} {qLy : Nat → Ly} {qMn : Nat} {qMk : Nat → Nat} {qMs : Nat → Int32} {qMh : Nat → List Nat} {qPn : Nat} {qPl : Nat → Nat → Int32} {qPo : Nat → Int32} {qPp : Nat → Int32} {qEn : Nat} {qEm : Nat → Nat} {qEc : Nat → Nat} {qEd : Nat → Int32} {qEs : Nat → Int32} {qEl : Nat → Int32} {qEe : Nat → Int32} {qEw : Nat → Int32} {qSt : Nat → Int32} {qDu : Nat → Int32} {qCu : Nat → List Nat} {qCn : Nat} {qCb : Nat → Nat} {qCl : Nat → Int32} {qBn : Nat} {qBm : Nat → Nat} {qBl : Nat → Int32} {qBf : Nat → Int32} {qKn : Nat} {qKl : Nat → Nat} {qKs : Nat → Nat → Int32} {qPr : Nat → Int32} {qDay : Int32} {qG2 : List Ob} {qG4 : List Ob} {qX1 : List Ob} {qX3 : List Ob} {p0 : Int32} {D : Int32} (hW : WfC qMn qPn qEn qBn qKn qCn qLn qMk qEm qEc qCb qBm qTf qKl qMh qCu qLy) : Cal (d + 3) 36 [vR 8 0, vI p0, vI D] (enc (mkC qNb qTf qLn qLy qMn qMk qMs qMh qPn qPl qPo qPp qEn qEm qEc qEd qEs qEl qEe qEw qSt qDu qCu qCn qCb qCl qBn qBm qBl qBf qKn qKl qKs qPr qDay qG2 qG4 qX1 qX3) R (mkW zO zD zX zL zXs zG5 zG6 zG7 zc zn)) ((f_c_usedByMinutes qDay qEc qEd qEe qEl qEm qEs qEw qMh qMn qMs qSt zc zn p0 D).1) (enc (mkC qNb qTf qLn qLy qMn qMk qMs qMh qPn qPl qPo qPp qEn qEm qEc qEd qEs qEl qEe qEw qSt qDu qCu qCn qCb qCl qBn qBm qBl qBf qKn qKl qKs qPr qDay qG2 qG4 qX1 qX3) R (mkW zO zD zX zL zXs zG5 zG6 zG7 ((f_c_usedByMinutes qDay qEc qEd qEe qEl qEm qEs qEw qMh qMn qMs qSt zc zn p0 D).2.1) ((f_c_usedByMinutes qDay qEc qEd qEe qEl qEm qEs qEw qMh qMn qMs qSt zc zn p0 D).2.2))) := by
  obtain ⟨wMn, wPn, wEn, wBn, wKn, wMk, wEm, wEc, wCb, wBm, wTf, wKl, wMh, wMl, wCu, wCl, wLy⟩ := id hW
  refine Cal.mk (n := 4) rfl (Nat.le_of_ble_eq_true rfl) rfl ?_
  unfold f_c_usedByMinutes
  refine Ev.ps 2 rfl ?_
  by_cases c1 : f_r_isMachine qMn p0 = true
  · rw [if_pos c1]
    have q_p0 := isMachine_nat wMn c1
    generalize nP p0 = k_p0 at q_p0 ⊢
    obtain ⟨rfl, hk_p0⟩ := q_p0
    refine Ev.vir (as := [vI (nI k_p0)]) (rest := []) (by rfl) (by rfl) (by rfl) (by rfl) rfl (Nat.le_of_ble_eq_true rfl) (by rfl) (by rw [rd8]; rfl) (s_machineAt rd8 (by rfl) rd11 (by omega) hk_p0 (by rw [rd6 hk_p0]; rfl)) ?_
    refine Ev.ps 4 rfl ?_
    refine Ev.getf (v := vI qDay) (by rfl) (by rfl) (by rfl) (rd8) rfl ?_
    refine Ev.ps 2 rfl ?_
    by_cases c2 : f_r_in D 0 (qDay + 6) = true
    · rw [if_pos c2]
      refine Ev.sta (as := [vI D, vI 0, vI (qDay + 6)]) (rest := []) (by rfl) (by rfl) (by rfl) (by rfl) rfl (Nat.le_of_ble_eq_true rfl) (s_range (in_lo c2) (in_hi c2)) ?_
      refine Ev.ps 2 rfl ?_
      refine Ev.sta (as := [vR 6 k_p0, vI D]) (rest := []) (by rfl) (by rfl) (by rfl) (by rfl) rfl (Nat.le_of_ble_eq_true rfl) (s_c_count hW (by have := hk_p0; omega)) ?_
      exact Ev.re rfl rfl rfl rfl rfl
    · rw [if_neg c2]
      exact Ev.staX (as := [vI D, vI 0, vI (qDay + 6)]) (rest := []) (by rfl) (by rfl) (by rfl) (by rfl) rfl (Nat.le_of_ble_eq_true rfl) (cexc (s_rangeX (in_not c2))) (by rfl)
  · rw [if_neg c1]
    exact Ev.virX (as := [vI p0]) (rest := []) (by rfl) (by rfl) (by rfl) (by rfl) rfl (Nat.le_of_ble_eq_true rfl) (by rfl) (by rw [rd8]; rfl) (cexc (s_machineAtX rd8 (by rfl) rd11 (not_in_nat (by omega) c1))) (by rfl)
def f_c_firstStart (qDay : Int32) (qEc : Nat → Nat) (qEd : Nat → Int32) (qEe : Nat → Int32) (qEl : Nat → Int32) (qEm : Nat → Nat) (qEs : Nat → Int32) (qEw : Nat → Int32) (qMh : Nat → List Nat) (qMn : Nat) (qMs : Nat → Int32) (qSt : Nat → Int32) (zc : Nat) (zn : Nat) (p0 D M V : Int32) : Re × Nat × Nat :=
  if f_r_isMachine qMn p0 = true then
    if wishOk qDay D M V = true then
      if f_c_gaps qEm qEc qEd qEs qEl qEe qEw qSt qMh qMs (nP p0) D M V = (-1) then ((.inr 4), zc + 1, zn + 6) else ((.inl (some (vI (f_c_gaps qEm qEc qEd qEs qEl qEe qEw qSt qMh qMs (nP p0) D M V)))), zc, zn)
    else
      ((.inr 1), zc + 1, zn + 6)
  else
    ((.inr 0), zc + 1, zn + 6)
theorem s_c_firstStart {d : Nat} {zO : Int64} {zD : UInt64} {zX : Nat} {zL : Nat} {zXs : Nat → Int32} {zG5 : List Ob} {zG6 : List Ob} {zG7 : List Ob} {zc : Nat} {zn : Nat} {R : RD} {qNb : Nat → Int32} {qTf : Nat → Nat} {qLn : Nat} {qLy : Nat → Ly} {qMn : Nat} {qMk : Nat → Nat} {qMs : Nat → Int32} {qMh : Nat → List Nat} {qPn : Nat} {qPl : Nat → Nat → Int32} {qPo : Nat → Int32} {qPp : Nat → Int32} {qEn : Nat} {qEm : Nat → Nat} {qEc : Nat → Nat} {qEd : Nat → Int32} {qEs : Nat → Int32} {qEl : Nat → Int32} {qEe : Nat → Int32} {qEw : Nat → Int32} {qSt : Nat → Int32} {qDu : Nat → Int32} {qCu : Nat → List Nat} {qCn : Nat} {qCb : Nat → Nat} {qCl : Nat → Int32} {qBn : Nat} {qBm : Nat → Nat} {qBl : Nat → Int32} {qBf : Nat → Int32} {qKn : Nat} {qKl : Nat → Nat} {qKs : Nat → Nat → Int32} {qPr : Nat → Int32} {qDay : Int32} {qG2 : List Ob} {qG4 : List Ob} {qX1 : List Ob} {qX3 : List Ob} {p0 : Int32} {D : Int32} {M : Int32} {V : Int32} (hW : WfC qMn qPn qEn qBn qKn qCn qLn qMk qEm qEc qCb qBm qTf qKl qMh qCu qLy) : Cal (d + 3) 38 [vR 8 0, vI p0, vI D, vI M, vI V] (enc (mkC qNb qTf qLn qLy qMn qMk qMs qMh qPn qPl qPo qPp qEn qEm qEc qEd qEs qEl qEe qEw qSt qDu qCu qCn qCb qCl qBn qBm qBl qBf qKn qKl qKs qPr qDay qG2 qG4 qX1 qX3) R (mkW zO zD zX zL zXs zG5 zG6 zG7 zc zn)) ((f_c_firstStart qDay qEc qEd qEe qEl qEm qEs qEw qMh qMn qMs qSt zc zn p0 D M V).1) (enc (mkC qNb qTf qLn qLy qMn qMk qMs qMh qPn qPl qPo qPp qEn qEm qEc qEd qEs qEl qEe qEw qSt qDu qCu qCn qCb qCl qBn qBm qBl qBf qKn qKl qKs qPr qDay qG2 qG4 qX1 qX3) R (mkW zO zD zX zL zXs zG5 zG6 zG7 ((f_c_firstStart qDay qEc qEd qEe qEl qEm qEs qEw qMh qMn qMs qSt zc zn p0 D M V).2.1) ((f_c_firstStart qDay qEc qEd qEe qEl qEm qEs qEw qMh qMn qMs qSt zc zn p0 D M V).2.2))) := by
  obtain ⟨wMn, wPn, wEn, wBn, wKn, wMk, wEm, wEc, wCb, wBm, wTf, wKl, wMh, wMl, wCu, wCl, wLy⟩ := id hW
  refine Cal.mk (n := 7) rfl (Nat.le_of_ble_eq_true rfl) rfl ?_
  unfold f_c_firstStart
  refine Ev.ps 2 rfl ?_
  by_cases c1 : f_r_isMachine qMn p0 = true
  · rw [if_pos c1]
    have q_p0 := isMachine_nat wMn c1
    generalize nP p0 = k_p0 at q_p0 ⊢
    obtain ⟨rfl, hk_p0⟩ := q_p0
    refine Ev.vir (as := [vI (nI k_p0)]) (rest := []) (by rfl) (by rfl) (by rfl) (by rfl) rfl (Nat.le_of_ble_eq_true rfl) (by rfl) (by rw [rd8]; rfl) (s_machineAt rd8 (by rfl) rd11 (by omega) hk_p0 (by rw [rd6 hk_p0]; rfl)) ?_
    refine Ev.ps 5 rfl ?_
    by_cases c2 : wishOk qDay D M V = true
    · rw [if_pos c2]
      refine Ev.vir (as := [vI D, vI M, vI V]) (rest := []) (by rfl) (by rfl) (by rfl) (by rfl) rfl (Nat.le_of_ble_eq_true rfl) (by rfl) (by rw [rd8]; rfl) (s_c_wishOk hW c2) ?_
      refine Ev.ps 4 rfl ?_
      refine Ev.sta (as := [vR 6 k_p0, vI D, vI M, vI V]) (rest := []) (by rfl) (by rfl) (by rfl) (by rfl) rfl (Nat.le_of_ble_eq_true rfl) (s_c_gaps hW (by have := hk_p0; omega)) ?_
      refine Ev.ps 3 rfl ?_
      refine Ev.ine (by rfl) (by rfl) (fun (c3 : f_c_gaps qEm qEc qEd qEs qEl qEe qEw qSt qMh qMs k_p0 D M V = (-1)) => ?_) (fun (c3 : ¬ f_c_gaps qEm qEc qEd qEs qEl qEe qEw qSt qMh qMs k_p0 D M V = (-1)) => ?_)
      · rw [if_pos c3]
        exact Ev.thwE (by rfl)
      · rw [if_neg c3]
        refine Ev.ps 1 rfl ?_
        exact Ev.re rfl rfl rfl rfl rfl
    · rw [if_neg c2]
      exact Ev.virX (as := [vI D, vI M, vI V]) (rest := []) (by rfl) (by rfl) (by rfl) (by rfl) rfl (Nat.le_of_ble_eq_true rfl) (by rfl) (by rw [rd8]; rfl) (s_c_wishX hW c2) (by rfl)
  · rw [if_neg c1]
    exact Ev.virX (as := [vI p0]) (rest := []) (by rfl) (by rfl) (by rfl) (by rfl) rfl (Nat.le_of_ble_eq_true rfl) (by rfl) (by rw [rd8]; rfl) (cexc (s_machineAtX rd8 (by rfl) rd11 (not_in_nat (by omega) c1))) (by rfl)
def c_waiting_L27 (qEc : Nat → Nat) (qEd : Nat → Int32) (qSt : Nat → Int32) (zc : Nat) (zn : Nat) (k_p0 : Nat) (D : Int32) : Nat → Nat → Int32 → (Re × Nat × Nat)
  | 0, j27, ct =>
    ((.inl (some (vI ct))), zc, zn)
  | k27 + 1, j27, ct =>
    if qSt j27 = 119 then
      if qEc j27 = k_p0 then
        if qEd j27 = D then c_waiting_L27 qEc qEd qSt zc zn k_p0 D k27 (j27 + 1) (ct + 1) else c_waiting_L27 qEc qEd qSt zc zn k_p0 D k27 (j27 + 1) ct
      else
        c_waiting_L27 qEc qEd qSt zc zn k_p0 D k27 (j27 + 1) ct
    else
      c_waiting_L27 qEc qEd qSt zc zn k_p0 D k27 (j27 + 1) ct
def f_c_waiting (qDay : Int32) (qEc : Nat → Nat) (qEd : Nat → Int32) (qEn : Nat) (qMn : Nat) (qSt : Nat → Int32) (zc : Nat) (zn : Nat) (p0 D : Int32) : Re × Nat × Nat :=
  if f_r_isMachine qMn p0 = true then if f_r_in D qDay (qDay + 6) = true then c_waiting_L27 qEc qEd qSt zc zn (nP p0) D qEn 0 0 else ((.inr 1), zc + 1, zn + 6) else ((.inr 0), zc + 1, zn + 6)
theorem s_c_waiting {d : Nat} {zO : Int64} {zD : UInt64} {zX : Nat} {zL : Nat} {zXs : Nat → Int32} {zG5 : List Ob} {zG6 : List Ob} {zG7 : List Ob} {zc : Nat} {zn : Nat} {R : RD} {qNb : Nat → Int32} {qTf : Nat → Nat} {qLn : Nat} {qLy : Nat → Ly} {qMn : Nat} {qMk : Nat → Nat} {qMs : Nat → Int32} {qMh : Nat → List Nat} {qPn : Nat} {qPl : Nat → Nat → Int32} {qPo : Nat → Int32} {qPp : Nat → Int32} {qEn : Nat} {qEm : Nat → Nat} {qEc : Nat → Nat} {qEd : Nat → Int32} {qEs : Nat → Int32} {qEl : Nat → Int32} {qEe : Nat → Int32} {qEw : Nat → Int32} {qSt : Nat → Int32} {qDu : Nat → Int32} {qCu : Nat → List Nat} {qCn : Nat} {qCb : Nat → Nat} {qCl : Nat → Int32} {qBn : Nat} {qBm : Nat → Nat} {qBl : Nat → Int32} {qBf : Nat → Int32} {qKn : Nat} {qKl : Nat → Nat} {qKs : Nat → Nat → Int32} {qPr : Nat → Int32} {qDay : Int32} {qG2 : List Ob} {qG4 : List Ob} {qX1 : List Ob} {qX3 : List Ob} {p0 : Int32} {D : Int32} (hW : WfC qMn qPn qEn qBn qKn qCn qLn qMk qEm qEc qCb qBm qTf qKl qMh qCu qLy) : Cal (d + 1) 40 [vR 8 0, vI p0, vI D] (enc (mkC qNb qTf qLn qLy qMn qMk qMs qMh qPn qPl qPo qPp qEn qEm qEc qEd qEs qEl qEe qEw qSt qDu qCu qCn qCb qCl qBn qBm qBl qBf qKn qKl qKs qPr qDay qG2 qG4 qX1 qX3) R (mkW zO zD zX zL zXs zG5 zG6 zG7 zc zn)) ((f_c_waiting qDay qEc qEd qEn qMn qSt zc zn p0 D).1) (enc (mkC qNb qTf qLn qLy qMn qMk qMs qMh qPn qPl qPo qPp qEn qEm qEc qEd qEs qEl qEe qEw qSt qDu qCu qCn qCb qCl qBn qBm qBl qBf qKn qKl qKs qPr qDay qG2 qG4 qX1 qX3) R (mkW zO zD zX zL zXs zG5 zG6 zG7 ((f_c_waiting qDay qEc qEd qEn qMn qSt zc zn p0 D).2.1) ((f_c_waiting qDay qEc qEd qEn qMn qSt zc zn p0 D).2.2))) := by
  obtain ⟨wMn, wPn, wEn, wBn, wKn, wMk, wEm, wEc, wCb, wBm, wTf, wKl, wMh, wMl, wCu, wCl, wLy⟩ := id hW
  refine Cal.mk (n := 7) rfl (Nat.le_of_ble_eq_true rfl) rfl ?_
  unfold f_c_waiting
  refine Ev.ps 2 rfl ?_
  by_cases c1 : f_r_isMachine qMn p0 = true
  · rw [if_pos c1]
    have q_p0 := isMachine_nat wMn c1
    generalize nP p0 = k_p0 at q_p0 ⊢
    obtain ⟨rfl, hk_p0⟩ := q_p0
    refine Ev.vir (as := [vI (nI k_p0)]) (rest := []) (by rfl) (by rfl) (by rfl) (by rfl) rfl (Nat.le_of_ble_eq_true rfl) (by rfl) (by rw [rd8]; rfl) (s_machineAt rd8 (by rfl) rd11 (by omega) hk_p0 (by rw [rd6 hk_p0]; rfl)) ?_
    refine Ev.ps 3 rfl ?_
    refine Ev.getf (v := vI qDay) (by rfl) (by rfl) (by rfl) (rd8) rfl ?_
    refine Ev.ps 1 rfl ?_
    refine Ev.getf (v := vI qDay) (by rfl) (by rfl) (by rfl) (rd8) rfl ?_
    refine Ev.ps 2 rfl ?_
    by_cases c2 : f_r_in D qDay (qDay + 6) = true
    · rw [if_pos c2]
      refine Ev.sta (as := [vI D, vI qDay, vI (qDay + 6)]) (rest := []) (by rfl) (by rfl) (by rfl) (by rfl) rfl (Nat.le_of_ble_eq_true rfl) (s_range (in_lo c2) (in_hi c2)) ?_
      refine Ev.ps 4 rfl ?_
      have L27 : ∀ (k27 j27 : Nat) (ct : Int32) (o27_6 : Option MV), j27 + k27 = qEn → Da o27_6 → Ev (d + 1) (40, 27, [some (vR 8 0), some (vI (nI k_p0)), some (vI D), some (vR 6 k_p0), some (vI ct), some (vI (nI j27)), o27_6], []) (enc (mkC qNb qTf qLn qLy qMn qMk qMs qMh qPn qPl qPo qPp qEn qEm qEc qEd qEs qEl qEe qEw qSt qDu qCu qCn qCb qCl qBn qBm qBl qBf qKn qKl qKs qPr qDay qG2 qG4 qX1 qX3) R (mkW zO zD zX zL zXs zG5 zG6 zG7 zc zn)) (((c_waiting_L27 qEc qEd qSt zc zn k_p0 D k27 j27 ct).1), enc (mkC qNb qTf qLn qLy qMn qMk qMs qMh qPn qPl qPo qPp qEn qEm qEc qEd qEs qEl qEe qEw qSt qDu qCu qCn qCb qCl qBn qBm qBl qBf qKn qKl qKs qPr qDay qG2 qG4 qX1 qX3) R (mkW zO zD zX zL zXs zG5 zG6 zG7 ((c_waiting_L27 qEc qEd qSt zc zn k_p0 D k27 j27 ct).2.1) ((c_waiting_L27 qEc qEd qSt zc zn k_p0 D k27 j27 ct).2.2))) := by
        intro k27
        induction k27 with
        | zero =>
          intro j27 ct o27_6 hj27 ho27_6
          rw [c_waiting_L27]
          refine Ev.ps 2 rfl ?_
          refine Ev.getf (v := vR 13 0) (by rfl) (by rfl) (by rfl) (rd8) rfl ?_
          refine Ev.lz (N := qEn) (by rfl) (by rfl) (by rfl) (Nat.le_of_ble_eq_true rfl) (rd13) range_len ?_
          refine Ev.igeN (a := j27) (b := qEn) (by omega) (by omega) (by rfl) (by rfl) (fun (c3 : j27 < qEn) => ?_) (fun (c3 : ¬ j27 < qEn) => ?_)
          · exfalso; omega
          · refine Ev.ps 1 rfl ?_
            exact Ev.re rfl rfl rfl rfl rfl
        | succ k27 ih27 =>
          intro j27 ct o27_6 hj27 ho27_6
          rw [c_waiting_L27]
          refine Ev.ps 2 rfl ?_
          refine Ev.getf (v := vR 13 0) (by rfl) (by rfl) (by rfl) (rd8) rfl ?_
          refine Ev.lz (N := qEn) (by rfl) (by rfl) (by rfl) (Nat.le_of_ble_eq_true rfl) (rd13) range_len ?_
          refine Ev.igeN (a := j27) (b := qEn) (by omega) (by omega) (by rfl) (by rfl) (fun (c4 : j27 < qEn) => ?_) (fun (c4 : ¬ j27 < qEn) => ?_)
          · refine Ev.ps 1 rfl ?_
            refine Ev.getf (v := vR 13 0) (by rfl) (by rfl) (by rfl) (rd8) rfl ?_
            refine Ev.ps 1 rfl ?_
            refine Ev.lg (j := j27) (v := vR 3 j27) (by rfl) (by rfl) (by rfl) (Nat.le_of_ble_eq_true rfl) (rd13) (by omega) (range_get (by omega)) ?_
            refine Ev.cst (by rfl) (by rfl) (by rfl) (by rw [rd3 (by omega)]; rfl) ?_
            refine Ev.ps 2 rfl ?_
            refine Ev.getf (v := vI (qSt j27)) (by rfl) (by rfl) (by rfl) (rd3 (by omega)) rfl ?_
            refine Ev.ps 1 rfl ?_
            refine Ev.ine (by rfl) (by rfl) (fun (c5 : qSt j27 = 119) => ?_) (fun (c5 : ¬ qSt j27 = 119) => ?_)
            · rw [if_pos c5]
              refine Ev.ps 1 rfl ?_
              refine Ev.getf (v := vR 6 (qEc j27)) (by rfl) (by rfl) (by rfl) (rd3 (by omega)) rfl ?_
              refine Ev.ps 1 rfl ?_
              refine Ev.ane (by rfl) (by rfl) (by decide) (fun (c6 : qEc j27 = k_p0) => ?_) (fun (c6 : ¬ qEc j27 = k_p0) => ?_)
              · rw [if_pos c6]
                refine Ev.ps 1 rfl ?_
                refine Ev.getf (v := vI (qEd j27)) (by rfl) (by rfl) (by rfl) (rd3 (by omega)) rfl ?_
                refine Ev.ps 1 rfl ?_
                refine Ev.ine (by rfl) (by rfl) (fun (c7 : qEd j27 = D) => ?_) (fun (c7 : ¬ qEd j27 = D) => ?_)
                · rw [if_pos c7]
                  refine Ev.ps 3 rfl ?_
                  have h9 := ih27 (j27 + 1) (ct + 1) (some (vR 3 j27)) (by show j27 + 1 + k27 = qEn; omega) Da.r
                  rw [← nI_1] at h9
                  exact h9
                · rw [if_neg c7]
                  refine Ev.ps 2 rfl ?_
                  have h9 := ih27 (j27 + 1) ct (some (vR 3 j27)) (by show j27 + 1 + k27 = qEn; omega) Da.r
                  rw [← nI_1] at h9
                  exact h9
              · rw [if_neg c6]
                refine Ev.ps 2 rfl ?_
                have h9 := ih27 (j27 + 1) ct (some (vR 3 j27)) (by show j27 + 1 + k27 = qEn; omega) Da.r
                rw [← nI_1] at h9
                exact h9
            · rw [if_neg c5]
              refine Ev.ps 2 rfl ?_
              have h9 := ih27 (j27 + 1) ct (some (vR 3 j27)) (by show j27 + 1 + k27 = qEn; omega) Da.r
              rw [← nI_1] at h9
              exact h9
          · exfalso; omega
      exact L27 qEn 0 0 none (by show 0 + qEn = qEn; omega) Da.n
    · rw [if_neg c2]
      exact Ev.staX (as := [vI D, vI qDay, vI (qDay + 6)]) (rest := []) (by rfl) (by rfl) (by rfl) (by rfl) rfl (Nat.le_of_ble_eq_true rfl) (cexc (s_rangeX (in_not c2))) (by rfl)
  · rw [if_neg c1]
    exact Ev.virX (as := [vI p0]) (rest := []) (by rfl) (by rfl) (by rfl) (by rfl) rfl (Nat.le_of_ble_eq_true rfl) (by rfl) (by rw [rd8]; rfl) (cexc (s_machineAtX rd8 (by rfl) rd11 (not_in_nat (by omega) c1))) (by rfl)
