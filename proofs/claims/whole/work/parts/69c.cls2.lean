/-! the class: calls that only read, 2 (written by gcls2.py) -/
def f_c_shareOf (qKl : Nat → Nat) (qKn : Nat) (qKs : Nat → Nat → Int32) (qPn : Nat) (zc : Nat) (zn : Nat) (p0 p1 : Int32) : Re × Nat × Nat :=
  if p0 < 0 then
    ((.inr 4), zc + 1, zn + 6)
  else
    if p0 < nI qKn then
      if f_r_isMember qPn p1 = true then ((.inl (some (vI (f_c_share qKl qKs (nP p0) (nI (nP p1)))))), zc, zn) else ((.inr 0), zc + 1, zn + 6)
    else
      ((.inr 4), zc + 1, zn + 6)
theorem s_c_shareOf {d : Nat} {zO : Int64} {zD : UInt64} {zX : Nat} {zL : Nat} {zXs : Nat → Int32} {zG5 : List Ob} {zG6 : List Ob} {zG7 : List Ob} {zc : Nat} {zn : Nat} {R : RD} {qNb : Nat → Int32} {qTf : Nat → Nat} {qLn : Nat} {qLy : Nat → Ly} {qMn : Nat} {qMk : Nat → Nat} {qMs : Nat → Int32} {qMh : Nat → List Nat} {qPn : Nat} {qPl : Nat → Nat → Int32} {qPo : Nat → Int32} {qPp : Nat → Int32} {qEn : Nat} {qEm : Nat → Nat} {qEc : Nat → Nat} {qEd : Nat → Int32} {qEs : Nat → Int32} {qEl : Nat → Int32} {qEe : Nat → Int32} {qEw : Nat → Int32} {qSt : Nat → Int32} {qDu : Nat → Int32} {qCu : Nat → List Nat} {qCn : Nat} {qCb : Nat → Nat} {qCl : Nat → Int32} {qBn : Nat} {qBm : Nat → Nat} {qBl : Nat → Int32} {qBf : Nat → Int32} {qKn : Nat} {qKl : Nat → Nat} {qKs : Nat → Nat → Int32} {qPr : Nat → Int32} {qDay : Int32} {qG2 : List Ob} {qG4 : List Ob} {qX1 : List Ob} {qX3 : List Ob} {p0 : Int32} {p1 : Int32} (hW : WfC qMn qPn qEn qBn qKn qCn qLn qMk qEm qEc qCb qBm qTf qKl qMh qCu qLy) : Cal (d + 1) 53 [vR 8 0, vI p0, vI p1] (enc (mkC qNb qTf qLn qLy qMn qMk qMs qMh qPn qPl qPo qPp qEn qEm qEc qEd qEs qEl qEe qEw qSt qDu qCu qCn qCb qCl qBn qBm qBl qBf qKn qKl qKs qPr qDay qG2 qG4 qX1 qX3) R (mkW zO zD zX zL zXs zG5 zG6 zG7 zc zn)) ((f_c_shareOf qKl qKn qKs qPn zc zn p0 p1).1) (enc (mkC qNb qTf qLn qLy qMn qMk qMs qMh qPn qPl qPo qPp qEn qEm qEc qEd qEs qEl qEe qEw qSt qDu qCu qCn qCb qCl qBn qBm qBl qBf qKn qKl qKs qPr qDay qG2 qG4 qX1 qX3) R (mkW zO zD zX zL zXs zG5 zG6 zG7 ((f_c_shareOf qKl qKn qKs qPn zc zn p0 p1).2.1) ((f_c_shareOf qKl qKn qKs qPn zc zn p0 p1).2.2))) := by
  obtain ⟨wMn, wPn, wEn, wBn, wKn, wMk, wEm, wEc, wCb, wBm, wTf, wKl, wMh, wMl, wCu, wCl, wLy⟩ := id hW
  refine Cal.mk (n := 3) rfl (Nat.le_of_ble_eq_true rfl) rfl ?_
  unfold f_c_shareOf
  refine Ev.ps 1 rfl ?_
  refine Ev.zlt (by rfl) (by rfl) (fun (c1 : p0 < 0) => ?_) (fun (c1 : ¬ p0 < 0) => ?_)
  · rw [if_pos c1]
    exact Ev.thwE (by rfl)
  · rw [if_neg c1]
    refine Ev.ps 2 rfl ?_
    refine Ev.getf (v := vR 15 0) (by rfl) (by rfl) (by rfl) (rd8) rfl ?_
    refine Ev.lz (N := qKn) (by rfl) (by rfl) (by rfl) (Nat.le_of_ble_eq_true rfl) (rd15) range_len ?_
    refine Ev.ilt (by rfl) (by rfl) (fun (c2 : p0 < nI qKn) => ?_) (fun (c2 : ¬ p0 < nI qKn) => ?_)
    · rw [if_pos c2]
      have q_p0 := nP_of (n := qKn) (by omega) (by assumption) c2
      generalize nP p0 = k_p0 at q_p0 ⊢
      obtain ⟨rfl, hk_p0⟩ := q_p0
      refine Ev.ps 2 rfl ?_
      by_cases c3 : f_r_isMember qPn p1 = true
      · rw [if_pos c3]
        have q_p1 := isMember_nat wPn c3
        generalize nP p1 = k_p1 at q_p1 ⊢
        obtain ⟨rfl, hk_p1⟩ := q_p1
        refine Ev.vir (as := [vI (nI k_p1)]) (rest := []) (by rfl) (by rfl) (by rfl) (by rfl) rfl (Nat.le_of_ble_eq_true rfl) (by rfl) (by rw [rd8]; rfl) (s_requireMember rd8 (by rfl) rd12 (by omega) hk_p1) ?_
        refine Ev.ps 1 rfl ?_
        refine Ev.getf (v := vR 15 0) (by rfl) (by rfl) (by rfl) (rd8) rfl ?_
        refine Ev.ps 1 rfl ?_
        refine Ev.lg (j := k_p0) (v := vR 1 k_p0) (by rfl) (by rfl) (by rfl) (Nat.le_of_ble_eq_true rfl) (rd15) (by have := hk_p0; omega) (range_get (by have := hk_p0; omega)) ?_
        refine Ev.cst (by rfl) (by rfl) (by rfl) (by rw [rd1 (by have := hk_p0; omega)]; rfl) ?_
        refine Ev.ps 1 rfl ?_
        refine Ev.vir (as := [vI (nI k_p1)]) (rest := []) (by rfl) (by rfl) (by rfl) (by rfl) rfl (Nat.le_of_ble_eq_true rfl) (by rfl) (by rw [rd1 (by have := hk_p0; omega)]; rfl) (s_c_share hW (by have := hk_p0; omega)) ?_
        exact Ev.re rfl rfl rfl rfl rfl
      · rw [if_neg c3]
        exact Ev.virX (as := [vI p1]) (rest := []) (by rfl) (by rfl) (by rfl) (by rfl) rfl (Nat.le_of_ble_eq_true rfl) (by rfl) (by rw [rd8]; rfl) (cexc (s_requireMemberX rd8 (by rfl) rd12 (not_in_nat (by omega) c3))) (by rfl)
    · rw [if_neg c2]
      exact Ev.thwE (by rfl)
def c_takings_L4 (qPp : Nat → Int32)  : Nat → Nat → Int64 → (Int64)
  | 0, j4, sm =>
    sm
  | k4 + 1, j4, sm =>
    c_takings_L4 qPp  k4 (j4 + 1) (sm + ((qPp j4).toInt64))
def f_c_takings (qPn : Nat) (qPp : Nat → Int32)  : Int64 :=
  c_takings_L4 qPp  qPn 0 0
theorem s_c_takings {d : Nat} {zO : Int64} {zD : UInt64} {zX : Nat} {zL : Nat} {zXs : Nat → Int32} {zG5 : List Ob} {zG6 : List Ob} {zG7 : List Ob} {zc : Nat} {zn : Nat} {R : RD} {qNb : Nat → Int32} {qTf : Nat → Nat} {qLn : Nat} {qLy : Nat → Ly} {qMn : Nat} {qMk : Nat → Nat} {qMs : Nat → Int32} {qMh : Nat → List Nat} {qPn : Nat} {qPl : Nat → Nat → Int32} {qPo : Nat → Int32} {qPp : Nat → Int32} {qEn : Nat} {qEm : Nat → Nat} {qEc : Nat → Nat} {qEd : Nat → Int32} {qEs : Nat → Int32} {qEl : Nat → Int32} {qEe : Nat → Int32} {qEw : Nat → Int32} {qSt : Nat → Int32} {qDu : Nat → Int32} {qCu : Nat → List Nat} {qCn : Nat} {qCb : Nat → Nat} {qCl : Nat → Int32} {qBn : Nat} {qBm : Nat → Nat} {qBl : Nat → Int32} {qBf : Nat → Int32} {qKn : Nat} {qKl : Nat → Nat} {qKs : Nat → Nat → Int32} {qPr : Nat → Int32} {qDay : Int32} {qG2 : List Ob} {qG4 : List Ob} {qX1 : List Ob} {qX3 : List Ob}  (hW : WfC qMn qPn qEn qBn qKn qCn qLn qMk qEm qEc qCb qBm qTf qKl qMh qCu qLy) : Cal (d + 0) 58 [vR 8 0] (enc (mkC qNb qTf qLn qLy qMn qMk qMs qMh qPn qPl qPo qPp qEn qEm qEc qEd qEs qEl qEe qEw qSt qDu qCu qCn qCb qCl qBn qBm qBl qBf qKn qKl qKs qPr qDay qG2 qG4 qX1 qX3) R (mkW zO zD zX zL zXs zG5 zG6 zG7 zc zn)) (.inl (some (vL (f_c_takings qPn qPp)))) (enc (mkC qNb qTf qLn qLy qMn qMk qMs qMh qPn qPl qPo qPp qEn qEm qEc qEd qEs qEl qEe qEw qSt qDu qCu qCn qCb qCl qBn qBm qBl qBf qKn qKl qKs qPr qDay qG2 qG4 qX1 qX3) R (mkW zO zD zX zL zXs zG5 zG6 zG7 zc zn)) := by
  obtain ⟨wMn, wPn, wEn, wBn, wKn, wMk, wEm, wEc, wCb, wBm, wTf, wKl, wMh, wMl, wCu, wCl, wLy⟩ := id hW
  refine Cal.mk (n := 4) rfl (Nat.le_of_ble_eq_true rfl) rfl ?_
  unfold f_c_takings
  refine Ev.ps 4 rfl ?_
  have L4 : ∀ (k4 j4 : Nat) (sm : Int64), j4 + k4 = qPn → Ev (d + 0) (58, 4, [some (vR 8 0), some (vL sm), none, some (vI (nI j4))], []) (enc (mkC qNb qTf qLn qLy qMn qMk qMs qMh qPn qPl qPo qPp qEn qEm qEc qEd qEs qEl qEe qEw qSt qDu qCu qCn qCb qCl qBn qBm qBl qBf qKn qKl qKs qPr qDay qG2 qG4 qX1 qX3) R (mkW zO zD zX zL zXs zG5 zG6 zG7 zc zn)) ((.inl (some (vL (c_takings_L4 qPp  k4 j4 sm)))), enc (mkC qNb qTf qLn qLy qMn qMk qMs qMh qPn qPl qPo qPp qEn qEm qEc qEd qEs qEl qEe qEw qSt qDu qCu qCn qCb qCl qBn qBm qBl qBf qKn qKl qKs qPr qDay qG2 qG4 qX1 qX3) R (mkW zO zD zX zL zXs zG5 zG6 zG7 zc zn)) := by
    intro k4
    induction k4 with
    | zero =>
      intro j4 sm hj4
      rw [c_takings_L4]
      refine Ev.ps 2 rfl ?_
      refine Ev.getf (v := vR 12 0) (by rfl) (by rfl) (by rfl) (rd8) rfl ?_
      refine Ev.lz (N := qPn) (by rfl) (by rfl) (by rfl) (Nat.le_of_ble_eq_true rfl) (rd12) range_len ?_
      refine Ev.igeN (a := j4) (b := qPn) (by omega) (by omega) (by rfl) (by rfl) (fun (c1 : j4 < qPn) => ?_) (fun (c1 : ¬ j4 < qPn) => ?_)
      · exfalso; omega
      · refine Ev.ps 1 rfl ?_
        exact Ev.re rfl rfl rfl rfl rfl
    | succ k4 ih4 =>
      intro j4 sm hj4
      rw [c_takings_L4]
      refine Ev.ps 2 rfl ?_
      refine Ev.getf (v := vR 12 0) (by rfl) (by rfl) (by rfl) (rd8) rfl ?_
      refine Ev.lz (N := qPn) (by rfl) (by rfl) (by rfl) (Nat.le_of_ble_eq_true rfl) (rd12) range_len ?_
      refine Ev.igeN (a := j4) (b := qPn) (by omega) (by omega) (by rfl) (by rfl) (fun (c2 : j4 < qPn) => ?_) (fun (c2 : ¬ j4 < qPn) => ?_)
      · refine Ev.ps 2 rfl ?_
        refine Ev.getf (v := vR 12 0) (by rfl) (by rfl) (by rfl) (rd8) rfl ?_
        refine Ev.ps 1 rfl ?_
        refine Ev.lg (j := j4) (v := vR 7 j4) (by rfl) (by rfl) (by rfl) (Nat.le_of_ble_eq_true rfl) (rd12) (by omega) (range_get (by omega)) ?_
        refine Ev.cst (by rfl) (by rfl) (by rfl) (by rw [rd7 (by omega)]; rfl) ?_
        refine Ev.getf (v := vI (qPp j4)) (by rfl) (by rfl) (by rfl) (rd7 (by omega)) rfl ?_
        refine Ev.ps 5 rfl ?_
        have h9 := ih4 (j4 + 1) (sm + ((qPp j4).toInt64)) (by show j4 + 1 + k4 = qPn; omega)
        rw [← nI_1] at h9
        exact h9
      · exfalso; omega
  exact L4 qPn 0 0 (by show 0 + qPn = qPn; omega)
def f_c_use (qDay : Int32) (qEd : Nat → Int32) (qEl : Nat → Int32) (qEs : Nat → Int32) (qMh : Nat → List Nat) (qMn : Nat) (zc : Nat) (zn : Nat) (p0 D : Int32) : Re × Nat × Nat :=
  if f_r_isMachine qMn p0 = true then
    if f_r_in D 0 (qDay + 6) = true then ((.inl (some (vF (FP.fdiv (FP.i2f (f_c_lengths qEd qEl qEs qMh (nP p0) D)) 1139802112)))), zc, zn) else ((.inr 1), zc + 1, zn + 6)
  else
    ((.inr 0), zc + 1, zn + 6)
theorem s_c_use {d : Nat} {zO : Int64} {zD : UInt64} {zX : Nat} {zL : Nat} {zXs : Nat → Int32} {zG5 : List Ob} {zG6 : List Ob} {zG7 : List Ob} {zc : Nat} {zn : Nat} {R : RD} {qNb : Nat → Int32} {qTf : Nat → Nat} {qLn : Nat} {qLy : Nat → Ly} {qMn : Nat} {qMk : Nat → Nat} {qMs : Nat → Int32} {qMh : Nat → List Nat} {qPn : Nat} {qPl : Nat → Nat → Int32} {qPo : Nat → Int32} {qPp : Nat → Int32} {qEn : Nat} {qEm : Nat → Nat} {qEc : Nat → Nat} {qEd : Nat → Int32} {qEs : Nat → Int32} {qEl : Nat → Int32} {qEe : Nat → Int32} {qEw : Nat → Int32} {qSt : Nat → Int32} {qDu : Nat → Int32} {qCu : Nat → List Nat} {qCn : Nat} {qCb : Nat → Nat} {qCl : Nat → Int32} {qBn : Nat} {qBm : Nat → Nat} {qBl : Nat → Int32} {qBf : Nat → Int32} {qKn : Nat} {qKl : Nat → Nat} {qKs : Nat → Nat → Int32} {qPr : Nat → Int32} {qDay : Int32} {qG2 : List Ob} {qG4 : List Ob} {qX1 : List Ob} {qX3 : List Ob} {p0 : Int32} {D : Int32} (hW : WfC qMn qPn qEn qBn qKn qCn qLn qMk qEm qEc qCb qBm qTf qKl qMh qCu qLy) : Cal (d + 3) 59 [vR 8 0, vI p0, vI D] (enc (mkC qNb qTf qLn qLy qMn qMk qMs qMh qPn qPl qPo qPp qEn qEm qEc qEd qEs qEl qEe qEw qSt qDu qCu qCn qCb qCl qBn qBm qBl qBf qKn qKl qKs qPr qDay qG2 qG4 qX1 qX3) R (mkW zO zD zX zL zXs zG5 zG6 zG7 zc zn)) ((f_c_use qDay qEd qEl qEs qMh qMn zc zn p0 D).1) (enc (mkC qNb qTf qLn qLy qMn qMk qMs qMh qPn qPl qPo qPp qEn qEm qEc qEd qEs qEl qEe qEw qSt qDu qCu qCn qCb qCl qBn qBm qBl qBf qKn qKl qKs qPr qDay qG2 qG4 qX1 qX3) R (mkW zO zD zX zL zXs zG5 zG6 zG7 ((f_c_use qDay qEd qEl qEs qMh qMn zc zn p0 D).2.1) ((f_c_use qDay qEd qEl qEs qMh qMn zc zn p0 D).2.2))) := by
  obtain ⟨wMn, wPn, wEn, wBn, wKn, wMk, wEm, wEc, wCb, wBm, wTf, wKl, wMh, wMl, wCu, wCl, wLy⟩ := id hW
  refine Cal.mk (n := 4) rfl (Nat.le_of_ble_eq_true rfl) rfl ?_
  unfold f_c_use
  refine Ev.ps 2 rfl ?_
  by_cases c1 : f_r_isMachine qMn p0 = true
  · rw [if_pos c1]
    have q_p0 := isMachine_nat wMn c1
    generalize nP p0 = k_p0 at q_p0 ⊢
    obtain ⟨rfl, hk_p0⟩ := q_p0
    refine Ev.vir (as := [vI (nI k_p0)]) (rest := []) (by rfl) (by rfl) (by rfl) (by rfl) rfl (Nat.le_of_ble_eq_true rfl) (by rfl) (by rw [rd8]; rfl) (s_machineAt rd8 (by rfl) rd11 (by omega) hk_p0 (by rw [rd6 hk_p0]; rfl)) ?_
    refine Ev.ps 4 rfl ?_
    refine Ev.getf (v := vI qDay) (by rfl) (by rfl) (by rfl) (rd8) rfl ?_
    refine Ev.ps 2 rfl ?_
    by_cases c2 : f_r_in D 0 (qDay + 6) = true
    · rw [if_pos c2]
      refine Ev.sta (as := [vI D, vI 0, vI (qDay + 6)]) (rest := []) (by rfl) (by rfl) (by rfl) (by rfl) rfl (Nat.le_of_ble_eq_true rfl) (s_range (in_lo c2) (in_hi c2)) ?_
      refine Ev.ps 2 rfl ?_
      refine Ev.sta (as := [vR 6 k_p0, vI D]) (rest := []) (by rfl) (by rfl) (by rfl) (by rfl) rfl (Nat.le_of_ble_eq_true rfl) (s_c_lengths hW (by have := hk_p0; omega)) ?_
      refine Ev.ps 1 rfl ?_
      refine Ev.lcFw (v := 1139802112) (by rfl) (by rfl) (by rfl) ?_
      refine Ev.p (by rfl) (by dsimp only [pin, p2f, p2d]; rw [if_pos rfl, if_pos (use_nn _)]; rfl) ?_
      exact Ev.re rfl rfl rfl rfl rfl
    · rw [if_neg c2]
      exact Ev.staX (as := [vI D, vI 0, vI (qDay + 6)]) (rest := []) (by rfl) (by rfl) (by rfl) (by rfl) rfl (Nat.le_of_ble_eq_true rfl) (cexc (s_rangeX (in_not c2))) (by rfl)
  · rw [if_neg c1]
    exact Ev.virX (as := [vI p0]) (rest := []) (by rfl) (by rfl) (by rfl) (by rfl) rfl (Nat.le_of_ble_eq_true rfl) (by rfl) (by rw [rd8]; rfl) (cexc (s_machineAtX rd8 (by rfl) rd11 (not_in_nat (by omega) c1))) (by rfl)
def c_meanMinutes_L6 (qEl : Nat → Int32) (qSt : Nat → Int32)  : Nat → Nat → Int32 → Int32 → (Int32 × Int32)
  | 0, j6, sm, ct =>
    (sm, ct)
  | k6 + 1, j6, sm, ct =>
    if qSt j6 = 100 then c_meanMinutes_L6 qEl qSt  k6 (j6 + 1) (sm + (qEl j6)) (ct + 1) else c_meanMinutes_L6 qEl qSt  k6 (j6 + 1) sm ct
def f_c_meanMinutes (qEl : Nat → Int32) (qEn : Nat) (qSt : Nat → Int32) (zc : Nat) (zn : Nat)  : Re × Nat × Nat :=
  if (c_meanMinutes_L6 qEl qSt  qEn 0 0 0).2 = 0 then
    ((.inr 3), zc + 1, zn + 6)
  else
    ((.inl (some (vD (FP.ddiv (FP.i2d ((c_meanMinutes_L6 qEl qSt  qEn 0 0 0).1)) (FP.i2d ((c_meanMinutes_L6 qEl qSt  qEn 0 0 0).2)))))), zc, zn)
theorem s_c_meanMinutes {d : Nat} {zO : Int64} {zD : UInt64} {zX : Nat} {zL : Nat} {zXs : Nat → Int32} {zG5 : List Ob} {zG6 : List Ob} {zG7 : List Ob} {zc : Nat} {zn : Nat} {R : RD} {qNb : Nat → Int32} {qTf : Nat → Nat} {qLn : Nat} {qLy : Nat → Ly} {qMn : Nat} {qMk : Nat → Nat} {qMs : Nat → Int32} {qMh : Nat → List Nat} {qPn : Nat} {qPl : Nat → Nat → Int32} {qPo : Nat → Int32} {qPp : Nat → Int32} {qEn : Nat} {qEm : Nat → Nat} {qEc : Nat → Nat} {qEd : Nat → Int32} {qEs : Nat → Int32} {qEl : Nat → Int32} {qEe : Nat → Int32} {qEw : Nat → Int32} {qSt : Nat → Int32} {qDu : Nat → Int32} {qCu : Nat → List Nat} {qCn : Nat} {qCb : Nat → Nat} {qCl : Nat → Int32} {qBn : Nat} {qBm : Nat → Nat} {qBl : Nat → Int32} {qBf : Nat → Int32} {qKn : Nat} {qKl : Nat → Nat} {qKs : Nat → Nat → Int32} {qPr : Nat → Int32} {qDay : Int32} {qG2 : List Ob} {qG4 : List Ob} {qX1 : List Ob} {qX3 : List Ob}  (hW : WfC qMn qPn qEn qBn qKn qCn qLn qMk qEm qEc qCb qBm qTf qKl qMh qCu qLy) : Cal (d + 1) 60 [vR 8 0] (enc (mkC qNb qTf qLn qLy qMn qMk qMs qMh qPn qPl qPo qPp qEn qEm qEc qEd qEs qEl qEe qEw qSt qDu qCu qCn qCb qCl qBn qBm qBl qBf qKn qKl qKs qPr qDay qG2 qG4 qX1 qX3) R (mkW zO zD zX zL zXs zG5 zG6 zG7 zc zn)) ((f_c_meanMinutes qEl qEn qSt zc zn).1) (enc (mkC qNb qTf qLn qLy qMn qMk qMs qMh qPn qPl qPo qPp qEn qEm qEc qEd qEs qEl qEe qEw qSt qDu qCu qCn qCb qCl qBn qBm qBl qBf qKn qKl qKs qPr qDay qG2 qG4 qX1 qX3) R (mkW zO zD zX zL zXs zG5 zG6 zG7 ((f_c_meanMinutes qEl qEn qSt zc zn).2.1) ((f_c_meanMinutes qEl qEn qSt zc zn).2.2))) := by
  obtain ⟨wMn, wPn, wEn, wBn, wKn, wMk, wEm, wEc, wCb, wBm, wTf, wKl, wMh, wMl, wCu, wCl, wLy⟩ := id hW
  refine Cal.mk (n := 5) rfl (Nat.le_of_ble_eq_true rfl) rfl ?_
  unfold f_c_meanMinutes
  refine Ev.ps 6 rfl ?_
  have L6 : ∀ {x : Re × Hp}, ∀ (k6 j6 : Nat) (sm : Int32) (ct : Int32) (o6_4 : Option MV), j6 + k6 = qEn → Da o6_4 → (∀ (e6_4 : Option MV) (e6_3 : Option MV), Da e6_4 → Da e6_3 → Ev (d + 1) (60, 57, [some (vR 8 0), some (vI ((c_meanMinutes_L6 qEl qSt  k6 j6 sm ct).1)), some (vI ((c_meanMinutes_L6 qEl qSt  k6 j6 sm ct).2)), e6_3, e6_4], []) (enc (mkC qNb qTf qLn qLy qMn qMk qMs qMh qPn qPl qPo qPp qEn qEm qEc qEd qEs qEl qEe qEw qSt qDu qCu qCn qCb qCl qBn qBm qBl qBf qKn qKl qKs qPr qDay qG2 qG4 qX1 qX3) R (mkW zO zD zX zL zXs zG5 zG6 zG7 zc zn)) x) → Ev (d + 1) (60, 6, [some (vR 8 0), some (vI sm), some (vI ct), some (vI (nI j6)), o6_4], []) (enc (mkC qNb qTf qLn qLy qMn qMk qMs qMh qPn qPl qPo qPp qEn qEm qEc qEd qEs qEl qEe qEw qSt qDu qCu qCn qCb qCl qBn qBm qBl qBf qKn qKl qKs qPr qDay qG2 qG4 qX1 qX3) R (mkW zO zD zX zL zXs zG5 zG6 zG7 zc zn)) x := by
    intro x k6
    induction k6 with
    | zero =>
      intro j6 sm ct o6_4 hj6 ho6_4 K6
      rw [c_meanMinutes_L6] at K6
      refine Ev.ps 2 rfl ?_
      refine Ev.getf (v := vR 13 0) (by rfl) (by rfl) (by rfl) (rd8) rfl ?_
      refine Ev.lz (N := qEn) (by rfl) (by rfl) (by rfl) (Nat.le_of_ble_eq_true rfl) (rd13) range_len ?_
      refine Ev.igeN (a := j6) (b := qEn) (by omega) (by omega) (by rfl) (by rfl) (fun (c1 : j6 < qEn) => ?_) (fun (c1 : ¬ j6 < qEn) => ?_)
      · exfalso; omega
      · exact K6 _ _ ho6_4 Da.i
    | succ k6 ih6 =>
      intro j6 sm ct o6_4 hj6 ho6_4 K6
      rw [c_meanMinutes_L6] at K6
      refine Ev.ps 2 rfl ?_
      refine Ev.getf (v := vR 13 0) (by rfl) (by rfl) (by rfl) (rd8) rfl ?_
      refine Ev.lz (N := qEn) (by rfl) (by rfl) (by rfl) (Nat.le_of_ble_eq_true rfl) (rd13) range_len ?_
      refine Ev.igeN (a := j6) (b := qEn) (by omega) (by omega) (by rfl) (by rfl) (fun (c2 : j6 < qEn) => ?_) (fun (c2 : ¬ j6 < qEn) => ?_)
      · refine Ev.ps 1 rfl ?_
        refine Ev.getf (v := vR 13 0) (by rfl) (by rfl) (by rfl) (rd8) rfl ?_
        refine Ev.ps 1 rfl ?_
        refine Ev.lg (j := j6) (v := vR 3 j6) (by rfl) (by rfl) (by rfl) (Nat.le_of_ble_eq_true rfl) (rd13) (by omega) (range_get (by omega)) ?_
        refine Ev.cst (by rfl) (by rfl) (by rfl) (by rw [rd3 (by omega)]; rfl) ?_
        refine Ev.ps 2 rfl ?_
        refine Ev.getf (v := vI (qSt j6)) (by rfl) (by rfl) (by rfl) (rd3 (by omega)) rfl ?_
        refine Ev.ps 1 rfl ?_
        refine Ev.ine (by rfl) (by rfl) (fun (c3 : qSt j6 = 100) => ?_) (fun (c3 : ¬ qSt j6 = 100) => ?_)
        · rw [if_pos c3] at K6
          refine Ev.ps 2 rfl ?_
          refine Ev.getf (v := vI (qEl j6)) (by rfl) (by rfl) (by rfl) (rd3 (by omega)) rfl ?_
          refine Ev.ps 5 rfl ?_
          have h9 := ih6 (j6 + 1) (sm + (qEl j6)) (ct + 1) (some (vR 3 j6)) (by show j6 + 1 + k6 = qEn; omega) Da.r K6
          rw [← nI_1] at h9
          exact h9
        · rw [if_neg c3] at K6
          refine Ev.ps 2 rfl ?_
          have h9 := ih6 (j6 + 1) sm ct (some (vR 3 j6)) (by show j6 + 1 + k6 = qEn; omega) Da.r K6
          rw [← nI_1] at h9
          exact h9
      · exfalso; omega
  refine L6 qEn 0 0 0 none (by show 0 + qEn = qEn; omega) Da.n ?_
  intro e6_4 e6_3 he6_4 he6_3
  refine Ev.ps 1 rfl ?_
  refine Ev.zne (by rfl) (by rfl) (fun (c4 : (c_meanMinutes_L6 qEl qSt  qEn 0 0 0).2 = 0) => ?_) (fun (c4 : ¬ (c_meanMinutes_L6 qEl qSt  qEn 0 0 0).2 = 0) => ?_)
  · rw [if_pos c4]
    exact Ev.thwE (by rfl)
  · rw [if_neg c4]
    refine Ev.ps 4 rfl ?_
    refine Ev.p (by rfl) (by dsimp only [pin, p2f, p2d]; rw [if_pos rfl, if_pos (mean_nn _ _ (by assumption))]; rfl) ?_
    exact Ev.re rfl rfl rfl rfl rfl
