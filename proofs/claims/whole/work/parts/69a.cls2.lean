/-! owes -/
def f_c_owes (qPn : Nat) (qPo : Nat → Int32) (qPp : Nat → Int32) (zc : Nat) (zn : Nat) (p0 : Int32) : Re × Nat × Nat :=
  if f_r_isMember qPn p0 = true then ((.inl (some (vI ((qPo (nP p0)) - (qPp (nP p0)))))), zc, zn) else ((.inr 0), zc + 1, zn + 6)
theorem s_c_owes {d : Nat} {zO : Int64} {zD : UInt64} {zX : Nat} {zL : Nat} {zXs : Nat → Int32} {zG5 : List Ob} {zG6 : List Ob} {zG7 : List Ob} {zc : Nat} {zn : Nat} {R : RD} {qNb : Nat → Int32} {qTf : Nat → Nat} {qLn : Nat} {qLy : Nat → Ly} {qMn : Nat} {qMk : Nat → Nat} {qMs : Nat → Int32} {qMh : Nat → List Nat} {qPn : Nat} {qPl : Nat → Nat → Int32} {qPo : Nat → Int32} {qPp : Nat → Int32} {qEn : Nat} {qEm : Nat → Nat} {qEc : Nat → Nat} {qEd : Nat → Int32} {qEs : Nat → Int32} {qEl : Nat → Int32} {qEe : Nat → Int32} {qEw : Nat → Int32} {qSt : Nat → Int32} {qDu : Nat → Int32} {qCu : Nat → List Nat} {qCn : Nat} {qCb : Nat → Nat} {qCl : Nat → Int32} {qBn : Nat} {qBm : Nat → Nat} {qBl : Nat → Int32} {qBf : Nat → Int32} {qKn : Nat} {qKl : Nat → Nat} {qKs : Nat → Nat → Int32} {qPr : Nat → Int32} {qDay : Int32} {qG2 : List Ob} {qG4 : List Ob} {qX1 : List Ob} {qX3 : List Ob} {p0 : Int32} (hW : WfC qMn qPn qEn qBn qKn qCn qLn qMk qEm qEc qCb qBm qTf qKl qMh qCu qLy) : Cal (d + 2) 55 [vR 8 0, vI p0] (enc (mkC qNb qTf qLn qLy qMn qMk qMs qMh qPn qPl qPo qPp qEn qEm qEc qEd qEs qEl qEe qEw qSt qDu qCu qCn qCb qCl qBn qBm qBl qBf qKn qKl qKs qPr qDay qG2 qG4 qX1 qX3) R (mkW zO zD zX zL zXs zG5 zG6 zG7 zc zn)) ((f_c_owes qPn qPo qPp zc zn p0).1) (enc (mkC qNb qTf qLn qLy qMn qMk qMs qMh qPn qPl qPo qPp qEn qEm qEc qEd qEs qEl qEe qEw qSt qDu qCu qCn qCb qCl qBn qBm qBl qBf qKn qKl qKs qPr qDay qG2 qG4 qX1 qX3) R (mkW zO zD zX zL zXs zG5 zG6 zG7 ((f_c_owes qPn qPo qPp zc zn p0).2.1) ((f_c_owes qPn qPo qPp zc zn p0).2.2))) := by
  obtain ⟨wMn, wPn, wEn, wBn, wKn, wMk, wEm, wEc, wCb, wBm, wTf, wKl, wMh, wMl, wCu, wCl, wLy⟩ := id hW
  refine Cal.mk (n := 3) rfl (Nat.le_of_ble_eq_true rfl) rfl ?_
  unfold f_c_owes
  refine Ev.ps 2 rfl ?_
  by_cases c1 : f_r_isMember qPn p0 = true
  · rw [if_pos c1]
    have q_p0 := isMember_nat wPn c1
    generalize nP p0 = k_p0 at q_p0 ⊢
    obtain ⟨rfl, hk_p0⟩ := q_p0
    refine Ev.vir (as := [vI (nI k_p0)]) (rest := []) (by rfl) (by rfl) (by rfl) (by rfl) rfl (Nat.le_of_ble_eq_true rfl) (by rfl) (by rw [rd8]; rfl) (s_memberAt rd8 (by rfl) rd12 (by omega) hk_p0 (by rw [rd7 hk_p0]; rfl)) ?_
    refine Ev.ps 2 rfl ?_
    refine Ev.getf (v := vI (qPo k_p0)) (by rfl) (by rfl) (by rfl) (rd7 (by have := hk_p0; omega)) rfl ?_
    refine Ev.ps 1 rfl ?_
    refine Ev.getf (v := vI (qPp k_p0)) (by rfl) (by rfl) (by rfl) (rd7 (by have := hk_p0; omega)) rfl ?_
    refine Ev.ps 1 rfl ?_
    exact Ev.re rfl rfl rfl rfl rfl
  · rw [if_neg c1]
    exact Ev.virX (as := [vI p0]) (rest := []) (by rfl) (by rfl) (by rfl) (by rfl) rfl (Nat.le_of_ble_eq_true rfl) (by rfl) (by rw [rd8]; rfl) (cexc (s_memberAtX rd8 (by rfl) rd12 (not_in_nat (by omega) c1))) (by rfl)
