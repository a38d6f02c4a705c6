/-! the class: methods that write (written by gcls4.py) -/
theorem hget_newl {h : Hp} {s c n i b : Nat} {o ob : Ob} (hs : (h.1 s).length = i) (hg : hget h s b = some ob) : hget (hnew h s [o] c n) s b = some ob := by
  have hb := (List.getElem?_eq_some_iff.mp hg).1
  unfold hget hnew
  dsimp only
  rw [if_pos rfl, List.getElem?_append_left hb]
  exact hg
def f_c_deliver (qBf : Nat → Int32) (qBl : Nat → Int32) (qBm : Nat → Nat) (qBn : Nat) (zc : Nat) (zn : Nat) (p0 L : Int32) : Re × Nat × (Nat → Nat) × (Nat → Int32) × (Nat → Int32) × Nat × Nat :=
  if f_r_in p0 0 2 = true then
    if f_r_in L 1 5000 = true then
      if qBn < 30 then
        ((.inl (some (vI ((nI (qBn + 1)) - 1)))), qBn + 1, fup qBm qBn (nP p0), fup qBl qBn L, fup qBf qBn L, zc + 1 + 1, zn + 3 + (2 * ((List.range qBn).map (vR 0)).length + 10))
      else
        ((.inr 5), qBn, qBm, qBl, qBf, zc + 1, zn + 6)
    else
      ((.inr 1), qBn, qBm, qBl, qBf, zc + 1, zn + 6)
  else
    ((.inr 1), qBn, qBm, qBl, qBf, zc + 1, zn + 6)
theorem s_c_deliver {d : Nat} {zO : Int64} {zD : UInt64} {zX : Nat} {zL : Nat} {zXs : Nat → Int32} {zG5 : List Ob} {zG6 : List Ob} {zG7 : List Ob} {zc : Nat} {zn : Nat} {R : RD} {qNb : Nat → Int32} {qTf : Nat → Nat} {qLn : Nat} {qLy : Nat → Ly} {qMn : Nat} {qMk : Nat → Nat} {qMs : Nat → Int32} {qMh : Nat → List Nat} {qPn : Nat} {qPl : Nat → Nat → Int32} {qPo : Nat → Int32} {qPp : Nat → Int32} {qEn : Nat} {qEm : Nat → Nat} {qEc : Nat → Nat} {qEd : Nat → Int32} {qEs : Nat → Int32} {qEl : Nat → Int32} {qEe : Nat → Int32} {qEw : Nat → Int32} {qSt : Nat → Int32} {qDu : Nat → Int32} {qCu : Nat → List Nat} {qCn : Nat} {qCb : Nat → Nat} {qCl : Nat → Int32} {qBn : Nat} {qBm : Nat → Nat} {qBl : Nat → Int32} {qBf : Nat → Int32} {qKn : Nat} {qKl : Nat → Nat} {qKs : Nat → Nat → Int32} {qPr : Nat → Int32} {qDay : Int32} {qG2 : List Ob} {qG4 : List Ob} {qX1 : List Ob} {qX3 : List Ob} {p0 : Int32} {L : Int32} (hW : WfC qMn qPn qEn qBn qKn qCn qLn qMk qEm qEc qCb qBm qTf qKl qMh qCu qLy) : Cal (d + 1) 41 [vR 8 0, vI p0, vI L] (enc (mkC qNb qTf qLn qLy qMn qMk qMs qMh qPn qPl qPo qPp qEn qEm qEc qEd qEs qEl qEe qEw qSt qDu qCu qCn qCb qCl qBn qBm qBl qBf qKn qKl qKs qPr qDay qG2 qG4 qX1 qX3) R (mkW zO zD zX zL zXs zG5 zG6 zG7 zc zn)) ((f_c_deliver qBf qBl qBm qBn zc zn p0 L).1) (enc (mkC qNb qTf qLn qLy qMn qMk qMs qMh qPn qPl qPo qPp qEn qEm qEc qEd qEs qEl qEe qEw qSt qDu qCu qCn qCb qCl ((f_c_deliver qBf qBl qBm qBn zc zn p0 L).2.1) ((f_c_deliver qBf qBl qBm qBn zc zn p0 L).2.2.1) ((f_c_deliver qBf qBl qBm qBn zc zn p0 L).2.2.2.1) ((f_c_deliver qBf qBl qBm qBn zc zn p0 L).2.2.2.2.1) qKn qKl qKs qPr qDay qG2 qG4 qX1 qX3) R (mkW zO zD zX zL zXs zG5 zG6 zG7 ((f_c_deliver qBf qBl qBm qBn zc zn p0 L).2.2.2.2.2.1) ((f_c_deliver qBf qBl qBm qBn zc zn p0 L).2.2.2.2.2.2))) := by
  obtain ⟨wMn, wPn, wEn, wBn, wKn, wMk, wEm, wEc, wCb, wBm, wTf, wKl, wMh, wMl, wCu, wCl, wLy⟩ := id hW
  refine Cal.mk (n := 3) rfl (Nat.le_of_ble_eq_true rfl) rfl ?_
  unfold f_c_deliver
  refine Ev.ps 3 rfl ?_
  by_cases c1 : f_r_in p0 0 2 = true
  · rw [if_pos c1]
    have q_p0 := isMat_nat c1
    generalize nP p0 = k_p0 at q_p0 ⊢
    obtain ⟨rfl, hk_p0⟩ := q_p0
    refine Ev.sta (as := [vI (nI k_p0), vI 0, vI 2]) (rest := []) (by rfl) (by rfl) (by rfl) (by rfl) rfl (Nat.le_of_ble_eq_true rfl) (s_range (in_lo c1) (in_hi c1)) ?_
    refine Ev.ps 3 rfl ?_
    by_cases c2 : f_r_in L 1 5000 = true
    · rw [if_pos c2]
      refine Ev.sta (as := [vI L, vI 1, vI 5000]) (rest := []) (by rfl) (by rfl) (by rfl) (by rfl) rfl (Nat.le_of_ble_eq_true rfl) (s_range (in_lo c2) (in_hi c2)) ?_
      refine Ev.ps 1 rfl ?_
      refine Ev.getf (v := vR 14 0) (by rfl) (by rfl) (by rfl) (rd8) rfl ?_
      refine Ev.lz (N := qBn) (by rfl) (by rfl) (by rfl) (Nat.le_of_ble_eq_true rfl) (rd14) range_len ?_
      refine Ev.ps 1 rfl ?_
      by_cases c3 : qBn < 30
      · rw [if_pos c3]
        refine Ev.sta (as := [vI (nI qBn), vI 30]) (rest := []) (by rfl) (by rfl) (by rfl) (by rfl) rfl (Nat.le_of_ble_eq_true rfl) (s_room ((nI_ltI (by omega) (by decide)).mpr c3)) ?_
        refine Ev.ps 1 rfl ?_
        refine Ev.getf (v := vR 14 0) (by rfl) (by rfl) (by rfl) (rd8) rfl ?_
        refine Ev.nwo (s := 0) (i := qBn) (by rfl) (by rfl) ⟨by rfl, by rfl, by decide, by rfl⟩ (show (pl qBn _).length = _ from pl_len) rfl ?_
        refine Ev.ps 3 rfl ?_
        refine Ev.spe (as := [vI (nI k_p0), vI L]) (rest := [vR 0 qBn, vR 14 0]) (by rfl) (by rfl) (by rfl) (by rfl) rfl (Nat.le_of_ble_eq_true rfl) (by rfl) (by rw [hget_newi (show (pl qBn _).length = _ from pl_len)]; rfl) (s_iBar (hget_newi (show (pl qBn _).length = _ from pl_len))) ?_
        refine Ev.la (by rfl) (by rfl) (by rfl) (Nat.le_of_ble_eq_true rfl) (by rfl) (((hget_put_ne (by decide)).trans ((hget_new_ne (by decide)).trans (rd14)))) (by rw [hget_put (hget_newi (show (pl qBn _).length = _ from pl_len))]; rfl) (by rw [range_len]; omega) mk_bar ?_
        refine Ev.ps 2 rfl ?_
        refine Ev.getf (v := vR 14 0) (by rfl) (by rfl) (by rfl) (rd8) rfl ?_
        refine Ev.lz (N := (qBn + 1)) (by rfl) (by rfl) (by rfl) (Nat.le_of_ble_eq_true rfl) (rd14) range_len ?_
        refine Ev.ps 2 rfl ?_
        exact Ev.re rfl rfl rfl rfl rfl
      · rw [if_neg c3]
        exact Ev.staX (as := [vI (nI qBn), vI 30]) (rest := []) (by rfl) (by rfl) (by rfl) (by rfl) rfl (Nat.le_of_ble_eq_true rfl) (cexc (s_roomX (fun z => c3 ((nI_ltI (by omega) (by decide)).mp z)))) (by rfl)
    · rw [if_neg c2]
      exact Ev.staX (as := [vI L, vI 1, vI 5000]) (rest := []) (by rfl) (by rfl) (by rfl) (by rfl) rfl (Nat.le_of_ble_eq_true rfl) (cexc (s_rangeX (in_not c2))) (by rfl)
  · rw [if_neg c1]
    exact Ev.staX (as := [vI p0, vI 0, vI 2]) (rest := []) (by rfl) (by rfl) (by rfl) (by rfl) rfl (Nat.le_of_ble_eq_true rfl) (cexc (s_rangeX (in_not c1))) (by rfl)
def f_c_addMachine (qMh : Nat → List Nat) (qMk : Nat → Nat) (qMn : Nat) (qMs : Nat → Int32) (zc : Nat) (zn : Nat) (p0 S : Int32) : Re × Nat × (Nat → Nat) × (Nat → Int32) × (Nat → List Nat) × Nat × Nat :=
  if f_r_isKind p0 = true then
    if f_r_in S 0 30 = true then
      if qMn < 6 then
        ((.inl (some (vI ((nI (qMn + 1)) - 1)))), qMn + 1, fup qMk qMn (nP p0), fup qMs qMn S, fup qMh qMn ([]), zc + 1 + 1 + 1, zn + 3 + 3 + (2 * ((List.range qMn).map (vR 6)).length + 10))
      else
        ((.inr 5), qMn, qMk, qMs, qMh, zc + 1, zn + 6)
    else
      ((.inr 1), qMn, qMk, qMs, qMh, zc + 1, zn + 6)
  else
    ((.inr 1), qMn, qMk, qMs, qMh, zc + 1, zn + 6)
theorem s_c_addMachine {d : Nat} {zO : Int64} {zD : UInt64} {zX : Nat} {zL : Nat} {zXs : Nat → Int32} {zG5 : List Ob} {zG6 : List Ob} {zG7 : List Ob} {zc : Nat} {zn : Nat} {R : RD} {qNb : Nat → Int32} {qTf : Nat → Nat} {qLn : Nat} {qLy : Nat → Ly} {qMn : Nat} {qMk : Nat → Nat} {qMs : Nat → Int32} {qMh : Nat → List Nat} {qPn : Nat} {qPl : Nat → Nat → Int32} {qPo : Nat → Int32} {qPp : Nat → Int32} {qEn : Nat} {qEm : Nat → Nat} {qEc : Nat → Nat} {qEd : Nat → Int32} {qEs : Nat → Int32} {qEl : Nat → Int32} {qEe : Nat → Int32} {qEw : Nat → Int32} {qSt : Nat → Int32} {qDu : Nat → Int32} {qCu : Nat → List Nat} {qCn : Nat} {qCb : Nat → Nat} {qCl : Nat → Int32} {qBn : Nat} {qBm : Nat → Nat} {qBl : Nat → Int32} {qBf : Nat → Int32} {qKn : Nat} {qKl : Nat → Nat} {qKs : Nat → Nat → Int32} {qPr : Nat → Int32} {qDay : Int32} {qG2 : List Ob} {qG4 : List Ob} {qX1 : List Ob} {qX3 : List Ob} {p0 : Int32} {S : Int32} (hW : WfC qMn qPn qEn qBn qKn qCn qLn qMk qEm qEc qCb qBm qTf qKl qMh qCu qLy) : Cal (d + 1) 21 [vR 8 0, vI p0, vI S] (enc (mkC qNb qTf qLn qLy qMn qMk qMs qMh qPn qPl qPo qPp qEn qEm qEc qEd qEs qEl qEe qEw qSt qDu qCu qCn qCb qCl qBn qBm qBl qBf qKn qKl qKs qPr qDay qG2 qG4 qX1 qX3) R (mkW zO zD zX zL zXs zG5 zG6 zG7 zc zn)) ((f_c_addMachine qMh qMk qMn qMs zc zn p0 S).1) (enc (mkC qNb qTf qLn qLy ((f_c_addMachine qMh qMk qMn qMs zc zn p0 S).2.1) ((f_c_addMachine qMh qMk qMn qMs zc zn p0 S).2.2.1) ((f_c_addMachine qMh qMk qMn qMs zc zn p0 S).2.2.2.1) ((f_c_addMachine qMh qMk qMn qMs zc zn p0 S).2.2.2.2.1) qPn qPl qPo qPp qEn qEm qEc qEd qEs qEl qEe qEw qSt qDu qCu qCn qCb qCl qBn qBm qBl qBf qKn qKl qKs qPr qDay qG2 qG4 qX1 qX3) R (mkW zO zD zX zL zXs zG5 zG6 zG7 ((f_c_addMachine qMh qMk qMn qMs zc zn p0 S).2.2.2.2.2.1) ((f_c_addMachine qMh qMk qMn qMs zc zn p0 S).2.2.2.2.2.2))) := by
  obtain ⟨wMn, wPn, wEn, wBn, wKn, wMk, wEm, wEc, wCb, wBm, wTf, wKl, wMh, wMl, wCu, wCl, wLy⟩ := id hW
  refine Cal.mk (n := 4) rfl (Nat.le_of_ble_eq_true rfl) rfl ?_
  unfold f_c_addMachine
  refine Ev.ps 2 rfl ?_
  by_cases c1 : f_r_isKind p0 = true
  · rw [if_pos c1]
    have q_p0 := isKind_nat c1
    generalize nP p0 = k_p0 at q_p0 ⊢
    obtain ⟨rfl, hk_p0⟩ := q_p0
    refine Ev.vir (as := [vI (nI k_p0)]) (rest := []) (by rfl) (by rfl) (by rfl) (by rfl) rfl (Nat.le_of_ble_eq_true rfl) (by rfl) (by rw [rd8]; rfl) (s_kindAt rd8 (by rfl) rd10 (by decide) hk_p0 (by rw [rd4 hk_p0]; rfl)) ?_
    refine Ev.ps 4 rfl ?_
    by_cases c2 : f_r_in S 0 30 = true
    · rw [if_pos c2]
      refine Ev.sta (as := [vI S, vI 0, vI 30]) (rest := []) (by rfl) (by rfl) (by rfl) (by rfl) rfl (Nat.le_of_ble_eq_true rfl) (s_range (in_lo c2) (in_hi c2)) ?_
      refine Ev.ps 1 rfl ?_
      refine Ev.getf (v := vR 11 0) (by rfl) (by rfl) (by rfl) (rd8) rfl ?_
      refine Ev.lz (N := qMn) (by rfl) (by rfl) (by rfl) (Nat.le_of_ble_eq_true rfl) (rd11) range_len ?_
      refine Ev.ps 1 rfl ?_
      by_cases c3 : qMn < 6
      · rw [if_pos c3]
        refine Ev.sta (as := [vI (nI qMn), vI 6]) (rest := []) (by rfl) (by rfl) (by rfl) (by rfl) rfl (Nat.le_of_ble_eq_true rfl) (s_room ((nI_ltI (by omega) (by decide)).mpr c3)) ?_
        refine Ev.ps 1 rfl ?_
        refine Ev.getf (v := vR 11 0) (by rfl) (by rfl) (by rfl) (rd8) rfl ?_
        refine Ev.nwo (s := 6) (i := qMn) (by rfl) (by rfl) ⟨by rfl, by rfl, by decide, by rfl⟩ (show (pl qMn _).length = _ from pl_len) rfl ?_
        refine Ev.ps 3 rfl ?_
        refine Ev.spe (as := [vR 4 k_p0, vI S]) (rest := [vR 6 qMn, vR 11 0]) (by rfl) (by rfl) (by rfl) (by rfl) rfl (Nat.le_of_ble_eq_true rfl) (by rfl) (by rw [hget_newi (show (pl qMn _).length = _ from pl_len)]; rfl) (s_iMach' (show (pl qMn _).length = _ from pl_len) (hget_newi (show (pl qMn _).length = _ from pl_len))) ?_
        refine Ev.la (by rfl) (by rfl) (by rfl) (Nat.le_of_ble_eq_true rfl) (by rfl) (((hget_put_ne (by decide)).trans ((hget_new_ne (by decide)).trans ((hget_new_ne (by decide)).trans (rd11))))) (by rw [hget_put ((hget_new_ne (by decide)).trans (hget_newi (show (pl qMn _).length = _ from pl_len)))]; rfl) (by rw [range_len]; omega) mk_mach ?_
        refine Ev.ps 2 rfl ?_
        refine Ev.getf (v := vR 11 0) (by rfl) (by rfl) (by rfl) (rd8) rfl ?_
        refine Ev.lz (N := (qMn + 1)) (by rfl) (by rfl) (by rfl) (Nat.le_of_ble_eq_true rfl) (rd11) range_len ?_
        refine Ev.ps 2 rfl ?_
        exact Ev.re rfl rfl rfl rfl rfl
      · rw [if_neg c3]
        exact Ev.staX (as := [vI (nI qMn), vI 6]) (rest := []) (by rfl) (by rfl) (by rfl) (by rfl) rfl (Nat.le_of_ble_eq_true rfl) (cexc (s_roomX (fun z => c3 ((nI_ltI (by omega) (by decide)).mp z)))) (by rfl)
    · rw [if_neg c2]
      exact Ev.staX (as := [vI S, vI 0, vI 30]) (rest := []) (by rfl) (by rfl) (by rfl) (by rfl) rfl (Nat.le_of_ble_eq_true rfl) (cexc (s_rangeX (in_not c2))) (by rfl)
  · rw [if_neg c1]
    exact Ev.virX (as := [vI p0]) (rest := []) (by rfl) (by rfl) (by rfl) (by rfl) rfl (Nat.le_of_ble_eq_true rfl) (by rfl) (by rw [rd8]; rfl) (cexc (s_kindAtX rd8 (by rfl) rd10 (not_in_nat (n := 4) (by decide) c1))) (by rfl)
def f_c_addMember (qPl : Nat → Nat → Int32) (qPn : Nat) (qPo : Nat → Int32) (qPp : Nat → Int32) (zc : Nat) (zn : Nat)  : Re × Nat × (Nat → Nat → Int32) × (Nat → Int32) × (Nat → Int32) × Nat × Nat :=
  if qPn < 10 then
    ((.inl (some (vI ((nI (qPn + 1)) - 1)))), qPn + 1, fup qPl qPn (fun k => fup (fup (fup (fup (fun _ => 0) 0 (-1)) 1 (-1)) 2 (-1)) 3 (-1) k), fup qPo qPn 0, fup qPp qPn 0, zc + 1 + 1 + 1, zn + 3 + 4 + (2 * ((List.range qPn).map (vR 7)).length + 10))
  else
    ((.inr 5), qPn, qPl, qPo, qPp, zc + 1, zn + 6)
theorem s_c_addMember {d : Nat} {zO : Int64} {zD : UInt64} {zX : Nat} {zL : Nat} {zXs : Nat → Int32} {zG5 : List Ob} {zG6 : List Ob} {zG7 : List Ob} {zc : Nat} {zn : Nat} {R : RD} {qNb : Nat → Int32} {qTf : Nat → Nat} {qLn : Nat} {qLy : Nat → Ly} {qMn : Nat} {qMk : Nat → Nat} {qMs : Nat → Int32} {qMh : Nat → List Nat} {qPn : Nat} {qPl : Nat → Nat → Int32} {qPo : Nat → Int32} {qPp : Nat → Int32} {qEn : Nat} {qEm : Nat → Nat} {qEc : Nat → Nat} {qEd : Nat → Int32} {qEs : Nat → Int32} {qEl : Nat → Int32} {qEe : Nat → Int32} {qEw : Nat → Int32} {qSt : Nat → Int32} {qDu : Nat → Int32} {qCu : Nat → List Nat} {qCn : Nat} {qCb : Nat → Nat} {qCl : Nat → Int32} {qBn : Nat} {qBm : Nat → Nat} {qBl : Nat → Int32} {qBf : Nat → Int32} {qKn : Nat} {qKl : Nat → Nat} {qKs : Nat → Nat → Int32} {qPr : Nat → Int32} {qDay : Int32} {qG2 : List Ob} {qG4 : List Ob} {qX1 : List Ob} {qX3 : List Ob}  (hW : WfC qMn qPn qEn qBn qKn qCn qLn qMk qEm qEc qCb qBm qTf qKl qMh qCu qLy) : Cal (d + 1) 22 [vR 8 0] (enc (mkC qNb qTf qLn qLy qMn qMk qMs qMh qPn qPl qPo qPp qEn qEm qEc qEd qEs qEl qEe qEw qSt qDu qCu qCn qCb qCl qBn qBm qBl qBf qKn qKl qKs qPr qDay qG2 qG4 qX1 qX3) R (mkW zO zD zX zL zXs zG5 zG6 zG7 zc zn)) ((f_c_addMember qPl qPn qPo qPp zc zn).1) (enc (mkC qNb qTf qLn qLy qMn qMk qMs qMh ((f_c_addMember qPl qPn qPo qPp zc zn).2.1) ((f_c_addMember qPl qPn qPo qPp zc zn).2.2.1) ((f_c_addMember qPl qPn qPo qPp zc zn).2.2.2.1) ((f_c_addMember qPl qPn qPo qPp zc zn).2.2.2.2.1) qEn qEm qEc qEd qEs qEl qEe qEw qSt qDu qCu qCn qCb qCl qBn qBm qBl qBf qKn qKl qKs qPr qDay qG2 qG4 qX1 qX3) R (mkW zO zD zX zL zXs zG5 zG6 zG7 ((f_c_addMember qPl qPn qPo qPp zc zn).2.2.2.2.2.1) ((f_c_addMember qPl qPn qPo qPp zc zn).2.2.2.2.2.2))) := by
  obtain ⟨wMn, wPn, wEn, wBn, wKn, wMk, wEm, wEc, wCb, wBm, wTf, wKl, wMh, wMl, wCu, wCl, wLy⟩ := id hW
  refine Cal.mk (n := 1) rfl (Nat.le_of_ble_eq_true rfl) rfl ?_
  unfold f_c_addMember
  refine Ev.ps 1 rfl ?_
  refine Ev.getf (v := vR 12 0) (by rfl) (by rfl) (by rfl) (rd8) rfl ?_
  refine Ev.lz (N := qPn) (by rfl) (by rfl) (by rfl) (Nat.le_of_ble_eq_true rfl) (rd12) range_len ?_
  refine Ev.ps 1 rfl ?_
  by_cases c1 : qPn < 10
  · rw [if_pos c1]
    refine Ev.sta (as := [vI (nI qPn), vI 10]) (rest := []) (by rfl) (by rfl) (by rfl) (by rfl) rfl (Nat.le_of_ble_eq_true rfl) (s_room ((nI_ltI (by omega) (by decide)).mpr c1)) ?_
    refine Ev.ps 1 rfl ?_
    refine Ev.getf (v := vR 12 0) (by rfl) (by rfl) (by rfl) (rd8) rfl ?_
    refine Ev.nwo (s := 7) (i := qPn) (by rfl) (by rfl) ⟨by rfl, by rfl, by decide, by rfl⟩ (show (pl qPn _).length = _ from pl_len) rfl ?_
    refine Ev.ps 1 rfl ?_
    refine Ev.spe (as := []) (rest := [vR 7 qPn, vR 12 0]) (by rfl) (by rfl) (by rfl) (by rfl) rfl (Nat.le_of_ble_eq_true rfl) (by rfl) (by rw [hget_newi (show (pl qPn _).length = _ from pl_len)]; rfl) (s_iMem' (show (pl qPn _).length = _ from pl_len) (hget_newi (show (pl qPn _).length = _ from pl_len))) ?_
    refine Ev.la (by rfl) (by rfl) (by rfl) (Nat.le_of_ble_eq_true rfl) (by rfl) (((hget_put_ne (by decide)).trans ((hget_put_ne (by decide)).trans ((hget_new_ne (by decide)).trans ((hget_new_ne (by decide)).trans (rd12)))))) (by rw [hget_put_ne (by decide), hget_put ((hget_new_ne (by decide)).trans (hget_newi (show (pl qPn _).length = _ from pl_len)))]; rfl) (by rw [range_len]; omega) mk_mem ?_
    refine Ev.ps 2 rfl ?_
    refine Ev.getf (v := vR 12 0) (by rfl) (by rfl) (by rfl) (rd8) rfl ?_
    refine Ev.lz (N := (qPn + 1)) (by rfl) (by rfl) (by rfl) (Nat.le_of_ble_eq_true rfl) (rd12) range_len ?_
    refine Ev.ps 2 rfl ?_
    exact Ev.re rfl rfl rfl rfl rfl
  · rw [if_neg c1]
    exact Ev.staX (as := [vI (nI qPn), vI 10]) (rest := []) (by rfl) (by rfl) (by rfl) (by rfl) rfl (Nat.le_of_ble_eq_true rfl) (cexc (s_roomX (fun z => c1 ((nI_ltI (by omega) (by decide)).mp z)))) (by rfl)
def f_c_setPrice (qPr : Nat → Int32) (zc : Nat) (zn : Nat) (p0 X : Int32) : Re × (Nat → Int32) × Nat × Nat :=
  if f_r_in p0 0 2 = true then
    if f_r_in X 0 99 = true then
      if nI (nP p0) < 0 then
        ((.inl (some (vI (f_c_priceOf qPr (nI (nP p0)))))), qPr, zc, zn)
      else
        if (nP p0) < 3 then ((.inl (some (vI (f_c_priceOf qPr (nI (nP p0)))))), fup qPr (nP p0) X, zc, zn) else ((.inl (some (vI (f_c_priceOf qPr (nI (nP p0)))))), qPr, zc, zn)
    else
      ((.inr 1), qPr, zc + 1, zn + 6)
  else
    ((.inr 1), qPr, zc + 1, zn + 6)
theorem s_c_setPrice {d : Nat} {zO : Int64} {zD : UInt64} {zX : Nat} {zL : Nat} {zXs : Nat → Int32} {zG5 : List Ob} {zG6 : List Ob} {zG7 : List Ob} {zc : Nat} {zn : Nat} {R : RD} {qNb : Nat → Int32} {qTf : Nat → Nat} {qLn : Nat} {qLy : Nat → Ly} {qMn : Nat} {qMk : Nat → Nat} {qMs : Nat → Int32} {qMh : Nat → List Nat} {qPn : Nat} {qPl : Nat → Nat → Int32} {qPo : Nat → Int32} {qPp : Nat → Int32} {qEn : Nat} {qEm : Nat → Nat} {qEc : Nat → Nat} {qEd : Nat → Int32} {qEs : Nat → Int32} {qEl : Nat → Int32} {qEe : Nat → Int32} {qEw : Nat → Int32} {qSt : Nat → Int32} {qDu : Nat → Int32} {qCu : Nat → List Nat} {qCn : Nat} {qCb : Nat → Nat} {qCl : Nat → Int32} {qBn : Nat} {qBm : Nat → Nat} {qBl : Nat → Int32} {qBf : Nat → Int32} {qKn : Nat} {qKl : Nat → Nat} {qKs : Nat → Nat → Int32} {qPr : Nat → Int32} {qDay : Int32} {qG2 : List Ob} {qG4 : List Ob} {qX1 : List Ob} {qX3 : List Ob} {p0 : Int32} {X : Int32} (hW : WfC qMn qPn qEn qBn qKn qCn qLn qMk qEm qEc qCb qBm qTf qKl qMh qCu qLy) : Cal (d + 1) 45 [vR 8 0, vI p0, vI X] (enc (mkC qNb qTf qLn qLy qMn qMk qMs qMh qPn qPl qPo qPp qEn qEm qEc qEd qEs qEl qEe qEw qSt qDu qCu qCn qCb qCl qBn qBm qBl qBf qKn qKl qKs qPr qDay qG2 qG4 qX1 qX3) R (mkW zO zD zX zL zXs zG5 zG6 zG7 zc zn)) ((f_c_setPrice qPr zc zn p0 X).1) (enc (mkC qNb qTf qLn qLy qMn qMk qMs qMh qPn qPl qPo qPp qEn qEm qEc qEd qEs qEl qEe qEw qSt qDu qCu qCn qCb qCl qBn qBm qBl qBf qKn qKl qKs ((f_c_setPrice qPr zc zn p0 X).2.1) qDay qG2 qG4 qX1 qX3) R (mkW zO zD zX zL zXs zG5 zG6 zG7 ((f_c_setPrice qPr zc zn p0 X).2.2.1) ((f_c_setPrice qPr zc zn p0 X).2.2.2))) := by
  obtain ⟨wMn, wPn, wEn, wBn, wKn, wMk, wEm, wEc, wCb, wBm, wTf, wKl, wMh, wMl, wCu, wCl, wLy⟩ := id hW
  refine Cal.mk (n := 4) rfl (Nat.le_of_ble_eq_true rfl) rfl ?_
  unfold f_c_setPrice
  refine Ev.ps 3 rfl ?_
  by_cases c1 : f_r_in p0 0 2 = true
  · rw [if_pos c1]
    have q_p0 := isMat_nat c1
    generalize nP p0 = k_p0 at q_p0 ⊢
    obtain ⟨rfl, hk_p0⟩ := q_p0
    refine Ev.sta (as := [vI (nI k_p0), vI 0, vI 2]) (rest := []) (by rfl) (by rfl) (by rfl) (by rfl) rfl (Nat.le_of_ble_eq_true rfl) (s_range (in_lo c1) (in_hi c1)) ?_
    refine Ev.ps 3 rfl ?_
    by_cases c2 : f_r_in X 0 99 = true
    · rw [if_pos c2]
      refine Ev.sta (as := [vI X, vI 0, vI 99]) (rest := []) (by rfl) (by rfl) (by rfl) (by rfl) rfl (Nat.le_of_ble_eq_true rfl) (s_range (in_lo c2) (in_hi c2)) ?_
      refine Ev.ps 2 rfl ?_
      refine Ev.vir (as := [vI (nI k_p0)]) (rest := []) (by rfl) (by rfl) (by rfl) (by rfl) rfl (Nat.le_of_ble_eq_true rfl) (by rfl) (by rw [rd8]; rfl) (s_c_priceOf hW) ?_
      refine Ev.ps 2 rfl ?_
      refine Ev.zlt (by rfl) (by rfl) (fun (c3 : nI k_p0 < 0) => ?_) (fun (c3 : ¬ nI k_p0 < 0) => ?_)
      · rw [if_pos c3]
        refine Ev.ps 1 rfl ?_
        exact Ev.re rfl rfl rfl rfl rfl
      · rw [if_neg c3]
        refine Ev.ps 2 rfl ?_
        refine Ev.getf (v := vR 21 0) (by rfl) (by rfl) (by rfl) (rd8) rfl ?_
        refine Ev.arl (N := 3) (by rfl) (by decide) (rd21) pl_len ?_
        refine Ev.igeN (a := k_p0) (b := 3) (by have := hk_p0; omega) (by omega) (by rfl) (by rfl) (fun (c4 : k_p0 < 3) => ?_) (fun (c4 : ¬ k_p0 < 3) => ?_)
        · rw [if_pos c4]
          refine Ev.ps 1 rfl ?_
          refine Ev.getf (v := vR 21 0) (by rfl) (by rfl) (by rfl) (rd8) rfl ?_
          refine Ev.ps 2 rfl ?_
          refine Ev.asI (k := k_p0) (by rfl) (by rfl) (rd21) (by omega) (by have := hk_p0; omega) (show _ = enc (mkC qNb qTf qLn qLy qMn qMk qMs qMh qPn qPl qPo qPp qEn qEm qEc qEd qEs qEl qEe qEw qSt qDu qCu qCn qCb qCl qBn qBm qBl qBf qKn qKl qKs (fup qPr k_p0 X) qDay qG2 qG4 qX1 qX3) R (mkW zO zD zX zL zXs zG5 zG6 zG7 zc zn) from wr21 (i := k_p0) (v := X)) ?_
          refine Ev.ps 1 rfl ?_
          exact Ev.re rfl rfl rfl rfl rfl
        · rw [if_neg c4]
          refine Ev.ps 1 rfl ?_
          exact Ev.re rfl rfl rfl rfl rfl
    · rw [if_neg c2]
      exact Ev.staX (as := [vI X, vI 0, vI 99]) (rest := []) (by rfl) (by rfl) (by rfl) (by rfl) rfl (Nat.le_of_ble_eq_true rfl) (cexc (s_rangeX (in_not c2))) (by rfl)
  · rw [if_neg c1]
    exact Ev.staX (as := [vI p0, vI 0, vI 2]) (rest := []) (by rfl) (by rfl) (by rfl) (by rfl) rfl (Nat.le_of_ble_eq_true rfl) (cexc (s_rangeX (in_not c1))) (by rfl)
def f_c_setRate (qLn : Nat) (qLy : Nat → Ly) (qTf : Nat → Nat) (zc : Nat) (zn : Nat) (p0 X : Int32) : Re × (Nat → Nat) × Nat × (Nat → Ly) × Nat × Nat :=
  if f_r_isKind p0 = true then
    if f_r_in X 0 99 = true then
      ((.inl (some (vI (lyHt (qLy (qTf (nP p0))))))), fup qTf (nP p0) qLn, qLn + 1, fup qLy qLn (0, X, none, 1), zc + 1, zn + 4)
    else
      ((.inr 1), qTf, qLn, qLy, zc + 1, zn + 6)
  else
    ((.inr 1), qTf, qLn, qLy, zc + 1, zn + 6)
theorem s_c_setRate {d : Nat} {zO : Int64} {zD : UInt64} {zX : Nat} {zL : Nat} {zXs : Nat → Int32} {zG5 : List Ob} {zG6 : List Ob} {zG7 : List Ob} {zc : Nat} {zn : Nat} {R : RD} {qNb : Nat → Int32} {qTf : Nat → Nat} {qLn : Nat} {qLy : Nat → Ly} {qMn : Nat} {qMk : Nat → Nat} {qMs : Nat → Int32} {qMh : Nat → List Nat} {qPn : Nat} {qPl : Nat → Nat → Int32} {qPo : Nat → Int32} {qPp : Nat → Int32} {qEn : Nat} {qEm : Nat → Nat} {qEc : Nat → Nat} {qEd : Nat → Int32} {qEs : Nat → Int32} {qEl : Nat → Int32} {qEe : Nat → Int32} {qEw : Nat → Int32} {qSt : Nat → Int32} {qDu : Nat → Int32} {qCu : Nat → List Nat} {qCn : Nat} {qCb : Nat → Nat} {qCl : Nat → Int32} {qBn : Nat} {qBm : Nat → Nat} {qBl : Nat → Int32} {qBf : Nat → Int32} {qKn : Nat} {qKl : Nat → Nat} {qKs : Nat → Nat → Int32} {qPr : Nat → Int32} {qDay : Int32} {qG2 : List Ob} {qG4 : List Ob} {qX1 : List Ob} {qX3 : List Ob} {p0 : Int32} {X : Int32} (hW : WfC qMn qPn qEn qBn qKn qCn qLn qMk qEm qEc qCb qBm qTf qKl qMh qCu qLy) : Cal (d + 1) 46 [vR 8 0, vI p0, vI X] (enc (mkC qNb qTf qLn qLy qMn qMk qMs qMh qPn qPl qPo qPp qEn qEm qEc qEd qEs qEl qEe qEw qSt qDu qCu qCn qCb qCl qBn qBm qBl qBf qKn qKl qKs qPr qDay qG2 qG4 qX1 qX3) R (mkW zO zD zX zL zXs zG5 zG6 zG7 zc zn)) ((f_c_setRate qLn qLy qTf zc zn p0 X).1) (enc (mkC qNb ((f_c_setRate qLn qLy qTf zc zn p0 X).2.1) ((f_c_setRate qLn qLy qTf zc zn p0 X).2.2.1) ((f_c_setRate qLn qLy qTf zc zn p0 X).2.2.2.1) qMn qMk qMs qMh qPn qPl qPo qPp qEn qEm qEc qEd qEs qEl qEe qEw qSt qDu qCu qCn qCb qCl qBn qBm qBl qBf qKn qKl qKs qPr qDay qG2 qG4 qX1 qX3) R (mkW zO zD zX zL zXs zG5 zG6 zG7 ((f_c_setRate qLn qLy qTf zc zn p0 X).2.2.2.2.1) ((f_c_setRate qLn qLy qTf zc zn p0 X).2.2.2.2.2))) := by
  obtain ⟨wMn, wPn, wEn, wBn, wKn, wMk, wEm, wEc, wCb, wBm, wTf, wKl, wMh, wMl, wCu, wCl, wLy⟩ := id hW
  refine Cal.mk (n := 5) rfl (Nat.le_of_ble_eq_true rfl) rfl ?_
  unfold f_c_setRate
  refine Ev.ps 2 rfl ?_
  by_cases c1 : f_r_isKind p0 = true
  · rw [if_pos c1]
    have q_p0 := isKind_nat c1
    generalize nP p0 = k_p0 at q_p0 ⊢
    obtain ⟨rfl, hk_p0⟩ := q_p0
    refine Ev.vir (as := [vI (nI k_p0)]) (rest := []) (by rfl) (by rfl) (by rfl) (by rfl) rfl (Nat.le_of_ble_eq_true rfl) (by rfl) (by rw [rd8]; rfl) (s_kindAt rd8 (by rfl) rd10 (by decide) hk_p0 (by rw [rd4 hk_p0]; rfl)) ?_
    refine Ev.ps 4 rfl ?_
    by_cases c2 : f_r_in X 0 99 = true
    · rw [if_pos c2]
      refine Ev.sta (as := [vI X, vI 0, vI 99]) (rest := []) (by rfl) (by rfl) (by rfl) (by rfl) rfl (Nat.le_of_ble_eq_true rfl) (s_range (in_lo c2) (in_hi c2)) ?_
      refine Ev.ps 1 rfl ?_
      refine Ev.getf (v := vR 5 (qTf k_p0)) (by rfl) (by rfl) (by rfl) (rd4 (by have := hk_p0; omega)) rfl ?_
      refine Ev.getf (v := vI (lyHt (qLy (qTf k_p0)))) (by rfl) (by rfl) (by rfl) (rd5 (by have := wTf _ (by have := hk_p0; omega); omega)) rfl ?_
      refine Ev.ps 2 rfl ?_
      refine Ev.nwo (s := 5) (i := qLn) (by rfl) (by rfl) ⟨by rfl, by rfl, by decide, by rfl⟩ (show (pl qLn _).length = _ from pl_len) rfl ?_
      refine Ev.ps 4 rfl ?_
      refine Ev.spe (as := [vI 0, vI X, vN]) (rest := [vR 5 qLn, vR 4 k_p0]) (by rfl) (by rfl) (by rfl) (by rfl) rfl (Nat.le_of_ble_eq_true rfl) (by rfl) (by rw [hget_newi (show (pl qLn _).length = _ from pl_len)]; rfl) (calr (mk_lay (y := (0, X, none, 1))) (s_iLayN (hget_newi (show (pl qLn _).length = _ from pl_len)))) ?_
      refine Ev.pf (by rfl) (by rfl) (by rfl) (Nat.le_of_ble_eq_true rfl) rfl (Or.inl (by rfl)) (rd4 (by have := hk_p0; omega)) (show _ = enc (mkC qNb (fup qTf k_p0 qLn) (qLn + 1) (fup qLy qLn (0, X, none, 1)) qMn qMk qMs qMh qPn qPl qPo qPp qEn qEm qEc qEd qEs qEl qEe qEw qSt qDu qCu qCn qCb qCl qBn qBm qBl qBf qKn qKl qKs qPr qDay qG2 qG4 qX1 qX3) R (mkW zO zD zX zL zXs zG5 zG6 zG7 (zc + 1) (zn + 4)) from wr4_tf (i := k_p0) (v := qLn)) ?_
      refine Ev.ps 1 rfl ?_
      exact Ev.re rfl rfl rfl rfl rfl
    · rw [if_neg c2]
      exact Ev.staX (as := [vI X, vI 0, vI 99]) (rest := []) (by rfl) (by rfl) (by rfl) (by rfl) rfl (Nat.le_of_ble_eq_true rfl) (cexc (s_rangeX (in_not c2))) (by rfl)
  · rw [if_neg c1]
    exact Ev.virX (as := [vI p0]) (rest := []) (by rfl) (by rfl) (by rfl) (by rfl) rfl (Nat.le_of_ble_eq_true rfl) (by rfl) (by rw [rd8]; rfl) (cexc (s_kindAtX rd8 (by rfl) rd10 (not_in_nat (n := 4) (by decide) c1))) (by rfl)
def f_c_pay (qPn : Nat) (qPo : Nat → Int32) (qPp : Nat → Int32) (zc : Nat) (zn : Nat) (p0 X : Int32) : Re × (Nat → Int32) × Nat × Nat :=
  if f_r_isMember qPn p0 = true then
    if f_r_in X 1 1000000 = true then
      if 1000000000 - X < qPp (nP p0) then ((.inr 5), qPp, zc + 1, zn + 6) else ((.inl (some (vI ((qPo (nP p0)) - ((fup qPp (nP p0) ((qPp (nP p0)) + X)) (nP p0)))))), fup qPp (nP p0) ((qPp (nP p0)) + X), zc, zn)
    else
      ((.inr 1), qPp, zc + 1, zn + 6)
  else
    ((.inr 0), qPp, zc + 1, zn + 6)
theorem s_c_pay {d : Nat} {zO : Int64} {zD : UInt64} {zX : Nat} {zL : Nat} {zXs : Nat → Int32} {zG5 : List Ob} {zG6 : List Ob} {zG7 : List Ob} {zc : Nat} {zn : Nat} {R : RD} {qNb : Nat → Int32} {qTf : Nat → Nat} {qLn : Nat} {qLy : Nat → Ly} {qMn : Nat} {qMk : Nat → Nat} {qMs : Nat → Int32} {qMh : Nat → List Nat} {qPn : Nat} {qPl : Nat → Nat → Int32} {qPo : Nat → Int32} {qPp : Nat → Int32} {qEn : Nat} {qEm : Nat → Nat} {qEc : Nat → Nat} {qEd : Nat → Int32} {qEs : Nat → Int32} {qEl : Nat → Int32} {qEe : Nat → Int32} {qEw : Nat → Int32} {qSt : Nat → Int32} {qDu : Nat → Int32} {qCu : Nat → List Nat} {qCn : Nat} {qCb : Nat → Nat} {qCl : Nat → Int32} {qBn : Nat} {qBm : Nat → Nat} {qBl : Nat → Int32} {qBf : Nat → Int32} {qKn : Nat} {qKl : Nat → Nat} {qKs : Nat → Nat → Int32} {qPr : Nat → Int32} {qDay : Int32} {qG2 : List Ob} {qG4 : List Ob} {qX1 : List Ob} {qX3 : List Ob} {p0 : Int32} {X : Int32} (hW : WfC qMn qPn qEn qBn qKn qCn qLn qMk qEm qEc qCb qBm qTf qKl qMh qCu qLy) : Cal (d + 2) 54 [vR 8 0, vI p0, vI X] (enc (mkC qNb qTf qLn qLy qMn qMk qMs qMh qPn qPl qPo qPp qEn qEm qEc qEd qEs qEl qEe qEw qSt qDu qCu qCn qCb qCl qBn qBm qBl qBf qKn qKl qKs qPr qDay qG2 qG4 qX1 qX3) R (mkW zO zD zX zL zXs zG5 zG6 zG7 zc zn)) ((f_c_pay qPn qPo qPp zc zn p0 X).1) (enc (mkC qNb qTf qLn qLy qMn qMk qMs qMh qPn qPl qPo ((f_c_pay qPn qPo qPp zc zn p0 X).2.1) qEn qEm qEc qEd qEs qEl qEe qEw qSt qDu qCu qCn qCb qCl qBn qBm qBl qBf qKn qKl qKs qPr qDay qG2 qG4 qX1 qX3) R (mkW zO zD zX zL zXs zG5 zG6 zG7 ((f_c_pay qPn qPo qPp zc zn p0 X).2.2.1) ((f_c_pay qPn qPo qPp zc zn p0 X).2.2.2))) := by
  obtain ⟨wMn, wPn, wEn, wBn, wKn, wMk, wEm, wEc, wCb, wBm, wTf, wKl, wMh, wMl, wCu, wCl, wLy⟩ := id hW
  refine Cal.mk (n := 4) rfl (Nat.le_of_ble_eq_true rfl) rfl ?_
  unfold f_c_pay
  refine Ev.ps 2 rfl ?_
  by_cases c1 : f_r_isMember qPn p0 = true
  · rw [if_pos c1]
    have q_p0 := isMember_nat wPn c1
    generalize nP p0 = k_p0 at q_p0 ⊢
    obtain ⟨rfl, hk_p0⟩ := q_p0
    refine Ev.vir (as := [vI (nI k_p0)]) (rest := []) (by rfl) (by rfl) (by rfl) (by rfl) rfl (Nat.le_of_ble_eq_true rfl) (by rfl) (by rw [rd8]; rfl) (s_memberAt rd8 (by rfl) rd12 (by omega) hk_p0 (by rw [rd7 hk_p0]; rfl)) ?_
    refine Ev.ps 3 rfl ?_
    refine Ev.lcIw (v := 1000000) (by rfl) (by rfl) ?_
    by_cases c2 : f_r_in X 1 1000000 = true
    · rw [if_pos c2]
      refine Ev.sta (as := [vI X, vI 1, vI 1000000]) (rest := []) (by rfl) (by rfl) (by rfl) (by rfl) rfl (Nat.le_of_ble_eq_true rfl) (s_range (in_lo c2) (in_hi c2)) ?_
      refine Ev.ps 1 rfl ?_
      refine Ev.getf (v := vI (qPp k_p0)) (by rfl) (by rfl) (by rfl) (rd7 (by have := hk_p0; omega)) rfl ?_
      refine Ev.lcIw (v := 1000000000) (by rfl) (by rfl) ?_
      refine Ev.ps 2 rfl ?_
      refine Ev.ile (by rfl) (by rfl) (fun (c3 : 1000000000 - X < qPp k_p0) => ?_) (fun (c3 : ¬ 1000000000 - X < qPp k_p0) => ?_)
      · rw [if_pos c3]
        exact Ev.thwE (by rfl)
      · rw [if_neg c3]
        refine Ev.ps 2 rfl ?_
        refine Ev.getf (v := vI (qPp k_p0)) (by rfl) (by rfl) (by rfl) (rd7 (by have := hk_p0; omega)) rfl ?_
        refine Ev.ps 2 rfl ?_
        refine Ev.pf (by rfl) (by rfl) (by rfl) (Nat.le_of_ble_eq_true rfl) rfl (Or.inl (by rfl)) (rd7 (by have := hk_p0; omega)) (show _ = enc (mkC qNb qTf qLn qLy qMn qMk qMs qMh qPn qPl qPo (fup qPp k_p0 ((qPp k_p0) + X)) qEn qEm qEc qEd qEs qEl qEe qEw qSt qDu qCu qCn qCb qCl qBn qBm qBl qBf qKn qKl qKs qPr qDay qG2 qG4 qX1 qX3) R (mkW zO zD zX zL zXs zG5 zG6 zG7 zc zn) from wr7_paid (i := k_p0) (v := ((qPp k_p0) + X))) ?_
        refine Ev.ps 1 rfl ?_
        refine Ev.getf (v := vI (qPo k_p0)) (by rfl) (by rfl) (by rfl) (rd7 (by have := hk_p0; omega)) rfl ?_
        refine Ev.ps 1 rfl ?_
        refine Ev.getf (v := vI ((fup qPp k_p0 ((qPp k_p0) + X)) k_p0)) (by rfl) (by rfl) (by rfl) (rd7 (by have := hk_p0; omega)) rfl ?_
        refine Ev.ps 1 rfl ?_
        exact Ev.re rfl rfl rfl rfl rfl
    · rw [if_neg c2]
      exact Ev.staX (as := [vI X, vI 1, vI 1000000]) (rest := []) (by rfl) (by rfl) (by rfl) (by rfl) rfl (Nat.le_of_ble_eq_true rfl) (cexc (s_rangeX (in_not c2))) (by rfl)
  · rw [if_neg c1]
    exact Ev.virX (as := [vI p0]) (rest := []) (by rfl) (by rfl) (by rfl) (by rfl) rfl (Nat.le_of_ble_eq_true rfl) (by rfl) (by rw [rd8]; rfl) (cexc (s_memberAtX rd8 (by rfl) rd12 (not_in_nat (by omega) c1))) (by rfl)
def f_c_charge (qDu : Nat → Int32) (qEm : Nat → Nat) (qPo : Nat → Int32) (e : Nat) (x : Int32) : (Nat → Int32) × (Nat → Int32) :=
  (fup qPo (qEm e) ((qPo (qEm e)) + x), fup qDu e x)
theorem s_c_charge {d : Nat} {zO : Int64} {zD : UInt64} {zX : Nat} {zL : Nat} {zXs : Nat → Int32} {zG5 : List Ob} {zG6 : List Ob} {zG7 : List Ob} {zc : Nat} {zn : Nat} {R : RD} {qNb : Nat → Int32} {qTf : Nat → Nat} {qLn : Nat} {qLy : Nat → Ly} {qMn : Nat} {qMk : Nat → Nat} {qMs : Nat → Int32} {qMh : Nat → List Nat} {qPn : Nat} {qPl : Nat → Nat → Int32} {qPo : Nat → Int32} {qPp : Nat → Int32} {qEn : Nat} {qEm : Nat → Nat} {qEc : Nat → Nat} {qEd : Nat → Int32} {qEs : Nat → Int32} {qEl : Nat → Int32} {qEe : Nat → Int32} {qEw : Nat → Int32} {qSt : Nat → Int32} {qDu : Nat → Int32} {qCu : Nat → List Nat} {qCn : Nat} {qCb : Nat → Nat} {qCl : Nat → Int32} {qBn : Nat} {qBm : Nat → Nat} {qBl : Nat → Int32} {qBf : Nat → Int32} {qKn : Nat} {qKl : Nat → Nat} {qKs : Nat → Nat → Int32} {qPr : Nat → Int32} {qDay : Int32} {qG2 : List Ob} {qG4 : List Ob} {qX1 : List Ob} {qX3 : List Ob} {e : Nat} {x : Int32} (hW : WfC qMn qPn qEn qBn qKn qCn qLn qMk qEm qEc qCb qBm qTf qKl qMh qCu qLy) (he : e < qEn) : Cal (d + 0) 98 [vR 3 e, vI x] (enc (mkC qNb qTf qLn qLy qMn qMk qMs qMh qPn qPl qPo qPp qEn qEm qEc qEd qEs qEl qEe qEw qSt qDu qCu qCn qCb qCl qBn qBm qBl qBf qKn qKl qKs qPr qDay qG2 qG4 qX1 qX3) R (mkW zO zD zX zL zXs zG5 zG6 zG7 zc zn)) (.inl none) (enc (mkC qNb qTf qLn qLy qMn qMk qMs qMh qPn qPl ((f_c_charge qDu qEm qPo e x).1) qPp qEn qEm qEc qEd qEs qEl qEe qEw qSt ((f_c_charge qDu qEm qPo e x).2) qCu qCn qCb qCl qBn qBm qBl qBf qKn qKl qKs qPr qDay qG2 qG4 qX1 qX3) R (mkW zO zD zX zL zXs zG5 zG6 zG7 zc zn)) := by
  obtain ⟨wMn, wPn, wEn, wBn, wKn, wMk, wEm, wEc, wCb, wBm, wTf, wKl, wMh, wMl, wCu, wCl, wLy⟩ := id hW
  refine Cal.mk (n := 2) rfl (Nat.le_of_ble_eq_true rfl) rfl ?_
  unfold f_c_charge
  refine Ev.ps 2 rfl ?_
  refine Ev.pf (by rfl) (by rfl) (by rfl) (Nat.le_of_ble_eq_true rfl) rfl (Or.inl (by rfl)) (rd3 (by have := he; omega)) (show _ = enc (mkC qNb qTf qLn qLy qMn qMk qMs qMh qPn qPl qPo qPp qEn qEm qEc qEd qEs qEl qEe qEw qSt (fup qDu e x) qCu qCn qCb qCl qBn qBm qBl qBf qKn qKl qKs qPr qDay qG2 qG4 qX1 qX3) R (mkW zO zD zX zL zXs zG5 zG6 zG7 zc zn) from wr3_due (i := e) (v := x)) ?_
  refine Ev.ps 1 rfl ?_
  refine Ev.getf (v := vR 7 (qEm e)) (by rfl) (by rfl) (by rfl) (rd3 (by have := he; omega)) rfl ?_
  refine Ev.ps 1 rfl ?_
  refine Ev.getf (v := vI (qPo (qEm e))) (by rfl) (by rfl) (by rfl) (rd7 (by have := wEm _ (by have := he; omega); omega)) rfl ?_
  refine Ev.ps 2 rfl ?_
  refine Ev.pf (by rfl) (by rfl) (by rfl) (Nat.le_of_ble_eq_true rfl) rfl (Or.inl (by rfl)) (rd7 (by have := wEm _ (by have := he; omega); omega)) (show _ = enc (mkC qNb qTf qLn qLy qMn qMk qMs qMh qPn qPl (fup qPo (qEm e) ((qPo (qEm e)) + x)) qPp qEn qEm qEc qEd qEs qEl qEe qEw qSt (fup qDu e x) qCu qCn qCb qCl qBn qBm qBl qBf qKn qKl qKs qPr qDay qG2 qG4 qX1 qX3) R (mkW zO zD zX zL zXs zG5 zG6 zG7 zc zn) from wr7_owed (i := (qEm e)) (v := ((qPo (qEm e)) + x))) ?_
  exact Ev.re rfl rfl rfl rfl rfl
def f_c_addNeeded (qNb : Nat → Int32) (a b : Nat) : (Nat → Int32) :=
  fup qNb a ((qNb a) ||| (bt b))
theorem s_c_addNeeded {d : Nat} {zO : Int64} {zD : UInt64} {zX : Nat} {zL : Nat} {zXs : Nat → Int32} {zG5 : List Ob} {zG6 : List Ob} {zG7 : List Ob} {zc : Nat} {zn : Nat} {R : RD} {qNb : Nat → Int32} {qTf : Nat → Nat} {qLn : Nat} {qLy : Nat → Ly} {qMn : Nat} {qMk : Nat → Nat} {qMs : Nat → Int32} {qMh : Nat → List Nat} {qPn : Nat} {qPl : Nat → Nat → Int32} {qPo : Nat → Int32} {qPp : Nat → Int32} {qEn : Nat} {qEm : Nat → Nat} {qEc : Nat → Nat} {qEd : Nat → Int32} {qEs : Nat → Int32} {qEl : Nat → Int32} {qEe : Nat → Int32} {qEw : Nat → Int32} {qSt : Nat → Int32} {qDu : Nat → Int32} {qCu : Nat → List Nat} {qCn : Nat} {qCb : Nat → Nat} {qCl : Nat → Int32} {qBn : Nat} {qBm : Nat → Nat} {qBl : Nat → Int32} {qBf : Nat → Int32} {qKn : Nat} {qKl : Nat → Nat} {qKs : Nat → Nat → Int32} {qPr : Nat → Int32} {qDay : Int32} {qG2 : List Ob} {qG4 : List Ob} {qX1 : List Ob} {qX3 : List Ob} {a : Nat} {b : Nat} (hW : WfC qMn qPn qEn qBn qKn qCn qLn qMk qEm qEc qCb qBm qTf qKl qMh qCu qLy) (ha : a < 4) (hb : b < 4) : Cal (d + 0) 9 [vR 4 a, vR 4 b] (enc (mkC qNb qTf qLn qLy qMn qMk qMs qMh qPn qPl qPo qPp qEn qEm qEc qEd qEs qEl qEe qEw qSt qDu qCu qCn qCb qCl qBn qBm qBl qBf qKn qKl qKs qPr qDay qG2 qG4 qX1 qX3) R (mkW zO zD zX zL zXs zG5 zG6 zG7 zc zn)) (.inl none) (enc (mkC (f_c_addNeeded qNb a b) qTf qLn qLy qMn qMk qMs qMh qPn qPl qPo qPp qEn qEm qEc qEd qEs qEl qEe qEw qSt qDu qCu qCn qCb qCl qBn qBm qBl qBf qKn qKl qKs qPr qDay qG2 qG4 qX1 qX3) R (mkW zO zD zX zL zXs zG5 zG6 zG7 zc zn)) := by
  obtain ⟨wMn, wPn, wEn, wBn, wKn, wMk, wEm, wEc, wCb, wBm, wTf, wKl, wMh, wMl, wCu, wCl, wLy⟩ := id hW
  refine Cal.mk (n := 2) rfl (Nat.le_of_ble_eq_true rfl) rfl ?_
  unfold f_c_addNeeded
  refine Ev.ps 2 rfl ?_
  refine Ev.getf (v := vI (qNb a)) (by rfl) (by rfl) (by rfl) (rd4 (by have := ha; omega)) rfl ?_
  refine Ev.ps 1 rfl ?_
  refine Ev.getf (v := vI (bt b)) (by rfl) (by rfl) (by rfl) (rd4 (by have := hb; omega)) rfl ?_
  refine Ev.ps 1 rfl ?_
  refine Ev.pf (by rfl) (by rfl) (by rfl) (Nat.le_of_ble_eq_true rfl) rfl (Or.inl (by rfl)) (rd4 (by have := ha; omega)) (show _ = enc (mkC (fup qNb a ((qNb a) ||| (bt b))) qTf qLn qLy qMn qMk qMs qMh qPn qPl qPo qPp qEn qEm qEc qEd qEs qEl qEe qEw qSt qDu qCu qCn qCb qCl qBn qBm qBl qBf qKn qKl qKs qPr qDay qG2 qG4 qX1 qX3) R (mkW zO zD zX zL zXs zG5 zG6 zG7 zc zn) from wr4_nb (i := a) (v := ((qNb a) ||| (bt b)))) ?_
  exact Ev.re rfl rfl rfl rfl rfl
def f_c_take (qPl : Nat → Nat → Int32) (m kd : Nat) (D : Int32) : (Nat → Nat → Int32) :=
  fup qPl m (fup (qPl m) kd D)
theorem s_c_take {d : Nat} {zO : Int64} {zD : UInt64} {zX : Nat} {zL : Nat} {zXs : Nat → Int32} {zG5 : List Ob} {zG6 : List Ob} {zG7 : List Ob} {zc : Nat} {zn : Nat} {R : RD} {qNb : Nat → Int32} {qTf : Nat → Nat} {qLn : Nat} {qLy : Nat → Ly} {qMn : Nat} {qMk : Nat → Nat} {qMs : Nat → Int32} {qMh : Nat → List Nat} {qPn : Nat} {qPl : Nat → Nat → Int32} {qPo : Nat → Int32} {qPp : Nat → Int32} {qEn : Nat} {qEm : Nat → Nat} {qEc : Nat → Nat} {qEd : Nat → Int32} {qEs : Nat → Int32} {qEl : Nat → Int32} {qEe : Nat → Int32} {qEw : Nat → Int32} {qSt : Nat → Int32} {qDu : Nat → Int32} {qCu : Nat → List Nat} {qCn : Nat} {qCb : Nat → Nat} {qCl : Nat → Int32} {qBn : Nat} {qBm : Nat → Nat} {qBl : Nat → Int32} {qBf : Nat → Int32} {qKn : Nat} {qKl : Nat → Nat} {qKs : Nat → Nat → Int32} {qPr : Nat → Int32} {qDay : Int32} {qG2 : List Ob} {qG4 : List Ob} {qX1 : List Ob} {qX3 : List Ob} {m : Nat} {kd : Nat} {D : Int32} (hW : WfC qMn qPn qEn qBn qKn qCn qLn qMk qEm qEc qCb qBm qTf qKl qMh qCu qLy) (hm : m < qPn) (hk : kd < 4) : Cal (d + 0) 19 [vR 7 m, vR 4 kd, vI D] (enc (mkC qNb qTf qLn qLy qMn qMk qMs qMh qPn qPl qPo qPp qEn qEm qEc qEd qEs qEl qEe qEw qSt qDu qCu qCn qCb qCl qBn qBm qBl qBf qKn qKl qKs qPr qDay qG2 qG4 qX1 qX3) R (mkW zO zD zX zL zXs zG5 zG6 zG7 zc zn)) (.inl none) (enc (mkC qNb qTf qLn qLy qMn qMk qMs qMh qPn (f_c_take qPl m kd D) qPo qPp qEn qEm qEc qEd qEs qEl qEe qEw qSt qDu qCu qCn qCb qCl qBn qBm qBl qBf qKn qKl qKs qPr qDay qG2 qG4 qX1 qX3) R (mkW zO zD zX zL zXs zG5 zG6 zG7 zc zn)) := by
  obtain ⟨wMn, wPn, wEn, wBn, wKn, wMk, wEm, wEc, wCb, wBm, wTf, wKl, wMh, wMl, wCu, wCl, wLy⟩ := id hW
  refine Cal.mk (n := 4) rfl (Nat.le_of_ble_eq_true rfl) rfl ?_
  unfold f_c_take
  refine Ev.ps 1 rfl ?_
  refine Ev.getf (v := vI (nI kd)) (by rfl) (by rfl) (by rfl) (rd4 (by have := hk; omega)) rfl ?_
  refine Ev.ps 2 rfl ?_
  refine Ev.zlt (by rfl) (by rfl) (fun (c1 : nI kd < 0) => ?_) (fun (c1 : ¬ nI kd < 0) => ?_)
  · exact absurd (by assumption) (nI_pos (by omega))
  · refine Ev.ps 2 rfl ?_
    refine Ev.getf (v := vR 20 m) (by rfl) (by rfl) (by rfl) (rd7 (by have := hm; omega)) rfl ?_
    refine Ev.arl (N := 4) (by rfl) (by decide) (rd20 (by have := hm; omega)) pl_len ?_
    refine Ev.igeN (a := kd) (b := 4) (by have := hk; omega) (by omega) (by rfl) (by rfl) (fun (c2 : kd < 4) => ?_) (fun (c2 : ¬ kd < 4) => ?_)
    · refine Ev.ps 1 rfl ?_
      refine Ev.getf (v := vR 20 m) (by rfl) (by rfl) (by rfl) (rd7 (by have := hm; omega)) rfl ?_
      refine Ev.ps 2 rfl ?_
      refine Ev.asI (k := kd) (by rfl) (by rfl) (rd20 (by have := hm; omega)) (by omega) (by have := hk; omega) (show _ = enc (mkC qNb qTf qLn qLy qMn qMk qMs qMh qPn (fup qPl m (fup (qPl m) kd D)) qPo qPp qEn qEm qEc qEd qEs qEl qEe qEw qSt qDu qCu qCn qCb qCl qBn qBm qBl qBf qKn qKl qKs qPr qDay qG2 qG4 qX1 qX3) R (mkW zO zD zX zL zXs zG5 zG6 zG7 zc zn) from wr20 (m := m) (i := kd) (v := D)) ?_
      exact Ev.re rfl rfl rfl rfl rfl
    · exfalso; omega
def f_c_hold (qEd : Nat → Int32) (qEs : Nat → Int32) (qMh : Nat → List Nat) (zc : Nat) (zn : Nat) (mm e : Nat) : (Nat → List Nat) × Nat × Nat :=
  (fup qMh mm ((qMh mm).insertIdx (f_c_placeOf qEd qEs qMh mm (qEd e) (qEs e)) e), zc + 1, zn + (2 * ((qMh mm).map (vR 3)).length + 10))
theorem s_c_hold {d : Nat} {zO : Int64} {zD : UInt64} {zX : Nat} {zL : Nat} {zXs : Nat → Int32} {zG5 : List Ob} {zG6 : List Ob} {zG7 : List Ob} {zc : Nat} {zn : Nat} {R : RD} {qNb : Nat → Int32} {qTf : Nat → Nat} {qLn : Nat} {qLy : Nat → Ly} {qMn : Nat} {qMk : Nat → Nat} {qMs : Nat → Int32} {qMh : Nat → List Nat} {qPn : Nat} {qPl : Nat → Nat → Int32} {qPo : Nat → Int32} {qPp : Nat → Int32} {qEn : Nat} {qEm : Nat → Nat} {qEc : Nat → Nat} {qEd : Nat → Int32} {qEs : Nat → Int32} {qEl : Nat → Int32} {qEe : Nat → Int32} {qEw : Nat → Int32} {qSt : Nat → Int32} {qDu : Nat → Int32} {qCu : Nat → List Nat} {qCn : Nat} {qCb : Nat → Nat} {qCl : Nat → Int32} {qBn : Nat} {qBm : Nat → Nat} {qBl : Nat → Int32} {qBf : Nat → Int32} {qKn : Nat} {qKl : Nat → Nat} {qKs : Nat → Nat → Int32} {qPr : Nat → Int32} {qDay : Int32} {qG2 : List Ob} {qG4 : List Ob} {qX1 : List Ob} {qX3 : List Ob} {mm : Nat} {e : Nat} (hW : WfC qMn qPn qEn qBn qKn qCn qLn qMk qEm qEc qCb qBm qTf qKl qMh qCu qLy) (hm : mm < qMn) (he : e < qEn) : Cal (d + 2) 15 [vR 6 mm, vR 3 e] (enc (mkC qNb qTf qLn qLy qMn qMk qMs qMh qPn qPl qPo qPp qEn qEm qEc qEd qEs qEl qEe qEw qSt qDu qCu qCn qCb qCl qBn qBm qBl qBf qKn qKl qKs qPr qDay qG2 qG4 qX1 qX3) R (mkW zO zD zX zL zXs zG5 zG6 zG7 zc zn)) (.inl none) (enc (mkC qNb qTf qLn qLy qMn qMk qMs ((f_c_hold qEd qEs qMh zc zn mm e).1) qPn qPl qPo qPp qEn qEm qEc qEd qEs qEl qEe qEw qSt qDu qCu qCn qCb qCl qBn qBm qBl qBf qKn qKl qKs qPr qDay qG2 qG4 qX1 qX3) R (mkW zO zD zX zL zXs zG5 zG6 zG7 ((f_c_hold qEd qEs qMh zc zn mm e).2.1) ((f_c_hold qEd qEs qMh zc zn mm e).2.2))) := by
  obtain ⟨wMn, wPn, wEn, wBn, wKn, wMk, wEm, wEc, wCb, wBm, wTf, wKl, wMh, wMl, wCu, wCl, wLy⟩ := id hW
  refine Cal.mk (n := 2) rfl (Nat.le_of_ble_eq_true rfl) rfl ?_
  unfold f_c_hold
  refine Ev.ps 1 rfl ?_
  refine Ev.getf (v := vR 16 mm) (by rfl) (by rfl) (by rfl) (rd6 (by have := hm; omega)) rfl ?_
  refine Ev.ps 2 rfl ?_
  refine Ev.getf (v := vI (qEd e)) (by rfl) (by rfl) (by rfl) (rd3 (by have := he; omega)) rfl ?_
  refine Ev.ps 1 rfl ?_
  refine Ev.getf (v := vI (qEs e)) (by rfl) (by rfl) (by rfl) (rd3 (by have := he; omega)) rfl ?_
  refine Ev.vir (as := [vI (qEd e), vI (qEs e)]) (rest := [vR 16 mm]) (by rfl) (by rfl) (by rfl) (by rfl) rfl (Nat.le_of_ble_eq_true rfl) (by rfl) (by rw [rd6 (by have := hm; omega)]; rfl) (s_c_placeOf hW (by have := hm; omega)) ?_
  refine Ev.ps 1 rfl ?_
  refine Ev.li (j := (f_c_placeOf qEd qEs qMh mm (qEd e) (qEs e))) (by rfl) (by rfl) (by rfl) (Nat.le_of_ble_eq_true rfl) (by rfl) (rd16 (by have := hm; omega)) (by rw [rd3 (by have := he; omega)]; rfl) (by rw [List.length_map]; have := wMl mm; omega) (by rw [List.length_map]; exact (by have := place_le (qEd := qEd) (qEs := qEs) (qMh := qMh) (mm := mm) (D := (qEd e)) (S := (qEs e)); have := wMl mm; omega)) mk_ins ?_
  exact Ev.re rfl rfl rfl rfl rfl
def f_c_release (qEd : Nat → Int32) (qEs : Nat → Int32) (qMh : Nat → List Nat) (mm e : Nat) : (Nat → List Nat) :=
  if f_c_placeOf qEd qEs qMh mm (qEd e) (qEs e) < (qMh mm).length then
    if (qMh mm).getD (f_c_placeOf qEd qEs qMh mm (qEd e) (qEs e)) 0 = e then fup qMh mm ((qMh mm).eraseIdx (f_c_placeOf qEd qEs qMh mm (qEd e) (qEs e))) else qMh
  else
    qMh
theorem s_c_release {d : Nat} {zO : Int64} {zD : UInt64} {zX : Nat} {zL : Nat} {zXs : Nat → Int32} {zG5 : List Ob} {zG6 : List Ob} {zG7 : List Ob} {zc : Nat} {zn : Nat} {R : RD} {qNb : Nat → Int32} {qTf : Nat → Nat} {qLn : Nat} {qLy : Nat → Ly} {qMn : Nat} {qMk : Nat → Nat} {qMs : Nat → Int32} {qMh : Nat → List Nat} {qPn : Nat} {qPl : Nat → Nat → Int32} {qPo : Nat → Int32} {qPp : Nat → Int32} {qEn : Nat} {qEm : Nat → Nat} {qEc : Nat → Nat} {qEd : Nat → Int32} {qEs : Nat → Int32} {qEl : Nat → Int32} {qEe : Nat → Int32} {qEw : Nat → Int32} {qSt : Nat → Int32} {qDu : Nat → Int32} {qCu : Nat → List Nat} {qCn : Nat} {qCb : Nat → Nat} {qCl : Nat → Int32} {qBn : Nat} {qBm : Nat → Nat} {qBl : Nat → Int32} {qBf : Nat → Int32} {qKn : Nat} {qKl : Nat → Nat} {qKs : Nat → Nat → Int32} {qPr : Nat → Int32} {qDay : Int32} {qG2 : List Ob} {qG4 : List Ob} {qX1 : List Ob} {qX3 : List Ob} {mm : Nat} {e : Nat} (hW : WfC qMn qPn qEn qBn qKn qCn qLn qMk qEm qEc qCb qBm qTf qKl qMh qCu qLy) (hm : mm < qMn) (he : e < qEn) : Cal (d + 2) 16 [vR 6 mm, vR 3 e] (enc (mkC qNb qTf qLn qLy qMn qMk qMs qMh qPn qPl qPo qPp qEn qEm qEc qEd qEs qEl qEe qEw qSt qDu qCu qCn qCb qCl qBn qBm qBl qBf qKn qKl qKs qPr qDay qG2 qG4 qX1 qX3) R (mkW zO zD zX zL zXs zG5 zG6 zG7 zc zn)) (.inl none) (enc (mkC qNb qTf qLn qLy qMn qMk qMs (f_c_release qEd qEs qMh mm e) qPn qPl qPo qPp qEn qEm qEc qEd qEs qEl qEe qEw qSt qDu qCu qCn qCb qCl qBn qBm qBl qBf qKn qKl qKs qPr qDay qG2 qG4 qX1 qX3) R (mkW zO zD zX zL zXs zG5 zG6 zG7 zc zn)) := by
  obtain ⟨wMn, wPn, wEn, wBn, wKn, wMk, wEm, wEc, wCb, wBm, wTf, wKl, wMh, wMl, wCu, wCl, wLy⟩ := id hW
  refine Cal.mk (n := 3) rfl (Nat.le_of_ble_eq_true rfl) rfl ?_
  unfold f_c_release
  refine Ev.ps 2 rfl ?_
  refine Ev.getf (v := vI (qEd e)) (by rfl) (by rfl) (by rfl) (rd3 (by have := he; omega)) rfl ?_
  refine Ev.ps 1 rfl ?_
  refine Ev.getf (v := vI (qEs e)) (by rfl) (by rfl) (by rfl) (rd3 (by have := he; omega)) rfl ?_
  refine Ev.vir (as := [vI (qEd e), vI (qEs e)]) (rest := []) (by rfl) (by rfl) (by rfl) (by rfl) rfl (Nat.le_of_ble_eq_true rfl) (by rfl) (by rw [rd6 (by have := hm; omega)]; rfl) (s_c_placeOf hW (by have := hm; omega)) ?_
  refine Ev.ps 3 rfl ?_
  refine Ev.getf (v := vR 16 mm) (by rfl) (by rfl) (by rfl) (rd6 (by have := hm; omega)) rfl ?_
  refine Ev.lz (N := ((qMh mm).length)) (by rfl) (by rfl) (by rfl) (Nat.le_of_ble_eq_true rfl) (rd16 (by have := hm; omega)) (List.length_map ..) ?_
  refine Ev.igeN (a := (f_c_placeOf qEd qEs qMh mm (qEd e) (qEs e))) (b := ((qMh mm).length)) (by have := place_le (qEd := qEd) (qEs := qEs) (qMh := qMh) (mm := mm) (D := (qEd e)) (S := (qEs e)); have := wMl mm; omega) (by have := wMl mm; omega) (by rfl) (by rfl) (fun (c1 : f_c_placeOf qEd qEs qMh mm (qEd e) (qEs e) < (qMh mm).length) => ?_) (fun (c1 : ¬ f_c_placeOf qEd qEs qMh mm (qEd e) (qEs e) < (qMh mm).length) => ?_)
  · rw [if_pos c1]
    refine Ev.ps 1 rfl ?_
    refine Ev.getf (v := vR 16 mm) (by rfl) (by rfl) (by rfl) (rd6 (by have := hm; omega)) rfl ?_
    refine Ev.ps 1 rfl ?_
    refine Ev.lg (j := (f_c_placeOf qEd qEs qMh mm (qEd e) (qEs e))) (v := vR 3 ((qMh mm).getD (f_c_placeOf qEd qEs qMh mm (qEd e) (qEs e)) 0)) (by rfl) (by rfl) (by rfl) (Nat.le_of_ble_eq_true rfl) (rd16 (by have := hm; omega)) (by have := place_le (qEd := qEd) (qEs := qEs) (qMh := qMh) (mm := mm) (D := (qEd e)) (S := (qEs e)); have := wMl mm; have := wMl mm; omega) (mapget (by have := place_le (qEd := qEd) (qEs := qEs) (qMh := qMh) (mm := mm) (D := (qEd e)) (S := (qEs e)); have := wMl mm; omega)) ?_
    refine Ev.ps 1 rfl ?_
    refine Ev.ane (by rfl) (by rfl) (by decide) (fun (c2 : (qMh mm).getD (f_c_placeOf qEd qEs qMh mm (qEd e) (qEs e)) 0 = e) => ?_) (fun (c2 : ¬ (qMh mm).getD (f_c_placeOf qEd qEs qMh mm (qEd e) (qEs e)) 0 = e) => ?_)
    · rw [if_pos c2]
      refine Ev.ps 1 rfl ?_
      refine Ev.getf (v := vR 16 mm) (by rfl) (by rfl) (by rfl) (rd6 (by have := hm; omega)) rfl ?_
      refine Ev.ps 1 rfl ?_
      refine Ev.lr (j := (f_c_placeOf qEd qEs qMh mm (qEd e) (qEs e))) (v := vR 3 ((qMh mm).getD (f_c_placeOf qEd qEs qMh mm (qEd e) (qEs e)) 0)) (by rfl) (by rfl) (by rfl) (Nat.le_of_ble_eq_true rfl) (rd16 (by have := hm; omega)) (by have := place_le (qEd := qEd) (qEs := qEs) (qMh := qMh) (mm := mm) (D := (qEd e)) (S := (qEs e)); have := wMl mm; have := wMl mm; omega) (mapget (by have := place_le (qEd := qEd) (qEs := qEs) (qMh := qMh) (mm := mm) (D := (qEd e)) (S := (qEs e)); have := wMl mm; omega)) mk_era ?_
      refine Ev.ps 1 rfl ?_
      exact Ev.re rfl rfl rfl rfl rfl
    · rw [if_neg c2]
      exact Ev.re rfl rfl rfl rfl rfl
  · rw [if_neg c1]
    exact Ev.re rfl rfl rfl rfl rfl
def f_c_makeBooked (qEc : Nat → Nat) (qEd : Nat → Int32) (qEs : Nat → Int32) (qMh : Nat → List Nat) (qSt : Nat → Int32) (zc : Nat) (zn : Nat) (e : Nat) : (Nat → List Nat) × (Nat → Int32) × Nat × Nat :=
  ((f_c_hold qEd qEs qMh zc zn (qEc e) e).1, fup qSt e 98, (f_c_hold qEd qEs qMh zc zn (qEc e) e).2.1, (f_c_hold qEd qEs qMh zc zn (qEc e) e).2.2)
theorem s_c_makeBooked {d : Nat} {zO : Int64} {zD : UInt64} {zX : Nat} {zL : Nat} {zXs : Nat → Int32} {zG5 : List Ob} {zG6 : List Ob} {zG7 : List Ob} {zc : Nat} {zn : Nat} {R : RD} {qNb : Nat → Int32} {qTf : Nat → Nat} {qLn : Nat} {qLy : Nat → Ly} {qMn : Nat} {qMk : Nat → Nat} {qMs : Nat → Int32} {qMh : Nat → List Nat} {qPn : Nat} {qPl : Nat → Nat → Int32} {qPo : Nat → Int32} {qPp : Nat → Int32} {qEn : Nat} {qEm : Nat → Nat} {qEc : Nat → Nat} {qEd : Nat → Int32} {qEs : Nat → Int32} {qEl : Nat → Int32} {qEe : Nat → Int32} {qEw : Nat → Int32} {qSt : Nat → Int32} {qDu : Nat → Int32} {qCu : Nat → List Nat} {qCn : Nat} {qCb : Nat → Nat} {qCl : Nat → Int32} {qBn : Nat} {qBm : Nat → Nat} {qBl : Nat → Int32} {qBf : Nat → Int32} {qKn : Nat} {qKl : Nat → Nat} {qKs : Nat → Nat → Int32} {qPr : Nat → Int32} {qDay : Int32} {qG2 : List Ob} {qG4 : List Ob} {qX1 : List Ob} {qX3 : List Ob} {e : Nat} (hW : WfC qMn qPn qEn qBn qKn qCn qLn qMk qEm qEc qCb qBm qTf qKl qMh qCu qLy) (he : e < qEn) : Cal (d + 3) 81 [vR 3 e] (enc (mkC qNb qTf qLn qLy qMn qMk qMs qMh qPn qPl qPo qPp qEn qEm qEc qEd qEs qEl qEe qEw qSt qDu qCu qCn qCb qCl qBn qBm qBl qBf qKn qKl qKs qPr qDay qG2 qG4 qX1 qX3) R (mkW zO zD zX zL zXs zG5 zG6 zG7 zc zn)) (.inl none) (enc (mkC qNb qTf qLn qLy qMn qMk qMs ((f_c_makeBooked qEc qEd qEs qMh qSt zc zn e).1) qPn qPl qPo qPp qEn qEm qEc qEd qEs qEl qEe qEw ((f_c_makeBooked qEc qEd qEs qMh qSt zc zn e).2.1) qDu qCu qCn qCb qCl qBn qBm qBl qBf qKn qKl qKs qPr qDay qG2 qG4 qX1 qX3) R (mkW zO zD zX zL zXs zG5 zG6 zG7 ((f_c_makeBooked qEc qEd qEs qMh qSt zc zn e).2.2.1) ((f_c_makeBooked qEc qEd qEs qMh qSt zc zn e).2.2.2))) := by
  obtain ⟨wMn, wPn, wEn, wBn, wKn, wMk, wEm, wEc, wCb, wBm, wTf, wKl, wMh, wMl, wCu, wCl, wLy⟩ := id hW
  refine Cal.mk (n := 1) rfl (Nat.le_of_ble_eq_true rfl) rfl ?_
  unfold f_c_makeBooked
  refine Ev.ps 2 rfl ?_
  refine Ev.pf (by rfl) (by rfl) (by rfl) (Nat.le_of_ble_eq_true rfl) rfl (Or.inl (by rfl)) (rd3 (by have := he; omega)) (show _ = enc (mkC qNb qTf qLn qLy qMn qMk qMs qMh qPn qPl qPo qPp qEn qEm qEc qEd qEs qEl qEe qEw (fup qSt e 98) qDu qCu qCn qCb qCl qBn qBm qBl qBf qKn qKl qKs qPr qDay qG2 qG4 qX1 qX3) R (mkW zO zD zX zL zXs zG5 zG6 zG7 zc zn) from wr3_st (i := e) (v := 98)) ?_
  refine Ev.ps 1 rfl ?_
  refine Ev.getf (v := vR 6 (qEc e)) (by rfl) (by rfl) (by rfl) (rd3 (by have := he; omega)) rfl ?_
  refine Ev.ps 1 rfl ?_
  refine Ev.vir (as := [vR 3 e]) (rest := []) (by rfl) (by rfl) (by rfl) (by rfl) rfl (Nat.le_of_ble_eq_true rfl) (by rfl) (by rw [rd6 (by have := wEc _ (by have := he; omega); omega)]; rfl) (s_c_hold hW (by have := wEc _ (by have := he; omega); omega) (by have := he; omega)) ?_
  exact Ev.re rfl rfl rfl rfl rfl
