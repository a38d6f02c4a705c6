/-! the class: layers, greatest rest, split, breakDown (written by gcls10.py) -/
def f_c_addLayer (qLn : Nat) (qLy : Nat → Ly) (qTf : Nat → Nat) (zc : Nat) (zn : Nat) (k : Nat) (s x : Int32) : Re × (Nat → Nat) × Nat × (Nat → Ly) × Nat × Nat :=
  if lyHt (qLy (qTf k)) < 6 then
    ((.inl (some (vI (lyHt ((fup qLy qLn (s, x, some (qTf k), lyHt (qLy (qTf k)) + 1)) qLn))))), fup qTf k qLn, qLn + 1, fup qLy qLn (s, x, some (qTf k), lyHt (qLy (qTf k)) + 1), zc + 1, zn + 4)
  else
    ((.inr 5), qTf, qLn, qLy, zc + 1, zn + 6)
theorem s_c_addLayer {d : Nat} {zO : Int64} {zD : UInt64} {zX : Nat} {zL : Nat} {zXs : Nat → Int32} {zG5 : List Ob} {zG6 : List Ob} {zG7 : List Ob} {zc : Nat} {zn : Nat} {R : RD} {qNb : Nat → Int32} {qTf : Nat → Nat} {qLn : Nat} {qLy : Nat → Ly} {qMn : Nat} {qMk : Nat → Nat} {qMs : Nat → Int32} {qMh : Nat → List Nat} {qPn : Nat} {qPl : Nat → Nat → Int32} {qPo : Nat → Int32} {qPp : Nat → Int32} {qEn : Nat} {qEm : Nat → Nat} {qEc : Nat → Nat} {qEd : Nat → Int32} {qEs : Nat → Int32} {qEl : Nat → Int32} {qEe : Nat → Int32} {qEw : Nat → Int32} {qSt : Nat → Int32} {qDu : Nat → Int32} {qCu : Nat → List Nat} {qCn : Nat} {qCb : Nat → Nat} {qCl : Nat → Int32} {qBn : Nat} {qBm : Nat → Nat} {qBl : Nat → Int32} {qBf : Nat → Int32} {qKn : Nat} {qKl : Nat → Nat} {qKs : Nat → Nat → Int32} {qPr : Nat → Int32} {qDay : Int32} {qG2 : List Ob} {qG4 : List Ob} {qX1 : List Ob} {qX3 : List Ob} {k : Nat} {s : Int32} {x : Int32} (hW : WfC qMn qPn qEn qBn qKn qCn qLn qMk qEm qEc qCb qBm qTf qKl qMh qCu qLy) (hk : k < 4) : Cal (d + 1) 94 [vR 4 k, vI s, vI x] (enc (mkC qNb qTf qLn qLy qMn qMk qMs qMh qPn qPl qPo qPp qEn qEm qEc qEd qEs qEl qEe qEw qSt qDu qCu qCn qCb qCl qBn qBm qBl qBf qKn qKl qKs qPr qDay qG2 qG4 qX1 qX3) R (mkW zO zD zX zL zXs zG5 zG6 zG7 zc zn)) ((f_c_addLayer qLn qLy qTf zc zn k s x).1) (enc (mkC qNb ((f_c_addLayer qLn qLy qTf zc zn k s x).2.1) ((f_c_addLayer qLn qLy qTf zc zn k s x).2.2.1) ((f_c_addLayer qLn qLy qTf zc zn k s x).2.2.2.1) qMn qMk qMs qMh qPn qPl qPo qPp qEn qEm qEc qEd qEs qEl qEe qEw qSt qDu qCu qCn qCb qCl qBn qBm qBl qBf qKn qKl qKs qPr qDay qG2 qG4 qX1 qX3) R (mkW zO zD zX zL zXs zG5 zG6 zG7 ((f_c_addLayer qLn qLy qTf zc zn k s x).2.2.2.2.1) ((f_c_addLayer qLn qLy qTf zc zn k s x).2.2.2.2.2))) := by
  obtain ⟨wMn, wPn, wEn, wBn, wKn, wMk, wEm, wEc, wCb, wBm, wTf, wKl, wMh, wMl, wCu, wCl, wLy⟩ := id hW
  refine Cal.mk (n := 3) rfl (Nat.le_of_ble_eq_true rfl) rfl ?_
  unfold f_c_addLayer
  refine Ev.ps 1 rfl ?_
  refine Ev.getf (v := vR 5 (qTf k)) (by rfl) (by rfl) (by rfl) (rd4 (by have := hk; omega)) rfl ?_
  refine Ev.getf (v := vI (lyHt (qLy (qTf k)))) (by rfl) (by rfl) (by rfl) (rd5 (by have := wTf _ (by have := hk; omega); omega)) rfl ?_
  refine Ev.ps 1 rfl ?_
  by_cases c1 : lyHt (qLy (qTf k)) < 6
  · rw [if_pos c1]
    refine Ev.sta (as := [vI (lyHt (qLy (qTf k))), vI 6]) (rest := []) (by rfl) (by rfl) (by rfl) (by rfl) rfl (Nat.le_of_ble_eq_true rfl) (s_room c1) ?_
    refine Ev.ps 1 rfl ?_
    refine Ev.nwo (s := 5) (i := qLn) (by rfl) (by rfl) ⟨by rfl, by rfl, by decide, by rfl⟩ (show (pl qLn _).length = _ from pl_len) rfl ?_
    refine Ev.ps 4 rfl ?_
    refine Ev.getf (v := vR 5 (qTf k)) (by rfl) (by rfl) (by rfl) (((hget_new_ne (by decide)).trans (rd4 (by have := hk; omega)))) rfl ?_
    refine Ev.spe (as := [vI s, vI x, vR 5 (qTf k)]) (rest := [vR 5 qLn, vR 4 k]) (by rfl) (by rfl) (by rfl) (by rfl) rfl (Nat.le_of_ble_eq_true rfl) (by rfl) (by rw [hget_newi (show (pl qLn _).length = _ from pl_len)]; rfl) (calr (mk_lay (y := (s, x, some (qTf k), lyHt (qLy (qTf k)) + 1))) (s_iLayR (x0 := lySort (qLy (qTf k))) (x1 := lyAm (qLy (qTf k))) (x3 := lyHt (qLy (qTf k))) (x2 := refL (lyBel (qLy (qTf k)))) (hget_newi (show (pl qLn _).length = _ from pl_len)) (Nat.ne_of_lt (by have := wTf _ (by have := hk; omega); omega)) (hget_newl (show (pl qLn _).length = _ from pl_len) (rd5 (by have := wTf _ (by have := hk; omega); omega))))) ?_
    refine Ev.pf (by rfl) (by rfl) (by rfl) (Nat.le_of_ble_eq_true rfl) rfl (Or.inl (by rfl)) (rd4 (by have := hk; omega)) (show _ = enc (mkC qNb (fup qTf k qLn) (qLn + 1) (fup qLy qLn (s, x, some (qTf k), lyHt (qLy (qTf k)) + 1)) qMn qMk qMs qMh qPn qPl qPo qPp qEn qEm qEc qEd qEs qEl qEe qEw qSt qDu qCu qCn qCb qCl qBn qBm qBl qBf qKn qKl qKs qPr qDay qG2 qG4 qX1 qX3) R (mkW zO zD zX zL zXs zG5 zG6 zG7 (zc + 1) (zn + 4)) from wr4_tf (i := k) (v := qLn)) ?_
    refine Ev.ps 1 rfl ?_
    refine Ev.getf (v := vR 5 qLn) (by rfl) (by rfl) (by rfl) (rd4 (by have := hk; omega)) (by rw [fup_same]; rfl) ?_
    refine Ev.getf (v := vI (lyHt ((fup qLy qLn (s, x, some (qTf k), lyHt (qLy (qTf k)) + 1)) qLn))) (by rfl) (by rfl) (by rfl) (rd5 (by omega)) rfl ?_
    exact Ev.re rfl rfl rfl rfl rfl
  · rw [if_neg c1]
    exact Ev.staX (as := [vI (lyHt (qLy (qTf k))), vI 6]) (rest := []) (by rfl) (by rfl) (by rfl) (by rfl) rfl (Nat.le_of_ble_eq_true rfl) (cexc (s_roomX c1)) (by rfl)
theorem s_c_addLayerO {d : Nat} {R : RD} {qNb : Nat → Int32} {qTf : Nat → Nat} {qLn : Nat} {qLy : Nat → Ly} {qMn : Nat} {qMk : Nat → Nat} {qMs : Nat → Int32} {qMh : Nat → List Nat} {qPn : Nat} {qPl : Nat → Nat → Int32} {qPo : Nat → Int32} {qPp : Nat → Int32} {qEn : Nat} {qEm : Nat → Nat} {qEc : Nat → Nat} {qEd : Nat → Int32} {qEs : Nat → Int32} {qEl : Nat → Int32} {qEe : Nat → Int32} {qEw : Nat → Int32} {qSt : Nat → Int32} {qDu : Nat → Int32} {qCu : Nat → List Nat} {qCn : Nat} {qCb : Nat → Nat} {qCl : Nat → Int32} {qBn : Nat} {qBm : Nat → Nat} {qBl : Nat → Int32} {qBf : Nat → Int32} {qKn : Nat} {qKl : Nat → Nat} {qKs : Nat → Nat → Int32} {qPr : Nat → Int32} {qDay : Int32} {qG2 : List Ob} {qG4 : List Ob} {qX1 : List Ob} {qX3 : List Ob} {zO : Int64} {zD : UInt64} {zX : Nat} {zL : Nat} {zXs : Nat → Int32} {zG5 : List Ob} {zG6 : List Ob} {zG7 : List Ob} {zc : Nat} {zn : Nat} {k : Nat} {s x : Int32} (hW : WfC qMn qPn qEn qBn qKn qCn qLn qMk qEm qEc qCb qBm qTf qKl qMh qCu qLy) (hk : k < 4) (c : lyHt (qLy (qTf k)) < 6) : Cal (d + 1) 94 [vR 4 k, vI s, vI x] (enc (mkC qNb qTf qLn qLy qMn qMk qMs qMh qPn qPl qPo qPp qEn qEm qEc qEd qEs qEl qEe qEw qSt qDu qCu qCn qCb qCl qBn qBm qBl qBf qKn qKl qKs qPr qDay qG2 qG4 qX1 qX3) R (mkW zO zD zX zL zXs zG5 zG6 zG7 zc zn)) (.inl (some (vI (lyHt ((fup qLy qLn (s, x, some (qTf k), lyHt (qLy (qTf k)) + 1)) qLn))))) (enc (mkC qNb (fup qTf k qLn) (qLn + 1) (fup qLy qLn (s, x, some (qTf k), lyHt (qLy (qTf k)) + 1)) qMn qMk qMs qMh qPn qPl qPo qPp qEn qEm qEc qEd qEs qEl qEe qEw qSt qDu qCu qCn qCb qCl qBn qBm qBl qBf qKn qKl qKs qPr qDay qG2 qG4 qX1 qX3) R (mkW zO zD zX zL zXs zG5 zG6 zG7 (zc + 1) (zn + 4))) := by
  have h9 := s_c_addLayer (d := d) (R := R) (qNb := qNb) (qTf := qTf) (qLn := qLn) (qLy := qLy) (qMn := qMn) (qMk := qMk) (qMs := qMs) (qMh := qMh) (qPn := qPn) (qPl := qPl) (qPo := qPo) (qPp := qPp) (qEn := qEn) (qEm := qEm) (qEc := qEc) (qEd := qEd) (qEs := qEs) (qEl := qEl) (qEe := qEe) (qEw := qEw) (qSt := qSt) (qDu := qDu) (qCu := qCu) (qCn := qCn) (qCb := qCb) (qCl := qCl) (qBn := qBn) (qBm := qBm) (qBl := qBl) (qBf := qBf) (qKn := qKn) (qKl := qKl) (qKs := qKs) (qPr := qPr) (qDay := qDay) (qG2 := qG2) (qG4 := qG4) (qX1 := qX1) (qX3 := qX3) (zO := zO) (zD := zD) (zX := zX) (zL := zL) (zXs := zXs) (zG5 := zG5) (zG6 := zG6) (zG7 := zG7) (zc := zc) (zn := zn) (k := k) (s := s) (x := x) hW hk
  rw [show f_c_addLayer qLn qLy qTf zc zn k s x = ((.inl (some (vI (lyHt ((fup qLy qLn (s, x, some (qTf k), lyHt (qLy (qTf k)) + 1)) qLn))))), fup qTf k qLn, qLn + 1, fup qLy qLn (s, x, some (qTf k), lyHt (qLy (qTf k)) + 1), zc + 1, zn + 4) from if_pos c] at h9
  exact h9
theorem s_c_addLayerX {d : Nat} {R : RD} {qNb : Nat → Int32} {qTf : Nat → Nat} {qLn : Nat} {qLy : Nat → Ly} {qMn : Nat} {qMk : Nat → Nat} {qMs : Nat → Int32} {qMh : Nat → List Nat} {qPn : Nat} {qPl : Nat → Nat → Int32} {qPo : Nat → Int32} {qPp : Nat → Int32} {qEn : Nat} {qEm : Nat → Nat} {qEc : Nat → Nat} {qEd : Nat → Int32} {qEs : Nat → Int32} {qEl : Nat → Int32} {qEe : Nat → Int32} {qEw : Nat → Int32} {qSt : Nat → Int32} {qDu : Nat → Int32} {qCu : Nat → List Nat} {qCn : Nat} {qCb : Nat → Nat} {qCl : Nat → Int32} {qBn : Nat} {qBm : Nat → Nat} {qBl : Nat → Int32} {qBf : Nat → Int32} {qKn : Nat} {qKl : Nat → Nat} {qKs : Nat → Nat → Int32} {qPr : Nat → Int32} {qDay : Int32} {qG2 : List Ob} {qG4 : List Ob} {qX1 : List Ob} {qX3 : List Ob} {zO : Int64} {zD : UInt64} {zX : Nat} {zL : Nat} {zXs : Nat → Int32} {zG5 : List Ob} {zG6 : List Ob} {zG7 : List Ob} {zc : Nat} {zn : Nat} {k : Nat} {s x : Int32} (hW : WfC qMn qPn qEn qBn qKn qCn qLn qMk qEm qEc qCb qBm qTf qKl qMh qCu qLy) (hk : k < 4) (c : ¬ lyHt (qLy (qTf k)) < 6) : Cal (d + 1) 94 [vR 4 k, vI s, vI x] (enc (mkC qNb qTf qLn qLy qMn qMk qMs qMh qPn qPl qPo qPp qEn qEm qEc qEd qEs qEl qEe qEw qSt qDu qCu qCn qCb qCl qBn qBm qBl qBf qKn qKl qKs qPr qDay qG2 qG4 qX1 qX3) R (mkW zO zD zX zL zXs zG5 zG6 zG7 zc zn)) (.inr 5) (enc (mkC qNb qTf qLn qLy qMn qMk qMs qMh qPn qPl qPo qPp qEn qEm qEc qEd qEs qEl qEe qEw qSt qDu qCu qCn qCb qCl qBn qBm qBl qBf qKn qKl qKs qPr qDay qG2 qG4 qX1 qX3) R (mkW zO zD zX zL zXs zG5 zG6 zG7 (zc + 1) (zn + 6))) := by
  have h9 := s_c_addLayer (d := d) (R := R) (qNb := qNb) (qTf := qTf) (qLn := qLn) (qLy := qLy) (qMn := qMn) (qMk := qMk) (qMs := qMs) (qMh := qMh) (qPn := qPn) (qPl := qPl) (qPo := qPo) (qPp := qPp) (qEn := qEn) (qEm := qEm) (qEc := qEc) (qEd := qEd) (qEs := qEs) (qEl := qEl) (qEe := qEe) (qEw := qEw) (qSt := qSt) (qDu := qDu) (qCu := qCu) (qCn := qCn) (qCb := qCb) (qCl := qCl) (qBn := qBn) (qBm := qBm) (qBl := qBl) (qBf := qBf) (qKn := qKn) (qKl := qKl) (qKs := qKs) (qPr := qPr) (qDay := qDay) (qG2 := qG2) (qG4 := qG4) (qX1 := qX1) (qX3 := qX3) (zO := zO) (zD := zD) (zX := zX) (zL := zL) (zXs := zXs) (zG5 := zG5) (zG6 := zG6) (zG7 := zG7) (zc := zc) (zn := zn) (k := k) (s := s) (x := x) hW hk
  rw [show f_c_addLayer qLn qLy qTf zc zn k s x = ((.inr 5), qTf, qLn, qLy, zc + 1, zn + 6) from if_neg c] at h9
  exact h9
def f_c_addFee (qLn : Nat) (qLy : Nat → Ly) (qTf : Nat → Nat) (zc : Nat) (zn : Nat) (p0 X : Int32) : Re × (Nat → Nat) × Nat × (Nat → Ly) × Nat × Nat :=
  if f_r_isKind p0 = true then
    if f_r_in X 0 999 = true then
      if lyHt (qLy (qTf (nP p0))) < 6 then
        ((.inl (some (vI (lyHt ((fup qLy qLn (1, X, some (qTf (nP p0)), lyHt (qLy (qTf (nP p0))) + 1)) qLn))))), fup qTf (nP p0) qLn, qLn + 1, fup qLy qLn (1, X, some (qTf (nP p0)), lyHt (qLy (qTf (nP p0))) + 1), zc + 1, zn + 4)
      else
        ((.inr 5), qTf, qLn, qLy, zc + 1, zn + 6)
    else
      ((.inr 1), qTf, qLn, qLy, zc + 1, zn + 6)
  else
    ((.inr 1), qTf, qLn, qLy, zc + 1, zn + 6)
theorem s_c_addFee {d : Nat} {zO : Int64} {zD : UInt64} {zX : Nat} {zL : Nat} {zXs : Nat → Int32} {zG5 : List Ob} {zG6 : List Ob} {zG7 : List Ob} {zc : Nat} {zn : Nat} {R : RD} {qNb : Nat → Int32} {qTf : Nat → Nat} {qLn : Nat} {qLy : Nat → Ly} {qMn : Nat} {qMk : Nat → Nat} {qMs : Nat → Int32} {qMh : Nat → List Nat} {qPn : Nat} {qPl : Nat → Nat → Int32} {qPo : Nat → Int32} {qPp : Nat → Int32} {qEn : Nat} {qEm : Nat → Nat} {qEc : Nat → Nat} {qEd : Nat → Int32} {qEs : Nat → Int32} {qEl : Nat → Int32} {qEe : Nat → Int32} {qEw : Nat → Int32} {qSt : Nat → Int32} {qDu : Nat → Int32} {qCu : Nat → List Nat} {qCn : Nat} {qCb : Nat → Nat} {qCl : Nat → Int32} {qBn : Nat} {qBm : Nat → Nat} {qBl : Nat → Int32} {qBf : Nat → Int32} {qKn : Nat} {qKl : Nat → Nat} {qKs : Nat → Nat → Int32} {qPr : Nat → Int32} {qDay : Int32} {qG2 : List Ob} {qG4 : List Ob} {qX1 : List Ob} {qX3 : List Ob} {p0 : Int32} {X : Int32} (hW : WfC qMn qPn qEn qBn qKn qCn qLn qMk qEm qEc qCb qBm qTf qKl qMh qCu qLy) : Cal (d + 2) 47 [vR 8 0, vI p0, vI X] (enc (mkC qNb qTf qLn qLy qMn qMk qMs qMh qPn qPl qPo qPp qEn qEm qEc qEd qEs qEl qEe qEw qSt qDu qCu qCn qCb qCl qBn qBm qBl qBf qKn qKl qKs qPr qDay qG2 qG4 qX1 qX3) R (mkW zO zD zX zL zXs zG5 zG6 zG7 zc zn)) ((f_c_addFee qLn qLy qTf zc zn p0 X).1) (enc (mkC qNb ((f_c_addFee qLn qLy qTf zc zn p0 X).2.1) ((f_c_addFee qLn qLy qTf zc zn p0 X).2.2.1) ((f_c_addFee qLn qLy qTf zc zn p0 X).2.2.2.1) qMn qMk qMs qMh qPn qPl qPo qPp qEn qEm qEc qEd qEs qEl qEe qEw qSt qDu qCu qCn qCb qCl qBn qBm qBl qBf qKn qKl qKs qPr qDay qG2 qG4 qX1 qX3) R (mkW zO zD zX zL zXs zG5 zG6 zG7 ((f_c_addFee qLn qLy qTf zc zn p0 X).2.2.2.2.1) ((f_c_addFee qLn qLy qTf zc zn p0 X).2.2.2.2.2))) := by
  obtain ⟨wMn, wPn, wEn, wBn, wKn, wMk, wEm, wEc, wCb, wBm, wTf, wKl, wMh, wMl, wCu, wCl, wLy⟩ := id hW
  refine Cal.mk (n := 4) rfl (Nat.le_of_ble_eq_true rfl) rfl ?_
  unfold f_c_addFee
  refine Ev.ps 2 rfl ?_
  by_cases c1 : f_r_isKind p0 = true
  · rw [if_pos c1]
    have q_p0 := isKind_nat c1
    generalize nP p0 = k_p0 at q_p0 ⊢
    obtain ⟨rfl, hk_p0⟩ := q_p0
    refine Ev.vir (as := [vI (nI k_p0)]) (rest := []) (by rfl) (by rfl) (by rfl) (by rfl) rfl (Nat.le_of_ble_eq_true rfl) (by rfl) (by rw [rd8]; rfl) (s_kindAt rd8 (by rfl) rd10 (by decide) hk_p0 (by rw [rd4 hk_p0]; rfl)) ?_
    refine Ev.ps 4 rfl ?_
    by_cases c2 : f_r_in X 0 999 = true
    · rw [if_pos c2]
      refine Ev.sta (as := [vI X, vI 0, vI 999]) (rest := []) (by rfl) (by rfl) (by rfl) (by rfl) rfl (Nat.le_of_ble_eq_true rfl) (s_range (in_lo c2) (in_hi c2)) ?_
      refine Ev.ps 3 rfl ?_
      by_cases c3 : lyHt (qLy (qTf k_p0)) < 6
      · rw [if_pos c3]
        refine Ev.sta (as := [vR 4 k_p0, vI 1, vI X]) (rest := []) (by rfl) (by rfl) (by rfl) (by rfl) rfl (Nat.le_of_ble_eq_true rfl) (s_c_addLayerO hW (by have := hk_p0; omega) c3) ?_
        exact Ev.re rfl rfl rfl rfl rfl
      · rw [if_neg c3]
        exact Ev.staX (as := [vR 4 k_p0, vI 1, vI X]) (rest := []) (by rfl) (by rfl) (by rfl) (by rfl) rfl (Nat.le_of_ble_eq_true rfl) (s_c_addLayerX hW (by have := hk_p0; omega) c3) (by rfl)
    · rw [if_neg c2]
      exact Ev.staX (as := [vI X, vI 0, vI 999]) (rest := []) (by rfl) (by rfl) (by rfl) (by rfl) rfl (Nat.le_of_ble_eq_true rfl) (cexc (s_rangeX (in_not c2))) (by rfl)
  · rw [if_neg c1]
    exact Ev.virX (as := [vI p0]) (rest := []) (by rfl) (by rfl) (by rfl) (by rfl) rfl (Nat.le_of_ble_eq_true rfl) (by rfl) (by rw [rd8]; rfl) (cexc (s_kindAtX rd8 (by rfl) rd10 (not_in_nat (n := 4) (by decide) c1))) (by rfl)
def f_c_addCap (qLn : Nat) (qLy : Nat → Ly) (qTf : Nat → Nat) (zc : Nat) (zn : Nat) (p0 X : Int32) : Re × (Nat → Nat) × Nat × (Nat → Ly) × Nat × Nat :=
  if f_r_isKind p0 = true then
    if f_r_in X 0 9999 = true then
      if lyHt (qLy (qTf (nP p0))) < 6 then
        ((.inl (some (vI (lyHt ((fup qLy qLn (2, X, some (qTf (nP p0)), lyHt (qLy (qTf (nP p0))) + 1)) qLn))))), fup qTf (nP p0) qLn, qLn + 1, fup qLy qLn (2, X, some (qTf (nP p0)), lyHt (qLy (qTf (nP p0))) + 1), zc + 1, zn + 4)
      else
        ((.inr 5), qTf, qLn, qLy, zc + 1, zn + 6)
    else
      ((.inr 1), qTf, qLn, qLy, zc + 1, zn + 6)
  else
    ((.inr 1), qTf, qLn, qLy, zc + 1, zn + 6)
theorem s_c_addCap {d : Nat} {zO : Int64} {zD : UInt64} {zX : Nat} {zL : Nat} {zXs : Nat → Int32} {zG5 : List Ob} {zG6 : List Ob} {zG7 : List Ob} {zc : Nat} {zn : Nat} {R : RD} {qNb : Nat → Int32} {qTf : Nat → Nat} {qLn : Nat} {qLy : Nat → Ly} {qMn : Nat} {qMk : Nat → Nat} {qMs : Nat → Int32} {qMh : Nat → List Nat} {qPn : Nat} {qPl : Nat → Nat → Int32} {qPo : Nat → Int32} {qPp : Nat → Int32} {qEn : Nat} {qEm : Nat → Nat} {qEc : Nat → Nat} {qEd : Nat → Int32} {qEs : Nat → Int32} {qEl : Nat → Int32} {qEe : Nat → Int32} {qEw : Nat → Int32} {qSt : Nat → Int32} {qDu : Nat → Int32} {qCu : Nat → List Nat} {qCn : Nat} {qCb : Nat → Nat} {qCl : Nat → Int32} {qBn : Nat} {qBm : Nat → Nat} {qBl : Nat → Int32} {qBf : Nat → Int32} {qKn : Nat} {qKl : Nat → Nat} {qKs : Nat → Nat → Int32} {qPr : Nat → Int32} {qDay : Int32} {qG2 : List Ob} {qG4 : List Ob} {qX1 : List Ob} {qX3 : List Ob} {p0 : Int32} {X : Int32} (hW : WfC qMn qPn qEn qBn qKn qCn qLn qMk qEm qEc qCb qBm qTf qKl qMh qCu qLy) : Cal (d + 2) 48 [vR 8 0, vI p0, vI X] (enc (mkC qNb qTf qLn qLy qMn qMk qMs qMh qPn qPl qPo qPp qEn qEm qEc qEd qEs qEl qEe qEw qSt qDu qCu qCn qCb qCl qBn qBm qBl qBf qKn qKl qKs qPr qDay qG2 qG4 qX1 qX3) R (mkW zO zD zX zL zXs zG5 zG6 zG7 zc zn)) ((f_c_addCap qLn qLy qTf zc zn p0 X).1) (enc (mkC qNb ((f_c_addCap qLn qLy qTf zc zn p0 X).2.1) ((f_c_addCap qLn qLy qTf zc zn p0 X).2.2.1) ((f_c_addCap qLn qLy qTf zc zn p0 X).2.2.2.1) qMn qMk qMs qMh qPn qPl qPo qPp qEn qEm qEc qEd qEs qEl qEe qEw qSt qDu qCu qCn qCb qCl qBn qBm qBl qBf qKn qKl qKs qPr qDay qG2 qG4 qX1 qX3) R (mkW zO zD zX zL zXs zG5 zG6 zG7 ((f_c_addCap qLn qLy qTf zc zn p0 X).2.2.2.2.1) ((f_c_addCap qLn qLy qTf zc zn p0 X).2.2.2.2.2))) := by
  obtain ⟨wMn, wPn, wEn, wBn, wKn, wMk, wEm, wEc, wCb, wBm, wTf, wKl, wMh, wMl, wCu, wCl, wLy⟩ := id hW
  refine Cal.mk (n := 4) rfl (Nat.le_of_ble_eq_true rfl) rfl ?_
  unfold f_c_addCap
  refine Ev.ps 2 rfl ?_
  by_cases c1 : f_r_isKind p0 = true
  · rw [if_pos c1]
    have q_p0 := isKind_nat c1
    generalize nP p0 = k_p0 at q_p0 ⊢
    obtain ⟨rfl, hk_p0⟩ := q_p0
    refine Ev.vir (as := [vI (nI k_p0)]) (rest := []) (by rfl) (by rfl) (by rfl) (by rfl) rfl (Nat.le_of_ble_eq_true rfl) (by rfl) (by rw [rd8]; rfl) (s_kindAt rd8 (by rfl) rd10 (by decide) hk_p0 (by rw [rd4 hk_p0]; rfl)) ?_
    refine Ev.ps 4 rfl ?_
    by_cases c2 : f_r_in X 0 9999 = true
    · rw [if_pos c2]
      refine Ev.sta (as := [vI X, vI 0, vI 9999]) (rest := []) (by rfl) (by rfl) (by rfl) (by rfl) rfl (Nat.le_of_ble_eq_true rfl) (s_range (in_lo c2) (in_hi c2)) ?_
      refine Ev.ps 3 rfl ?_
      by_cases c3 : lyHt (qLy (qTf k_p0)) < 6
      · rw [if_pos c3]
        refine Ev.sta (as := [vR 4 k_p0, vI 2, vI X]) (rest := []) (by rfl) (by rfl) (by rfl) (by rfl) rfl (Nat.le_of_ble_eq_true rfl) (s_c_addLayerO hW (by have := hk_p0; omega) c3) ?_
        exact Ev.re rfl rfl rfl rfl rfl
      · rw [if_neg c3]
        exact Ev.staX (as := [vR 4 k_p0, vI 2, vI X]) (rest := []) (by rfl) (by rfl) (by rfl) (by rfl) rfl (Nat.le_of_ble_eq_true rfl) (s_c_addLayerX hW (by have := hk_p0; omega) c3) (by rfl)
    · rw [if_neg c2]
      exact Ev.staX (as := [vI X, vI 0, vI 9999]) (rest := []) (by rfl) (by rfl) (by rfl) (by rfl) rfl (Nat.le_of_ble_eq_true rfl) (cexc (s_rangeX (in_not c2))) (by rfl)
  · rw [if_neg c1]
    exact Ev.virX (as := [vI p0]) (rest := []) (by rfl) (by rfl) (by rfl) (by rfl) rfl (Nat.le_of_ble_eq_true rfl) (by rfl) (by rw [rd8]; rfl) (cexc (s_kindAtX rd8 (by rfl) rd10 (not_in_nat (n := 4) (by decide) c1))) (by rfl)
def f_c_addDouble (qLn : Nat) (qLy : Nat → Ly) (qTf : Nat → Nat) (zc : Nat) (zn : Nat) (p0 X : Int32) : Re × (Nat → Nat) × Nat × (Nat → Ly) × Nat × Nat :=
  if f_r_isKind p0 = true then
    if f_r_in X 0 240 = true then
      if lyHt (qLy (qTf (nP p0))) < 6 then
        ((.inl (some (vI (lyHt ((fup qLy qLn (3, X, some (qTf (nP p0)), lyHt (qLy (qTf (nP p0))) + 1)) qLn))))), fup qTf (nP p0) qLn, qLn + 1, fup qLy qLn (3, X, some (qTf (nP p0)), lyHt (qLy (qTf (nP p0))) + 1), zc + 1, zn + 4)
      else
        ((.inr 5), qTf, qLn, qLy, zc + 1, zn + 6)
    else
      ((.inr 1), qTf, qLn, qLy, zc + 1, zn + 6)
  else
    ((.inr 1), qTf, qLn, qLy, zc + 1, zn + 6)
theorem s_c_addDouble {d : Nat} {zO : Int64} {zD : UInt64} {zX : Nat} {zL : Nat} {zXs : Nat → Int32} {zG5 : List Ob} {zG6 : List Ob} {zG7 : List Ob} {zc : Nat} {zn : Nat} {R : RD} {qNb : Nat → Int32} {qTf : Nat → Nat} {qLn : Nat} {qLy : Nat → Ly} {qMn : Nat} {qMk : Nat → Nat} {qMs : Nat → Int32} {qMh : Nat → List Nat} {qPn : Nat} {qPl : Nat → Nat → Int32} {qPo : Nat → Int32} {qPp : Nat → Int32} {qEn : Nat} {qEm : Nat → Nat} {qEc : Nat → Nat} {qEd : Nat → Int32} {qEs : Nat → Int32} {qEl : Nat → Int32} {qEe : Nat → Int32} {qEw : Nat → Int32} {qSt : Nat → Int32} {qDu : Nat → Int32} {qCu : Nat → List Nat} {qCn : Nat} {qCb : Nat → Nat} {qCl : Nat → Int32} {qBn : Nat} {qBm : Nat → Nat} {qBl : Nat → Int32} {qBf : Nat → Int32} {qKn : Nat} {qKl : Nat → Nat} {qKs : Nat → Nat → Int32} {qPr : Nat → Int32} {qDay : Int32} {qG2 : List Ob} {qG4 : List Ob} {qX1 : List Ob} {qX3 : List Ob} {p0 : Int32} {X : Int32} (hW : WfC qMn qPn qEn qBn qKn qCn qLn qMk qEm qEc qCb qBm qTf qKl qMh qCu qLy) : Cal (d + 2) 49 [vR 8 0, vI p0, vI X] (enc (mkC qNb qTf qLn qLy qMn qMk qMs qMh qPn qPl qPo qPp qEn qEm qEc qEd qEs qEl qEe qEw qSt qDu qCu qCn qCb qCl qBn qBm qBl qBf qKn qKl qKs qPr qDay qG2 qG4 qX1 qX3) R (mkW zO zD zX zL zXs zG5 zG6 zG7 zc zn)) ((f_c_addDouble qLn qLy qTf zc zn p0 X).1) (enc (mkC qNb ((f_c_addDouble qLn qLy qTf zc zn p0 X).2.1) ((f_c_addDouble qLn qLy qTf zc zn p0 X).2.2.1) ((f_c_addDouble qLn qLy qTf zc zn p0 X).2.2.2.1) qMn qMk qMs qMh qPn qPl qPo qPp qEn qEm qEc qEd qEs qEl qEe qEw qSt qDu qCu qCn qCb qCl qBn qBm qBl qBf qKn qKl qKs qPr qDay qG2 qG4 qX1 qX3) R (mkW zO zD zX zL zXs zG5 zG6 zG7 ((f_c_addDouble qLn qLy qTf zc zn p0 X).2.2.2.2.1) ((f_c_addDouble qLn qLy qTf zc zn p0 X).2.2.2.2.2))) := by
  obtain ⟨wMn, wPn, wEn, wBn, wKn, wMk, wEm, wEc, wCb, wBm, wTf, wKl, wMh, wMl, wCu, wCl, wLy⟩ := id hW
  refine Cal.mk (n := 4) rfl (Nat.le_of_ble_eq_true rfl) rfl ?_
  unfold f_c_addDouble
  refine Ev.ps 2 rfl ?_
  by_cases c1 : f_r_isKind p0 = true
  · rw [if_pos c1]
    have q_p0 := isKind_nat c1
    generalize nP p0 = k_p0 at q_p0 ⊢
    obtain ⟨rfl, hk_p0⟩ := q_p0
    refine Ev.vir (as := [vI (nI k_p0)]) (rest := []) (by rfl) (by rfl) (by rfl) (by rfl) rfl (Nat.le_of_ble_eq_true rfl) (by rfl) (by rw [rd8]; rfl) (s_kindAt rd8 (by rfl) rd10 (by decide) hk_p0 (by rw [rd4 hk_p0]; rfl)) ?_
    refine Ev.ps 4 rfl ?_
    by_cases c2 : f_r_in X 0 240 = true
    · rw [if_pos c2]
      refine Ev.sta (as := [vI X, vI 0, vI 240]) (rest := []) (by rfl) (by rfl) (by rfl) (by rfl) rfl (Nat.le_of_ble_eq_true rfl) (s_range (in_lo c2) (in_hi c2)) ?_
      refine Ev.ps 3 rfl ?_
      by_cases c3 : lyHt (qLy (qTf k_p0)) < 6
      · rw [if_pos c3]
        refine Ev.sta (as := [vR 4 k_p0, vI 3, vI X]) (rest := []) (by rfl) (by rfl) (by rfl) (by rfl) rfl (Nat.le_of_ble_eq_true rfl) (s_c_addLayerO hW (by have := hk_p0; omega) c3) ?_
        exact Ev.re rfl rfl rfl rfl rfl
      · rw [if_neg c3]
        exact Ev.staX (as := [vR 4 k_p0, vI 3, vI X]) (rest := []) (by rfl) (by rfl) (by rfl) (by rfl) rfl (Nat.le_of_ble_eq_true rfl) (s_c_addLayerX hW (by have := hk_p0; omega) c3) (by rfl)
    · rw [if_neg c2]
      exact Ev.staX (as := [vI X, vI 0, vI 240]) (rest := []) (by rfl) (by rfl) (by rfl) (by rfl) rfl (Nat.le_of_ble_eq_true rfl) (cexc (s_rangeX (in_not c2))) (by rfl)
  · rw [if_neg c1]
    exact Ev.virX (as := [vI p0]) (rest := []) (by rfl) (by rfl) (by rfl) (by rfl) rfl (Nat.le_of_ble_eq_true rfl) (by rfl) (by rw [rd8]; rfl) (cexc (s_kindAtX rd8 (by rfl) rd10 (not_in_nat (n := 4) (by decide) c1))) (by rfl)
def f_c_addDiscount (qLn : Nat) (qLy : Nat → Ly) (qTf : Nat → Nat) (zc : Nat) (zn : Nat) (p0 X : Int32) : Re × (Nat → Nat) × Nat × (Nat → Ly) × Nat × Nat :=
  if f_r_isKind p0 = true then
    if f_r_in X 0 100 = true then
      if lyHt (qLy (qTf (nP p0))) < 6 then
        ((.inl (some (vI (lyHt ((fup qLy qLn (4, X, some (qTf (nP p0)), lyHt (qLy (qTf (nP p0))) + 1)) qLn))))), fup qTf (nP p0) qLn, qLn + 1, fup qLy qLn (4, X, some (qTf (nP p0)), lyHt (qLy (qTf (nP p0))) + 1), zc + 1, zn + 4)
      else
        ((.inr 5), qTf, qLn, qLy, zc + 1, zn + 6)
    else
      ((.inr 1), qTf, qLn, qLy, zc + 1, zn + 6)
  else
    ((.inr 1), qTf, qLn, qLy, zc + 1, zn + 6)
theorem s_c_addDiscount {d : Nat} {zO : Int64} {zD : UInt64} {zX : Nat} {zL : Nat} {zXs : Nat → Int32} {zG5 : List Ob} {zG6 : List Ob} {zG7 : List Ob} {zc : Nat} {zn : Nat} {R : RD} {qNb : Nat → Int32} {qTf : Nat → Nat} {qLn : Nat} {qLy : Nat → Ly} {qMn : Nat} {qMk : Nat → Nat} {qMs : Nat → Int32} {qMh : Nat → List Nat} {qPn : Nat} {qPl : Nat → Nat → Int32} {qPo : Nat → Int32} {qPp : Nat → Int32} {qEn : Nat} {qEm : Nat → Nat} {qEc : Nat → Nat} {qEd : Nat → Int32} {qEs : Nat → Int32} {qEl : Nat → Int32} {qEe : Nat → Int32} {qEw : Nat → Int32} {qSt : Nat → Int32} {qDu : Nat → Int32} {qCu : Nat → List Nat} {qCn : Nat} {qCb : Nat → Nat} {qCl : Nat → Int32} {qBn : Nat} {qBm : Nat → Nat} {qBl : Nat → Int32} {qBf : Nat → Int32} {qKn : Nat} {qKl : Nat → Nat} {qKs : Nat → Nat → Int32} {qPr : Nat → Int32} {qDay : Int32} {qG2 : List Ob} {qG4 : List Ob} {qX1 : List Ob} {qX3 : List Ob} {p0 : Int32} {X : Int32} (hW : WfC qMn qPn qEn qBn qKn qCn qLn qMk qEm qEc qCb qBm qTf qKl qMh qCu qLy) : Cal (d + 2) 50 [vR 8 0, vI p0, vI X] (enc (mkC qNb qTf qLn qLy qMn qMk qMs qMh qPn qPl qPo qPp qEn qEm qEc qEd qEs qEl qEe qEw qSt qDu qCu qCn qCb qCl qBn qBm qBl qBf qKn qKl qKs qPr qDay qG2 qG4 qX1 qX3) R (mkW zO zD zX zL zXs zG5 zG6 zG7 zc zn)) ((f_c_addDiscount qLn qLy qTf zc zn p0 X).1) (enc (mkC qNb ((f_c_addDiscount qLn qLy qTf zc zn p0 X).2.1) ((f_c_addDiscount qLn qLy qTf zc zn p0 X).2.2.1) ((f_c_addDiscount qLn qLy qTf zc zn p0 X).2.2.2.1) qMn qMk qMs qMh qPn qPl qPo qPp qEn qEm qEc qEd qEs qEl qEe qEw qSt qDu qCu qCn qCb qCl qBn qBm qBl qBf qKn qKl qKs qPr qDay qG2 qG4 qX1 qX3) R (mkW zO zD zX zL zXs zG5 zG6 zG7 ((f_c_addDiscount qLn qLy qTf zc zn p0 X).2.2.2.2.1) ((f_c_addDiscount qLn qLy qTf zc zn p0 X).2.2.2.2.2))) := by
  obtain ⟨wMn, wPn, wEn, wBn, wKn, wMk, wEm, wEc, wCb, wBm, wTf, wKl, wMh, wMl, wCu, wCl, wLy⟩ := id hW
  refine Cal.mk (n := 4) rfl (Nat.le_of_ble_eq_true rfl) rfl ?_
  unfold f_c_addDiscount
  refine Ev.ps 2 rfl ?_
  by_cases c1 : f_r_isKind p0 = true
  · rw [if_pos c1]
    have q_p0 := isKind_nat c1
    generalize nP p0 = k_p0 at q_p0 ⊢
    obtain ⟨rfl, hk_p0⟩ := q_p0
    refine Ev.vir (as := [vI (nI k_p0)]) (rest := []) (by rfl) (by rfl) (by rfl) (by rfl) rfl (Nat.le_of_ble_eq_true rfl) (by rfl) (by rw [rd8]; rfl) (s_kindAt rd8 (by rfl) rd10 (by decide) hk_p0 (by rw [rd4 hk_p0]; rfl)) ?_
    refine Ev.ps 4 rfl ?_
    by_cases c2 : f_r_in X 0 100 = true
    · rw [if_pos c2]
      refine Ev.sta (as := [vI X, vI 0, vI 100]) (rest := []) (by rfl) (by rfl) (by rfl) (by rfl) rfl (Nat.le_of_ble_eq_true rfl) (s_range (in_lo c2) (in_hi c2)) ?_
      refine Ev.ps 3 rfl ?_
      by_cases c3 : lyHt (qLy (qTf k_p0)) < 6
      · rw [if_pos c3]
        refine Ev.sta (as := [vR 4 k_p0, vI 4, vI X]) (rest := []) (by rfl) (by rfl) (by rfl) (by rfl) rfl (Nat.le_of_ble_eq_true rfl) (s_c_addLayerO hW (by have := hk_p0; omega) c3) ?_
        exact Ev.re rfl rfl rfl rfl rfl
      · rw [if_neg c3]
        exact Ev.staX (as := [vR 4 k_p0, vI 4, vI X]) (rest := []) (by rfl) (by rfl) (by rfl) (by rfl) rfl (Nat.le_of_ble_eq_true rfl) (s_c_addLayerX hW (by have := hk_p0; omega) c3) (by rfl)
    · rw [if_neg c2]
      exact Ev.staX (as := [vI X, vI 0, vI 100]) (rest := []) (by rfl) (by rfl) (by rfl) (by rfl) rfl (Nat.le_of_ble_eq_true rfl) (cexc (s_rangeX (in_not c2))) (by rfl)
  · rw [if_neg c1]
    exact Ev.virX (as := [vI p0]) (rest := []) (by rfl) (by rfl) (by rfl) (by rfl) rfl (Nat.le_of_ble_eq_true rfl) (by rfl) (by rw [rd8]; rfl) (cexc (s_kindAtX rd8 (by rfl) rd10 (not_in_nat (n := 4) (by decide) c1))) (by rfl)
def c_greatest_L4  (N : Nat) (A4 : Nat → Int32) : Nat → Nat → Option Nat → (Option Nat)
  | 0, j4, best =>
    best
  | k4 + 1, j4, best =>
    if A4 j4 < 0 then
      c_greatest_L4  N A4 k4 (j4 + 1) best
    else
      oE best (
        c_greatest_L4  N A4 k4 (j4 + 1) (some j4)
        ) (fun kk4 =>
        if A4 kk4 < A4 j4 then c_greatest_L4  N A4 k4 (j4 + 1) (some j4) else c_greatest_L4  N A4 k4 (j4 + 1) (some kk4)
        )
def f_c_greatest  (N : Nat) (A4 : Nat → Int32) : Option Nat :=
  c_greatest_L4  N A4 N 0 none
theorem s_c_greatest {d : Nat} {zO : Int64} {zD : UInt64} {zX : Nat} {zL : Nat} {zXs : Nat → Int32} {zG5 : List Ob} {zG6 : List Ob} {zG7 : List Ob} {zc : Nat} {zn : Nat} {R : RD} {qNb : Nat → Int32} {qTf : Nat → Nat} {qLn : Nat} {qLy : Nat → Ly} {qMn : Nat} {qMk : Nat → Nat} {qMs : Nat → Int32} {qMh : Nat → List Nat} {qPn : Nat} {qPl : Nat → Nat → Int32} {qPo : Nat → Int32} {qPp : Nat → Int32} {qEn : Nat} {qEm : Nat → Nat} {qEc : Nat → Nat} {qEd : Nat → Int32} {qEs : Nat → Int32} {qEl : Nat → Int32} {qEe : Nat → Int32} {qEw : Nat → Int32} {qSt : Nat → Int32} {qDu : Nat → Int32} {qCu : Nat → List Nat} {qCn : Nat} {qCb : Nat → Nat} {qCl : Nat → Int32} {qBn : Nat} {qBm : Nat → Nat} {qBl : Nat → Int32} {qBf : Nat → Int32} {qKn : Nat} {qKl : Nat → Nat} {qKs : Nat → Nat → Int32} {qPr : Nat → Int32} {qDay : Int32} {qG2 : List Ob} {qG4 : List Ob} {qX1 : List Ob} {qX3 : List Ob} {N : Nat} {A4 : Nat → Int32} {g : List Ob} (hW : WfC qMn qPn qEn qBn qKn qCn qLn qMk qEm qEc qCb qBm qTf qKl qMh qCu qLy) (hN : N ≤ 10) : Cal (d + 0) 101 [vR 24 g.length] (enc (mkC qNb qTf qLn qLy qMn qMk qMs qMh qPn qPl qPo qPp qEn qEm qEc qEd qEs qEl qEe qEw qSt qDu qCu qCn qCb qCl qBn qBm qBl qBf qKn qKl qKs qPr qDay qG2 (g ++ [pl N (fun k => vI (A4 k))]) qX1 qX3) R (mkW zO zD zX zL zXs zG5 zG6 zG7 zc zn)) (.inl (some (vI (oI (f_c_greatest  N A4))))) (enc (mkC qNb qTf qLn qLy qMn qMk qMs qMh qPn qPl qPo qPp qEn qEm qEc qEd qEs qEl qEe qEw qSt qDu qCu qCn qCb qCl qBn qBm qBl qBf qKn qKl qKs qPr qDay qG2 (g ++ [pl N (fun k => vI (A4 k))]) qX1 qX3) R (mkW zO zD zX zL zXs zG5 zG6 zG7 zc zn)) := by
  obtain ⟨wMn, wPn, wEn, wBn, wKn, wMk, wEm, wEc, wCb, wBm, wTf, wKl, wMh, wMl, wCu, wCl, wLy⟩ := id hW
  refine Cal.mk (n := 3) rfl (Nat.le_of_ble_eq_true rfl) rfl ?_
  unfold f_c_greatest
  refine Ev.ps 4 rfl ?_
  have L4 : ∀ (k4 j4 : Nat) (best : Option Nat), j4 + k4 = N → (∀ k, best = some k → k < N) → Ev (d + 0) (101, 4, [some (vR 24 g.length), some (vI (oI best)), some (vI (nI j4))], []) (enc (mkC qNb qTf qLn qLy qMn qMk qMs qMh qPn qPl qPo qPp qEn qEm qEc qEd qEs qEl qEe qEw qSt qDu qCu qCn qCb qCl qBn qBm qBl qBf qKn qKl qKs qPr qDay qG2 (g ++ [pl N (fun k => vI (A4 k))]) qX1 qX3) R (mkW zO zD zX zL zXs zG5 zG6 zG7 zc zn)) ((.inl (some (vI (oI (c_greatest_L4  N A4 k4 j4 best))))), enc (mkC qNb qTf qLn qLy qMn qMk qMs qMh qPn qPl qPo qPp qEn qEm qEc qEd qEs qEl qEe qEw qSt qDu qCu qCn qCb qCl qBn qBm qBl qBf qKn qKl qKs qPr qDay qG2 (g ++ [pl N (fun k => vI (A4 k))]) qX1 qX3) R (mkW zO zD zX zL zXs zG5 zG6 zG7 zc zn)) := by
    intro k4
    induction k4 with
    | zero =>
      intro j4 best hj4 hbest
      rw [c_greatest_L4]
      refine Ev.ps 2 rfl ?_
      refine Ev.arl (N := N) (by rfl) (by decide) (rd24) pl_len ?_
      refine Ev.igeN (a := j4) (b := N) (by omega) (by have := hN; omega) (by rfl) (by rfl) (fun (c1 : j4 < N) => ?_) (fun (c1 : ¬ j4 < N) => ?_)
      · exfalso; omega
      · refine Ev.ps 1 rfl ?_
        exact Ev.re rfl rfl rfl rfl rfl
    | succ k4 ih4 =>
      intro j4 best hj4 hbest
      rw [c_greatest_L4]
      refine Ev.ps 2 rfl ?_
      refine Ev.arl (N := N) (by rfl) (by decide) (rd24) pl_len ?_
      refine Ev.igeN (a := j4) (b := N) (by omega) (by have := hN; omega) (by rfl) (by rfl) (fun (c2 : j4 < N) => ?_) (fun (c2 : ¬ j4 < N) => ?_)
      · refine Ev.ps 2 rfl ?_
        refine Ev.aiI (k := j4) (v := vI (A4 j4)) (by rfl) (by decide) (rd24) (by have := hN; omega) (by omega) rfl ?_
        refine Ev.zlt (by rfl) (by rfl) (fun (c3 : A4 j4 < 0) => ?_) (fun (c3 : ¬ A4 j4 < 0) => ?_)
        · rw [if_pos c3]
          refine Ev.ps 2 rfl ?_
          have h9 := ih4 (j4 + 1) best (by show j4 + 1 + k4 = N; omega) (by intro k9 z9; first | exact hbest k9 z9 | (cases z9; omega))
          rw [← nI_1] at h9
          exact h9
        · rw [if_neg c3]
          refine Ev.ps 2 rfl ?_
          cases best with
          | none =>
            dsimp only [oE]
            refine Ev.icmp (by rfl) (by rfl) (fun _ => ?_) (fun z => by exact absurd z (by decide))
            refine Ev.ps 4 rfl ?_
            have h9 := ih4 (j4 + 1) (some j4) (by show j4 + 1 + k4 = N; omega) (by intro k9 z9; first | exact hbest k9 z9 | (cases z9; omega))
            rw [← nI_1] at h9
            exact h9
          | some kk4 =>
            dsimp only [oE]
            refine Ev.icmp (by rfl) (by rfl) (fun z => by exact absurd (of_decide_eq_true z) (nI_nm1 (by have := hbest _ rfl; omega))) (fun _ => ?_)
            refine Ev.ps 2 rfl ?_
            refine Ev.aiI (k := j4) (v := vI (A4 j4)) (by rfl) (by decide) (rd24) (by have := hN; omega) (by omega) rfl ?_
            refine Ev.ps 2 rfl ?_
            refine Ev.aiI (k := kk4) (v := vI (A4 kk4)) (by rfl) (by decide) (rd24) (by have := hN; omega) (by have := hbest _ rfl; omega) rfl ?_
            refine Ev.ile (by rfl) (by rfl) (fun (c6 : A4 kk4 < A4 j4) => ?_) (fun (c6 : ¬ A4 kk4 < A4 j4) => ?_)
            · rw [if_pos c6]
              refine Ev.ps 4 rfl ?_
              have h9 := ih4 (j4 + 1) (some j4) (by show j4 + 1 + k4 = N; omega) (by intro k9 z9; first | exact hbest k9 z9 | (cases z9; omega))
              rw [← nI_1] at h9
              exact h9
            · rw [if_neg c6]
              refine Ev.ps 2 rfl ?_
              have h9 := ih4 (j4 + 1) (some kk4) (by show j4 + 1 + k4 = N; omega) (by intro k9 z9; first | exact hbest k9 z9 | (cases z9; omega))
              rw [← nI_1] at h9
              exact h9
      · exfalso; omega
  exact L4 N 0 none (by show 0 + N = N; omega) (fun _ z => nomatch z)
