/-! the class: addNeed, book (written by gcls9.py) -/
section CW
variable {qMn : Nat} {qPn : Nat} {qEn : Nat} {qBn : Nat} {qKn : Nat} {qCn : Nat} {qLn : Nat} {qMk : Nat → Nat} {qEm : Nat → Nat} {qEc : Nat → Nat} {qCb : Nat → Nat} {qBm : Nat → Nat} {qTf : Nat → Nat} {qKl : Nat → Nat} {qMh : Nat → List Nat} {qCu : Nat → List Nat} {qLy : Nat → Ly} {qBf : Nat → Int32} {qCl : Nat → Int32} {qEd : Nat → Int32} {qEs : Nat → Int32} {qNb : Nat → Int32} {qPl : Nat → Nat → Int32} {qSt : Nat → Int32}
theorem cwL : ∀ (k j : Nat) (Mh : Nat → List Nat) (St : Nat → Int32) (Cu : Nat → List Nat) (Bf : Nat → Int32), WfC qMn qPn qEn qBn qKn qCn qLn qMk qEm qEc qCb qBm qTf qKl Mh Cu qLy → HI qEc St Mh → WfC qMn qPn qEn qBn qKn qCn qLn qMk qEm qEc qCb qBm qTf qKl (c_cancelWI_L2 qCb qCl qEc qEd qEm qEs qMk qNb qPl k j Mh St Cu Bf).1 (c_cancelWI_L2 qCb qCl qEc qEd qEm qEs qMk qNb qPl k j Mh St Cu Bf).2.2.1 qLy ∧ HI qEc (c_cancelWI_L2 qCb qCl qEc qEd qEm qEs qMk qNb qPl k j Mh St Cu Bf).2.1 (c_cancelWI_L2 qCb qCl qEc qEd qEm qEs qMk qNb qPl k j Mh St Cu Bf).1 := by
  intro k
  induction k with
  | zero =>
    intro j Mh St Cu Bf hW hI
    rw [c_cancelWI_L2]
    exact ⟨hW, hI⟩
  | succ k ih =>
    intro j Mh St Cu Bf hW hI
    rw [c_cancelWI_L2]
    split
    · split
      · exact ih _ _ _ _ _ hW hI
      · exact ih _ _ _ _ _ (wd_W hW) (wd_I hI)
    · exact ih _ _ _ _ _ hW hI
theorem cw_W (hW : WfC qMn qPn qEn qBn qKn qCn qLn qMk qEm qEc qCb qBm qTf qKl qMh qCu qLy) (hI : HI qEc qSt qMh) : WfC qMn qPn qEn qBn qKn qCn qLn qMk qEm qEc qCb qBm qTf qKl (f_c_cancelWI qBf qCb qCl qCu qEc qEd qEm qEn qEs qMh qMk qNb qPl qSt).1 (f_c_cancelWI qBf qCb qCl qCu qEc qEd qEm qEn qEs qMh qMk qNb qPl qSt).2.2.1 qLy := (cwL qEn 0 qMh qSt qCu qBf hW hI).1
theorem cw_I (hW : WfC qMn qPn qEn qBn qKn qCn qLn qMk qEm qEc qCb qBm qTf qKl qMh qCu qLy) (hI : HI qEc qSt qMh) : HI qEc (f_c_cancelWI qBf qCb qCl qCu qEc qEd qEm qEn qEs qMh qMk qNb qPl qSt).2.1 (f_c_cancelWI qBf qCb qCl qCu qEc qEd qEm qEn qEs qMh qMk qNb qPl qSt).1 := (cwL qEn 0 qMh qSt qCu qBf hW hI).2
theorem wfc_ent {m c : Nat} (hW : WfC qMn qPn qEn qBn qKn qCn qLn qMk qEm qEc qCb qBm qTf qKl qMh qCu qLy) (hn : qEn < 150) (hm : m < qPn) (hc : c < qMn) : WfC qMn qPn (qEn + 1) qBn qKn qCn qLn qMk (fup qEm qEn m) (fup qEc qEn c) qCb qBm qTf qKl qMh (fup qCu qEn []) qLy := by
  obtain ⟨wMn, wPn, wEn, wBn, wKn, wMk, wEm, wEc, wCb, wBm, wTf, wKl, wMh, wMl, wCu, wCl, wLy⟩ := id hW
  refine ⟨wMn, wPn, by omega, wBn, wKn, wMk, fun e he => ?_, fun e he => ?_, wCb, wBm, wTf, wKl, fun k e he => by have := wMh k e he; omega, wMl, fun e c hc => ?_, fun e => ?_, wLy⟩
  · by_cases z : e = qEn
    · subst z
      rw [fup_same]
      exact hm
    · rw [fup_ne z]
      exact wEm e (by omega)
  · by_cases z : e = qEn
    · subst z
      rw [fup_same]
      exact hc
    · rw [fup_ne z]
      exact wEc e (by omega)
  · by_cases z : e = qEn
    · subst z
      rw [fup_same] at hc
      cases hc
    · rw [fup_ne z] at hc
      exact wCu e c hc
  · by_cases z : e = qEn
    · subst z
      rw [fup_same]
      exact Nat.zero_le _
    · rw [fup_ne z]
      exact wCl e
theorem hi_ent {c : Nat} {v : Int32} (hW : WfC qMn qPn qEn qBn qKn qCn qLn qMk qEm qEc qCb qBm qTf qKl qMh qCu qLy) (hI : HI qEc qSt qMh) : HI (fup qEc qEn c) (fup qSt qEn v) qMh := by
  obtain ⟨wMn, wPn, wEn, wBn, wKn, wMk, wEm, wEc, wCb, wBm, wTf, wKl, wMh, wMl, wCu, wCl, wLy⟩ := id hW
  refine fun m => ⟨(hI m).1, fun a ha => ?_⟩
  have h1 := wMh m a ha
  have h2 : a ≠ qEn := fun z => by omega
  rw [fup_ne h2, fup_ne h2]
  exact (hI m).2 a ha
end CW
def f_c_addNeed (qBf : Nat → Int32) (qCb : Nat → Nat) (qCl : Nat → Int32) (qCu : Nat → List Nat) (qEc : Nat → Nat) (qEd : Nat → Int32) (qEe : Nat → Int32) (qEl : Nat → Int32) (qEm : Nat → Nat) (qEn : Nat) (qEs : Nat → Int32) (qEw : Nat → Int32) (qMh : Nat → List Nat) (qMk : Nat → Nat) (qMs : Nat → Int32) (qNb : Nat → Int32) (qPl : Nat → Nat → Int32) (qSt : Nat → Int32) (zc : Nat) (zn : Nat) (p0 p1 : Int32) : Re × (Nat → Int32) × (Nat → List Nat) × (Nat → Int32) × (Nat → List Nat) × (Nat → Int32) × Nat × Nat :=
  if f_r_isKind p0 = true then
    if f_r_isKind p1 = true then
      if (nP p0) = (nP p1) then
        ((.inr 1), qNb, qMh, qSt, qCu, qBf, zc + 1, zn + 6)
      else
        if f_c_leads qNb (nP p1) (nP p0) then
          ((.inr 5), qNb, qMh, qSt, qCu, qBf, zc + 1, zn + 6)
        else
          if f_c_needs qNb (nP p0) (nP p1) then
            ((.inl (some (vI 0))), f_c_addNeeded qNb (nP p0) (nP p1), (f_c_bookW qEc qEd qEe qEl qEm qEn qEs qEw ((f_c_cancelWI qBf qCb qCl qCu qEc qEd qEm qEn qEs qMh qMk (f_c_addNeeded qNb (nP p0) (nP p1)) qPl qSt).1) qMk qMs (f_c_addNeeded qNb (nP p0) (nP p1)) qPl ((f_c_cancelWI qBf qCb qCl qCu qEc qEd qEm qEn qEs qMh qMk (f_c_addNeeded qNb (nP p0) (nP p1)) qPl qSt).2.1) zc zn).1, (f_c_bookW qEc qEd qEe qEl qEm qEn qEs qEw ((f_c_cancelWI qBf qCb qCl qCu qEc qEd qEm qEn qEs qMh qMk (f_c_addNeeded qNb (nP p0) (nP p1)) qPl qSt).1) qMk qMs (f_c_addNeeded qNb (nP p0) (nP p1)) qPl ((f_c_cancelWI qBf qCb qCl qCu qEc qEd qEm qEn qEs qMh qMk (f_c_addNeeded qNb (nP p0) (nP p1)) qPl qSt).2.1) zc zn).2.1, (f_c_cancelWI qBf qCb qCl qCu qEc qEd qEm qEn qEs qMh qMk (f_c_addNeeded qNb (nP p0) (nP p1)) qPl qSt).2.2.1, (f_c_cancelWI qBf qCb qCl qCu qEc qEd qEm qEn qEs qMh qMk (f_c_addNeeded qNb (nP p0) (nP p1)) qPl qSt).2.2.2, (f_c_bookW qEc qEd qEe qEl qEm qEn qEs qEw ((f_c_cancelWI qBf qCb qCl qCu qEc qEd qEm qEn qEs qMh qMk (f_c_addNeeded qNb (nP p0) (nP p1)) qPl qSt).1) qMk qMs (f_c_addNeeded qNb (nP p0) (nP p1)) qPl ((f_c_cancelWI qBf qCb qCl qCu qEc qEd qEm qEn qEs qMh qMk (f_c_addNeeded qNb (nP p0) (nP p1)) qPl qSt).2.1) zc zn).2.2.1, (f_c_bookW qEc qEd qEe qEl qEm qEn qEs qEw ((f_c_cancelWI qBf qCb qCl qCu qEc qEd qEm qEn qEs qMh qMk (f_c_addNeeded qNb (nP p0) (nP p1)) qPl qSt).1) qMk qMs (f_c_addNeeded qNb (nP p0) (nP p1)) qPl ((f_c_cancelWI qBf qCb qCl qCu qEc qEd qEm qEn qEs qMh qMk (f_c_addNeeded qNb (nP p0) (nP p1)) qPl qSt).2.1) zc zn).2.2.2)
          else
            ((.inl (some (vI 1))), f_c_addNeeded qNb (nP p0) (nP p1), (f_c_bookW qEc qEd qEe qEl qEm qEn qEs qEw ((f_c_cancelWI qBf qCb qCl qCu qEc qEd qEm qEn qEs qMh qMk (f_c_addNeeded qNb (nP p0) (nP p1)) qPl qSt).1) qMk qMs (f_c_addNeeded qNb (nP p0) (nP p1)) qPl ((f_c_cancelWI qBf qCb qCl qCu qEc qEd qEm qEn qEs qMh qMk (f_c_addNeeded qNb (nP p0) (nP p1)) qPl qSt).2.1) zc zn).1, (f_c_bookW qEc qEd qEe qEl qEm qEn qEs qEw ((f_c_cancelWI qBf qCb qCl qCu qEc qEd qEm qEn qEs qMh qMk (f_c_addNeeded qNb (nP p0) (nP p1)) qPl qSt).1) qMk qMs (f_c_addNeeded qNb (nP p0) (nP p1)) qPl ((f_c_cancelWI qBf qCb qCl qCu qEc qEd qEm qEn qEs qMh qMk (f_c_addNeeded qNb (nP p0) (nP p1)) qPl qSt).2.1) zc zn).2.1, (f_c_cancelWI qBf qCb qCl qCu qEc qEd qEm qEn qEs qMh qMk (f_c_addNeeded qNb (nP p0) (nP p1)) qPl qSt).2.2.1, (f_c_cancelWI qBf qCb qCl qCu qEc qEd qEm qEn qEs qMh qMk (f_c_addNeeded qNb (nP p0) (nP p1)) qPl qSt).2.2.2, (f_c_bookW qEc qEd qEe qEl qEm qEn qEs qEw ((f_c_cancelWI qBf qCb qCl qCu qEc qEd qEm qEn qEs qMh qMk (f_c_addNeeded qNb (nP p0) (nP p1)) qPl qSt).1) qMk qMs (f_c_addNeeded qNb (nP p0) (nP p1)) qPl ((f_c_cancelWI qBf qCb qCl qCu qEc qEd qEm qEn qEs qMh qMk (f_c_addNeeded qNb (nP p0) (nP p1)) qPl qSt).2.1) zc zn).2.2.1, (f_c_bookW qEc qEd qEe qEl qEm qEn qEs qEw ((f_c_cancelWI qBf qCb qCl qCu qEc qEd qEm qEn qEs qMh qMk (f_c_addNeeded qNb (nP p0) (nP p1)) qPl qSt).1) qMk qMs (f_c_addNeeded qNb (nP p0) (nP p1)) qPl ((f_c_cancelWI qBf qCb qCl qCu qEc qEd qEm qEn qEs qMh qMk (f_c_addNeeded qNb (nP p0) (nP p1)) qPl qSt).2.1) zc zn).2.2.2)
    else
      ((.inr 1), qNb, qMh, qSt, qCu, qBf, zc + 1, zn + 6)
  else
    ((.inr 1), qNb, qMh, qSt, qCu, qBf, zc + 1, zn + 6)
theorem s_c_addNeed {d : Nat} {zO : Int64} {zD : UInt64} {zX : Nat} {zL : Nat} {zXs : Nat → Int32} {zG5 : List Ob} {zG6 : List Ob} {zG7 : List Ob} {zc : Nat} {zn : Nat} {R : RD} {qNb : Nat → Int32} {qTf : Nat → Nat} {qLn : Nat} {qLy : Nat → Ly} {qMn : Nat} {qMk : Nat → Nat} {qMs : Nat → Int32} {qMh : Nat → List Nat} {qPn : Nat} {qPl : Nat → Nat → Int32} {qPo : Nat → Int32} {qPp : Nat → Int32} {qEn : Nat} {qEm : Nat → Nat} {qEc : Nat → Nat} {qEd : Nat → Int32} {qEs : Nat → Int32} {qEl : Nat → Int32} {qEe : Nat → Int32} {qEw : Nat → Int32} {qSt : Nat → Int32} {qDu : Nat → Int32} {qCu : Nat → List Nat} {qCn : Nat} {qCb : Nat → Nat} {qCl : Nat → Int32} {qBn : Nat} {qBm : Nat → Nat} {qBl : Nat → Int32} {qBf : Nat → Int32} {qKn : Nat} {qKl : Nat → Nat} {qKs : Nat → Nat → Int32} {qPr : Nat → Int32} {qDay : Int32} {qG2 : List Ob} {qG4 : List Ob} {qX1 : List Ob} {qX3 : List Ob} {p0 : Int32} {p1 : Int32} (hW : WfC qMn qPn qEn qBn qKn qCn qLn qMk qEm qEc qCb qBm qTf qKl qMh qCu qLy) (hI : HI qEc qSt qMh) : Cal (d + 14) 24 [vR 8 0, vI p0, vI p1] (enc (mkC qNb qTf qLn qLy qMn qMk qMs qMh qPn qPl qPo qPp qEn qEm qEc qEd qEs qEl qEe qEw qSt qDu qCu qCn qCb qCl qBn qBm qBl qBf qKn qKl qKs qPr qDay qG2 qG4 qX1 qX3) R (mkW zO zD zX zL zXs zG5 zG6 zG7 zc zn)) ((f_c_addNeed qBf qCb qCl qCu qEc qEd qEe qEl qEm qEn qEs qEw qMh qMk qMs qNb qPl qSt zc zn p0 p1).1) (enc (mkC ((f_c_addNeed qBf qCb qCl qCu qEc qEd qEe qEl qEm qEn qEs qEw qMh qMk qMs qNb qPl qSt zc zn p0 p1).2.1) qTf qLn qLy qMn qMk qMs ((f_c_addNeed qBf qCb qCl qCu qEc qEd qEe qEl qEm qEn qEs qEw qMh qMk qMs qNb qPl qSt zc zn p0 p1).2.2.1) qPn qPl qPo qPp qEn qEm qEc qEd qEs qEl qEe qEw ((f_c_addNeed qBf qCb qCl qCu qEc qEd qEe qEl qEm qEn qEs qEw qMh qMk qMs qNb qPl qSt zc zn p0 p1).2.2.2.1) qDu ((f_c_addNeed qBf qCb qCl qCu qEc qEd qEe qEl qEm qEn qEs qEw qMh qMk qMs qNb qPl qSt zc zn p0 p1).2.2.2.2.1) qCn qCb qCl qBn qBm qBl ((f_c_addNeed qBf qCb qCl qCu qEc qEd qEe qEl qEm qEn qEs qEw qMh qMk qMs qNb qPl qSt zc zn p0 p1).2.2.2.2.2.1) qKn qKl qKs qPr qDay qG2 qG4 qX1 qX3) R (mkW zO zD zX zL zXs zG5 zG6 zG7 ((f_c_addNeed qBf qCb qCl qCu qEc qEd qEe qEl qEm qEn qEs qEw qMh qMk qMs qNb qPl qSt zc zn p0 p1).2.2.2.2.2.2.1) ((f_c_addNeed qBf qCb qCl qCu qEc qEd qEe qEl qEm qEn qEs qEw qMh qMk qMs qNb qPl qSt zc zn p0 p1).2.2.2.2.2.2.2))) := by
  obtain ⟨wMn, wPn, wEn, wBn, wKn, wMk, wEm, wEc, wCb, wBm, wTf, wKl, wMh, wMl, wCu, wCl, wLy⟩ := id hW
  refine Cal.mk (n := 6) rfl (Nat.le_of_ble_eq_true rfl) rfl ?_
  unfold f_c_addNeed
  refine Ev.ps 2 rfl ?_
  by_cases c1 : f_r_isKind p0 = true
  · rw [if_pos c1]
    have q_p0 := isKind_nat c1
    generalize nP p0 = k_p0 at q_p0 ⊢
    obtain ⟨rfl, hk_p0⟩ := q_p0
    refine Ev.vir (as := [vI (nI k_p0)]) (rest := []) (by rfl) (by rfl) (by rfl) (by rfl) rfl (Nat.le_of_ble_eq_true rfl) (by rfl) (by rw [rd8]; rfl) (s_kindAt rd8 (by rfl) rd10 (by decide) hk_p0 (by rw [rd4 hk_p0]; rfl)) ?_
    refine Ev.ps 3 rfl ?_
    by_cases c2 : f_r_isKind p1 = true
    · rw [if_pos c2]
      have q_p1 := isKind_nat c2
      generalize nP p1 = k_p1 at q_p1 ⊢
      obtain ⟨rfl, hk_p1⟩ := q_p1
      refine Ev.vir (as := [vI (nI k_p1)]) (rest := []) (by rfl) (by rfl) (by rfl) (by rfl) rfl (Nat.le_of_ble_eq_true rfl) (by rfl) (by rw [rd8]; rfl) (s_kindAt rd8 (by rfl) rd10 (by decide) hk_p1 (by rw [rd4 hk_p1]; rfl)) ?_
      refine Ev.ps 3 rfl ?_
      refine Ev.ane (by rfl) (by rfl) (by decide) (fun (c3 : k_p0 = k_p1) => ?_) (fun (c3 : ¬ k_p0 = k_p1) => ?_)
      · rw [if_pos c3]
        exact Ev.thwE (by rfl)
      · rw [if_neg c3]
        refine Ev.ps 1 rfl ?_
        refine Ev.getf (v := vR 10 0) (by rfl) (by rfl) (by rfl) (rd8) rfl ?_
        refine Ev.ps 3 rfl ?_
        refine Ev.sta (as := [vR 10 0, vR 4 k_p1, vR 4 k_p0, vI 0]) (rest := []) (by rfl) (by rfl) (by rfl) (by rfl) rfl (Nat.le_of_ble_eq_true rfl) (s_c_leads hW (by have := hk_p1; omega) (by have := hk_p0; omega)) ?_
        refine Ev.ifbe (by rfl) (by rfl) (fun c4 => ?_) (fun c4 => ?_)
        · rw [if_pos c4]
          exact Ev.thwE (by rfl)
        · rw [if_neg c4]
          refine Ev.ps 2 rfl ?_
          refine Ev.vir (as := [vR 4 k_p1]) (rest := []) (by rfl) (by rfl) (by rfl) (by rfl) rfl (Nat.le_of_ble_eq_true rfl) (by rfl) (by rw [rd4 (by have := hk_p0; omega)]; rfl) (s_c_needs hW (by have := hk_p0; omega) (by have := hk_p1; omega)) ?_
          refine Ev.ifbn (by rfl) (by rfl) (fun c5 => ?_) (fun c5 => ?_)
          · rw [if_pos c5]
            refine Ev.ps 4 rfl ?_
            refine Ev.vir (as := [vR 4 k_p1]) (rest := []) (by rfl) (by rfl) (by rfl) (by rfl) rfl (Nat.le_of_ble_eq_true rfl) (by rfl) (by rw [rd4 (by have := hk_p0; omega)]; rfl) (s_c_addNeeded hW (by have := hk_p0; omega) (by have := hk_p1; omega)) ?_
            refine Ev.ps 1 rfl ?_
            refine Ev.vir (as := []) (rest := []) (by rfl) (by rfl) (by rfl) (by rfl) rfl (Nat.le_of_ble_eq_true rfl) (by rfl) (by rw [rd8]; rfl) (s_c_cancelWI hW hI) ?_
            have hW2 := cw_W (qNb := (f_c_addNeeded qNb k_p0 k_p1)) (qEd := qEd) (qEs := qEs) (qCl := qCl) (qPl := qPl) (qBf := qBf) hW hI
            have hI2 := cw_I (qNb := (f_c_addNeeded qNb k_p0 k_p1)) (qEd := qEd) (qEs := qEs) (qCl := qCl) (qPl := qPl) (qBf := qBf) hW hI
            refine Ev.ps 1 rfl ?_
            refine Ev.vir (as := []) (rest := []) (by rfl) (by rfl) (by rfl) (by rfl) rfl (Nat.le_of_ble_eq_true rfl) (by rfl) (by rw [rd8]; rfl) (s_c_bookW hW2 hI2) ?_
            refine Ev.ps 1 rfl ?_
            exact Ev.re rfl rfl rfl rfl rfl
          · rw [if_neg c5]
            refine Ev.ps 5 rfl ?_
            refine Ev.vir (as := [vR 4 k_p1]) (rest := []) (by rfl) (by rfl) (by rfl) (by rfl) rfl (Nat.le_of_ble_eq_true rfl) (by rfl) (by rw [rd4 (by have := hk_p0; omega)]; rfl) (s_c_addNeeded hW (by have := hk_p0; omega) (by have := hk_p1; omega)) ?_
            refine Ev.ps 1 rfl ?_
            refine Ev.vir (as := []) (rest := []) (by rfl) (by rfl) (by rfl) (by rfl) rfl (Nat.le_of_ble_eq_true rfl) (by rfl) (by rw [rd8]; rfl) (s_c_cancelWI hW hI) ?_
            have hW2 := cw_W (qNb := (f_c_addNeeded qNb k_p0 k_p1)) (qEd := qEd) (qEs := qEs) (qCl := qCl) (qPl := qPl) (qBf := qBf) hW hI
            have hI2 := cw_I (qNb := (f_c_addNeeded qNb k_p0 k_p1)) (qEd := qEd) (qEs := qEs) (qCl := qCl) (qPl := qPl) (qBf := qBf) hW hI
            refine Ev.ps 1 rfl ?_
            refine Ev.vir (as := []) (rest := []) (by rfl) (by rfl) (by rfl) (by rfl) rfl (Nat.le_of_ble_eq_true rfl) (by rfl) (by rw [rd8]; rfl) (s_c_bookW hW2 hI2) ?_
            refine Ev.ps 1 rfl ?_
            exact Ev.re rfl rfl rfl rfl rfl
    · rw [if_neg c2]
      exact Ev.virX (as := [vI p1]) (rest := []) (by rfl) (by rfl) (by rfl) (by rfl) rfl (Nat.le_of_ble_eq_true rfl) (by rfl) (by rw [rd8]; rfl) (cexc (s_kindAtX rd8 (by rfl) rd10 (not_in_nat (n := 4) (by decide) c2))) (by rfl)
  · rw [if_neg c1]
    exact Ev.virX (as := [vI p0]) (rest := []) (by rfl) (by rfl) (by rfl) (by rfl) rfl (Nat.le_of_ble_eq_true rfl) (by rfl) (by rw [rd8]; rfl) (cexc (s_kindAtX rd8 (by rfl) rd10 (not_in_nat (n := 4) (by decide) c1))) (by rfl)
def f_c_book (qCu : Nat → List Nat) (qDay : Int32) (qDu : Nat → Int32) (qEc : Nat → Nat) (qEd : Nat → Int32) (qEe : Nat → Int32) (qEl : Nat → Int32) (qEm : Nat → Nat) (qEn : Nat) (qEs : Nat → Int32) (qEw : Nat → Int32) (qMh : Nat → List Nat) (qMk : Nat → Nat) (qMn : Nat) (qMs : Nat → Int32) (qNb : Nat → Int32) (qPl : Nat → Nat → Int32) (qPn : Nat) (qSt : Nat → Int32) (zc : Nat) (zn : Nat) (p0 p1 D S M V : Int32) : Re × (Nat → List Nat) × Nat × (Nat → Nat) × (Nat → Nat) × (Nat → Int32) × (Nat → Int32) × (Nat → Int32) × (Nat → Int32) × (Nat → Int32) × (Nat → Int32) × (Nat → Int32) × (Nat → List Nat) × Nat × Nat :=
  if f_r_isMember qPn p0 = true then
    if f_r_isMachine qMn p1 = true then
      if timeOk qDay D S M V = true then
        if f_c_judge qEn qEm qEc qEd qEs qEl qEe qEw qSt qMh qMk qMs qNb qPl (nP p0) (nP p1) D S M V = 105 then
          ((.inr 2), qMh, qEn, qEm, qEc, qEd, qEs, qEl, qEe, qEw, qSt, qDu, qCu, zc + 1, zn + 6)
        else
          if f_c_judge qEn qEm qEc qEd qEs qEl qEe qEw qSt qMh qMk qMs qNb qPl (nP p0) (nP p1) D S M V = 109 then
            ((.inr 3), qMh, qEn, qEm, qEc, qEd, qEs, qEl, qEe, qEw, qSt, qDu, qCu, zc + 1, zn + 6)
          else
            if f_c_judge qEn qEm qEc qEd qEs qEl qEe qEw qSt qMh qMk qMs qNb qPl (nP p0) (nP p1) D S M V = 116 then
              ((.inr 4), qMh, qEn, qEm, qEc, qEd, qEs, qEl, qEe, qEw, qSt, qDu, qCu, zc + 1, zn + 6)
            else
              if qEn < 150 then
                ((.inl (some (vI ((nI (qEn + 1)) - 1)))), (f_c_bookW (fup qEc qEn (nP p1)) (fup qEd qEn D) (fup qEe qEn (S + M)) (fup qEl qEn M) (fup qEm qEn (nP p0)) (qEn + 1) (fup qEs qEn S) (fup qEw qEn V) ((f_c_makeBooked (fup qEc qEn (nP p1)) (fup qEd qEn D) (fup qEs qEn S) qMh (fup qSt qEn 119) (zc + 1 + 1 + 1) (zn + 10 + 3 + (2 * ((List.range qEn).map (vR 3)).length + 10)) qEn).1) qMk qMs qNb qPl ((f_c_makeBooked (fup qEc qEn (nP p1)) (fup qEd qEn D) (fup qEs qEn S) qMh (fup qSt qEn 119) (zc + 1 + 1 + 1) (zn + 10 + 3 + (2 * ((List.range qEn).map (vR 3)).length + 10)) qEn).2.1) ((f_c_makeBooked (fup qEc qEn (nP p1)) (fup qEd qEn D) (fup qEs qEn S) qMh (fup qSt qEn 119) (zc + 1 + 1 + 1) (zn + 10 + 3 + (2 * ((List.range qEn).map (vR 3)).length + 10)) qEn).2.2.1) ((f_c_makeBooked (fup qEc qEn (nP p1)) (fup qEd qEn D) (fup qEs qEn S) qMh (fup qSt qEn 119) (zc + 1 + 1 + 1) (zn + 10 + 3 + (2 * ((List.range qEn).map (vR 3)).length + 10)) qEn).2.2.2)).1, qEn + 1, fup qEm qEn (nP p0), fup qEc qEn (nP p1), fup qEd qEn D, fup qEs qEn S, fup qEl qEn M, fup qEe qEn (S + M), fup qEw qEn V, (f_c_bookW (fup qEc qEn (nP p1)) (fup qEd qEn D) (fup qEe qEn (S + M)) (fup qEl qEn M) (fup qEm qEn (nP p0)) (qEn + 1) (fup qEs qEn S) (fup qEw qEn V) ((f_c_makeBooked (fup qEc qEn (nP p1)) (fup qEd qEn D) (fup qEs qEn S) qMh (fup qSt qEn 119) (zc + 1 + 1 + 1) (zn + 10 + 3 + (2 * ((List.range qEn).map (vR 3)).length + 10)) qEn).1) qMk qMs qNb qPl ((f_c_makeBooked (fup qEc qEn (nP p1)) (fup qEd qEn D) (fup qEs qEn S) qMh (fup qSt qEn 119) (zc + 1 + 1 + 1) (zn + 10 + 3 + (2 * ((List.range qEn).map (vR 3)).length + 10)) qEn).2.1) ((f_c_makeBooked (fup qEc qEn (nP p1)) (fup qEd qEn D) (fup qEs qEn S) qMh (fup qSt qEn 119) (zc + 1 + 1 + 1) (zn + 10 + 3 + (2 * ((List.range qEn).map (vR 3)).length + 10)) qEn).2.2.1) ((f_c_makeBooked (fup qEc qEn (nP p1)) (fup qEd qEn D) (fup qEs qEn S) qMh (fup qSt qEn 119) (zc + 1 + 1 + 1) (zn + 10 + 3 + (2 * ((List.range qEn).map (vR 3)).length + 10)) qEn).2.2.2)).2.1, fup qDu qEn 0, fup qCu qEn ([]), (f_c_bookW (fup qEc qEn (nP p1)) (fup qEd qEn D) (fup qEe qEn (S + M)) (fup qEl qEn M) (fup qEm qEn (nP p0)) (qEn + 1) (fup qEs qEn S) (fup qEw qEn V) ((f_c_makeBooked (fup qEc qEn (nP p1)) (fup qEd qEn D) (fup qEs qEn S) qMh (fup qSt qEn 119) (zc + 1 + 1 + 1) (zn + 10 + 3 + (2 * ((List.range qEn).map (vR 3)).length + 10)) qEn).1) qMk qMs qNb qPl ((f_c_makeBooked (fup qEc qEn (nP p1)) (fup qEd qEn D) (fup qEs qEn S) qMh (fup qSt qEn 119) (zc + 1 + 1 + 1) (zn + 10 + 3 + (2 * ((List.range qEn).map (vR 3)).length + 10)) qEn).2.1) ((f_c_makeBooked (fup qEc qEn (nP p1)) (fup qEd qEn D) (fup qEs qEn S) qMh (fup qSt qEn 119) (zc + 1 + 1 + 1) (zn + 10 + 3 + (2 * ((List.range qEn).map (vR 3)).length + 10)) qEn).2.2.1) ((f_c_makeBooked (fup qEc qEn (nP p1)) (fup qEd qEn D) (fup qEs qEn S) qMh (fup qSt qEn 119) (zc + 1 + 1 + 1) (zn + 10 + 3 + (2 * ((List.range qEn).map (vR 3)).length + 10)) qEn).2.2.2)).2.2.1, (f_c_bookW (fup qEc qEn (nP p1)) (fup qEd qEn D) (fup qEe qEn (S + M)) (fup qEl qEn M) (fup qEm qEn (nP p0)) (qEn + 1) (fup qEs qEn S) (fup qEw qEn V) ((f_c_makeBooked (fup qEc qEn (nP p1)) (fup qEd qEn D) (fup qEs qEn S) qMh (fup qSt qEn 119) (zc + 1 + 1 + 1) (zn + 10 + 3 + (2 * ((List.range qEn).map (vR 3)).length + 10)) qEn).1) qMk qMs qNb qPl ((f_c_makeBooked (fup qEc qEn (nP p1)) (fup qEd qEn D) (fup qEs qEn S) qMh (fup qSt qEn 119) (zc + 1 + 1 + 1) (zn + 10 + 3 + (2 * ((List.range qEn).map (vR 3)).length + 10)) qEn).2.1) ((f_c_makeBooked (fup qEc qEn (nP p1)) (fup qEd qEn D) (fup qEs qEn S) qMh (fup qSt qEn 119) (zc + 1 + 1 + 1) (zn + 10 + 3 + (2 * ((List.range qEn).map (vR 3)).length + 10)) qEn).2.2.1) ((f_c_makeBooked (fup qEc qEn (nP p1)) (fup qEd qEn D) (fup qEs qEn S) qMh (fup qSt qEn 119) (zc + 1 + 1 + 1) (zn + 10 + 3 + (2 * ((List.range qEn).map (vR 3)).length + 10)) qEn).2.2.2)).2.2.2)
              else
                ((.inr 5), qMh, qEn, qEm, qEc, qEd, qEs, qEl, qEe, qEw, qSt, qDu, qCu, zc + 1, zn + 6)
      else
        ((.inr 1), qMh, qEn, qEm, qEc, qEd, qEs, qEl, qEe, qEw, qSt, qDu, qCu, zc + 1, zn + 6)
    else
      ((.inr 0), qMh, qEn, qEm, qEc, qEd, qEs, qEl, qEe, qEw, qSt, qDu, qCu, zc + 1, zn + 6)
  else
    ((.inr 0), qMh, qEn, qEm, qEc, qEd, qEs, qEl, qEe, qEw, qSt, qDu, qCu, zc + 1, zn + 6)
theorem s_c_book {d : Nat} {zO : Int64} {zD : UInt64} {zX : Nat} {zL : Nat} {zXs : Nat → Int32} {zG5 : List Ob} {zG6 : List Ob} {zG7 : List Ob} {zc : Nat} {zn : Nat} {R : RD} {qNb : Nat → Int32} {qTf : Nat → Nat} {qLn : Nat} {qLy : Nat → Ly} {qMn : Nat} {qMk : Nat → Nat} {qMs : Nat → Int32} {qMh : Nat → List Nat} {qPn : Nat} {qPl : Nat → Nat → Int32} {qPo : Nat → Int32} {qPp : Nat → Int32} {qEn : Nat} {qEm : Nat → Nat} {qEc : Nat → Nat} {qEd : Nat → Int32} {qEs : Nat → Int32} {qEl : Nat → Int32} {qEe : Nat → Int32} {qEw : Nat → Int32} {qSt : Nat → Int32} {qDu : Nat → Int32} {qCu : Nat → List Nat} {qCn : Nat} {qCb : Nat → Nat} {qCl : Nat → Int32} {qBn : Nat} {qBm : Nat → Nat} {qBl : Nat → Int32} {qBf : Nat → Int32} {qKn : Nat} {qKl : Nat → Nat} {qKs : Nat → Nat → Int32} {qPr : Nat → Int32} {qDay : Int32} {qG2 : List Ob} {qG4 : List Ob} {qX1 : List Ob} {qX3 : List Ob} {p0 : Int32} {p1 : Int32} {D : Int32} {S : Int32} {M : Int32} {V : Int32} (hW : WfC qMn qPn qEn qBn qKn qCn qLn qMk qEm qEc qCb qBm qTf qKl qMh qCu qLy) (hI : HI qEc qSt qMh) : Cal (d + 14) 27 [vR 8 0, vI p0, vI p1, vI D, vI S, vI M, vI V] (enc (mkC qNb qTf qLn qLy qMn qMk qMs qMh qPn qPl qPo qPp qEn qEm qEc qEd qEs qEl qEe qEw qSt qDu qCu qCn qCb qCl qBn qBm qBl qBf qKn qKl qKs qPr qDay qG2 qG4 qX1 qX3) R (mkW zO zD zX zL zXs zG5 zG6 zG7 zc zn)) ((f_c_book qCu qDay qDu qEc qEd qEe qEl qEm qEn qEs qEw qMh qMk qMn qMs qNb qPl qPn qSt zc zn p0 p1 D S M V).1) (enc (mkC qNb qTf qLn qLy qMn qMk qMs ((f_c_book qCu qDay qDu qEc qEd qEe qEl qEm qEn qEs qEw qMh qMk qMn qMs qNb qPl qPn qSt zc zn p0 p1 D S M V).2.1) qPn qPl qPo qPp ((f_c_book qCu qDay qDu qEc qEd qEe qEl qEm qEn qEs qEw qMh qMk qMn qMs qNb qPl qPn qSt zc zn p0 p1 D S M V).2.2.1) ((f_c_book qCu qDay qDu qEc qEd qEe qEl qEm qEn qEs qEw qMh qMk qMn qMs qNb qPl qPn qSt zc zn p0 p1 D S M V).2.2.2.1) ((f_c_book qCu qDay qDu qEc qEd qEe qEl qEm qEn qEs qEw qMh qMk qMn qMs qNb qPl qPn qSt zc zn p0 p1 D S M V).2.2.2.2.1) ((f_c_book qCu qDay qDu qEc qEd qEe qEl qEm qEn qEs qEw qMh qMk qMn qMs qNb qPl qPn qSt zc zn p0 p1 D S M V).2.2.2.2.2.1) ((f_c_book qCu qDay qDu qEc qEd qEe qEl qEm qEn qEs qEw qMh qMk qMn qMs qNb qPl qPn qSt zc zn p0 p1 D S M V).2.2.2.2.2.2.1) ((f_c_book qCu qDay qDu qEc qEd qEe qEl qEm qEn qEs qEw qMh qMk qMn qMs qNb qPl qPn qSt zc zn p0 p1 D S M V).2.2.2.2.2.2.2.1) ((f_c_book qCu qDay qDu qEc qEd qEe qEl qEm qEn qEs qEw qMh qMk qMn qMs qNb qPl qPn qSt zc zn p0 p1 D S M V).2.2.2.2.2.2.2.2.1) ((f_c_book qCu qDay qDu qEc qEd qEe qEl qEm qEn qEs qEw qMh qMk qMn qMs qNb qPl qPn qSt zc zn p0 p1 D S M V).2.2.2.2.2.2.2.2.2.1) ((f_c_book qCu qDay qDu qEc qEd qEe qEl qEm qEn qEs qEw qMh qMk qMn qMs qNb qPl qPn qSt zc zn p0 p1 D S M V).2.2.2.2.2.2.2.2.2.2.1) ((f_c_book qCu qDay qDu qEc qEd qEe qEl qEm qEn qEs qEw qMh qMk qMn qMs qNb qPl qPn qSt zc zn p0 p1 D S M V).2.2.2.2.2.2.2.2.2.2.2.1) ((f_c_book qCu qDay qDu qEc qEd qEe qEl qEm qEn qEs qEw qMh qMk qMn qMs qNb qPl qPn qSt zc zn p0 p1 D S M V).2.2.2.2.2.2.2.2.2.2.2.2.1) qCn qCb qCl qBn qBm qBl qBf qKn qKl qKs qPr qDay qG2 qG4 qX1 qX3) R (mkW zO zD zX zL zXs zG5 zG6 zG7 ((f_c_book qCu qDay qDu qEc qEd qEe qEl qEm qEn qEs qEw qMh qMk qMn qMs qNb qPl qPn qSt zc zn p0 p1 D S M V).2.2.2.2.2.2.2.2.2.2.2.2.2.1) ((f_c_book qCu qDay qDu qEc qEd qEe qEl qEm qEn qEs qEw qMh qMk qMn qMs qNb qPl qPn qSt zc zn p0 p1 D S M V).2.2.2.2.2.2.2.2.2.2.2.2.2.2))) := by
  obtain ⟨wMn, wPn, wEn, wBn, wKn, wMk, wEm, wEc, wCb, wBm, wTf, wKl, wMh, wMl, wCu, wCl, wLy⟩ := id hW
  refine Cal.mk (n := 11) rfl (Nat.le_of_ble_eq_true rfl) rfl ?_
  unfold f_c_book
  refine Ev.ps 2 rfl ?_
  by_cases c1 : f_r_isMember qPn p0 = true
  · rw [if_pos c1]
    have q_p0 := isMember_nat wPn c1
    generalize nP p0 = k_p0 at q_p0 ⊢
    obtain ⟨rfl, hk_p0⟩ := q_p0
    refine Ev.vir (as := [vI (nI k_p0)]) (rest := []) (by rfl) (by rfl) (by rfl) (by rfl) rfl (Nat.le_of_ble_eq_true rfl) (by rfl) (by rw [rd8]; rfl) (s_memberAt rd8 (by rfl) rd12 (by omega) hk_p0 (by rw [rd7 hk_p0]; rfl)) ?_
    refine Ev.ps 3 rfl ?_
    by_cases c2 : f_r_isMachine qMn p1 = true
    · rw [if_pos c2]
      have q_p1 := isMachine_nat wMn c2
      generalize nP p1 = k_p1 at q_p1 ⊢
      obtain ⟨rfl, hk_p1⟩ := q_p1
      refine Ev.vir (as := [vI (nI k_p1)]) (rest := []) (by rfl) (by rfl) (by rfl) (by rfl) rfl (Nat.le_of_ble_eq_true rfl) (by rfl) (by rw [rd8]; rfl) (s_machineAt rd8 (by rfl) rd11 (by omega) hk_p1 (by rw [rd6 hk_p1]; rfl)) ?_
      refine Ev.ps 6 rfl ?_
      by_cases c3 : timeOk qDay D S M V = true
      · rw [if_pos c3]
        refine Ev.vir (as := [vI D, vI S, vI M, vI V]) (rest := []) (by rfl) (by rfl) (by rfl) (by rfl) rfl (Nat.le_of_ble_eq_true rfl) (by rfl) (by rw [rd8]; rfl) (s_c_timeOk hW c3) ?_
        refine Ev.ps 7 rfl ?_
        refine Ev.vir (as := [vR 7 k_p0, vR 6 k_p1, vI D, vI S, vI M, vI V]) (rest := []) (by rfl) (by rfl) (by rfl) (by rfl) rfl (Nat.le_of_ble_eq_true rfl) (by rfl) (by rw [rd8]; rfl) (s_c_judge hW (by have := hk_p0; omega) (by have := hk_p1; omega)) ?_
        refine Ev.ps 3 rfl ?_
        refine Ev.ine (by rfl) (by rfl) (fun (c4 : f_c_judge qEn qEm qEc qEd qEs qEl qEe qEw qSt qMh qMk qMs qNb qPl k_p0 k_p1 D S M V = 105) => ?_) (fun (c4 : ¬ f_c_judge qEn qEm qEc qEd qEs qEl qEe qEw qSt qMh qMk qMs qNb qPl k_p0 k_p1 D S M V = 105) => ?_)
        · rw [if_pos c4]
          exact Ev.thwE (by rfl)
        · rw [if_neg c4]
          refine Ev.ps 2 rfl ?_
          refine Ev.ine (by rfl) (by rfl) (fun (c5 : f_c_judge qEn qEm qEc qEd qEs qEl qEe qEw qSt qMh qMk qMs qNb qPl k_p0 k_p1 D S M V = 109) => ?_) (fun (c5 : ¬ f_c_judge qEn qEm qEc qEd qEs qEl qEe qEw qSt qMh qMk qMs qNb qPl k_p0 k_p1 D S M V = 109) => ?_)
          · rw [if_pos c5]
            exact Ev.thwE (by rfl)
          · rw [if_neg c5]
            refine Ev.ps 2 rfl ?_
            refine Ev.ine (by rfl) (by rfl) (fun (c6 : f_c_judge qEn qEm qEc qEd qEs qEl qEe qEw qSt qMh qMk qMs qNb qPl k_p0 k_p1 D S M V = 116) => ?_) (fun (c6 : ¬ f_c_judge qEn qEm qEc qEd qEs qEl qEe qEw qSt qMh qMk qMs qNb qPl k_p0 k_p1 D S M V = 116) => ?_)
            · rw [if_pos c6]
              exact Ev.thwE (by rfl)
            · rw [if_neg c6]
              refine Ev.ps 1 rfl ?_
              refine Ev.getf (v := vR 13 0) (by rfl) (by rfl) (by rfl) (rd8) rfl ?_
              refine Ev.lz (N := qEn) (by rfl) (by rfl) (by rfl) (Nat.le_of_ble_eq_true rfl) (rd13) range_len ?_
              refine Ev.ps 1 rfl ?_
              by_cases c7 : qEn < 150
              · rw [if_pos c7]
                refine Ev.sta (as := [vI (nI qEn), vI 150]) (rest := []) (by rfl) (by rfl) (by rfl) (by rfl) rfl (Nat.le_of_ble_eq_true rfl) (s_room ((nI_ltI (by omega) (by decide)).mpr c7)) ?_
                refine Ev.nwo (s := 3) (i := qEn) (by rfl) (by rfl) ⟨by rfl, by rfl, by decide, by rfl⟩ (show (pl qEn _).length = _ from pl_len) rfl ?_
                refine Ev.ps 7 rfl ?_
                refine Ev.spe (as := [vR 7 k_p0, vR 6 k_p1, vI D, vI S, vI M, vI V]) (rest := [vR 3 qEn]) (by rfl) (by rfl) (by rfl) (by rfl) rfl (Nat.le_of_ble_eq_true rfl) (by rfl) (by rw [hget_newi (show (pl qEn _).length = _ from pl_len)]; rfl) (s_iEnt' (show (pl qEn _).length = _ from pl_len) (hget_newi (show (pl qEn _).length = _ from pl_len)) (pf_work (time_V (by assumption)))) ?_
                refine Ev.ps 2 rfl ?_
                refine Ev.getf (v := vR 13 0) (by rfl) (by rfl) (by rfl) (((hget_put_ne (by decide)).trans ((hget_new_ne (by decide)).trans ((hget_new_ne (by decide)).trans (rd8))))) rfl ?_
                refine Ev.ps 1 rfl ?_
                refine Ev.la (by rfl) (by rfl) (by rfl) (Nat.le_of_ble_eq_true rfl) (by rfl) (((hget_put_ne (by decide)).trans ((hget_new_ne (by decide)).trans ((hget_new_ne (by decide)).trans (rd13))))) (by rw [hget_put ((hget_new_ne (by decide)).trans (hget_newi (show (pl qEn _).length = _ from pl_len)))]; rfl) (by rw [range_len]; omega) mk_ent ?_
                have hW2 := wfc_ent hW (by assumption) hk_p0 hk_p1
                have hI2 := hi_ent (c := k_p1) (v := 119) hW hI
                refine Ev.ps 2 rfl ?_
                refine Ev.sta (as := [vR 3 qEn]) (rest := []) (by rfl) (by rfl) (by rfl) (by rfl) rfl (Nat.le_of_ble_eq_true rfl) (s_c_makeBooked hW2 (by omega)) ?_
                have hW3 := mb_W (qEd := (fup qEd qEn D)) (qEs := (fup qEs qEn S)) (zc := zc + 1 + 1 + 1) (zn := zn + 10 + 3 + (2 * ((List.range qEn).map (vR 3)).length + 10)) hW2 hI2 (by omega) fup_same
                have hI3 := mb_I (qEd := (fup qEd qEn D)) (qEs := (fup qEs qEn S)) (zc := zc + 1 + 1 + 1) (zn := zn + 10 + 3 + (2 * ((List.range qEn).map (vR 3)).length + 10)) hI2 (e := qEn) fup_same
                refine Ev.ps 1 rfl ?_
                refine Ev.vir (as := []) (rest := []) (by rfl) (by rfl) (by rfl) (by rfl) rfl (Nat.le_of_ble_eq_true rfl) (by rfl) (by rw [rd8]; rfl) (s_c_bookW hW3 hI3) ?_
                refine Ev.ps 1 rfl ?_
                refine Ev.getf (v := vR 13 0) (by rfl) (by rfl) (by rfl) (rd8) rfl ?_
                refine Ev.lz (N := (qEn + 1)) (by rfl) (by rfl) (by rfl) (Nat.le_of_ble_eq_true rfl) (rd13) range_len ?_
                refine Ev.ps 2 rfl ?_
                exact Ev.re rfl rfl rfl rfl rfl
              · rw [if_neg c7]
                exact Ev.staX (as := [vI (nI qEn), vI 150]) (rest := []) (by rfl) (by rfl) (by rfl) (by rfl) rfl (Nat.le_of_ble_eq_true rfl) (cexc (s_roomX (fun z => c7 ((nI_ltI (by omega) (by decide)).mp z)))) (by rfl)
      · rw [if_neg c3]
        exact Ev.virX (as := [vI D, vI S, vI M, vI V]) (rest := []) (by rfl) (by rfl) (by rfl) (by rfl) rfl (Nat.le_of_ble_eq_true rfl) (by rfl) (by rw [rd8]; rfl) (s_c_timeX hW c3) (by rfl)
    · rw [if_neg c2]
      exact Ev.virX (as := [vI p1]) (rest := []) (by rfl) (by rfl) (by rfl) (by rfl) rfl (Nat.le_of_ble_eq_true rfl) (by rfl) (by rw [rd8]; rfl) (cexc (s_machineAtX rd8 (by rfl) rd11 (not_in_nat (by omega) c2))) (by rfl)
  · rw [if_neg c1]
    exact Ev.virX (as := [vI p0]) (rest := []) (by rfl) (by rfl) (by rfl) (by rfl) rfl (Nat.le_of_ble_eq_true rfl) (by rfl) (by rw [rd8]; rfl) (cexc (s_memberAtX rd8 (by rfl) rd12 (not_in_nat (by omega) c1))) (by rfl)
