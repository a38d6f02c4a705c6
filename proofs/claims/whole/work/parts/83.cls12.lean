/-! the class: breakDown (written by gcls12.py) -/
def splitA (c t : Int32) (N : Nat) (A2 : Nat → Int32) : Nat → Int32 := if 0 < t then (c_split_L79 c t N A2 ((c_split_L23 c t N A2 N 0 c (fun _ => 0) (fun _ => 0)).1.toInt.toNat - 0) 0 (c_split_L23 c t N A2 N 0 c (fun _ => 0) (fun _ => 0)).2.1 (c_split_L23 c t N A2 N 0 c (fun _ => 0) (fun _ => 0)).2.2).1 else fun _ => 0
theorem split_X3 {qG4 : List Ob} {zc zn : Nat} {c t : Int32} {N : Nat} {A2 : Nat → Int32} : (f_c_split qG4 zc zn c t N A2).2.1 = [pl N (fun k => vI (splitA c t N A2 k))] := by
  unfold f_c_split splitA
  split
  · rfl
  · rfl
theorem s_c_split' {d : Nat} {R : RD} {qNb : Nat → Int32} {qTf : Nat → Nat} {qLn : Nat} {qLy : Nat → Ly} {qMn : Nat} {qMk : Nat → Nat} {qMs : Nat → Int32} {qMh : Nat → List Nat} {qPn : Nat} {qPl : Nat → Nat → Int32} {qPo : Nat → Int32} {qPp : Nat → Int32} {qEn : Nat} {qEm : Nat → Nat} {qEc : Nat → Nat} {qEd : Nat → Int32} {qEs : Nat → Int32} {qEl : Nat → Int32} {qEe : Nat → Int32} {qEw : Nat → Int32} {qSt : Nat → Int32} {qDu : Nat → Int32} {qCu : Nat → List Nat} {qCn : Nat} {qCb : Nat → Nat} {qCl : Nat → Int32} {qBn : Nat} {qBm : Nat → Nat} {qBl : Nat → Int32} {qBf : Nat → Int32} {qKn : Nat} {qKl : Nat → Nat} {qKs : Nat → Nat → Int32} {qPr : Nat → Int32} {qDay : Int32} {qG2 : List Ob} {qG4 : List Ob} {qX1 : List Ob} {qX3 : List Ob} {zO : Int64} {zD : UInt64} {zX : Nat} {zL : Nat} {zXs : Nat → Int32} {zG5 : List Ob} {zG6 : List Ob} {zG7 : List Ob} {zc : Nat} {zn : Nat} {c t : Int32} {N : Nat} {A2 : Nat → Int32} {g : List Ob} (hW : WfC qMn qPn qEn qBn qKn qCn qLn qMk qEm qEc qCb qBm qTf qKl qMh qCu qLy) (hN : N ≤ 10) : Cal (d + 1) 100 [vI c, vR 22 g.length, vI t] (enc (mkC qNb qTf qLn qLy qMn qMk qMs qMh qPn qPl qPo qPp qEn qEm qEc qEd qEs qEl qEe qEw qSt qDu qCu qCn qCb qCl qBn qBm qBl qBf qKn qKl qKs qPr qDay (g ++ [pl N (fun k => vI (A2 k))]) qG4 qX1 ([])) R (mkW zO zD zX zL zXs zG5 zG6 zG7 zc zn)) (.inl (some (vR 23 qKn))) (enc (mkC qNb qTf qLn qLy qMn qMk qMs qMh qPn qPl qPo qPp qEn qEm qEc qEd qEs qEl qEe qEw qSt qDu qCu qCn qCb qCl qBn qBm qBl qBf qKn qKl qKs qPr qDay (g ++ [pl N (fun k => vI (A2 k))]) ((f_c_split qG4 zc zn c t N A2).1) qX1 ([pl N (fun k => vI (splitA c t N A2 k))])) R (mkW zO zD zX zL zXs zG5 zG6 zG7 ((f_c_split qG4 zc zn c t N A2).2.2.1) ((f_c_split qG4 zc zn c t N A2).2.2.2))) := by
  have h9 := s_c_split (d := d) (R := R) (qNb := qNb) (qTf := qTf) (qLn := qLn) (qLy := qLy) (qMn := qMn) (qMk := qMk) (qMs := qMs) (qMh := qMh) (qPn := qPn) (qPl := qPl) (qPo := qPo) (qPp := qPp) (qEn := qEn) (qEm := qEm) (qEc := qEc) (qEd := qEd) (qEs := qEs) (qEl := qEl) (qEe := qEe) (qEw := qEw) (qSt := qSt) (qDu := qDu) (qCu := qCu) (qCn := qCn) (qCb := qCb) (qCl := qCl) (qBn := qBn) (qBm := qBm) (qBl := qBl) (qBf := qBf) (qKn := qKn) (qKl := qKl) (qKs := qKs) (qPr := qPr) (qDay := qDay) (qG4 := qG4) (qX1 := qX1) (zO := zO) (zD := zD) (zX := zX) (zL := zL) (zXs := zXs) (zG5 := zG5) (zG6 := zG6) (zG7 := zG7) (zc := zc) (zn := zn) (qG2 := []) (qX3 := []) (c := c) (t := t) (N := N) (A2 := A2) (g := g) hW hN
  rw [split_X3] at h9
  exact h9
section BK
variable {R : RD} {qNb : Nat → Int32} {qTf : Nat → Nat} {qLn : Nat} {qLy : Nat → Ly} {qMn : Nat} {qMk : Nat → Nat} {qMs : Nat → Int32} {qMh : Nat → List Nat} {qPn : Nat} {qPl : Nat → Nat → Int32} {qPo : Nat → Int32} {qPp : Nat → Int32} {qEn : Nat} {qEm : Nat → Nat} {qEc : Nat → Nat} {qEd : Nat → Int32} {qEs : Nat → Int32} {qEl : Nat → Int32} {qEe : Nat → Int32} {qEw : Nat → Int32} {qSt : Nat → Int32} {qDu : Nat → Int32} {qCu : Nat → List Nat} {qCn : Nat} {qCb : Nat → Nat} {qCl : Nat → Int32} {qBn : Nat} {qBm : Nat → Nat} {qBl : Nat → Int32} {qBf : Nat → Int32} {qKn : Nat} {qKl : Nat → Nat} {qKs : Nat → Nat → Int32} {qPr : Nat → Int32} {qDay : Int32} {qG2 : List Ob} {qG4 : List Ob} {qX1 : List Ob} {qX3 : List Ob} {zO : Int64} {zD : UInt64} {zX : Nat} {zL : Nat} {zXs : Nat → Int32} {zG5 : List Ob} {zG6 : List Ob} {zG7 : List Ob} {zc : Nat} {zn : Nat}
theorem mk_brk {N m : Nat} {A : Nat → Int32} : hput (hcst (enc (mkC qNb qTf qLn qLy qMn qMk qMs qMh qPn qPl qPo qPp qEn qEm qEc qEd qEs qEl qEe qEw qSt qDu qCu qCn qCb qCl qBn qBm qBl qBf qKn qKl qKs qPr qDay qG2 qG4 ([[vR 23 qKn]]) ([pl N (fun k => vI (A k))])) R (mkW zO zD zX zL zXs zG5 zG6 zG7 zc zn)) 1 m) 15 0 ((List.range qKn).map (vR 1) ++ [vR 1 qKn]) = enc (mkC qNb qTf qLn qLy qMn qMk qMs qMh qPn qPl qPo qPp qEn qEm qEc qEd qEs qEl qEe qEw qSt qDu qCu qCn qCb qCl qBn qBm qBl qBf (qKn + 1) (fup qKl qKn N) (fup qKs qKn A) qPr qDay qG2 qG4 ([]) ([])) R (mkW zO zD zX zL zXs zG5 zG6 zG7 (zc + 1) (zn + m)) := by
  refine Prod.ext (Eq.trans (heq3 (l := exps R qNb qTf qLn qLy qMn qMk qMs qMh qPn qPl qPo qPp qEn qEm qEc qEd qEs qEl qEe qEw qSt qDu qCu qCn qCb qCl qBn qBm qBl qBf qKn qKl qKs qPr qDay qG2 qG4 ([[vR 23 qKn]]) ([pl N (fun k => vI (A k))]) zO zD zX zL zXs zG5 zG6 zG7) (l' := exps R qNb qTf qLn qLy qMn qMk qMs qMh qPn qPl qPo qPp qEn qEm qEc qEd qEs qEl qEe qEw qSt qDu qCu qCn qCb qCl qBn qBm qBl qBf (qKn + 1) (fup qKl qKn N) (fup qKs qKn A) qPr qDay qG2 qG4 ([]) ([]) zO zD zX zL zXs zG5 zG6 zG7) (s1 := 1) (p1 := pl (qKn + 1) (fun i => [vR 23 i]) ++ []) (s2 := 23) (p2 := pl (qKn + 1) (fun i => pl (fup qKl qKn N i) (fun k => vI (fup qKs qKn A i k))) ++ []) (s3 := 15) (p3 := [(List.range (qKn + 1)).map (vR 1)]) (by rfl) (show 1 < 62 by decide) (show 23 < 62 by decide) (show 15 < 62 by decide) ?_ ?_ ?_ ?_) (by rfl)) rfl
  · refine Eq.trans (show pl qKn (fun i => [vR 23 i]) ++ [[vR 23 qKn]] = pl (qKn + 1) (fup (fun i => [vR 23 i]) qKn [vR 23 qKn]) from pl_app) ?_
    rw [List.append_nil]
    refine pl_ext fun j _ => ?_
    by_cases e : j = qKn
    · subst e
      simp only [fup_same]
    · simp only [fup_ne e]
  · refine Eq.trans (show pl qKn (fun i => pl (qKl i) (fun k => vI (qKs i k))) ++ [pl N (fun k => vI (A k))] = pl (qKn + 1) (fup (fun i => pl (qKl i) (fun k => vI (qKs i k))) qKn (pl N (fun k => vI (A k)))) from pl_app) ?_
    rw [List.append_nil]
    refine pl_ext fun j _ => ?_
    by_cases e : j = qKn
    · subst e
      simp only [fup_same]
    · simp only [fup_ne e]
  · exact congrArg (fun z => [z]) range_app
  · intro t e1 e23 e15
    simp only [hput, hcst, if_neg e15]
    rfl
theorem wfc_brk {N : Nat} (hW : WfC qMn qPn qEn qBn qKn qCn qLn qMk qEm qEc qCb qBm qTf qKl qMh qCu qLy) (hk : qKn < 20) (hN : N ≤ 10) : WfC qMn qPn qEn qBn (qKn + 1) qCn qLn qMk qEm qEc qCb qBm qTf (fup qKl qKn N) qMh qCu qLy := by
  obtain ⟨wMn, wPn, wEn, wBn, wKn, wMk, wEm, wEc, wCb, wBm, wTf, wKl, wMh, wMl, wCu, wCl, wLy⟩ := id hW
  refine ⟨wMn, wPn, wEn, wBn, by omega, wMk, wEm, wEc, wCb, wBm, wTf, fun k => ?_, wMh, wMl, wCu, wCl, wLy⟩
  by_cases z : k = qKn
  · subst z
    rw [fup_same]
    exact hN
  · rw [fup_ne z]
    exact wKl k
end BK
def c_breakDown_L43 (qDay : Int32) (qEc : Nat → Nat) (qEd : Nat → Int32) (qEl : Nat → Int32) (qEm : Nat → Nat) (qEn : Nat) (qSt : Nat → Int32) (k_p0 : Nat) (X : Int32) : Nat → Nat → Int32 → (Nat → Int32) → (Int32 × (Nat → Int32))
  | 0, j43, tot, A2 =>
    (tot, A2)
  | k43 + 1, j43, tot, A2 =>
    c_breakDown_L43 qDay qEc qEd qEl qEm qEn qSt k_p0 X k43 (j43 + 1) (tot + ((fup A2 j43 (f_c_blame qDay qEc qEd qEl qEm qEn qSt j43 k_p0)) j43)) (fup A2 j43 (f_c_blame qDay qEc qEd qEl qEm qEn qSt j43 k_p0))
def c_breakDown_L113 (qDay : Int32) (qEc : Nat → Nat) (qEd : Nat → Int32) (qEl : Nat → Int32) (qEm : Nat → Nat) (qEn : Nat) (qG2 : List Ob) (qG4 : List Ob) (qKl : Nat → Nat) (qKn : Nat) (qKs : Nat → Nat → Int32) (qPn : Nat) (qSt : Nat → Int32) (zc : Nat) (zn : Nat) (k_p0 : Nat) (X : Int32) : Nat → Nat → (Nat → Int32) → (Re × (Nat → Int32) × Nat × (Nat → Nat) × (Nat → Nat → Int32) × List Ob × List Ob × Nat × Nat)
  | 0, j113, qPo_113 =>
    ((.inl (some (vI ((c_breakDown_L43 qDay qEc qEd qEl qEm qEn qSt k_p0 X qPn 0 0 (fun _ => 0)).1)))), qPo_113, qKn + 1, fup qKl qKn qPn, fup qKs qKn (splitA X ((c_breakDown_L43 qDay qEc qEd qEl qEm qEn qSt k_p0 X qPn 0 0 (fun _ => 0)).1) qPn ((c_breakDown_L43 qDay qEc qEd qEl qEm qEn qSt k_p0 X qPn 0 0 (fun _ => 0)).2)), qG2 ++ [pl qPn (fun k => vI (((c_breakDown_L43 qDay qEc qEd qEl qEm qEn qSt k_p0 X qPn 0 0 (fun _ => 0)).2) k))], (f_c_split qG4 (zc + 1 + 1) (zn + qPn + 1) X ((c_breakDown_L43 qDay qEc qEd qEl qEm qEn qSt k_p0 X qPn 0 0 (fun _ => 0)).1) qPn ((c_breakDown_L43 qDay qEc qEd qEl qEm qEn qSt k_p0 X qPn 0 0 (fun _ => 0)).2)).1, (f_c_split qG4 (zc + 1 + 1) (zn + qPn + 1) X ((c_breakDown_L43 qDay qEc qEd qEl qEm qEn qSt k_p0 X qPn 0 0 (fun _ => 0)).1) qPn ((c_breakDown_L43 qDay qEc qEd qEl qEm qEn qSt k_p0 X qPn 0 0 (fun _ => 0)).2)).2.2.1 + 1, (f_c_split qG4 (zc + 1 + 1) (zn + qPn + 1) X ((c_breakDown_L43 qDay qEc qEd qEl qEm qEn qSt k_p0 X qPn 0 0 (fun _ => 0)).1) qPn ((c_breakDown_L43 qDay qEc qEd qEl qEm qEn qSt k_p0 X qPn 0 0 (fun _ => 0)).2)).2.2.2 + (2 * ((List.range qKn).map (vR 1)).length + 10))
  | k113 + 1, j113, qPo_113 =>
    c_breakDown_L113 qDay qEc qEd qEl qEm qEn qG2 qG4 qKl qKn qKs qPn qSt zc zn k_p0 X k113 (j113 + 1) (fup qPo_113 j113 ((qPo_113 j113) + (f_c_share (fup qKl qKn qPn) (fup qKs qKn (splitA X ((c_breakDown_L43 qDay qEc qEd qEl qEm qEn qSt k_p0 X qPn 0 0 (fun _ => 0)).1) qPn ((c_breakDown_L43 qDay qEc qEd qEl qEm qEn qSt k_p0 X qPn 0 0 (fun _ => 0)).2))) qKn (nI j113))))
def f_c_breakDown (qDay : Int32) (qEc : Nat → Nat) (qEd : Nat → Int32) (qEl : Nat → Int32) (qEm : Nat → Nat) (qEn : Nat) (qG2 : List Ob) (qG4 : List Ob) (qKl : Nat → Nat) (qKn : Nat) (qKs : Nat → Nat → Int32) (qMn : Nat) (qPn : Nat) (qPo : Nat → Int32) (qSt : Nat → Int32) (zc : Nat) (zn : Nat) (p0 X : Int32) : Re × (Nat → Int32) × Nat × (Nat → Nat) × (Nat → Nat → Int32) × List Ob × List Ob × Nat × Nat :=
  if f_r_isMachine qMn p0 = true then
    if f_r_in X 1 100000 = true then
      if qKn < 20 then c_breakDown_L113 qDay qEc qEd qEl qEm qEn qG2 qG4 qKl qKn qKs qPn qSt zc zn (nP p0) X qPn 0 qPo else ((.inr 5), qPo, qKn, qKl, qKs, qG2, qG4, zc + 1, zn + 6)
    else
      ((.inr 1), qPo, qKn, qKl, qKs, qG2, qG4, zc + 1, zn + 6)
  else
    ((.inr 0), qPo, qKn, qKl, qKs, qG2, qG4, zc + 1, zn + 6)
theorem s_c_breakDown {d : Nat} {zO : Int64} {zD : UInt64} {zX : Nat} {zL : Nat} {zXs : Nat → Int32} {zG5 : List Ob} {zG6 : List Ob} {zG7 : List Ob} {zc : Nat} {zn : Nat} {R : RD} {qNb : Nat → Int32} {qTf : Nat → Nat} {qLn : Nat} {qLy : Nat → Ly} {qMn : Nat} {qMk : Nat → Nat} {qMs : Nat → Int32} {qMh : Nat → List Nat} {qPn : Nat} {qPl : Nat → Nat → Int32} {qPo : Nat → Int32} {qPp : Nat → Int32} {qEn : Nat} {qEm : Nat → Nat} {qEc : Nat → Nat} {qEd : Nat → Int32} {qEs : Nat → Int32} {qEl : Nat → Int32} {qEe : Nat → Int32} {qEw : Nat → Int32} {qSt : Nat → Int32} {qDu : Nat → Int32} {qCu : Nat → List Nat} {qCn : Nat} {qCb : Nat → Nat} {qCl : Nat → Int32} {qBn : Nat} {qBm : Nat → Nat} {qBl : Nat → Int32} {qBf : Nat → Int32} {qKn : Nat} {qKl : Nat → Nat} {qKs : Nat → Nat → Int32} {qPr : Nat → Int32} {qDay : Int32} {qG2 : List Ob} {qG4 : List Ob} {qX1 : List Ob} {qX3 : List Ob} {p0 : Int32} {X : Int32} (hW : WfC qMn qPn qEn qBn qKn qCn qLn qMk qEm qEc qCb qBm qTf qKl qMh qCu qLy) : Cal (d + 2) 52 [vR 8 0, vI p0, vI X] (enc (mkC qNb qTf qLn qLy qMn qMk qMs qMh qPn qPl qPo qPp qEn qEm qEc qEd qEs qEl qEe qEw qSt qDu qCu qCn qCb qCl qBn qBm qBl qBf qKn qKl qKs qPr qDay qG2 qG4 ([]) ([])) R (mkW zO zD zX zL zXs zG5 zG6 zG7 zc zn)) ((f_c_breakDown qDay qEc qEd qEl qEm qEn qG2 qG4 qKl qKn qKs qMn qPn qPo qSt zc zn p0 X).1) (enc (mkC qNb qTf qLn qLy qMn qMk qMs qMh qPn qPl ((f_c_breakDown qDay qEc qEd qEl qEm qEn qG2 qG4 qKl qKn qKs qMn qPn qPo qSt zc zn p0 X).2.1) qPp qEn qEm qEc qEd qEs qEl qEe qEw qSt qDu qCu qCn qCb qCl qBn qBm qBl qBf ((f_c_breakDown qDay qEc qEd qEl qEm qEn qG2 qG4 qKl qKn qKs qMn qPn qPo qSt zc zn p0 X).2.2.1) ((f_c_breakDown qDay qEc qEd qEl qEm qEn qG2 qG4 qKl qKn qKs qMn qPn qPo qSt zc zn p0 X).2.2.2.1) ((f_c_breakDown qDay qEc qEd qEl qEm qEn qG2 qG4 qKl qKn qKs qMn qPn qPo qSt zc zn p0 X).2.2.2.2.1) qPr qDay ((f_c_breakDown qDay qEc qEd qEl qEm qEn qG2 qG4 qKl qKn qKs qMn qPn qPo qSt zc zn p0 X).2.2.2.2.2.1) ((f_c_breakDown qDay qEc qEd qEl qEm qEn qG2 qG4 qKl qKn qKs qMn qPn qPo qSt zc zn p0 X).2.2.2.2.2.2.1) ([]) ([])) R (mkW zO zD zX zL zXs zG5 zG6 zG7 ((f_c_breakDown qDay qEc qEd qEl qEm qEn qG2 qG4 qKl qKn qKs qMn qPn qPo qSt zc zn p0 X).2.2.2.2.2.2.2.1) ((f_c_breakDown qDay qEc qEd qEl qEm qEn qG2 qG4 qKl qKn qKs qMn qPn qPo qSt zc zn p0 X).2.2.2.2.2.2.2.2))) := by
  obtain ⟨wMn, wPn, wEn, wBn, wKn, wMk, wEm, wEc, wCb, wBm, wTf, wKl, wMh, wMl, wCu, wCl, wLy⟩ := id hW
  refine Cal.mk (n := 8) rfl (Nat.le_of_ble_eq_true rfl) rfl ?_
  unfold f_c_breakDown
  refine Ev.ps 2 rfl ?_
  by_cases c1 : f_r_isMachine qMn p0 = true
  · rw [if_pos c1]
    have q_p0 := isMachine_nat wMn c1
    generalize nP p0 = k_p0 at q_p0 ⊢
    obtain ⟨rfl, hk_p0⟩ := q_p0
    refine Ev.vir (as := [vI (nI k_p0)]) (rest := []) (by rfl) (by rfl) (by rfl) (by rfl) rfl (Nat.le_of_ble_eq_true rfl) (by rfl) (by rw [rd8]; rfl) (s_machineAt rd8 (by rfl) rd11 (by omega) hk_p0 (by rw [rd6 hk_p0]; rfl)) ?_
    refine Ev.ps 3 rfl ?_
    refine Ev.lcIw (v := 100000) (by rfl) (by rfl) ?_
    by_cases c2 : f_r_in X 1 100000 = true
    · rw [if_pos c2]
      refine Ev.sta (as := [vI X, vI 1, vI 100000]) (rest := []) (by rfl) (by rfl) (by rfl) (by rfl) rfl (Nat.le_of_ble_eq_true rfl) (s_range (in_lo c2) (in_hi c2)) ?_
      refine Ev.ps 1 rfl ?_
      refine Ev.getf (v := vR 15 0) (by rfl) (by rfl) (by rfl) (rd8) rfl ?_
      refine Ev.lz (N := qKn) (by rfl) (by rfl) (by rfl) (Nat.le_of_ble_eq_true rfl) (rd15) range_len ?_
      refine Ev.ps 1 rfl ?_
      by_cases c3 : qKn < 20
      · rw [if_pos c3]
        refine Ev.sta (as := [vI (nI qKn), vI 20]) (rest := []) (by rfl) (by rfl) (by rfl) (by rfl) rfl (Nat.le_of_ble_eq_true rfl) (s_room ((nI_ltI (by omega) (by decide)).mpr c3)) ?_
        refine Ev.ps 1 rfl ?_
        refine Ev.getf (v := vR 12 0) (by rfl) (by rfl) (by rfl) (rd8) rfl ?_
        refine Ev.lz (N := qPn) (by rfl) (by rfl) (by rfl) (Nat.le_of_ble_eq_true rfl) (rd12) range_len ?_
        refine Ev.na (N := qPn) (by rfl) (by rfl) ⟨by rfl, by decide, by rfl⟩ (by omega) rfl (nw22) ?_
        refine Ev.ps 5 rfl ?_
        have L43 : ∀ {x : Re × Hp}, ∀ (k43 j43 : Nat) (tot : Int32) (A2 : Nat → Int32), j43 + k43 = qPn → (∀ (e43_6 : Option MV), Da e43_6 → Ev (d + 2) (52, 83, [some (vR 8 0), some (vI (nI k_p0)), some (vI X), some (vR 6 k_p0), some (vR 22 ((qG2).length)), some (vI ((c_breakDown_L43 qDay qEc qEd qEl qEm qEn qSt k_p0 X k43 j43 tot A2).1)), e43_6, none], []) (enc (mkC qNb qTf qLn qLy qMn qMk qMs qMh qPn qPl qPo qPp qEn qEm qEc qEd qEs qEl qEe qEw qSt qDu qCu qCn qCb qCl qBn qBm qBl qBf qKn qKl qKs qPr qDay (qG2 ++ [pl qPn (fun k => vI (((c_breakDown_L43 qDay qEc qEd qEl qEm qEn qSt k_p0 X k43 j43 tot A2).2) k))]) qG4 ([]) ([])) R (mkW zO zD zX zL zXs zG5 zG6 zG7 (zc + 1) (zn + qPn))) x) → Ev (d + 2) (52, 43, [some (vR 8 0), some (vI (nI k_p0)), some (vI X), some (vR 6 k_p0), some (vR 22 ((qG2).length)), some (vI tot), some (vI (nI j43)), none], []) (enc (mkC qNb qTf qLn qLy qMn qMk qMs qMh qPn qPl qPo qPp qEn qEm qEc qEd qEs qEl qEe qEw qSt qDu qCu qCn qCb qCl qBn qBm qBl qBf qKn qKl qKs qPr qDay (qG2 ++ [pl qPn (fun k => vI (A2 k))]) qG4 ([]) ([])) R (mkW zO zD zX zL zXs zG5 zG6 zG7 (zc + 1) (zn + qPn))) x := by
          intro x k43
          induction k43 with
          | zero =>
            intro j43 tot A2 hj43 K43
            rw [c_breakDown_L43] at K43
            refine Ev.ps 2 rfl ?_
            refine Ev.arl (N := qPn) (by rfl) (by decide) (rd22) pl_len ?_
            refine Ev.igeN (a := j43) (b := qPn) (by omega) (by have := wPn; omega) (by rfl) (by rfl) (fun (c4 : j43 < qPn) => ?_) (fun (c4 : ¬ j43 < qPn) => ?_)
            · exfalso; omega
            · exact K43 _ Da.i
          | succ k43 ih43 =>
            intro j43 tot A2 hj43 K43
            rw [c_breakDown_L43] at K43
            refine Ev.ps 2 rfl ?_
            refine Ev.arl (N := qPn) (by rfl) (by decide) (rd22) pl_len ?_
            refine Ev.igeN (a := j43) (b := qPn) (by omega) (by have := wPn; omega) (by rfl) (by rfl) (fun (c5 : j43 < qPn) => ?_) (fun (c5 : ¬ j43 < qPn) => ?_)
            · refine Ev.ps 5 rfl ?_
              refine Ev.vir (as := [vI (nI j43)]) (rest := [vR 8 0, vI (nI j43), vR 22 ((qG2).length)]) (by rfl) (by rfl) (by rfl) (by rfl) rfl (Nat.le_of_ble_eq_true rfl) (by rfl) (by rw [rd8]; rfl) (s_memberAt rd8 (by rfl) rd12 (by omega) (by omega) (by rw [rd7 (by omega)]; rfl)) ?_
              refine Ev.ps 1 rfl ?_
              refine Ev.vir (as := [vR 7 j43, vR 6 k_p0]) (rest := [vI (nI j43), vR 22 ((qG2).length)]) (by rfl) (by rfl) (by rfl) (by rfl) rfl (Nat.le_of_ble_eq_true rfl) (by rfl) (by rw [rd8]; rfl) (s_c_blame hW (by omega) (by have := hk_p0; omega)) ?_
              refine Ev.asI (k := j43) (by rfl) (by rfl) (rd22) (by have := wPn; omega) (by omega) ((congrArg (hput _ _ _) (pl_setI (f := A2) (F := fun _ v => vI v) (v := (f_c_blame qDay qEc qEd qEl qEm qEn qSt j43 k_p0)))).trans wr22) ?_
              refine Ev.ps 3 rfl ?_
              refine Ev.aiI (k := j43) (v := vI ((fup A2 j43 (f_c_blame qDay qEc qEd qEl qEm qEn qSt j43 k_p0)) j43)) (by rfl) (by decide) (rd22) (by have := wPn; omega) (by omega) rfl ?_
              refine Ev.ps 4 rfl ?_
              have h9 := ih43 (j43 + 1) (tot + ((fup A2 j43 (f_c_blame qDay qEc qEd qEl qEm qEn qSt j43 k_p0)) j43)) (fup A2 j43 (f_c_blame qDay qEc qEd qEl qEm qEn qSt j43 k_p0)) (by show j43 + 1 + k43 = qPn; omega) K43
              rw [← nI_1] at h9
              exact h9
            · exfalso; omega
        refine L43 qPn 0 0 (fun _ => 0) (by show 0 + qPn = qPn; omega) ?_
        intro e43_6 he43_6
        refine Ev.nwo (s := 1) (i := qKn) (by rfl) (by rfl) ⟨by rfl, by rfl, by decide, by rfl⟩ (show (pl qKn _ ++ []).length = qKn by rw [List.append_nil, pl_len]) (show _ = enc (mkC qNb qTf qLn qLy qMn qMk qMs qMh qPn qPl qPo qPp qEn qEm qEc qEd qEs qEl qEe qEw qSt qDu qCu qCn qCb qCl qBn qBm qBl qBf qKn qKl qKs qPr qDay (qG2 ++ [pl qPn (fun k => vI (((c_breakDown_L43 qDay qEc qEd qEl qEm qEn qSt k_p0 X qPn 0 0 (fun _ => 0)).2) k))]) qG4 ([odf 1]) ([])) R (mkW zO zD zX zL zXs zG5 zG6 zG7 (zc + 1 + 1) (zn + qPn + 1)) from nx1) ?_
        refine Ev.ps 4 rfl ?_
        refine Ev.sta (as := [vI X, vR 22 ((qG2).length), vI ((c_breakDown_L43 qDay qEc qEd qEl qEm qEn qSt k_p0 X qPn 0 0 (fun _ => 0)).1)]) (rest := [vR 1 qKn, vR 1 qKn]) (by rfl) (by rfl) (by rfl) (by rfl) rfl (Nat.le_of_ble_eq_true rfl) (s_c_split' (qG2 := []) (qX3 := []) hW wPn) ?_
        refine Ev.spe (as := [vR 23 qKn]) (rest := [vR 1 qKn]) (by rfl) (by rfl) (by rfl) (by rfl) rfl (Nat.le_of_ble_eq_true rfl) (by rfl) (by rw [rx1]; rfl) (calr wx1 (s_iBrk rx1)) ?_
        refine Ev.ps 2 rfl ?_
        refine Ev.getf (v := vR 15 0) (by rfl) (by rfl) (by rfl) (rd8) rfl ?_
        refine Ev.ps 1 rfl ?_
        refine Ev.la (by rfl) (by rfl) (by rfl) (Nat.le_of_ble_eq_true rfl) (by rfl) (rd15) (by rw [rx1]; rfl) (by rw [range_len]; omega) (mk_brk (N := qPn) (A := splitA X ((c_breakDown_L43 qDay qEc qEd qEl qEm qEn qSt k_p0 X qPn 0 0 (fun _ => 0)).1) qPn ((c_breakDown_L43 qDay qEc qEd qEl qEm qEn qSt k_p0 X qPn 0 0 (fun _ => 0)).2))) ?_
        have hW2 := wfc_brk (N := qPn) hW (by assumption) wPn
        obtain ⟨-, -, -, -, vKn, -, -, -, -, -, -, wKl, -, -, -, -, -⟩ := id hW2
        refine Ev.ps 3 rfl ?_
        have L113 : ∀ (k113 j113 : Nat) (qPo_113 : Nat → Int32), j113 + k113 = qPn → Ev (d + 2) (52, 113, [some (vR 8 0), some (vI (nI k_p0)), some (vI X), some (vR 6 k_p0), some (vR 22 ((qG2).length)), some (vI ((c_breakDown_L43 qDay qEc qEd qEl qEm qEn qSt k_p0 X qPn 0 0 (fun _ => 0)).1)), some (vR 1 qKn), some (vI (nI j113))], []) (enc (mkC qNb qTf qLn qLy qMn qMk qMs qMh qPn qPl qPo_113 qPp qEn qEm qEc qEd qEs qEl qEe qEw qSt qDu qCu qCn qCb qCl qBn qBm qBl qBf (qKn + 1) (fup qKl qKn qPn) (fup qKs qKn (splitA X ((c_breakDown_L43 qDay qEc qEd qEl qEm qEn qSt k_p0 X qPn 0 0 (fun _ => 0)).1) qPn ((c_breakDown_L43 qDay qEc qEd qEl qEm qEn qSt k_p0 X qPn 0 0 (fun _ => 0)).2))) qPr qDay (qG2 ++ [pl qPn (fun k => vI (((c_breakDown_L43 qDay qEc qEd qEl qEm qEn qSt k_p0 X qPn 0 0 (fun _ => 0)).2) k))]) ((f_c_split qG4 (zc + 1 + 1) (zn + qPn + 1) X ((c_breakDown_L43 qDay qEc qEd qEl qEm qEn qSt k_p0 X qPn 0 0 (fun _ => 0)).1) qPn ((c_breakDown_L43 qDay qEc qEd qEl qEm qEn qSt k_p0 X qPn 0 0 (fun _ => 0)).2)).1) ([]) ([])) R (mkW zO zD zX zL zXs zG5 zG6 zG7 ((f_c_split qG4 (zc + 1 + 1) (zn + qPn + 1) X ((c_breakDown_L43 qDay qEc qEd qEl qEm qEn qSt k_p0 X qPn 0 0 (fun _ => 0)).1) qPn ((c_breakDown_L43 qDay qEc qEd qEl qEm qEn qSt k_p0 X qPn 0 0 (fun _ => 0)).2)).2.2.1 + 1) ((f_c_split qG4 (zc + 1 + 1) (zn + qPn + 1) X ((c_breakDown_L43 qDay qEc qEd qEl qEm qEn qSt k_p0 X qPn 0 0 (fun _ => 0)).1) qPn ((c_breakDown_L43 qDay qEc qEd qEl qEm qEn qSt k_p0 X qPn 0 0 (fun _ => 0)).2)).2.2.2 + (2 * ((List.range qKn).map (vR 1)).length + 10)))) (((c_breakDown_L113 qDay qEc qEd qEl qEm qEn qG2 qG4 qKl qKn qKs qPn qSt zc zn k_p0 X k113 j113 qPo_113).1), enc (mkC qNb qTf qLn qLy qMn qMk qMs qMh qPn qPl ((c_breakDown_L113 qDay qEc qEd qEl qEm qEn qG2 qG4 qKl qKn qKs qPn qSt zc zn k_p0 X k113 j113 qPo_113).2.1) qPp qEn qEm qEc qEd qEs qEl qEe qEw qSt qDu qCu qCn qCb qCl qBn qBm qBl qBf ((c_breakDown_L113 qDay qEc qEd qEl qEm qEn qG2 qG4 qKl qKn qKs qPn qSt zc zn k_p0 X k113 j113 qPo_113).2.2.1) ((c_breakDown_L113 qDay qEc qEd qEl qEm qEn qG2 qG4 qKl qKn qKs qPn qSt zc zn k_p0 X k113 j113 qPo_113).2.2.2.1) ((c_breakDown_L113 qDay qEc qEd qEl qEm qEn qG2 qG4 qKl qKn qKs qPn qSt zc zn k_p0 X k113 j113 qPo_113).2.2.2.2.1) qPr qDay ((c_breakDown_L113 qDay qEc qEd qEl qEm qEn qG2 qG4 qKl qKn qKs qPn qSt zc zn k_p0 X k113 j113 qPo_113).2.2.2.2.2.1) ((c_breakDown_L113 qDay qEc qEd qEl qEm qEn qG2 qG4 qKl qKn qKs qPn qSt zc zn k_p0 X k113 j113 qPo_113).2.2.2.2.2.2.1) ([]) ([])) R (mkW zO zD zX zL zXs zG5 zG6 zG7 ((c_breakDown_L113 qDay qEc qEd qEl qEm qEn qG2 qG4 qKl qKn qKs qPn qSt zc zn k_p0 X k113 j113 qPo_113).2.2.2.2.2.2.2.1) ((c_breakDown_L113 qDay qEc qEd qEl qEm qEn qG2 qG4 qKl qKn qKs qPn qSt zc zn k_p0 X k113 j113 qPo_113).2.2.2.2.2.2.2.2))) := by
          intro k113
          induction k113 with
          | zero =>
            intro j113 qPo_113 hj113
            rw [c_breakDown_L113]
            refine Ev.ps 2 rfl ?_
            refine Ev.arl (N := qPn) (by rfl) (by decide) (rd22) pl_len ?_
            refine Ev.igeN (a := j113) (b := qPn) (by omega) (by have := wPn; omega) (by rfl) (by rfl) (fun (c6 : j113 < qPn) => ?_) (fun (c6 : ¬ j113 < qPn) => ?_)
            · exfalso; omega
            · refine Ev.ps 1 rfl ?_
              exact Ev.re rfl rfl rfl rfl rfl
          | succ k113 ih113 =>
            intro j113 qPo_113 hj113
            rw [c_breakDown_L113]
            refine Ev.ps 2 rfl ?_
            refine Ev.arl (N := qPn) (by rfl) (by decide) (rd22) pl_len ?_
            refine Ev.igeN (a := j113) (b := qPn) (by omega) (by have := wPn; omega) (by rfl) (by rfl) (fun (c7 : j113 < qPn) => ?_) (fun (c7 : ¬ j113 < qPn) => ?_)
            · refine Ev.ps 2 rfl ?_
              refine Ev.vir (as := [vI (nI j113)]) (rest := []) (by rfl) (by rfl) (by rfl) (by rfl) rfl (Nat.le_of_ble_eq_true rfl) (by rfl) (by rw [rd8]; rfl) (s_memberAt rd8 (by rfl) rd12 (by omega) (by omega) (by rw [rd7 (by omega)]; rfl)) ?_
              refine Ev.ps 1 rfl ?_
              refine Ev.getf (v := vI (qPo_113 j113)) (by rfl) (by rfl) (by rfl) (rd7 (by omega)) rfl ?_
              refine Ev.ps 2 rfl ?_
              refine Ev.vir (as := [vI (nI j113)]) (rest := [vI (qPo_113 j113), vR 7 j113]) (by rfl) (by rfl) (by rfl) (by rfl) rfl (Nat.le_of_ble_eq_true rfl) (by rfl) (by rw [rd1 (by omega)]; rfl) (s_c_share hW2 (by omega)) ?_
              refine Ev.ps 1 rfl ?_
              refine Ev.pf (by rfl) (by rfl) (by rfl) (Nat.le_of_ble_eq_true rfl) rfl (Or.inl (by rfl)) (rd7 (by omega)) (show _ = enc (mkC qNb qTf qLn qLy qMn qMk qMs qMh qPn qPl (fup qPo_113 j113 ((qPo_113 j113) + (f_c_share (fup qKl qKn qPn) (fup qKs qKn (splitA X ((c_breakDown_L43 qDay qEc qEd qEl qEm qEn qSt k_p0 X qPn 0 0 (fun _ => 0)).1) qPn ((c_breakDown_L43 qDay qEc qEd qEl qEm qEn qSt k_p0 X qPn 0 0 (fun _ => 0)).2))) qKn (nI j113)))) qPp qEn qEm qEc qEd qEs qEl qEe qEw qSt qDu qCu qCn qCb qCl qBn qBm qBl qBf (qKn + 1) (fup qKl qKn qPn) (fup qKs qKn (splitA X ((c_breakDown_L43 qDay qEc qEd qEl qEm qEn qSt k_p0 X qPn 0 0 (fun _ => 0)).1) qPn ((c_breakDown_L43 qDay qEc qEd qEl qEm qEn qSt k_p0 X qPn 0 0 (fun _ => 0)).2))) qPr qDay (qG2 ++ [pl qPn (fun k => vI (((c_breakDown_L43 qDay qEc qEd qEl qEm qEn qSt k_p0 X qPn 0 0 (fun _ => 0)).2) k))]) ((f_c_split qG4 (zc + 1 + 1) (zn + qPn + 1) X ((c_breakDown_L43 qDay qEc qEd qEl qEm qEn qSt k_p0 X qPn 0 0 (fun _ => 0)).1) qPn ((c_breakDown_L43 qDay qEc qEd qEl qEm qEn qSt k_p0 X qPn 0 0 (fun _ => 0)).2)).1) ([]) ([])) R (mkW zO zD zX zL zXs zG5 zG6 zG7 ((f_c_split qG4 (zc + 1 + 1) (zn + qPn + 1) X ((c_breakDown_L43 qDay qEc qEd qEl qEm qEn qSt k_p0 X qPn 0 0 (fun _ => 0)).1) qPn ((c_breakDown_L43 qDay qEc qEd qEl qEm qEn qSt k_p0 X qPn 0 0 (fun _ => 0)).2)).2.2.1 + 1) ((f_c_split qG4 (zc + 1 + 1) (zn + qPn + 1) X ((c_breakDown_L43 qDay qEc qEd qEl qEm qEn qSt k_p0 X qPn 0 0 (fun _ => 0)).1) qPn ((c_breakDown_L43 qDay qEc qEd qEl qEm qEn qSt k_p0 X qPn 0 0 (fun _ => 0)).2)).2.2.2 + (2 * ((List.range qKn).map (vR 1)).length + 10))) from wr7_owed (i := j113) (v := ((qPo_113 j113) + (f_c_share (fup qKl qKn qPn) (fup qKs qKn (splitA X ((c_breakDown_L43 qDay qEc qEd qEl qEm qEn qSt k_p0 X qPn 0 0 (fun _ => 0)).1) qPn ((c_breakDown_L43 qDay qEc qEd qEl qEm qEn qSt k_p0 X qPn 0 0 (fun _ => 0)).2))) qKn (nI j113))))) ?_
              refine Ev.ps 2 rfl ?_
              have h9 := ih113 (j113 + 1) (fup qPo_113 j113 ((qPo_113 j113) + (f_c_share (fup qKl qKn qPn) (fup qKs qKn (splitA X ((c_breakDown_L43 qDay qEc qEd qEl qEm qEn qSt k_p0 X qPn 0 0 (fun _ => 0)).1) qPn ((c_breakDown_L43 qDay qEc qEd qEl qEm qEn qSt k_p0 X qPn 0 0 (fun _ => 0)).2))) qKn (nI j113)))) (by show j113 + 1 + k113 = qPn; omega)
              rw [← nI_1] at h9
              exact h9
            · exfalso; omega
        exact L113 qPn 0 qPo (by show 0 + qPn = qPn; omega)
      · rw [if_neg c3]
        exact Ev.staX (as := [vI (nI qKn), vI 20]) (rest := []) (by rfl) (by rfl) (by rfl) (by rfl) rfl (Nat.le_of_ble_eq_true rfl) (cexc (s_roomX (fun z => c3 ((nI_ltI (by omega) (by decide)).mp z)))) (by rfl)
    · rw [if_neg c2]
      exact Ev.staX (as := [vI X, vI 1, vI 100000]) (rest := []) (by rfl) (by rfl) (by rfl) (by rfl) rfl (Nat.le_of_ble_eq_true rfl) (cexc (s_rangeX (in_not c2))) (by rfl)
  · rw [if_neg c1]
    exact Ev.virX (as := [vI p0]) (rest := []) (by rfl) (by rfl) (by rfl) (by rfl) rfl (Nat.le_of_ble_eq_true rfl) (by rfl) (by rw [rd8]; rfl) (cexc (s_machineAtX rd8 (by rfl) rd11 (not_in_nat (by omega) c1))) (by rfl)
