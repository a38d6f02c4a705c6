/-! the class: methods that write, on (written by gcls5.py) -/
theorem time_V {qDay D S M V : Int32} (h : timeOk qDay D S M V = true) : f_r_in V 97 99 = true := by
  unfold timeOk wishOk at h
  simp only [Bool.and_eq_true] at h
  exact h.1.2
theorem tightL_lt {qBf : Nat → Int32} {qBm : Nat → Nat} {qBn : Nat} {mt L : Int32} : ∀ (k j : Nat) (best : Option Nat) (least : Int32), j + k = qBn → (∀ b, best = some b → b < qBn) → ∀ b, c_tight_L8 qBf qBm mt L k j best least = some b → b < qBn := by
  intro k
  induction k with
  | zero =>
    intro j best least hj hb b h
    rw [c_tight_L8] at h
    exact hb b h
  | succ k ih =>
    intro j best least hj hb b h
    rw [c_tight_L8] at h
    have hs : ∀ b, (some j : Option Nat) = some b → b < qBn := fun b z => by cases z; omega
    cases best with
    | none =>
      dsimp only [oE] at h
      repeat' split at h
      all_goals first | exact ih (j + 1) _ _ (by omega) hs b h | exact ih (j + 1) _ _ (by omega) hb b h
    | some a =>
      dsimp only [oE] at h
      repeat' split at h
      all_goals first | exact ih (j + 1) _ _ (by omega) hs b h | exact ih (j + 1) _ _ (by omega) hb b h
theorem tight_lt {qBf : Nat → Int32} {qBm : Nat → Nat} {qBn : Nat} {mt L : Int32} {b : Nat} (h : f_c_tight qBf qBm qBn mt L = some b) : b < qBn := tightL_lt qBn 0 none 0 (by omega) (fun _ z => nomatch z) b h
def c_withdraw_L19 (qCb : Nat → Nat) (qCl : Nat → Int32) (qCu : Nat → List Nat) (e : Nat) : Nat → Nat → (Nat → Int32) → ((Nat → Int32))
  | 0, j19, qBf_19 =>
    qBf_19
  | k19 + 1, j19, qBf_19 =>
    c_withdraw_L19 qCb qCl qCu e k19 (j19 + 1) (fup qBf_19 (qCb ((qCu e).getD j19 0)) ((qBf_19 (qCb ((qCu e).getD j19 0))) + ((qCl ((qCu e).getD j19 0)) + 3)))
def f_c_withdraw (qBf : Nat → Int32) (qCb : Nat → Nat) (qCl : Nat → Int32) (qCu : Nat → List Nat) (qEc : Nat → Nat) (qEd : Nat → Int32) (qEs : Nat → Int32) (qMh : Nat → List Nat) (qSt : Nat → Int32) (e : Nat) : (Nat → List Nat) × (Nat → Int32) × (Nat → List Nat) × (Nat → Int32) :=
  if qSt e = 98 then
    (f_c_release qEd qEs qMh (qEc e) e, fup qSt e 99, fup qCu e [], c_withdraw_L19 qCb qCl qCu e ((qCu e).length) 0 qBf)
  else
    (qMh, fup qSt e 99, fup qCu e [], c_withdraw_L19 qCb qCl qCu e ((qCu e).length) 0 qBf)
theorem s_c_withdraw {d : Nat} {zO : Int64} {zD : UInt64} {zX : Nat} {zL : Nat} {zXs : Nat → Int32} {zG5 : List Ob} {zG6 : List Ob} {zG7 : List Ob} {zc : Nat} {zn : Nat} {R : RD} {qNb : Nat → Int32} {qTf : Nat → Nat} {qLn : Nat} {qLy : Nat → Ly} {qMn : Nat} {qMk : Nat → Nat} {qMs : Nat → Int32} {qMh : Nat → List Nat} {qPn : Nat} {qPl : Nat → Nat → Int32} {qPo : Nat → Int32} {qPp : Nat → Int32} {qEn : Nat} {qEm : Nat → Nat} {qEc : Nat → Nat} {qEd : Nat → Int32} {qEs : Nat → Int32} {qEl : Nat → Int32} {qEe : Nat → Int32} {qEw : Nat → Int32} {qSt : Nat → Int32} {qDu : Nat → Int32} {qCu : Nat → List Nat} {qCn : Nat} {qCb : Nat → Nat} {qCl : Nat → Int32} {qBn : Nat} {qBm : Nat → Nat} {qBl : Nat → Int32} {qBf : Nat → Int32} {qKn : Nat} {qKl : Nat → Nat} {qKs : Nat → Nat → Int32} {qPr : Nat → Int32} {qDay : Int32} {qG2 : List Ob} {qG4 : List Ob} {qX1 : List Ob} {qX3 : List Ob} {e : Nat} (hW : WfC qMn qPn qEn qBn qKn qCn qLn qMk qEm qEc qCb qBm qTf qKl qMh qCu qLy) (he : e < qEn) : Cal (d + 3) 85 [vR 3 e] (enc (mkC qNb qTf qLn qLy qMn qMk qMs qMh qPn qPl qPo qPp qEn qEm qEc qEd qEs qEl qEe qEw qSt qDu qCu qCn qCb qCl qBn qBm qBl qBf qKn qKl qKs qPr qDay qG2 qG4 qX1 qX3) R (mkW zO zD zX zL zXs zG5 zG6 zG7 zc zn)) (.inl none) (enc (mkC qNb qTf qLn qLy qMn qMk qMs ((f_c_withdraw qBf qCb qCl qCu qEc qEd qEs qMh qSt e).1) qPn qPl qPo qPp qEn qEm qEc qEd qEs qEl qEe qEw ((f_c_withdraw qBf qCb qCl qCu qEc qEd qEs qMh qSt e).2.1) qDu ((f_c_withdraw qBf qCb qCl qCu qEc qEd qEs qMh qSt e).2.2.1) qCn qCb qCl qBn qBm qBl ((f_c_withdraw qBf qCb qCl qCu qEc qEd qEs qMh qSt e).2.2.2) qKn qKl qKs qPr qDay qG2 qG4 qX1 qX3) R (mkW zO zD zX zL zXs zG5 zG6 zG7 zc zn)) := by
  obtain ⟨wMn, wPn, wEn, wBn, wKn, wMk, wEm, wEc, wCb, wBm, wTf, wKl, wMh, wMl, wCu, wCl, wLy⟩ := id hW
  refine Cal.mk (n := 3) rfl (Nat.le_of_ble_eq_true rfl) rfl ?_
  unfold f_c_withdraw
  refine Ev.ps 1 rfl ?_
  refine Ev.getf (v := vI (qSt e)) (by rfl) (by rfl) (by rfl) (rd3 (by have := he; omega)) rfl ?_
  refine Ev.ps 1 rfl ?_
  refine Ev.ine (by rfl) (by rfl) (fun (c1 : qSt e = 98) => ?_) (fun (c1 : ¬ qSt e = 98) => ?_)
  · rw [if_pos c1]
    refine Ev.ps 1 rfl ?_
    refine Ev.getf (v := vR 6 (qEc e)) (by rfl) (by rfl) (by rfl) (rd3 (by have := he; omega)) rfl ?_
    refine Ev.ps 1 rfl ?_
    refine Ev.vir (as := [vR 3 e]) (rest := []) (by rfl) (by rfl) (by rfl) (by rfl) rfl (Nat.le_of_ble_eq_true rfl) (by rfl) (by rw [rd6 (by have := wEc _ (by have := he; omega); omega)]; rfl) (s_c_release hW (by have := wEc _ (by have := he; omega); omega) (by have := he; omega)) ?_
    refine Ev.ps 2 rfl ?_
    have L19 : ∀ {x : Re × Hp}, ∀ (k19 j19 : Nat) (qBf_19 : Nat → Int32) (o19_2 : Option MV), j19 + k19 = (qCu e).length → Da o19_2 → (∀ (e19_2 : Option MV) (e19_1 : Option MV), Da e19_2 → Da e19_1 → Ev (d + 3) (85, 66, [some (vR 3 e), e19_1, e19_2], []) (enc (mkC qNb qTf qLn qLy qMn qMk qMs (f_c_release qEd qEs qMh (qEc e) e) qPn qPl qPo qPp qEn qEm qEc qEd qEs qEl qEe qEw qSt qDu qCu qCn qCb qCl qBn qBm qBl (c_withdraw_L19 qCb qCl qCu e k19 j19 qBf_19) qKn qKl qKs qPr qDay qG2 qG4 qX1 qX3) R (mkW zO zD zX zL zXs zG5 zG6 zG7 zc zn)) x) → Ev (d + 3) (85, 19, [some (vR 3 e), some (vI (nI j19)), o19_2], []) (enc (mkC qNb qTf qLn qLy qMn qMk qMs (f_c_release qEd qEs qMh (qEc e) e) qPn qPl qPo qPp qEn qEm qEc qEd qEs qEl qEe qEw qSt qDu qCu qCn qCb qCl qBn qBm qBl qBf_19 qKn qKl qKs qPr qDay qG2 qG4 qX1 qX3) R (mkW zO zD zX zL zXs zG5 zG6 zG7 zc zn)) x := by
      intro x k19
      induction k19 with
      | zero =>
        intro j19 qBf_19 o19_2 hj19 ho19_2 K19
        rw [c_withdraw_L19] at K19
        refine Ev.ps 2 rfl ?_
        refine Ev.getf (v := vR 17 e) (by rfl) (by rfl) (by rfl) (rd3 (by have := he; omega)) rfl ?_
        refine Ev.lz (N := ((qCu e).length)) (by rfl) (by rfl) (by rfl) (Nat.le_of_ble_eq_true rfl) (rd17 (by have := he; omega)) (List.length_map ..) ?_
        refine Ev.igeN (a := j19) (b := ((qCu e).length)) (by have := wCl e; omega) (by have := wCl e; omega) (by rfl) (by rfl) (fun (c2 : j19 < (qCu e).length) => ?_) (fun (c2 : ¬ j19 < (qCu e).length) => ?_)
        · exfalso; omega
        · exact K19 _ _ ho19_2 Da.i
      | succ k19 ih19 =>
        intro j19 qBf_19 o19_2 hj19 ho19_2 K19
        rw [c_withdraw_L19] at K19
        refine Ev.ps 2 rfl ?_
        refine Ev.getf (v := vR 17 e) (by rfl) (by rfl) (by rfl) (rd3 (by have := he; omega)) rfl ?_
        refine Ev.lz (N := ((qCu e).length)) (by rfl) (by rfl) (by rfl) (Nat.le_of_ble_eq_true rfl) (rd17 (by have := he; omega)) (List.length_map ..) ?_
        refine Ev.igeN (a := j19) (b := ((qCu e).length)) (by have := wCl e; omega) (by have := wCl e; omega) (by rfl) (by rfl) (fun (c3 : j19 < (qCu e).length) => ?_) (fun (c3 : ¬ j19 < (qCu e).length) => ?_)
        · refine Ev.ps 1 rfl ?_
          refine Ev.getf (v := vR 17 e) (by rfl) (by rfl) (by rfl) (rd3 (by have := he; omega)) rfl ?_
          refine Ev.ps 1 rfl ?_
          refine Ev.lg (j := j19) (v := vR 2 ((qCu e).getD j19 0)) (by rfl) (by rfl) (by rfl) (Nat.le_of_ble_eq_true rfl) (rd17 (by have := he; omega)) (by have := wCl e; have := wCl e; omega) (mapget (by have := wCl e; omega)) ?_
          refine Ev.cst (by rfl) (by rfl) (by rfl) (by rw [rd2 (by have := wCu _ _ (getD_mem (d := 0) (by have := wCl e; omega)); omega)]; rfl) ?_
          refine Ev.ps 2 rfl ?_
          refine Ev.getf (v := vR 0 (qCb ((qCu e).getD j19 0))) (by rfl) (by rfl) (by rfl) (rd2 (by have := wCu _ _ (getD_mem (d := 0) (by have := wCl e; omega)); omega)) rfl ?_
          refine Ev.ps 1 rfl ?_
          refine Ev.getf (v := vI (qBf_19 (qCb ((qCu e).getD j19 0)))) (by rfl) (by rfl) (by rfl) (rd0 (by have := wCb _ (by have := wCu _ _ (getD_mem (d := 0) (by have := wCl e; omega)); omega); omega)) rfl ?_
          refine Ev.ps 1 rfl ?_
          refine Ev.getf (v := vI (qCl ((qCu e).getD j19 0))) (by rfl) (by rfl) (by rfl) (rd2 (by have := wCu _ _ (getD_mem (d := 0) (by have := wCl e; omega)); omega)) rfl ?_
          refine Ev.ps 3 rfl ?_
          refine Ev.pf (by rfl) (by rfl) (by rfl) (Nat.le_of_ble_eq_true rfl) rfl (Or.inl (by rfl)) (rd0 (by have := wCb _ (by have := wCu _ _ (getD_mem (d := 0) (by have := wCl e; omega)); omega); omega)) (show _ = enc (mkC qNb qTf qLn qLy qMn qMk qMs (f_c_release qEd qEs qMh (qEc e) e) qPn qPl qPo qPp qEn qEm qEc qEd qEs qEl qEe qEw qSt qDu qCu qCn qCb qCl qBn qBm qBl (fup qBf_19 (qCb ((qCu e).getD j19 0)) ((qBf_19 (qCb ((qCu e).getD j19 0))) + ((qCl ((qCu e).getD j19 0)) + 3))) qKn qKl qKs qPr qDay qG2 qG4 qX1 qX3) R (mkW zO zD zX zL zXs zG5 zG6 zG7 zc zn) from wr0_free (i := (qCb ((qCu e).getD j19 0))) (v := ((qBf_19 (qCb ((qCu e).getD j19 0))) + ((qCl ((qCu e).getD j19 0)) + 3)))) ?_
          refine Ev.ps 2 rfl ?_
          have h9 := ih19 (j19 + 1) (fup qBf_19 (qCb ((qCu e).getD j19 0)) ((qBf_19 (qCb ((qCu e).getD j19 0))) + ((qCl ((qCu e).getD j19 0)) + 3))) (some (vR 2 ((qCu e).getD j19 0))) (by show j19 + 1 + k19 = (qCu e).length; omega) Da.r K19
          rw [← nI_1] at h9
          exact h9
        · exfalso; omega
    refine L19 ((qCu e).length) 0 qBf none (by show 0 + (qCu e).length = (qCu e).length; omega) Da.n ?_
    intro e19_2 e19_1 he19_2 he19_1
    refine Ev.ps 1 rfl ?_
    refine Ev.getf (v := vR 17 e) (by rfl) (by rfl) (by rfl) (rd3 (by have := he; omega)) rfl ?_
    refine Ev.lc (by rfl) (by rfl) (by rfl) (Nat.le_of_ble_eq_true rfl) (rd17 (by have := he; omega)) mk_clr ?_
    refine Ev.ps 2 rfl ?_
    refine Ev.pf (by rfl) (by rfl) (by rfl) (Nat.le_of_ble_eq_true rfl) rfl (Or.inl (by rfl)) (rd3 (by have := he; omega)) (show _ = enc (mkC qNb qTf qLn qLy qMn qMk qMs (f_c_release qEd qEs qMh (qEc e) e) qPn qPl qPo qPp qEn qEm qEc qEd qEs qEl qEe qEw (fup qSt e 99) qDu (fup qCu e []) qCn qCb qCl qBn qBm qBl (c_withdraw_L19 qCb qCl qCu e ((qCu e).length) 0 qBf) qKn qKl qKs qPr qDay qG2 qG4 qX1 qX3) R (mkW zO zD zX zL zXs zG5 zG6 zG7 zc zn) from wr3_st (i := e) (v := 99)) ?_
    exact Ev.re rfl rfl rfl rfl rfl
  · rw [if_neg c1]
    refine Ev.ps 2 rfl ?_
    have L19 : ∀ {x : Re × Hp}, ∀ (k19 j19 : Nat) (qBf_19 : Nat → Int32) (o19_2 : Option MV), j19 + k19 = (qCu e).length → Da o19_2 → (∀ (e19_2 : Option MV) (e19_1 : Option MV), Da e19_2 → Da e19_1 → Ev (d + 3) (85, 66, [some (vR 3 e), e19_1, e19_2], []) (enc (mkC qNb qTf qLn qLy qMn qMk qMs qMh qPn qPl qPo qPp qEn qEm qEc qEd qEs qEl qEe qEw qSt qDu qCu qCn qCb qCl qBn qBm qBl (c_withdraw_L19 qCb qCl qCu e k19 j19 qBf_19) qKn qKl qKs qPr qDay qG2 qG4 qX1 qX3) R (mkW zO zD zX zL zXs zG5 zG6 zG7 zc zn)) x) → Ev (d + 3) (85, 19, [some (vR 3 e), some (vI (nI j19)), o19_2], []) (enc (mkC qNb qTf qLn qLy qMn qMk qMs qMh qPn qPl qPo qPp qEn qEm qEc qEd qEs qEl qEe qEw qSt qDu qCu qCn qCb qCl qBn qBm qBl qBf_19 qKn qKl qKs qPr qDay qG2 qG4 qX1 qX3) R (mkW zO zD zX zL zXs zG5 zG6 zG7 zc zn)) x := by
      intro x k19
      induction k19 with
      | zero =>
        intro j19 qBf_19 o19_2 hj19 ho19_2 K19
        rw [c_withdraw_L19] at K19
        refine Ev.ps 2 rfl ?_
        refine Ev.getf (v := vR 17 e) (by rfl) (by rfl) (by rfl) (rd3 (by have := he; omega)) rfl ?_
        refine Ev.lz (N := ((qCu e).length)) (by rfl) (by rfl) (by rfl) (Nat.le_of_ble_eq_true rfl) (rd17 (by have := he; omega)) (List.length_map ..) ?_
        refine Ev.igeN (a := j19) (b := ((qCu e).length)) (by have := wCl e; omega) (by have := wCl e; omega) (by rfl) (by rfl) (fun (c4 : j19 < (qCu e).length) => ?_) (fun (c4 : ¬ j19 < (qCu e).length) => ?_)
        · exfalso; omega
        · exact K19 _ _ ho19_2 Da.i
      | succ k19 ih19 =>
        intro j19 qBf_19 o19_2 hj19 ho19_2 K19
        rw [c_withdraw_L19] at K19
        refine Ev.ps 2 rfl ?_
        refine Ev.getf (v := vR 17 e) (by rfl) (by rfl) (by rfl) (rd3 (by have := he; omega)) rfl ?_
        refine Ev.lz (N := ((qCu e).length)) (by rfl) (by rfl) (by rfl) (Nat.le_of_ble_eq_true rfl) (rd17 (by have := he; omega)) (List.length_map ..) ?_
        refine Ev.igeN (a := j19) (b := ((qCu e).length)) (by have := wCl e; omega) (by have := wCl e; omega) (by rfl) (by rfl) (fun (c5 : j19 < (qCu e).length) => ?_) (fun (c5 : ¬ j19 < (qCu e).length) => ?_)
        · refine Ev.ps 1 rfl ?_
          refine Ev.getf (v := vR 17 e) (by rfl) (by rfl) (by rfl) (rd3 (by have := he; omega)) rfl ?_
          refine Ev.ps 1 rfl ?_
          refine Ev.lg (j := j19) (v := vR 2 ((qCu e).getD j19 0)) (by rfl) (by rfl) (by rfl) (Nat.le_of_ble_eq_true rfl) (rd17 (by have := he; omega)) (by have := wCl e; have := wCl e; omega) (mapget (by have := wCl e; omega)) ?_
          refine Ev.cst (by rfl) (by rfl) (by rfl) (by rw [rd2 (by have := wCu _ _ (getD_mem (d := 0) (by have := wCl e; omega)); omega)]; rfl) ?_
          refine Ev.ps 2 rfl ?_
          refine Ev.getf (v := vR 0 (qCb ((qCu e).getD j19 0))) (by rfl) (by rfl) (by rfl) (rd2 (by have := wCu _ _ (getD_mem (d := 0) (by have := wCl e; omega)); omega)) rfl ?_
          refine Ev.ps 1 rfl ?_
          refine Ev.getf (v := vI (qBf_19 (qCb ((qCu e).getD j19 0)))) (by rfl) (by rfl) (by rfl) (rd0 (by have := wCb _ (by have := wCu _ _ (getD_mem (d := 0) (by have := wCl e; omega)); omega); omega)) rfl ?_
          refine Ev.ps 1 rfl ?_
          refine Ev.getf (v := vI (qCl ((qCu e).getD j19 0))) (by rfl) (by rfl) (by rfl) (rd2 (by have := wCu _ _ (getD_mem (d := 0) (by have := wCl e; omega)); omega)) rfl ?_
          refine Ev.ps 3 rfl ?_
          refine Ev.pf (by rfl) (by rfl) (by rfl) (Nat.le_of_ble_eq_true rfl) rfl (Or.inl (by rfl)) (rd0 (by have := wCb _ (by have := wCu _ _ (getD_mem (d := 0) (by have := wCl e; omega)); omega); omega)) (show _ = enc (mkC qNb qTf qLn qLy qMn qMk qMs qMh qPn qPl qPo qPp qEn qEm qEc qEd qEs qEl qEe qEw qSt qDu qCu qCn qCb qCl qBn qBm qBl (fup qBf_19 (qCb ((qCu e).getD j19 0)) ((qBf_19 (qCb ((qCu e).getD j19 0))) + ((qCl ((qCu e).getD j19 0)) + 3))) qKn qKl qKs qPr qDay qG2 qG4 qX1 qX3) R (mkW zO zD zX zL zXs zG5 zG6 zG7 zc zn) from wr0_free (i := (qCb ((qCu e).getD j19 0))) (v := ((qBf_19 (qCb ((qCu e).getD j19 0))) + ((qCl ((qCu e).getD j19 0)) + 3)))) ?_
          refine Ev.ps 2 rfl ?_
          have h9 := ih19 (j19 + 1) (fup qBf_19 (qCb ((qCu e).getD j19 0)) ((qBf_19 (qCb ((qCu e).getD j19 0))) + ((qCl ((qCu e).getD j19 0)) + 3))) (some (vR 2 ((qCu e).getD j19 0))) (by show j19 + 1 + k19 = (qCu e).length; omega) Da.r K19
          rw [← nI_1] at h9
          exact h9
        · exfalso; omega
    refine L19 ((qCu e).length) 0 qBf none (by show 0 + (qCu e).length = (qCu e).length; omega) Da.n ?_
    intro e19_2 e19_1 he19_2 he19_1
    refine Ev.ps 1 rfl ?_
    refine Ev.getf (v := vR 17 e) (by rfl) (by rfl) (by rfl) (rd3 (by have := he; omega)) rfl ?_
    refine Ev.lc (by rfl) (by rfl) (by rfl) (Nat.le_of_ble_eq_true rfl) (rd17 (by have := he; omega)) mk_clr ?_
    refine Ev.ps 2 rfl ?_
    refine Ev.pf (by rfl) (by rfl) (by rfl) (Nat.le_of_ble_eq_true rfl) rfl (Or.inl (by rfl)) (rd3 (by have := he; omega)) (show _ = enc (mkC qNb qTf qLn qLy qMn qMk qMs qMh qPn qPl qPo qPp qEn qEm qEc qEd qEs qEl qEe qEw (fup qSt e 99) qDu (fup qCu e []) qCn qCb qCl qBn qBm qBl (c_withdraw_L19 qCb qCl qCu e ((qCu e).length) 0 qBf) qKn qKl qKs qPr qDay qG2 qG4 qX1 qX3) R (mkW zO zD zX zL zXs zG5 zG6 zG7 zc zn) from wr3_st (i := e) (v := 99)) ?_
    exact Ev.re rfl rfl rfl rfl rfl
def f_c_cut (qBf : Nat → Int32) (qBm : Nat → Nat) (qBn : Nat) (qCb : Nat → Nat) (qCl : Nat → Int32) (qCn : Nat) (qCu : Nat → List Nat) (qEn : Nat) (qSt : Nat → Int32) (zc : Nat) (zn : Nat) (p0 p1 L : Int32) : Re × (Nat → List Nat) × Nat × (Nat → Nat) × (Nat → Int32) × (Nat → Int32) × Nat × Nat :=
  if f_r_isEntry qEn p0 = true then
    if f_r_in p1 0 2 = true then
      if f_r_in L 1 5000 = true then
        if qSt (nP p0) = 98 then
          if (qCu (nP p0)).length < 5 then
            oE (f_c_tight qBf qBm qBn (nI (nP p1)) (L + 3)) (
              ((.inr 2), qCu, qCn, qCb, qCl, qBf, zc + 1, zn + 6)
              ) (fun k7 =>
              ((.inl (some (vI (nI k7)))), fup qCu (nP p0) (qCu (nP p0) ++ [qCn]), qCn + 1, fup qCb qCn k7, fup qCl qCn L, fup qBf k7 ((qBf k7) - (L + 3)), zc + 1 + 1, zn + 2 + (2 * ((qCu (nP p0)).map (vR 2)).length + 10))
              )
          else
            ((.inr 5), qCu, qCn, qCb, qCl, qBf, zc + 1, zn + 6)
        else
          ((.inr 5), qCu, qCn, qCb, qCl, qBf, zc + 1, zn + 6)
      else
        ((.inr 1), qCu, qCn, qCb, qCl, qBf, zc + 1, zn + 6)
    else
      ((.inr 1), qCu, qCn, qCb, qCl, qBf, zc + 1, zn + 6)
  else
    ((.inr 4), qCu, qCn, qCb, qCl, qBf, zc + 1, zn + 6)
theorem s_c_cut {d : Nat} {zO : Int64} {zD : UInt64} {zX : Nat} {zL : Nat} {zXs : Nat → Int32} {zG5 : List Ob} {zG6 : List Ob} {zG7 : List Ob} {zc : Nat} {zn : Nat} {R : RD} {qNb : Nat → Int32} {qTf : Nat → Nat} {qLn : Nat} {qLy : Nat → Ly} {qMn : Nat} {qMk : Nat → Nat} {qMs : Nat → Int32} {qMh : Nat → List Nat} {qPn : Nat} {qPl : Nat → Nat → Int32} {qPo : Nat → Int32} {qPp : Nat → Int32} {qEn : Nat} {qEm : Nat → Nat} {qEc : Nat → Nat} {qEd : Nat → Int32} {qEs : Nat → Int32} {qEl : Nat → Int32} {qEe : Nat → Int32} {qEw : Nat → Int32} {qSt : Nat → Int32} {qDu : Nat → Int32} {qCu : Nat → List Nat} {qCn : Nat} {qCb : Nat → Nat} {qCl : Nat → Int32} {qBn : Nat} {qBm : Nat → Nat} {qBl : Nat → Int32} {qBf : Nat → Int32} {qKn : Nat} {qKl : Nat → Nat} {qKs : Nat → Nat → Int32} {qPr : Nat → Int32} {qDay : Int32} {qG2 : List Ob} {qG4 : List Ob} {qX1 : List Ob} {qX3 : List Ob} {p0 : Int32} {p1 : Int32} {L : Int32} (hW : WfC qMn qPn qEn qBn qKn qCn qLn qMk qEm qEc qCb qBm qTf qKl qMh qCu qLy) : Cal (d + 2) 42 [vR 8 0, vI p0, vI p1, vI L] (enc (mkC qNb qTf qLn qLy qMn qMk qMs qMh qPn qPl qPo qPp qEn qEm qEc qEd qEs qEl qEe qEw qSt qDu qCu qCn qCb qCl qBn qBm qBl qBf qKn qKl qKs qPr qDay qG2 qG4 qX1 qX3) R (mkW zO zD zX zL zXs zG5 zG6 zG7 zc zn)) ((f_c_cut qBf qBm qBn qCb qCl qCn qCu qEn qSt zc zn p0 p1 L).1) (enc (mkC qNb qTf qLn qLy qMn qMk qMs qMh qPn qPl qPo qPp qEn qEm qEc qEd qEs qEl qEe qEw qSt qDu ((f_c_cut qBf qBm qBn qCb qCl qCn qCu qEn qSt zc zn p0 p1 L).2.1) ((f_c_cut qBf qBm qBn qCb qCl qCn qCu qEn qSt zc zn p0 p1 L).2.2.1) ((f_c_cut qBf qBm qBn qCb qCl qCn qCu qEn qSt zc zn p0 p1 L).2.2.2.1) ((f_c_cut qBf qBm qBn qCb qCl qCn qCu qEn qSt zc zn p0 p1 L).2.2.2.2.1) qBn qBm qBl ((f_c_cut qBf qBm qBn qCb qCl qCn qCu qEn qSt zc zn p0 p1 L).2.2.2.2.2.1) qKn qKl qKs qPr qDay qG2 qG4 qX1 qX3) R (mkW zO zD zX zL zXs zG5 zG6 zG7 ((f_c_cut qBf qBm qBn qCb qCl qCn qCu qEn qSt zc zn p0 p1 L).2.2.2.2.2.2.1) ((f_c_cut qBf qBm qBn qCb qCl qCn qCu qEn qSt zc zn p0 p1 L).2.2.2.2.2.2.2))) := by
  obtain ⟨wMn, wPn, wEn, wBn, wKn, wMk, wEm, wEc, wCb, wBm, wTf, wKl, wMh, wMl, wCu, wCl, wLy⟩ := id hW
  refine Cal.mk (n := 7) rfl (Nat.le_of_ble_eq_true rfl) rfl ?_
  unfold f_c_cut
  refine Ev.ps 2 rfl ?_
  by_cases c1 : f_r_isEntry qEn p0 = true
  · rw [if_pos c1]
    have q_p0 := isEntry_nat wEn c1
    generalize nP p0 = k_p0 at q_p0 ⊢
    obtain ⟨rfl, hk_p0⟩ := q_p0
    refine Ev.vir (as := [vI (nI k_p0)]) (rest := []) (by rfl) (by rfl) (by rfl) (by rfl) rfl (Nat.le_of_ble_eq_true rfl) (by rfl) (by rw [rd8]; rfl) (s_entryAt rd8 (by rfl) rd13 (by omega) hk_p0 (by rw [rd3 hk_p0]; rfl)) ?_
    refine Ev.ps 4 rfl ?_
    by_cases c2 : f_r_in p1 0 2 = true
    · rw [if_pos c2]
      have q_p1 := isMat_nat c2
      generalize nP p1 = k_p1 at q_p1 ⊢
      obtain ⟨rfl, hk_p1⟩ := q_p1
      refine Ev.sta (as := [vI (nI k_p1), vI 0, vI 2]) (rest := []) (by rfl) (by rfl) (by rfl) (by rfl) rfl (Nat.le_of_ble_eq_true rfl) (s_range (in_lo c2) (in_hi c2)) ?_
      refine Ev.ps 3 rfl ?_
      by_cases c3 : f_r_in L 1 5000 = true
      · rw [if_pos c3]
        refine Ev.sta (as := [vI L, vI 1, vI 5000]) (rest := []) (by rfl) (by rfl) (by rfl) (by rfl) rfl (Nat.le_of_ble_eq_true rfl) (s_range (in_lo c3) (in_hi c3)) ?_
        refine Ev.ps 1 rfl ?_
        refine Ev.getf (v := vI (qSt k_p0)) (by rfl) (by rfl) (by rfl) (rd3 (by have := hk_p0; omega)) rfl ?_
        refine Ev.ps 1 rfl ?_
        refine Ev.ieq (by rfl) (by rfl) (fun (c4 : qSt k_p0 = 98) => ?_) (fun (c4 : ¬ qSt k_p0 = 98) => ?_)
        · rw [if_pos c4]
          refine Ev.ps 1 rfl ?_
          refine Ev.getf (v := vR 17 k_p0) (by rfl) (by rfl) (by rfl) (rd3 (by have := hk_p0; omega)) rfl ?_
          refine Ev.lz (N := ((qCu k_p0).length)) (by rfl) (by rfl) (by rfl) (Nat.le_of_ble_eq_true rfl) (rd17 (by have := hk_p0; omega)) (List.length_map ..) ?_
          refine Ev.ps 1 rfl ?_
          by_cases c5 : (qCu k_p0).length < 5
          · rw [if_pos c5]
            refine Ev.sta (as := [vI (nI ((qCu k_p0).length)), vI 5]) (rest := []) (by rfl) (by rfl) (by rfl) (by rfl) rfl (Nat.le_of_ble_eq_true rfl) (s_room ((nI_ltI (by have := wCl k_p0; omega) (by decide)).mpr c5)) ?_
            refine Ev.ps 5 rfl ?_
            refine Ev.vir (as := [vI (nI k_p1), vI (L + 3)]) (rest := []) (by rfl) (by rfl) (by rfl) (by rfl) rfl (Nat.le_of_ble_eq_true rfl) (by rfl) (by rw [rd8]; rfl) (s_c_tight hW) ?_
            refine Ev.ps 3 rfl ?_
            generalize hg6 : f_c_tight qBf qBm qBn (nI k_p1) (L + 3) = g6
            cases g6 with
            | none =>
              dsimp only [oE]
              refine Ev.icmp (by rfl) (by rfl) (fun z => by exact absurd z (by decide)) (fun _ => ?_)
              exact Ev.thwE (by rfl)
            | some k7 =>
              dsimp only [oE]
              refine Ev.icmp (by rfl) (by rfl) (fun _ => ?_) (fun z => by exact absurd (nI_nm1 (by have := (tight_lt hg6); omega)) (of_decide_eq_false z))
              refine Ev.ps 2 rfl ?_
              refine Ev.vir (as := [vI (nI k7)]) (rest := []) (by rfl) (by rfl) (by rfl) (by rfl) rfl (Nat.le_of_ble_eq_true rfl) (by rfl) (by rw [rd8]; rfl) (s_barAt rd8 (by rfl) rd14 (by omega) (by have := (tight_lt hg6); omega) (by rw [rd0 (by have := (tight_lt hg6); omega)]; rfl)) ?_
              refine Ev.ps 2 rfl ?_
              refine Ev.getf (v := vR 17 k_p0) (by rfl) (by rfl) (by rfl) (rd3 (by have := hk_p0; omega)) rfl ?_
              refine Ev.nwo (s := 2) (i := qCn) (by rfl) (by rfl) ⟨by rfl, by rfl, by decide, by rfl⟩ (show (pl qCn _).length = _ from pl_len) rfl ?_
              refine Ev.ps 3 rfl ?_
              refine Ev.spe (as := [vR 0 k7, vI L]) (rest := [vR 2 qCn, vR 17 k_p0]) (by rfl) (by rfl) (by rfl) (by rfl) rfl (Nat.le_of_ble_eq_true rfl) (by rfl) (by rw [hget_newi (show (pl qCn _).length = _ from pl_len)]; rfl) (calr mk_cut (s_iCut (hget_newi (show (pl qCn _).length = _ from pl_len)))) ?_
              refine Ev.la (by rfl) (by rfl) (by rfl) (Nat.le_of_ble_eq_true rfl) (by rfl) (rd17 (by have := hk_p0; omega)) (by rw [rd2 (by omega)]; rfl) (by rw [List.length_map]; omega) mk_cutl ?_
              refine Ev.ps 3 rfl ?_
              refine Ev.getf (v := vI (qBf k7)) (by rfl) (by rfl) (by rfl) (rd0 (by have := (tight_lt hg6); omega)) rfl ?_
              refine Ev.ps 4 rfl ?_
              refine Ev.pf (by rfl) (by rfl) (by rfl) (Nat.le_of_ble_eq_true rfl) rfl (Or.inl (by rfl)) (rd0 (by have := (tight_lt hg6); omega)) (show _ = enc (mkC qNb qTf qLn qLy qMn qMk qMs qMh qPn qPl qPo qPp qEn qEm qEc qEd qEs qEl qEe qEw qSt qDu (fup qCu k_p0 (qCu k_p0 ++ [qCn])) (qCn + 1) (fup qCb qCn k7) (fup qCl qCn L) qBn qBm qBl (fup qBf k7 ((qBf k7) - (L + 3))) qKn qKl qKs qPr qDay qG2 qG4 qX1 qX3) R (mkW zO zD zX zL zXs zG5 zG6 zG7 (zc + 1 + 1) (zn + 2 + (2 * ((qCu k_p0).map (vR 2)).length + 10))) from wr0_free (i := k7) (v := ((qBf k7) - (L + 3)))) ?_
              refine Ev.ps 1 rfl ?_
              exact Ev.re rfl rfl rfl rfl rfl
          · rw [if_neg c5]
            exact Ev.staX (as := [vI (nI ((qCu k_p0).length)), vI 5]) (rest := []) (by rfl) (by rfl) (by rfl) (by rfl) rfl (Nat.le_of_ble_eq_true rfl) (cexc (s_roomX (fun z => c5 ((nI_ltI (by have := wCl k_p0; omega) (by decide)).mp z)))) (by rfl)
        · rw [if_neg c4]
          exact Ev.thwE (by rfl)
      · rw [if_neg c3]
        exact Ev.staX (as := [vI L, vI 1, vI 5000]) (rest := []) (by rfl) (by rfl) (by rfl) (by rfl) rfl (Nat.le_of_ble_eq_true rfl) (cexc (s_rangeX (in_not c3))) (by rfl)
    · rw [if_neg c2]
      exact Ev.staX (as := [vI p1, vI 0, vI 2]) (rest := []) (by rfl) (by rfl) (by rfl) (by rfl) rfl (Nat.le_of_ble_eq_true rfl) (cexc (s_rangeX (in_not c2))) (by rfl)
  · rw [if_neg c1]
    exact Ev.virX (as := [vI p0]) (rest := []) (by rfl) (by rfl) (by rfl) (by rfl) rfl (Nat.le_of_ble_eq_true rfl) (by rfl) (by rw [rd8]; rfl) (cexc (s_entryAtX rd8 (by rfl) rd13 (not_in_nat (by omega) c1))) (by rfl)
def f_c_await (qCu : Nat → List Nat) (qDay : Int32) (qDu : Nat → Int32) (qEc : Nat → Nat) (qEd : Nat → Int32) (qEe : Nat → Int32) (qEl : Nat → Int32) (qEm : Nat → Nat) (qEn : Nat) (qEs : Nat → Int32) (qEw : Nat → Int32) (qMh : Nat → List Nat) (qMk : Nat → Nat) (qMn : Nat) (qMs : Nat → Int32) (qNb : Nat → Int32) (qPl : Nat → Nat → Int32) (qPn : Nat) (qSt : Nat → Int32) (zc : Nat) (zn : Nat) (p0 p1 D S M V : Int32) : Re × Nat × (Nat → Nat) × (Nat → Nat) × (Nat → Int32) × (Nat → Int32) × (Nat → Int32) × (Nat → Int32) × (Nat → Int32) × (Nat → Int32) × (Nat → Int32) × (Nat → List Nat) × Nat × Nat :=
  if f_r_isMember qPn p0 = true then
    if f_r_isMachine qMn p1 = true then
      if timeOk qDay D S M V = true then
        if f_c_judge qEn qEm qEc qEd qEs qEl qEe qEw qSt qMh qMk qMs qNb qPl (nP p0) (nP p1) D S M V = 105 then
          ((.inr 2), qEn, qEm, qEc, qEd, qEs, qEl, qEe, qEw, qSt, qDu, qCu, zc + 1, zn + 6)
        else
          if f_c_judge qEn qEm qEc qEd qEs qEl qEe qEw qSt qMh qMk qMs qNb qPl (nP p0) (nP p1) D S M V = 111 then
            ((.inr 5), qEn, qEm, qEc, qEd, qEs, qEl, qEe, qEw, qSt, qDu, qCu, zc + 1, zn + 6)
          else
            if qEn < 150 then
              ((.inl (some (vI ((nI (qEn + 1)) - 1)))), qEn + 1, fup qEm qEn (nP p0), fup qEc qEn (nP p1), fup qEd qEn D, fup qEs qEn S, fup qEl qEn M, fup qEe qEn (S + M), fup qEw qEn V, fup qSt qEn 119, fup qDu qEn 0, fup qCu qEn ([]), zc + 1 + 1 + 1, zn + 10 + 3 + (2 * ((List.range qEn).map (vR 3)).length + 10))
            else
              ((.inr 5), qEn, qEm, qEc, qEd, qEs, qEl, qEe, qEw, qSt, qDu, qCu, zc + 1, zn + 6)
      else
        ((.inr 1), qEn, qEm, qEc, qEd, qEs, qEl, qEe, qEw, qSt, qDu, qCu, zc + 1, zn + 6)
    else
      ((.inr 0), qEn, qEm, qEc, qEd, qEs, qEl, qEe, qEw, qSt, qDu, qCu, zc + 1, zn + 6)
  else
    ((.inr 0), qEn, qEm, qEc, qEd, qEs, qEl, qEe, qEw, qSt, qDu, qCu, zc + 1, zn + 6)
theorem s_c_await {d : Nat} {zO : Int64} {zD : UInt64} {zX : Nat} {zL : Nat} {zXs : Nat → Int32} {zG5 : List Ob} {zG6 : List Ob} {zG7 : List Ob} {zc : Nat} {zn : Nat} {R : RD} {qNb : Nat → Int32} {qTf : Nat → Nat} {qLn : Nat} {qLy : Nat → Ly} {qMn : Nat} {qMk : Nat → Nat} {qMs : Nat → Int32} {qMh : Nat → List Nat} {qPn : Nat} {qPl : Nat → Nat → Int32} {qPo : Nat → Int32} {qPp : Nat → Int32} {qEn : Nat} {qEm : Nat → Nat} {qEc : Nat → Nat} {qEd : Nat → Int32} {qEs : Nat → Int32} {qEl : Nat → Int32} {qEe : Nat → Int32} {qEw : Nat → Int32} {qSt : Nat → Int32} {qDu : Nat → Int32} {qCu : Nat → List Nat} {qCn : Nat} {qCb : Nat → Nat} {qCl : Nat → Int32} {qBn : Nat} {qBm : Nat → Nat} {qBl : Nat → Int32} {qBf : Nat → Int32} {qKn : Nat} {qKl : Nat → Nat} {qKs : Nat → Nat → Int32} {qPr : Nat → Int32} {qDay : Int32} {qG2 : List Ob} {qG4 : List Ob} {qX1 : List Ob} {qX3 : List Ob} {p0 : Int32} {p1 : Int32} {D : Int32} {S : Int32} {M : Int32} {V : Int32} (hW : WfC qMn qPn qEn qBn qKn qCn qLn qMk qEm qEc qCb qBm qTf qKl qMh qCu qLy) : Cal (d + 11) 28 [vR 8 0, vI p0, vI p1, vI D, vI S, vI M, vI V] (enc (mkC qNb qTf qLn qLy qMn qMk qMs qMh qPn qPl qPo qPp qEn qEm qEc qEd qEs qEl qEe qEw qSt qDu qCu qCn qCb qCl qBn qBm qBl qBf qKn qKl qKs qPr qDay qG2 qG4 qX1 qX3) R (mkW zO zD zX zL zXs zG5 zG6 zG7 zc zn)) ((f_c_await qCu qDay qDu qEc qEd qEe qEl qEm qEn qEs qEw qMh qMk qMn qMs qNb qPl qPn qSt zc zn p0 p1 D S M V).1) (enc (mkC qNb qTf qLn qLy qMn qMk qMs qMh qPn qPl qPo qPp ((f_c_await qCu qDay qDu qEc qEd qEe qEl qEm qEn qEs qEw qMh qMk qMn qMs qNb qPl qPn qSt zc zn p0 p1 D S M V).2.1) ((f_c_await qCu qDay qDu qEc qEd qEe qEl qEm qEn qEs qEw qMh qMk qMn qMs qNb qPl qPn qSt zc zn p0 p1 D S M V).2.2.1) ((f_c_await qCu qDay qDu qEc qEd qEe qEl qEm qEn qEs qEw qMh qMk qMn qMs qNb qPl qPn qSt zc zn p0 p1 D S M V).2.2.2.1) ((f_c_await qCu qDay qDu qEc qEd qEe qEl qEm qEn qEs qEw qMh qMk qMn qMs qNb qPl qPn qSt zc zn p0 p1 D S M V).2.2.2.2.1) ((f_c_await qCu qDay qDu qEc qEd qEe qEl qEm qEn qEs qEw qMh qMk qMn qMs qNb qPl qPn qSt zc zn p0 p1 D S M V).2.2.2.2.2.1) ((f_c_await qCu qDay qDu qEc qEd qEe qEl qEm qEn qEs qEw qMh qMk qMn qMs qNb qPl qPn qSt zc zn p0 p1 D S M V).2.2.2.2.2.2.1) ((f_c_await qCu qDay qDu qEc qEd qEe qEl qEm qEn qEs qEw qMh qMk qMn qMs qNb qPl qPn qSt zc zn p0 p1 D S M V).2.2.2.2.2.2.2.1) ((f_c_await qCu qDay qDu qEc qEd qEe qEl qEm qEn qEs qEw qMh qMk qMn qMs qNb qPl qPn qSt zc zn p0 p1 D S M V).2.2.2.2.2.2.2.2.1) ((f_c_await qCu qDay qDu qEc qEd qEe qEl qEm qEn qEs qEw qMh qMk qMn qMs qNb qPl qPn qSt zc zn p0 p1 D S M V).2.2.2.2.2.2.2.2.2.1) ((f_c_await qCu qDay qDu qEc qEd qEe qEl qEm qEn qEs qEw qMh qMk qMn qMs qNb qPl qPn qSt zc zn p0 p1 D S M V).2.2.2.2.2.2.2.2.2.2.1) ((f_c_await qCu qDay qDu qEc qEd qEe qEl qEm qEn qEs qEw qMh qMk qMn qMs qNb qPl qPn qSt zc zn p0 p1 D S M V).2.2.2.2.2.2.2.2.2.2.2.1) qCn qCb qCl qBn qBm qBl qBf qKn qKl qKs qPr qDay qG2 qG4 qX1 qX3) R (mkW zO zD zX zL zXs zG5 zG6 zG7 ((f_c_await qCu qDay qDu qEc qEd qEe qEl qEm qEn qEs qEw qMh qMk qMn qMs qNb qPl qPn qSt zc zn p0 p1 D S M V).2.2.2.2.2.2.2.2.2.2.2.2.1) ((f_c_await qCu qDay qDu qEc qEd qEe qEl qEm qEn qEs qEw qMh qMk qMn qMs qNb qPl qPn qSt zc zn p0 p1 D S M V).2.2.2.2.2.2.2.2.2.2.2.2.2))) := by
  obtain ⟨wMn, wPn, wEn, wBn, wKn, wMk, wEm, wEc, wCb, wBm, wTf, wKl, wMh, wMl, wCu, wCl, wLy⟩ := id hW
  refine Cal.mk (n := 10) rfl (Nat.le_of_ble_eq_true rfl) rfl ?_
  unfold f_c_await
  refine Ev.ps 2 rfl ?_
  by_cases c1 : f_r_isMember qPn p0 = true
  · rw [if_pos c1]
    have q_p0 := isMember_nat wPn c1
    generalize nP p0 = k_p0 at q_p0 ⊢
    obtain ⟨rfl, hk_p0⟩ := q_p0
    refine Ev.vir (as := [vI (nI k_p0)]) (rest := []) (by rfl) (by rfl) (by rfl) (by rfl) rfl (Nat.le_of_ble_eq_true rfl) (by rfl) (by rw [rd8]; rfl) (s_memberAt rd8 (by rfl) rd12 (by omega) hk_p0 (by rw [rd7 hk_p0]; rfl)) ?_
    refine Ev.ps 3 rfl ?_
    by_cases c2 : f_r_isMachine qMn p1 = true
    · rw [if_pos c2]
      have q_p1 := isMachine_nat wMn c2
      generalize nP p1 = k_p1 at q_p1 ⊢
      obtain ⟨rfl, hk_p1⟩ := q_p1
      refine Ev.vir (as := [vI (nI k_p1)]) (rest := []) (by rfl) (by rfl) (by rfl) (by rfl) rfl (Nat.le_of_ble_eq_true rfl) (by rfl) (by rw [rd8]; rfl) (s_machineAt rd8 (by rfl) rd11 (by omega) hk_p1 (by rw [rd6 hk_p1]; rfl)) ?_
      refine Ev.ps 6 rfl ?_
      by_cases c3 : timeOk qDay D S M V = true
      · rw [if_pos c3]
        refine Ev.vir (as := [vI D, vI S, vI M, vI V]) (rest := []) (by rfl) (by rfl) (by rfl) (by rfl) rfl (Nat.le_of_ble_eq_true rfl) (by rfl) (by rw [rd8]; rfl) (s_c_timeOk hW c3) ?_
        refine Ev.ps 7 rfl ?_
        refine Ev.vir (as := [vR 7 k_p0, vR 6 k_p1, vI D, vI S, vI M, vI V]) (rest := []) (by rfl) (by rfl) (by rfl) (by rfl) rfl (Nat.le_of_ble_eq_true rfl) (by rfl) (by rw [rd8]; rfl) (s_c_judge hW (by have := hk_p0; omega) (by have := hk_p1; omega)) ?_
        refine Ev.ps 3 rfl ?_
        refine Ev.ine (by rfl) (by rfl) (fun (c4 : f_c_judge qEn qEm qEc qEd qEs qEl qEe qEw qSt qMh qMk qMs qNb qPl k_p0 k_p1 D S M V = 105) => ?_) (fun (c4 : ¬ f_c_judge qEn qEm qEc qEd qEs qEl qEe qEw qSt qMh qMk qMs qNb qPl k_p0 k_p1 D S M V = 105) => ?_)
        · rw [if_pos c4]
          exact Ev.thwE (by rfl)
        · rw [if_neg c4]
          refine Ev.ps 2 rfl ?_
          refine Ev.ine (by rfl) (by rfl) (fun (c5 : f_c_judge qEn qEm qEc qEd qEs qEl qEe qEw qSt qMh qMk qMs qNb qPl k_p0 k_p1 D S M V = 111) => ?_) (fun (c5 : ¬ f_c_judge qEn qEm qEc qEd qEs qEl qEe qEw qSt qMh qMk qMs qNb qPl k_p0 k_p1 D S M V = 111) => ?_)
          · rw [if_pos c5]
            exact Ev.thwE (by rfl)
          · rw [if_neg c5]
            refine Ev.ps 1 rfl ?_
            refine Ev.getf (v := vR 13 0) (by rfl) (by rfl) (by rfl) (rd8) rfl ?_
            refine Ev.lz (N := qEn) (by rfl) (by rfl) (by rfl) (Nat.le_of_ble_eq_true rfl) (rd13) range_len ?_
            refine Ev.ps 1 rfl ?_
            by_cases c6 : qEn < 150
            · rw [if_pos c6]
              refine Ev.sta (as := [vI (nI qEn), vI 150]) (rest := []) (by rfl) (by rfl) (by rfl) (by rfl) rfl (Nat.le_of_ble_eq_true rfl) (s_room ((nI_ltI (by omega) (by decide)).mpr c6)) ?_
              refine Ev.ps 1 rfl ?_
              refine Ev.getf (v := vR 13 0) (by rfl) (by rfl) (by rfl) (rd8) rfl ?_
              refine Ev.nwo (s := 3) (i := qEn) (by rfl) (by rfl) ⟨by rfl, by rfl, by decide, by rfl⟩ (show (pl qEn _).length = _ from pl_len) rfl ?_
              refine Ev.ps 7 rfl ?_
              refine Ev.spe (as := [vR 7 k_p0, vR 6 k_p1, vI D, vI S, vI M, vI V]) (rest := [vR 3 qEn, vR 13 0]) (by rfl) (by rfl) (by rfl) (by rfl) rfl (Nat.le_of_ble_eq_true rfl) (by rfl) (by rw [hget_newi (show (pl qEn _).length = _ from pl_len)]; rfl) (s_iEnt' (show (pl qEn _).length = _ from pl_len) (hget_newi (show (pl qEn _).length = _ from pl_len)) (pf_work (time_V (by assumption)))) ?_
              refine Ev.la (by rfl) (by rfl) (by rfl) (Nat.le_of_ble_eq_true rfl) (by rfl) (((hget_put_ne (by decide)).trans ((hget_new_ne (by decide)).trans ((hget_new_ne (by decide)).trans (rd13))))) (by rw [hget_put ((hget_new_ne (by decide)).trans (hget_newi (show (pl qEn _).length = _ from pl_len)))]; rfl) (by rw [range_len]; omega) mk_ent ?_
              refine Ev.ps 2 rfl ?_
              refine Ev.getf (v := vR 13 0) (by rfl) (by rfl) (by rfl) (rd8) rfl ?_
              refine Ev.lz (N := (qEn + 1)) (by rfl) (by rfl) (by rfl) (Nat.le_of_ble_eq_true rfl) (rd13) range_len ?_
              refine Ev.ps 2 rfl ?_
              exact Ev.re rfl rfl rfl rfl rfl
            · rw [if_neg c6]
              exact Ev.staX (as := [vI (nI qEn), vI 150]) (rest := []) (by rfl) (by rfl) (by rfl) (by rfl) rfl (Nat.le_of_ble_eq_true rfl) (cexc (s_roomX (fun z => c6 ((nI_ltI (by omega) (by decide)).mp z)))) (by rfl)
      · rw [if_neg c3]
        exact Ev.virX (as := [vI D, vI S, vI M, vI V]) (rest := []) (by rfl) (by rfl) (by rfl) (by rfl) rfl (Nat.le_of_ble_eq_true rfl) (by rfl) (by rw [rd8]; rfl) (s_c_timeX hW c3) (by rfl)
    · rw [if_neg c2]
      exact Ev.virX (as := [vI p1]) (rest := []) (by rfl) (by rfl) (by rfl) (by rfl) rfl (Nat.le_of_ble_eq_true rfl) (by rfl) (by rw [rd8]; rfl) (cexc (s_machineAtX rd8 (by rfl) rd11 (not_in_nat (by omega) c2))) (by rfl)
  · rw [if_neg c1]
    exact Ev.virX (as := [vI p0]) (rest := []) (by rfl) (by rfl) (by rfl) (by rfl) rfl (Nat.le_of_ble_eq_true rfl) (by rfl) (by rw [rd8]; rfl) (cexc (s_memberAtX rd8 (by rfl) rd12 (not_in_nat (by omega) c1))) (by rfl)
