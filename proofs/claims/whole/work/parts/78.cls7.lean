/-! the class: calls that end in booking what waits (written by gcls7.py) -/
theorem hi_st {qEc : Nat → Nat} {qSt : Nat → Int32} {qMh : Nat → List Nat} {e : Nat} {v : Int32} (h : HI qEc qSt qMh) (hv : ¬ v = 119) : HI qEc (fup qSt e v) qMh := fun m => ⟨(h m).1, fun a ha => ⟨((h m).2 a ha).1, by
  by_cases c : a = e
  · subst c
    rw [fup_same]
    exact hv
  · rw [fup_ne c]
    exact ((h m).2 a ha).2⟩⟩
theorem hi_era {qEc : Nat → Nat} {qSt : Nat → Int32} {qMh : Nat → List Nat} {m j : Nat} (h : HI qEc qSt qMh) : HI qEc qSt (fup qMh m ((qMh m).eraseIdx j)) := by
  intro k
  by_cases c : k = m
  · subst c
    rw [fup_same]
    exact ⟨(h k).1.sublist (List.eraseIdx_sublist _ _), fun a ha => (h k).2 a ((List.eraseIdx_sublist _ _).subset ha)⟩
  · rw [fup_ne c]
    exact h k
section HW
variable {qMn : Nat} {qPn : Nat} {qEn : Nat} {qBn : Nat} {qKn : Nat} {qCn : Nat} {qLn : Nat} {qMk : Nat → Nat} {qEm : Nat → Nat} {qEc : Nat → Nat} {qCb : Nat → Nat} {qBm : Nat → Nat} {qTf : Nat → Nat} {qKl : Nat → Nat} {qMh : Nat → List Nat} {qCu : Nat → List Nat} {qLy : Nat → Ly} {qSt qEd qEs qBf qCl : Nat → Int32}
theorem hi_rel {mm e : Nat} (h : HI qEc qSt qMh) : HI qEc qSt (f_c_release qEd qEs qMh mm e) := by
  unfold f_c_release
  repeat' split
  all_goals first | exact h | exact hi_era h
theorem wfc_era {m j : Nat} (hW : WfC qMn qPn qEn qBn qKn qCn qLn qMk qEm qEc qCb qBm qTf qKl qMh qCu qLy) : WfC qMn qPn qEn qBn qKn qCn qLn qMk qEm qEc qCb qBm qTf qKl (fup qMh m ((qMh m).eraseIdx j)) qCu qLy := by
  obtain ⟨wMn, wPn, wEn, wBn, wKn, wMk, wEm, wEc, wCb, wBm, wTf, wKl, wMh, wMl, wCu, wCl, wLy⟩ := id hW
  have hs : ∀ k, List.Sublist (fup qMh m ((qMh m).eraseIdx j) k) (qMh k) := by
    intro k
    by_cases c : k = m
    · subst c
      rw [fup_same]
      exact List.eraseIdx_sublist _ _
    · rw [fup_ne c]
      exact List.Sublist.refl _
  exact ⟨wMn, wPn, wEn, wBn, wKn, wMk, wEm, wEc, wCb, wBm, wTf, wKl, fun k e he => wMh k e ((hs k).subset he), fun k => Nat.le_trans (hs k).length_le (wMl k), wCu, wCl, wLy⟩
theorem wfc_rel {mm e : Nat} (hW : WfC qMn qPn qEn qBn qKn qCn qLn qMk qEm qEc qCb qBm qTf qKl qMh qCu qLy) : WfC qMn qPn qEn qBn qKn qCn qLn qMk qEm qEc qCb qBm qTf qKl (f_c_release qEd qEs qMh mm e) qCu qLy := by
  unfold f_c_release
  repeat' split
  all_goals first | exact hW | exact wfc_era hW
theorem wfc_cu {e : Nat} (hW : WfC qMn qPn qEn qBn qKn qCn qLn qMk qEm qEc qCb qBm qTf qKl qMh qCu qLy) : WfC qMn qPn qEn qBn qKn qCn qLn qMk qEm qEc qCb qBm qTf qKl qMh (fup qCu e []) qLy := by
  obtain ⟨wMn, wPn, wEn, wBn, wKn, wMk, wEm, wEc, wCb, wBm, wTf, wKl, wMh, wMl, wCu, wCl, wLy⟩ := id hW
  refine ⟨wMn, wPn, wEn, wBn, wKn, wMk, wEm, wEc, wCb, wBm, wTf, wKl, wMh, wMl, fun k c hc => ?_, fun k => ?_, wLy⟩
  · by_cases z : k = e
    · subst z
      rw [fup_same] at hc
      cases hc
    · rw [fup_ne z] at hc
      exact wCu k c hc
  · by_cases z : k = e
    · subst z
      rw [fup_same]
      exact Nat.zero_le _
    · rw [fup_ne z]
      exact wCl k
theorem wd_I {e : Nat} (h : HI qEc qSt qMh) : HI qEc (f_c_withdraw qBf qCb qCl qCu qEc qEd qEs qMh qSt e).2.1 (f_c_withdraw qBf qCb qCl qCu qEc qEd qEs qMh qSt e).1 := by
  unfold f_c_withdraw
  split
  · exact hi_st (hi_rel h) (by decide)
  · exact hi_st h (by decide)
theorem wd_W {e : Nat} (hW : WfC qMn qPn qEn qBn qKn qCn qLn qMk qEm qEc qCb qBm qTf qKl qMh qCu qLy) : WfC qMn qPn qEn qBn qKn qCn qLn qMk qEm qEc qCb qBm qTf qKl (f_c_withdraw qBf qCb qCl qCu qEc qEd qEs qMh qSt e).1 (f_c_withdraw qBf qCb qCl qCu qEc qEd qEs qMh qSt e).2.2.1 qLy := by
  unfold f_c_withdraw
  split
  · exact wfc_cu (wfc_rel hW)
  · exact wfc_cu hW
end HW
def c_endDay_L24 (qBm : Nat → Nat) (qCb : Nat → Nat) (qCl : Nat → Int32) (qCu : Nat → List Nat) (qDay : Int32) (qEc : Nat → Nat) (qEd : Nat → Int32) (qEl : Nat → Int32) (qEm : Nat → Nat) (qLy : Nat → Ly) (qMk : Nat → Nat) (qPr : Nat → Int32) (qTf : Nat → Nat)  : Nat → Nat → Int32 → (Nat → Int32) → (Nat → Int32) → (Nat → Int32) → (Int32 × (Nat → Int32) × (Nat → Int32) × (Nat → Int32))
  | 0, j24, ct, qPo_24, qSt_24, qDu_24 =>
    (ct, qPo_24, qSt_24, qDu_24)
  | k24 + 1, j24, ct, qPo_24, qSt_24, qDu_24 =>
    if qEd j24 = qDay then
      if qSt_24 j24 = 98 then
        c_endDay_L24 qBm qCb qCl qCu qDay qEc qEd qEl qEm qLy qMk qPr qTf  k24 (j24 + 1) (ct + 1) ((f_c_charge qDu_24 qEm qPo_24 j24 ((f_c_timePrice qEc qEl qLy qMk qTf j24) + (f_c_cutPrice qBm qCb qCl qCu qPr j24))).1) (fup qSt_24 j24 100) ((f_c_charge qDu_24 qEm qPo_24 j24 ((f_c_timePrice qEc qEl qLy qMk qTf j24) + (f_c_cutPrice qBm qCb qCl qCu qPr j24))).2)
      else
        if qEd j24 = qDay then
          if qSt_24 j24 = 119 then c_endDay_L24 qBm qCb qCl qCu qDay qEc qEd qEl qEm qLy qMk qPr qTf  k24 (j24 + 1) ct qPo_24 (fup qSt_24 j24 120) qDu_24 else c_endDay_L24 qBm qCb qCl qCu qDay qEc qEd qEl qEm qLy qMk qPr qTf  k24 (j24 + 1) ct qPo_24 qSt_24 qDu_24
        else
          c_endDay_L24 qBm qCb qCl qCu qDay qEc qEd qEl qEm qLy qMk qPr qTf  k24 (j24 + 1) ct qPo_24 qSt_24 qDu_24
    else
      if qEd j24 = qDay then
        if qSt_24 j24 = 119 then c_endDay_L24 qBm qCb qCl qCu qDay qEc qEd qEl qEm qLy qMk qPr qTf  k24 (j24 + 1) ct qPo_24 (fup qSt_24 j24 120) qDu_24 else c_endDay_L24 qBm qCb qCl qCu qDay qEc qEd qEl qEm qLy qMk qPr qTf  k24 (j24 + 1) ct qPo_24 qSt_24 qDu_24
      else
        c_endDay_L24 qBm qCb qCl qCu qDay qEc qEd qEl qEm qLy qMk qPr qTf  k24 (j24 + 1) ct qPo_24 qSt_24 qDu_24
def f_c_endDay (qBm : Nat → Nat) (qCb : Nat → Nat) (qCl : Nat → Int32) (qCu : Nat → List Nat) (qDay : Int32) (qDu : Nat → Int32) (qEc : Nat → Nat) (qEd : Nat → Int32) (qEe : Nat → Int32) (qEl : Nat → Int32) (qEm : Nat → Nat) (qEn : Nat) (qEs : Nat → Int32) (qEw : Nat → Int32) (qLy : Nat → Ly) (qMh : Nat → List Nat) (qMk : Nat → Nat) (qMs : Nat → Int32) (qNb : Nat → Int32) (qPl : Nat → Nat → Int32) (qPo : Nat → Int32) (qPr : Nat → Int32) (qSt : Nat → Int32) (qTf : Nat → Nat) (zc : Nat) (zn : Nat)  : Re × (Nat → List Nat) × (Nat → Int32) × (Nat → Int32) × (Nat → Int32) × Int32 × Nat × Nat :=
  if qDay < 900 then
    ((.inl (some (vI ((c_endDay_L24 qBm qCb qCl qCu qDay qEc qEd qEl qEm qLy qMk qPr qTf  qEn 0 0 qPo qSt qDu).1)))), (f_c_bookW qEc qEd qEe qEl qEm qEn qEs qEw qMh qMk qMs qNb qPl ((c_endDay_L24 qBm qCb qCl qCu qDay qEc qEd qEl qEm qLy qMk qPr qTf  qEn 0 0 qPo qSt qDu).2.2.1) zc zn).1, (c_endDay_L24 qBm qCb qCl qCu qDay qEc qEd qEl qEm qLy qMk qPr qTf  qEn 0 0 qPo qSt qDu).2.1, (f_c_bookW qEc qEd qEe qEl qEm qEn qEs qEw qMh qMk qMs qNb qPl ((c_endDay_L24 qBm qCb qCl qCu qDay qEc qEd qEl qEm qLy qMk qPr qTf  qEn 0 0 qPo qSt qDu).2.2.1) zc zn).2.1, (c_endDay_L24 qBm qCb qCl qCu qDay qEc qEd qEl qEm qLy qMk qPr qTf  qEn 0 0 qPo qSt qDu).2.2.2, qDay + 1, (f_c_bookW qEc qEd qEe qEl qEm qEn qEs qEw qMh qMk qMs qNb qPl ((c_endDay_L24 qBm qCb qCl qCu qDay qEc qEd qEl qEm qLy qMk qPr qTf  qEn 0 0 qPo qSt qDu).2.2.1) zc zn).2.2.1, (f_c_bookW qEc qEd qEe qEl qEm qEn qEs qEw qMh qMk qMs qNb qPl ((c_endDay_L24 qBm qCb qCl qCu qDay qEc qEd qEl qEm qLy qMk qPr qTf  qEn 0 0 qPo qSt qDu).2.2.1) zc zn).2.2.2)
  else
    ((.inr 5), qMh, qPo, qSt, qDu, qDay, zc + 1, zn + 6)
theorem s_c_endDay {d : Nat} {zO : Int64} {zD : UInt64} {zX : Nat} {zL : Nat} {zXs : Nat → Int32} {zG5 : List Ob} {zG6 : List Ob} {zG7 : List Ob} {zc : Nat} {zn : Nat} {R : RD} {qNb : Nat → Int32} {qTf : Nat → Nat} {qLn : Nat} {qLy : Nat → Ly} {qMn : Nat} {qMk : Nat → Nat} {qMs : Nat → Int32} {qMh : Nat → List Nat} {qPn : Nat} {qPl : Nat → Nat → Int32} {qPo : Nat → Int32} {qPp : Nat → Int32} {qEn : Nat} {qEm : Nat → Nat} {qEc : Nat → Nat} {qEd : Nat → Int32} {qEs : Nat → Int32} {qEl : Nat → Int32} {qEe : Nat → Int32} {qEw : Nat → Int32} {qSt : Nat → Int32} {qDu : Nat → Int32} {qCu : Nat → List Nat} {qCn : Nat} {qCb : Nat → Nat} {qCl : Nat → Int32} {qBn : Nat} {qBm : Nat → Nat} {qBl : Nat → Int32} {qBf : Nat → Int32} {qKn : Nat} {qKl : Nat → Nat} {qKs : Nat → Nat → Int32} {qPr : Nat → Int32} {qDay : Int32} {qG2 : List Ob} {qG4 : List Ob} {qX1 : List Ob} {qX3 : List Ob}  (hW : WfC qMn qPn qEn qBn qKn qCn qLn qMk qEm qEc qCb qBm qTf qKl qMh qCu qLy) (hI : HI qEc qSt qMh) : Cal (d + 14) 33 [vR 8 0] (enc (mkC qNb qTf qLn qLy qMn qMk qMs qMh qPn qPl qPo qPp qEn qEm qEc qEd qEs qEl qEe qEw qSt qDu qCu qCn qCb qCl qBn qBm qBl qBf qKn qKl qKs qPr qDay qG2 qG4 qX1 qX3) R (mkW zO zD zX zL zXs zG5 zG6 zG7 zc zn)) ((f_c_endDay qBm qCb qCl qCu qDay qDu qEc qEd qEe qEl qEm qEn qEs qEw qLy qMh qMk qMs qNb qPl qPo qPr qSt qTf zc zn).1) (enc (mkC qNb qTf qLn qLy qMn qMk qMs ((f_c_endDay qBm qCb qCl qCu qDay qDu qEc qEd qEe qEl qEm qEn qEs qEw qLy qMh qMk qMs qNb qPl qPo qPr qSt qTf zc zn).2.1) qPn qPl ((f_c_endDay qBm qCb qCl qCu qDay qDu qEc qEd qEe qEl qEm qEn qEs qEw qLy qMh qMk qMs qNb qPl qPo qPr qSt qTf zc zn).2.2.1) qPp qEn qEm qEc qEd qEs qEl qEe qEw ((f_c_endDay qBm qCb qCl qCu qDay qDu qEc qEd qEe qEl qEm qEn qEs qEw qLy qMh qMk qMs qNb qPl qPo qPr qSt qTf zc zn).2.2.2.1) ((f_c_endDay qBm qCb qCl qCu qDay qDu qEc qEd qEe qEl qEm qEn qEs qEw qLy qMh qMk qMs qNb qPl qPo qPr qSt qTf zc zn).2.2.2.2.1) qCu qCn qCb qCl qBn qBm qBl qBf qKn qKl qKs qPr ((f_c_endDay qBm qCb qCl qCu qDay qDu qEc qEd qEe qEl qEm qEn qEs qEw qLy qMh qMk qMs qNb qPl qPo qPr qSt qTf zc zn).2.2.2.2.2.1) qG2 qG4 qX1 qX3) R (mkW zO zD zX zL zXs zG5 zG6 zG7 ((f_c_endDay qBm qCb qCl qCu qDay qDu qEc qEd qEe qEl qEm qEn qEs qEw qLy qMh qMk qMs qNb qPl qPo qPr qSt qTf zc zn).2.2.2.2.2.2.1) ((f_c_endDay qBm qCb qCl qCu qDay qDu qEc qEd qEe qEl qEm qEn qEs qEw qLy qMh qMk qMs qNb qPl qPo qPr qSt qTf zc zn).2.2.2.2.2.2.2))) := by
  obtain ⟨wMn, wPn, wEn, wBn, wKn, wMk, wEm, wEc, wCb, wBm, wTf, wKl, wMh, wMl, wCu, wCl, wLy⟩ := id hW
  refine Cal.mk (n := 4) rfl (Nat.le_of_ble_eq_true rfl) rfl ?_
  unfold f_c_endDay
  refine Ev.ps 1 rfl ?_
  refine Ev.getf (v := vI qDay) (by rfl) (by rfl) (by rfl) (rd8) rfl ?_
  refine Ev.ps 1 rfl ?_
  refine Ev.ilt (by rfl) (by rfl) (fun (c1 : qDay < 900) => ?_) (fun (c1 : ¬ qDay < 900) => ?_)
  · rw [if_pos c1]
    refine Ev.ps 4 rfl ?_
    have L24 : ∀ {x : Re × Hp}, ∀ (k24 j24 : Nat) (ct : Int32) (qPo_24 : Nat → Int32) (qSt_24 : Nat → Int32) (qDu_24 : Nat → Int32) (o24_3 : Option MV), j24 + k24 = qEn → Da o24_3 → HI qEc qSt_24 qMh → (∀ (e24_3 : Option MV) (e24_2 : Option MV), Da e24_3 → Da e24_2 → HI qEc ((c_endDay_L24 qBm qCb qCl qCu qDay qEc qEd qEl qEm qLy qMk qPr qTf  k24 j24 ct qPo_24 qSt_24 qDu_24).2.2.1) qMh → Ev (d + 14) (33, 125, [some (vR 8 0), some (vI ((c_endDay_L24 qBm qCb qCl qCu qDay qEc qEd qEl qEm qLy qMk qPr qTf  k24 j24 ct qPo_24 qSt_24 qDu_24).1)), e24_2, e24_3], []) (enc (mkC qNb qTf qLn qLy qMn qMk qMs qMh qPn qPl ((c_endDay_L24 qBm qCb qCl qCu qDay qEc qEd qEl qEm qLy qMk qPr qTf  k24 j24 ct qPo_24 qSt_24 qDu_24).2.1) qPp qEn qEm qEc qEd qEs qEl qEe qEw ((c_endDay_L24 qBm qCb qCl qCu qDay qEc qEd qEl qEm qLy qMk qPr qTf  k24 j24 ct qPo_24 qSt_24 qDu_24).2.2.1) ((c_endDay_L24 qBm qCb qCl qCu qDay qEc qEd qEl qEm qLy qMk qPr qTf  k24 j24 ct qPo_24 qSt_24 qDu_24).2.2.2) qCu qCn qCb qCl qBn qBm qBl qBf qKn qKl qKs qPr qDay qG2 qG4 qX1 qX3) R (mkW zO zD zX zL zXs zG5 zG6 zG7 zc zn)) x) → Ev (d + 14) (33, 24, [some (vR 8 0), some (vI ct), some (vI (nI j24)), o24_3], []) (enc (mkC qNb qTf qLn qLy qMn qMk qMs qMh qPn qPl qPo_24 qPp qEn qEm qEc qEd qEs qEl qEe qEw qSt_24 qDu_24 qCu qCn qCb qCl qBn qBm qBl qBf qKn qKl qKs qPr qDay qG2 qG4 qX1 qX3) R (mkW zO zD zX zL zXs zG5 zG6 zG7 zc zn)) x := by
      intro x k24
      induction k24 with
      | zero =>
        intro j24 ct qPo_24 qSt_24 qDu_24 o24_3 hj24 ho24_3 hI K24
        rw [c_endDay_L24] at K24
        refine Ev.ps 2 rfl ?_
        refine Ev.getf (v := vR 13 0) (by rfl) (by rfl) (by rfl) (rd8) rfl ?_
        refine Ev.lz (N := qEn) (by rfl) (by rfl) (by rfl) (Nat.le_of_ble_eq_true rfl) (rd13) range_len ?_
        refine Ev.igeN (a := j24) (b := qEn) (by omega) (by omega) (by rfl) (by rfl) (fun (c2 : j24 < qEn) => ?_) (fun (c2 : ¬ j24 < qEn) => ?_)
        · exfalso; omega
        · exact K24 _ _ ho24_3 Da.i hI
      | succ k24 ih24 =>
        intro j24 ct qPo_24 qSt_24 qDu_24 o24_3 hj24 ho24_3 hI K24
        rw [c_endDay_L24] at K24
        refine Ev.ps 2 rfl ?_
        refine Ev.getf (v := vR 13 0) (by rfl) (by rfl) (by rfl) (rd8) rfl ?_
        refine Ev.lz (N := qEn) (by rfl) (by rfl) (by rfl) (Nat.le_of_ble_eq_true rfl) (rd13) range_len ?_
        refine Ev.igeN (a := j24) (b := qEn) (by omega) (by omega) (by rfl) (by rfl) (fun (c3 : j24 < qEn) => ?_) (fun (c3 : ¬ j24 < qEn) => ?_)
        · refine Ev.ps 1 rfl ?_
          refine Ev.getf (v := vR 13 0) (by rfl) (by rfl) (by rfl) (rd8) rfl ?_
          refine Ev.ps 1 rfl ?_
          refine Ev.lg (j := j24) (v := vR 3 j24) (by rfl) (by rfl) (by rfl) (Nat.le_of_ble_eq_true rfl) (rd13) (by omega) (range_get (by omega)) ?_
          refine Ev.cst (by rfl) (by rfl) (by rfl) (by rw [rd3 (by omega)]; rfl) ?_
          refine Ev.ps 2 rfl ?_
          refine Ev.getf (v := vI (qEd j24)) (by rfl) (by rfl) (by rfl) (rd3 (by omega)) rfl ?_
          refine Ev.ps 1 rfl ?_
          refine Ev.getf (v := vI qDay) (by rfl) (by rfl) (by rfl) (rd8) rfl ?_
          refine Ev.ine (by rfl) (by rfl) (fun (c4 : qEd j24 = qDay) => ?_) (fun (c4 : ¬ qEd j24 = qDay) => ?_)
          · rw [if_pos c4] at K24
            refine Ev.ps 1 rfl ?_
            refine Ev.getf (v := vI (qSt_24 j24)) (by rfl) (by rfl) (by rfl) (rd3 (by omega)) rfl ?_
            refine Ev.ps 1 rfl ?_
            refine Ev.ine (by rfl) (by rfl) (fun (c5 : qSt_24 j24 = 98) => ?_) (fun (c5 : ¬ qSt_24 j24 = 98) => ?_)
            · rw [if_pos c5] at K24
              refine Ev.ps 2 rfl ?_
              refine Ev.pf (by rfl) (by rfl) (by rfl) (Nat.le_of_ble_eq_true rfl) rfl (Or.inl (by rfl)) (rd3 (by omega)) (show _ = enc (mkC qNb qTf qLn qLy qMn qMk qMs qMh qPn qPl qPo_24 qPp qEn qEm qEc qEd qEs qEl qEe qEw (fup qSt_24 j24 100) qDu_24 qCu qCn qCb qCl qBn qBm qBl qBf qKn qKl qKs qPr qDay qG2 qG4 qX1 qX3) R (mkW zO zD zX zL zXs zG5 zG6 zG7 zc zn) from wr3_st (i := j24) (v := 100)) ?_
              refine Ev.ps 2 rfl ?_
              refine Ev.sta (as := [vR 3 j24]) (rest := [vR 3 j24]) (by rfl) (by rfl) (by rfl) (by rfl) rfl (Nat.le_of_ble_eq_true rfl) (s_c_timePrice hW (by omega)) ?_
              refine Ev.ps 2 rfl ?_
              refine Ev.vir (as := [vR 3 j24]) (rest := [vI (f_c_timePrice qEc qEl qLy qMk qTf j24), vR 3 j24]) (by rfl) (by rfl) (by rfl) (by rfl) rfl (Nat.le_of_ble_eq_true rfl) (by rfl) (by rw [rd8]; rfl) (s_c_cutPrice hW (by omega)) ?_
              refine Ev.ps 1 rfl ?_
              refine Ev.sta (as := [vR 3 j24, vI ((f_c_timePrice qEc qEl qLy qMk qTf j24) + (f_c_cutPrice qBm qCb qCl qCu qPr j24))]) (rest := []) (by rfl) (by rfl) (by rfl) (by rfl) rfl (Nat.le_of_ble_eq_true rfl) (s_c_charge hW (by omega)) ?_
              refine Ev.ps 4 rfl ?_
              have h9 := ih24 (j24 + 1) (ct + 1) ((f_c_charge qDu_24 qEm qPo_24 j24 ((f_c_timePrice qEc qEl qLy qMk qTf j24) + (f_c_cutPrice qBm qCb qCl qCu qPr j24))).1) (fup qSt_24 j24 100) ((f_c_charge qDu_24 qEm qPo_24 j24 ((f_c_timePrice qEc qEl qLy qMk qTf j24) + (f_c_cutPrice qBm qCb qCl qCu qPr j24))).2) (some (vR 3 j24)) (by show j24 + 1 + k24 = qEn; omega) Da.r (by first | exact hI | exact hi_st hI (by decide)) K24
              rw [← nI_1] at h9
              exact h9
            · rw [if_neg c5] at K24
              refine Ev.ps 1 rfl ?_
              refine Ev.getf (v := vI (qEd j24)) (by rfl) (by rfl) (by rfl) (rd3 (by omega)) rfl ?_
              refine Ev.ps 1 rfl ?_
              refine Ev.getf (v := vI qDay) (by rfl) (by rfl) (by rfl) (rd8) rfl ?_
              refine Ev.ine (by rfl) (by rfl) (fun (c6 : qEd j24 = qDay) => ?_) (fun (c6 : ¬ qEd j24 = qDay) => ?_)
              · rw [if_pos c6] at K24
                refine Ev.ps 1 rfl ?_
                refine Ev.getf (v := vI (qSt_24 j24)) (by rfl) (by rfl) (by rfl) (rd3 (by omega)) rfl ?_
                refine Ev.ps 1 rfl ?_
                refine Ev.ine (by rfl) (by rfl) (fun (c7 : qSt_24 j24 = 119) => ?_) (fun (c7 : ¬ qSt_24 j24 = 119) => ?_)
                · rw [if_pos c7] at K24
                  refine Ev.ps 2 rfl ?_
                  refine Ev.pf (by rfl) (by rfl) (by rfl) (Nat.le_of_ble_eq_true rfl) rfl (Or.inl (by rfl)) (rd3 (by omega)) (show _ = enc (mkC qNb qTf qLn qLy qMn qMk qMs qMh qPn qPl qPo_24 qPp qEn qEm qEc qEd qEs qEl qEe qEw (fup qSt_24 j24 120) qDu_24 qCu qCn qCb qCl qBn qBm qBl qBf qKn qKl qKs qPr qDay qG2 qG4 qX1 qX3) R (mkW zO zD zX zL zXs zG5 zG6 zG7 zc zn) from wr3_st (i := j24) (v := 120)) ?_
                  refine Ev.ps 2 rfl ?_
                  have h9 := ih24 (j24 + 1) ct qPo_24 (fup qSt_24 j24 120) qDu_24 (some (vR 3 j24)) (by show j24 + 1 + k24 = qEn; omega) Da.r (by first | exact hI | exact hi_st hI (by decide)) K24
                  rw [← nI_1] at h9
                  exact h9
                · rw [if_neg c7] at K24
                  refine Ev.ps 2 rfl ?_
                  have h9 := ih24 (j24 + 1) ct qPo_24 qSt_24 qDu_24 (some (vR 3 j24)) (by show j24 + 1 + k24 = qEn; omega) Da.r (by first | exact hI | exact hi_st hI (by decide)) K24
                  rw [← nI_1] at h9
                  exact h9
              · rw [if_neg c6] at K24
                refine Ev.ps 2 rfl ?_
                have h9 := ih24 (j24 + 1) ct qPo_24 qSt_24 qDu_24 (some (vR 3 j24)) (by show j24 + 1 + k24 = qEn; omega) Da.r (by first | exact hI | exact hi_st hI (by decide)) K24
                rw [← nI_1] at h9
                exact h9
          · rw [if_neg c4] at K24
            refine Ev.ps 1 rfl ?_
            refine Ev.getf (v := vI (qEd j24)) (by rfl) (by rfl) (by rfl) (rd3 (by omega)) rfl ?_
            refine Ev.ps 1 rfl ?_
            refine Ev.getf (v := vI qDay) (by rfl) (by rfl) (by rfl) (rd8) rfl ?_
            refine Ev.ine (by rfl) (by rfl) (fun (c8 : qEd j24 = qDay) => ?_) (fun (c8 : ¬ qEd j24 = qDay) => ?_)
            · rw [if_pos c8] at K24
              refine Ev.ps 1 rfl ?_
              refine Ev.getf (v := vI (qSt_24 j24)) (by rfl) (by rfl) (by rfl) (rd3 (by omega)) rfl ?_
              refine Ev.ps 1 rfl ?_
              refine Ev.ine (by rfl) (by rfl) (fun (c9 : qSt_24 j24 = 119) => ?_) (fun (c9 : ¬ qSt_24 j24 = 119) => ?_)
              · rw [if_pos c9] at K24
                refine Ev.ps 2 rfl ?_
                refine Ev.pf (by rfl) (by rfl) (by rfl) (Nat.le_of_ble_eq_true rfl) rfl (Or.inl (by rfl)) (rd3 (by omega)) (show _ = enc (mkC qNb qTf qLn qLy qMn qMk qMs qMh qPn qPl qPo_24 qPp qEn qEm qEc qEd qEs qEl qEe qEw (fup qSt_24 j24 120) qDu_24 qCu qCn qCb qCl qBn qBm qBl qBf qKn qKl qKs qPr qDay qG2 qG4 qX1 qX3) R (mkW zO zD zX zL zXs zG5 zG6 zG7 zc zn) from wr3_st (i := j24) (v := 120)) ?_
                refine Ev.ps 2 rfl ?_
                have h9 := ih24 (j24 + 1) ct qPo_24 (fup qSt_24 j24 120) qDu_24 (some (vR 3 j24)) (by show j24 + 1 + k24 = qEn; omega) Da.r (by first | exact hI | exact hi_st hI (by decide)) K24
                rw [← nI_1] at h9
                exact h9
              · rw [if_neg c9] at K24
                refine Ev.ps 2 rfl ?_
                have h9 := ih24 (j24 + 1) ct qPo_24 qSt_24 qDu_24 (some (vR 3 j24)) (by show j24 + 1 + k24 = qEn; omega) Da.r (by first | exact hI | exact hi_st hI (by decide)) K24
                rw [← nI_1] at h9
                exact h9
            · rw [if_neg c8] at K24
              refine Ev.ps 2 rfl ?_
              have h9 := ih24 (j24 + 1) ct qPo_24 qSt_24 qDu_24 (some (vR 3 j24)) (by show j24 + 1 + k24 = qEn; omega) Da.r (by first | exact hI | exact hi_st hI (by decide)) K24
              rw [← nI_1] at h9
              exact h9
        · exfalso; omega
    refine L24 qEn 0 0 qPo qSt qDu none (by show 0 + qEn = qEn; omega) Da.n hI ?_
    intro e24_3 e24_2 he24_3 he24_2 hIx
    have hI := hIx
    refine Ev.ps 2 rfl ?_
    refine Ev.getf (v := vI qDay) (by rfl) (by rfl) (by rfl) (rd8) rfl ?_
    refine Ev.ps 2 rfl ?_
    refine Ev.pf (by rfl) (by rfl) (by rfl) (Nat.le_of_ble_eq_true rfl) rfl (Or.inl (by rfl)) (rd8) (show _ = enc (mkC qNb qTf qLn qLy qMn qMk qMs qMh qPn qPl ((c_endDay_L24 qBm qCb qCl qCu qDay qEc qEd qEl qEm qLy qMk qPr qTf  qEn 0 0 qPo qSt qDu).2.1) qPp qEn qEm qEc qEd qEs qEl qEe qEw ((c_endDay_L24 qBm qCb qCl qCu qDay qEc qEd qEl qEm qLy qMk qPr qTf  qEn 0 0 qPo qSt qDu).2.2.1) ((c_endDay_L24 qBm qCb qCl qCu qDay qEc qEd qEl qEm qLy qMk qPr qTf  qEn 0 0 qPo qSt qDu).2.2.2) qCu qCn qCb qCl qBn qBm qBl qBf qKn qKl qKs qPr (qDay + 1) qG2 qG4 qX1 qX3) R (mkW zO zD zX zL zXs zG5 zG6 zG7 zc zn) from wr8_Day (v := (qDay + 1))) ?_
    refine Ev.ps 1 rfl ?_
    refine Ev.vir (as := []) (rest := []) (by rfl) (by rfl) (by rfl) (by rfl) rfl (Nat.le_of_ble_eq_true rfl) (by rfl) (by rw [rd8]; rfl) (s_c_bookW hW hI) ?_
    refine Ev.ps 1 rfl ?_
    exact Ev.re rfl rfl rfl rfl rfl
  · rw [if_neg c1]
    exact Ev.thwE (by rfl)
def c_cancelWI_L2 (qCb : Nat → Nat) (qCl : Nat → Int32) (qEc : Nat → Nat) (qEd : Nat → Int32) (qEm : Nat → Nat) (qEs : Nat → Int32) (qMk : Nat → Nat) (qNb : Nat → Int32) (qPl : Nat → Nat → Int32)  : Nat → Nat → (Nat → List Nat) → (Nat → Int32) → (Nat → List Nat) → (Nat → Int32) → ((Nat → List Nat) × (Nat → Int32) × (Nat → List Nat) × (Nat → Int32))
  | 0, j2, qMh_2, qSt_2, qCu_2, qBf_2 =>
    (qMh_2, qSt_2, qCu_2, qBf_2)
  | k2 + 1, j2, qMh_2, qSt_2, qCu_2, qBf_2 =>
    if f_c_isOpen qSt_2 j2 then
      if f_c_hasInd qEc qEd qEm qMk qNb qPl j2 then
        c_cancelWI_L2 qCb qCl qEc qEd qEm qEs qMk qNb qPl  k2 (j2 + 1) qMh_2 qSt_2 qCu_2 qBf_2
      else
        c_cancelWI_L2 qCb qCl qEc qEd qEm qEs qMk qNb qPl  k2 (j2 + 1) ((f_c_withdraw qBf_2 qCb qCl qCu_2 qEc qEd qEs qMh_2 qSt_2 j2).1) ((f_c_withdraw qBf_2 qCb qCl qCu_2 qEc qEd qEs qMh_2 qSt_2 j2).2.1) ((f_c_withdraw qBf_2 qCb qCl qCu_2 qEc qEd qEs qMh_2 qSt_2 j2).2.2.1) ((f_c_withdraw qBf_2 qCb qCl qCu_2 qEc qEd qEs qMh_2 qSt_2 j2).2.2.2)
    else
      c_cancelWI_L2 qCb qCl qEc qEd qEm qEs qMk qNb qPl  k2 (j2 + 1) qMh_2 qSt_2 qCu_2 qBf_2
def f_c_cancelWI (qBf : Nat → Int32) (qCb : Nat → Nat) (qCl : Nat → Int32) (qCu : Nat → List Nat) (qEc : Nat → Nat) (qEd : Nat → Int32) (qEm : Nat → Nat) (qEn : Nat) (qEs : Nat → Int32) (qMh : Nat → List Nat) (qMk : Nat → Nat) (qNb : Nat → Int32) (qPl : Nat → Nat → Int32) (qSt : Nat → Int32)  : (Nat → List Nat) × (Nat → Int32) × (Nat → List Nat) × (Nat → Int32) :=
  ((c_cancelWI_L2 qCb qCl qEc qEd qEm qEs qMk qNb qPl  qEn 0 qMh qSt qCu qBf).1, (c_cancelWI_L2 qCb qCl qEc qEd qEm qEs qMk qNb qPl  qEn 0 qMh qSt qCu qBf).2.1, (c_cancelWI_L2 qCb qCl qEc qEd qEm qEs qMk qNb qPl  qEn 0 qMh qSt qCu qBf).2.2.1, (c_cancelWI_L2 qCb qCl qEc qEd qEm qEs qMk qNb qPl  qEn 0 qMh qSt qCu qBf).2.2.2)
theorem s_c_cancelWI {d : Nat} {zO : Int64} {zD : UInt64} {zX : Nat} {zL : Nat} {zXs : Nat → Int32} {zG5 : List Ob} {zG6 : List Ob} {zG7 : List Ob} {zc : Nat} {zn : Nat} {R : RD} {qNb : Nat → Int32} {qTf : Nat → Nat} {qLn : Nat} {qLy : Nat → Ly} {qMn : Nat} {qMk : Nat → Nat} {qMs : Nat → Int32} {qMh : Nat → List Nat} {qPn : Nat} {qPl : Nat → Nat → Int32} {qPo : Nat → Int32} {qPp : Nat → Int32} {qEn : Nat} {qEm : Nat → Nat} {qEc : Nat → Nat} {qEd : Nat → Int32} {qEs : Nat → Int32} {qEl : Nat → Int32} {qEe : Nat → Int32} {qEw : Nat → Int32} {qSt : Nat → Int32} {qDu : Nat → Int32} {qCu : Nat → List Nat} {qCn : Nat} {qCb : Nat → Nat} {qCl : Nat → Int32} {qBn : Nat} {qBm : Nat → Nat} {qBl : Nat → Int32} {qBf : Nat → Int32} {qKn : Nat} {qKl : Nat → Nat} {qKs : Nat → Nat → Int32} {qPr : Nat → Int32} {qDay : Int32} {qG2 : List Ob} {qG4 : List Ob} {qX1 : List Ob} {qX3 : List Ob}  (hW : WfC qMn qPn qEn qBn qKn qCn qLn qMk qEm qEc qCb qBm qTf qKl qMh qCu qLy) (hI : HI qEc qSt qMh) : Cal (d + 11) 76 [vR 8 0] (enc (mkC qNb qTf qLn qLy qMn qMk qMs qMh qPn qPl qPo qPp qEn qEm qEc qEd qEs qEl qEe qEw qSt qDu qCu qCn qCb qCl qBn qBm qBl qBf qKn qKl qKs qPr qDay qG2 qG4 qX1 qX3) R (mkW zO zD zX zL zXs zG5 zG6 zG7 zc zn)) (.inl none) (enc (mkC qNb qTf qLn qLy qMn qMk qMs ((f_c_cancelWI qBf qCb qCl qCu qEc qEd qEm qEn qEs qMh qMk qNb qPl qSt).1) qPn qPl qPo qPp qEn qEm qEc qEd qEs qEl qEe qEw ((f_c_cancelWI qBf qCb qCl qCu qEc qEd qEm qEn qEs qMh qMk qNb qPl qSt).2.1) qDu ((f_c_cancelWI qBf qCb qCl qCu qEc qEd qEm qEn qEs qMh qMk qNb qPl qSt).2.2.1) qCn qCb qCl qBn qBm qBl ((f_c_cancelWI qBf qCb qCl qCu qEc qEd qEm qEn qEs qMh qMk qNb qPl qSt).2.2.2) qKn qKl qKs qPr qDay qG2 qG4 qX1 qX3) R (mkW zO zD zX zL zXs zG5 zG6 zG7 zc zn)) := by
  obtain ⟨wMn, wPn, wEn, wBn, wKn, wMk, wEm, wEc, wCb, wBm, wTf, wKl, wMh, wMl, wCu, wCl, wLy⟩ := id hW
  refine Cal.mk (n := 3) rfl (Nat.le_of_ble_eq_true rfl) rfl ?_
  unfold f_c_cancelWI
  refine Ev.ps 2 rfl ?_
  have L2 : ∀ {x : Re × Hp}, ∀ (k2 j2 : Nat) (qMh_2 : Nat → List Nat) (qSt_2 : Nat → Int32) (qCu_2 : Nat → List Nat) (qBf_2 : Nat → Int32) (o2_2 : Option MV), j2 + k2 = qEn → Da o2_2 → WfC qMn qPn qEn qBn qKn qCn qLn qMk qEm qEc qCb qBm qTf qKl qMh_2 qCu_2 qLy → HI qEc qSt_2 qMh_2 → (∀ (e2_2 : Option MV) (e2_1 : Option MV), Da e2_2 → Da e2_1 → WfC qMn qPn qEn qBn qKn qCn qLn qMk qEm qEc qCb qBm qTf qKl ((c_cancelWI_L2 qCb qCl qEc qEd qEm qEs qMk qNb qPl  k2 j2 qMh_2 qSt_2 qCu_2 qBf_2).1) ((c_cancelWI_L2 qCb qCl qEc qEd qEm qEs qMk qNb qPl  k2 j2 qMh_2 qSt_2 qCu_2 qBf_2).2.2.1) qLy → HI qEc ((c_cancelWI_L2 qCb qCl qEc qEd qEm qEs qMk qNb qPl  k2 j2 qMh_2 qSt_2 qCu_2 qBf_2).2.1) ((c_cancelWI_L2 qCb qCl qEc qEd qEm qEs qMk qNb qPl  k2 j2 qMh_2 qSt_2 qCu_2 qBf_2).1) → Ev (d + 11) (76, 50, [some (vR 8 0), e2_1, e2_2], []) (enc (mkC qNb qTf qLn qLy qMn qMk qMs ((c_cancelWI_L2 qCb qCl qEc qEd qEm qEs qMk qNb qPl  k2 j2 qMh_2 qSt_2 qCu_2 qBf_2).1) qPn qPl qPo qPp qEn qEm qEc qEd qEs qEl qEe qEw ((c_cancelWI_L2 qCb qCl qEc qEd qEm qEs qMk qNb qPl  k2 j2 qMh_2 qSt_2 qCu_2 qBf_2).2.1) qDu ((c_cancelWI_L2 qCb qCl qEc qEd qEm qEs qMk qNb qPl  k2 j2 qMh_2 qSt_2 qCu_2 qBf_2).2.2.1) qCn qCb qCl qBn qBm qBl ((c_cancelWI_L2 qCb qCl qEc qEd qEm qEs qMk qNb qPl  k2 j2 qMh_2 qSt_2 qCu_2 qBf_2).2.2.2) qKn qKl qKs qPr qDay qG2 qG4 qX1 qX3) R (mkW zO zD zX zL zXs zG5 zG6 zG7 zc zn)) x) → Ev (d + 11) (76, 2, [some (vR 8 0), some (vI (nI j2)), o2_2], []) (enc (mkC qNb qTf qLn qLy qMn qMk qMs qMh_2 qPn qPl qPo qPp qEn qEm qEc qEd qEs qEl qEe qEw qSt_2 qDu qCu_2 qCn qCb qCl qBn qBm qBl qBf_2 qKn qKl qKs qPr qDay qG2 qG4 qX1 qX3) R (mkW zO zD zX zL zXs zG5 zG6 zG7 zc zn)) x := by
    intro x k2
    induction k2 with
    | zero =>
      intro j2 qMh_2 qSt_2 qCu_2 qBf_2 o2_2 hj2 ho2_2 hW hI K2
      obtain ⟨wMn, wPn, wEn, wBn, wKn, wMk, wEm, wEc, wCb, wBm, wTf, wKl, wMh, wMl, wCu, wCl, wLy⟩ := id hW
      rw [c_cancelWI_L2] at K2
      refine Ev.ps 2 rfl ?_
      refine Ev.getf (v := vR 13 0) (by rfl) (by rfl) (by rfl) (rd8) rfl ?_
      refine Ev.lz (N := qEn) (by rfl) (by rfl) (by rfl) (Nat.le_of_ble_eq_true rfl) (rd13) range_len ?_
      refine Ev.igeN (a := j2) (b := qEn) (by omega) (by omega) (by rfl) (by rfl) (fun (c1 : j2 < qEn) => ?_) (fun (c1 : ¬ j2 < qEn) => ?_)
      · exfalso; omega
      · exact K2 _ _ ho2_2 Da.i hW hI
    | succ k2 ih2 =>
      intro j2 qMh_2 qSt_2 qCu_2 qBf_2 o2_2 hj2 ho2_2 hW hI K2
      obtain ⟨wMn, wPn, wEn, wBn, wKn, wMk, wEm, wEc, wCb, wBm, wTf, wKl, wMh, wMl, wCu, wCl, wLy⟩ := id hW
      rw [c_cancelWI_L2] at K2
      refine Ev.ps 2 rfl ?_
      refine Ev.getf (v := vR 13 0) (by rfl) (by rfl) (by rfl) (rd8) rfl ?_
      refine Ev.lz (N := qEn) (by rfl) (by rfl) (by rfl) (Nat.le_of_ble_eq_true rfl) (rd13) range_len ?_
      refine Ev.igeN (a := j2) (b := qEn) (by omega) (by omega) (by rfl) (by rfl) (fun (c2 : j2 < qEn) => ?_) (fun (c2 : ¬ j2 < qEn) => ?_)
      · refine Ev.ps 1 rfl ?_
        refine Ev.getf (v := vR 13 0) (by rfl) (by rfl) (by rfl) (rd8) rfl ?_
        refine Ev.ps 1 rfl ?_
        refine Ev.lg (j := j2) (v := vR 3 j2) (by rfl) (by rfl) (by rfl) (Nat.le_of_ble_eq_true rfl) (rd13) (by omega) (range_get (by omega)) ?_
        refine Ev.cst (by rfl) (by rfl) (by rfl) (by rw [rd3 (by omega)]; rfl) ?_
        refine Ev.ps 2 rfl ?_
        refine Ev.vir (as := []) (rest := []) (by rfl) (by rfl) (by rfl) (by rfl) rfl (Nat.le_of_ble_eq_true rfl) (by rfl) (by rw [rd3 (by omega)]; rfl) (s_c_isOpen hW (by omega)) ?_
        refine Ev.ifbe (by rfl) (by rfl) (fun c3 => ?_) (fun c3 => ?_)
        · rw [if_pos c3] at K2
          refine Ev.ps 2 rfl ?_
          refine Ev.vir (as := [vR 3 j2]) (rest := []) (by rfl) (by rfl) (by rfl) (by rfl) rfl (Nat.le_of_ble_eq_true rfl) (by rfl) (by rw [rd8]; rfl) (s_c_hasInd hW (by omega)) ?_
          refine Ev.ifbn (by rfl) (by rfl) (fun c4 => ?_) (fun c4 => ?_)
          · rw [if_pos c4] at K2
            refine Ev.ps 2 rfl ?_
            have h9 := ih2 (j2 + 1) qMh_2 qSt_2 qCu_2 qBf_2 (some (vR 3 j2)) (by show j2 + 1 + k2 = qEn; omega) Da.r hW hI K2
            rw [← nI_1] at h9
            exact h9
          · rw [if_neg c4] at K2
            refine Ev.ps 1 rfl ?_
            refine Ev.sta (as := [vR 3 j2]) (rest := []) (by rfl) (by rfl) (by rfl) (by rfl) rfl (Nat.le_of_ble_eq_true rfl) (s_c_withdraw hW (by omega)) ?_
            have hW2 := wd_W (e := j2) (qSt := qSt_2) (qEd := qEd) (qEs := qEs) (qBf := qBf_2) (qCl := qCl) hW
            have hI2 := wd_I (e := j2) (qEd := qEd) (qEs := qEs) (qBf := qBf_2) (qCl := qCl) (qCu := qCu_2) (qCb := qCb) hI
            refine Ev.ps 2 rfl ?_
            have h9 := ih2 (j2 + 1) ((f_c_withdraw qBf_2 qCb qCl qCu_2 qEc qEd qEs qMh_2 qSt_2 j2).1) ((f_c_withdraw qBf_2 qCb qCl qCu_2 qEc qEd qEs qMh_2 qSt_2 j2).2.1) ((f_c_withdraw qBf_2 qCb qCl qCu_2 qEc qEd qEs qMh_2 qSt_2 j2).2.2.1) ((f_c_withdraw qBf_2 qCb qCl qCu_2 qEc qEd qEs qMh_2 qSt_2 j2).2.2.2) (some (vR 3 j2)) (by show j2 + 1 + k2 = qEn; omega) Da.r hW2 hI2 K2
            rw [← nI_1] at h9
            exact h9
        · rw [if_neg c3] at K2
          refine Ev.ps 2 rfl ?_
          have h9 := ih2 (j2 + 1) qMh_2 qSt_2 qCu_2 qBf_2 (some (vR 3 j2)) (by show j2 + 1 + k2 = qEn; omega) Da.r hW hI K2
          rw [← nI_1] at h9
          exact h9
      · exfalso; omega
  refine L2 qEn 0 qMh qSt qCu qBf none (by show 0 + qEn = qEn; omega) Da.n hW hI ?_
  intro e2_2 e2_1 he2_2 he2_1 hWx hIx
  exact Ev.re rfl rfl rfl rfl rfl
