/-! the class: the last readers (written by gcls3.py) -/
theorem wish_M {qDay D M V : Int32} (h : wishOk qDay D M V = true) : f_r_in M 1 240 = true := by
  unfold wishOk at h
  simp only [Bool.and_eq_true] at h
  exact h.1.2
theorem fs_end2 {M : Int32} {j : Nat} (h : f_r_in M 1 240 = true) (hj : j + 0 = 480) : 480 - M < nI j := by
  have h0 := in_lo h
  have h1 := in_hi h
  have hj : j = 480 := by omega
  subst hj
  have h0 := Int32.not_lt.mp h0
  rw [Int32.le_iff_toInt_le] at h0 h1
  rw [Int32.lt_iff_toInt_lt, Int32.toInt_sub, nI_toInt (by decide)]
  rw [show (1 : Int32).toInt = 1 from rfl] at h0
  rw [show (240 : Int32).toInt = 240 from rfl] at h1
  rw [show (480 : Int32).toInt = 480 from rfl, Int.bmod_eq_of_le (by omega) (by omega)]
  omega
theorem day7 {q : Int32} (h0 : 0 ≤ q.toInt) (h9 : q.toInt ≤ 900) : (q + 6).toInt = q.toInt + 6 := by
  rw [Int32.toInt_add, show (6 : Int32).toInt = 6 from rfl, Int.bmod_eq_of_le (by omega) (by omega)]
theorem day_in {q x : Int32} (h0 : 0 ≤ q.toInt) (h9 : q.toInt ≤ 900) (h : ¬ q + 6 < x) : x.toInt ≤ q.toInt + 6 := by
  have h := Int32.not_lt.mp h
  rw [Int32.le_iff_toInt_le, day7 h0 h9] at h
  exact h
theorem day_1 {x : Int32} (h : x.toInt ≤ 906) : (x + 1).toInt = x.toInt + 1 := by
  have := Int32.le_toInt x
  rw [Int32.toInt_add, show (1 : Int32).toInt = 1 from rfl, Int.bmod_eq_of_le (by omega) (by omega)]
def c_setupMinutes_L32 (qEd : Nat → Int32) (qEw : Nat → Int32) (qMh : Nat → List Nat) (qMs : Nat → Int32) (zc : Nat) (zn : Nat) (k_p0 : Nat) (D : Int32) : Nat → Nat → Int32 → Option Nat → (Re × Nat × Nat)
  | 0, j32, sm, bf =>
    ((.inl (some (vI sm))), zc, zn)
  | k32 + 1, j32, sm, bf =>
    if j32 < (qMh k_p0).length then
      if qEd ((qMh k_p0).getD j32 0) = D then
        oE bf (
          c_setupMinutes_L32 qEd qEw qMh qMs zc zn k_p0 D k32 (j32 + 1) sm (some ((qMh k_p0).getD j32 0))
          ) (fun k6 =>
          c_setupMinutes_L32 qEd qEw qMh qMs zc zn k_p0 D k32 (j32 + 1) (sm + (f_c_setup qMs k_p0 (qEw k6) (qEw ((qMh k_p0).getD j32 0)))) (some ((qMh k_p0).getD j32 0))
          )
      else
        ((.inl (some (vI sm))), zc, zn)
    else
      ((.inl (some (vI sm))), zc, zn)
def f_c_setupMinutes (qDay : Int32) (qEd : Nat → Int32) (qEs : Nat → Int32) (qEw : Nat → Int32) (qMh : Nat → List Nat) (qMn : Nat) (qMs : Nat → Int32) (zc : Nat) (zn : Nat) (p0 D : Int32) : Re × Nat × Nat :=
  if f_r_isMachine qMn p0 = true then
    if f_r_in D 0 (qDay + 6) = true then
      c_setupMinutes_L32 qEd qEw qMh qMs zc zn (nP p0) D ((qMh (nP p0)).length - (f_c_placeOf qEd qEs qMh (nP p0) D 0)) (f_c_placeOf qEd qEs qMh (nP p0) D 0) 0 none
    else
      ((.inr 1), zc + 1, zn + 6)
  else
    ((.inr 0), zc + 1, zn + 6)
theorem s_c_setupMinutes {d : Nat} {zO : Int64} {zD : UInt64} {zX : Nat} {zL : Nat} {zXs : Nat → Int32} {zG5 : List Ob} {zG6 : List Ob} {zG7 : List Ob} {zc : Nat} {zn : Nat} {R : RD} {qNb : Nat → Int32} {qTf : Nat → Nat} {qLn : Nat} {qLy : Nat → Ly} {qMn : Nat} {qMk : Nat → Nat} {qMs : Nat → Int32} {qMh : Nat → List Nat} {qPn : Nat} {qPl : Nat → Nat → Int32} {qPo : Nat → Int32} {qPp : Nat → Int32} {qEn : Nat} {qEm : Nat → Nat} {qEc : Nat → Nat} {qEd : Nat → Int32} {qEs : Nat → Int32} {qEl : Nat → Int32} {qEe : Nat → Int32} {qEw : Nat → Int32} {qSt : Nat → Int32} {qDu : Nat → Int32} {qCu : Nat → List Nat} {qCn : Nat} {qCb : Nat → Nat} {qCl : Nat → Int32} {qBn : Nat} {qBm : Nat → Nat} {qBl : Nat → Int32} {qBf : Nat → Int32} {qKn : Nat} {qKl : Nat → Nat} {qKs : Nat → Nat → Int32} {qPr : Nat → Int32} {qDay : Int32} {qG2 : List Ob} {qG4 : List Ob} {qX1 : List Ob} {qX3 : List Ob} {p0 : Int32} {D : Int32} (hW : WfC qMn qPn qEn qBn qKn qCn qLn qMk qEm qEc qCb qBm qTf qKl qMh qCu qLy) : Cal (d + 2) 37 [vR 8 0, vI p0, vI D] (enc (mkC qNb qTf qLn qLy qMn qMk qMs qMh qPn qPl qPo qPp qEn qEm qEc qEd qEs qEl qEe qEw qSt qDu qCu qCn qCb qCl qBn qBm qBl qBf qKn qKl qKs qPr qDay qG2 qG4 qX1 qX3) R (mkW zO zD zX zL zXs zG5 zG6 zG7 zc zn)) ((f_c_setupMinutes qDay qEd qEs qEw qMh qMn qMs zc zn p0 D).1) (enc (mkC qNb qTf qLn qLy qMn qMk qMs qMh qPn qPl qPo qPp qEn qEm qEc qEd qEs qEl qEe qEw qSt qDu qCu qCn qCb qCl qBn qBm qBl qBf qKn qKl qKs qPr qDay qG2 qG4 qX1 qX3) R (mkW zO zD zX zL zXs zG5 zG6 zG7 ((f_c_setupMinutes qDay qEd qEs qEw qMh qMn qMs zc zn p0 D).2.1) ((f_c_setupMinutes qDay qEd qEs qEw qMh qMn qMs zc zn p0 D).2.2))) := by
  obtain ⟨wMn, wPn, wEn, wBn, wKn, wMk, wEm, wEc, wCb, wBm, wTf, wKl, wMh, wMl, wCu, wCl, wLy⟩ := id hW
  refine Cal.mk (n := 8) rfl (Nat.le_of_ble_eq_true rfl) rfl ?_
  unfold f_c_setupMinutes
  refine Ev.ps 2 rfl ?_
  by_cases c1 : f_r_isMachine qMn p0 = true
  · rw [if_pos c1]
    have q_p0 := isMachine_nat wMn c1
    generalize nP p0 = k_p0 at q_p0 ⊢
    obtain ⟨rfl, hk_p0⟩ := q_p0
    refine Ev.vir (as := [vI (nI k_p0)]) (rest := []) (by rfl) (by rfl) (by rfl) (by rfl) rfl (Nat.le_of_ble_eq_true rfl) (by rfl) (by rw [rd8]; rfl) (s_machineAt rd8 (by rfl) rd11 (by omega) hk_p0 (by rw [rd6 hk_p0]; rfl)) ?_
    refine Ev.ps 4 rfl ?_
    refine Ev.getf (v := vI qDay) (by rfl) (by rfl) (by rfl) (rd8) rfl ?_
    refine Ev.ps 2 rfl ?_
    by_cases c2 : f_r_in D 0 (qDay + 6) = true
    · rw [if_pos c2]
      refine Ev.sta (as := [vI D, vI 0, vI (qDay + 6)]) (rest := []) (by rfl) (by rfl) (by rfl) (by rfl) rfl (Nat.le_of_ble_eq_true rfl) (s_range (in_lo c2) (in_hi c2)) ?_
      refine Ev.ps 7 rfl ?_
      refine Ev.vir (as := [vI D, vI 0]) (rest := []) (by rfl) (by rfl) (by rfl) (by rfl) rfl (Nat.le_of_ble_eq_true rfl) (by rfl) (by rw [rd6 (by have := hk_p0; omega)]; rfl) (s_c_placeOf hW (by have := hk_p0; omega)) ?_
      refine Ev.ps 1 rfl ?_
      have L32 : ∀ (k32 j32 : Nat) (sm : Int32) (bf : Option Nat) (o32_7 : Option MV), (qMh k_p0).length - j32 ≤ k32 → Da o32_7 → j32 ≤ (qMh k_p0).length → (∀ k, bf = some k → k < qEn) → Ev (d + 2) (37, 32, [some (vR 8 0), some (vI (nI k_p0)), some (vI D), some (vR 6 k_p0), some (vI sm), some (refO bf), some (vI (nI j32)), o32_7], []) (enc (mkC qNb qTf qLn qLy qMn qMk qMs qMh qPn qPl qPo qPp qEn qEm qEc qEd qEs qEl qEe qEw qSt qDu qCu qCn qCb qCl qBn qBm qBl qBf qKn qKl qKs qPr qDay qG2 qG4 qX1 qX3) R (mkW zO zD zX zL zXs zG5 zG6 zG7 zc zn)) (((c_setupMinutes_L32 qEd qEw qMh qMs zc zn k_p0 D k32 j32 sm bf).1), enc (mkC qNb qTf qLn qLy qMn qMk qMs qMh qPn qPl qPo qPp qEn qEm qEc qEd qEs qEl qEe qEw qSt qDu qCu qCn qCb qCl qBn qBm qBl qBf qKn qKl qKs qPr qDay qG2 qG4 qX1 qX3) R (mkW zO zD zX zL zXs zG5 zG6 zG7 ((c_setupMinutes_L32 qEd qEw qMh qMs zc zn k_p0 D k32 j32 sm bf).2.1) ((c_setupMinutes_L32 qEd qEw qMh qMs zc zn k_p0 D k32 j32 sm bf).2.2))) := by
        intro k32
        induction k32 with
        | zero =>
          intro j32 sm bf o32_7 hj32 ho32_7 hjl hbf
          rw [c_setupMinutes_L32]
          refine Ev.ps 2 rfl ?_
          refine Ev.getf (v := vR 16 k_p0) (by rfl) (by rfl) (by rfl) (rd6 (by have := hk_p0; omega)) rfl ?_
          refine Ev.lz (N := ((qMh k_p0).length)) (by rfl) (by rfl) (by rfl) (Nat.le_of_ble_eq_true rfl) (rd16 (by have := hk_p0; omega)) (List.length_map ..) ?_
          refine Ev.igeN (a := j32) (b := ((qMh k_p0).length)) (by have := wMl k_p0; omega) (by have := wMl k_p0; omega) (by rfl) (by rfl) (fun (c3 : j32 < (qMh k_p0).length) => ?_) (fun (c3 : ¬ j32 < (qMh k_p0).length) => ?_)
          · exfalso; omega
          · refine Ev.ps 1 rfl ?_
            exact Ev.re rfl rfl rfl rfl rfl
        | succ k32 ih32 =>
          intro j32 sm bf o32_7 hj32 ho32_7 hjl hbf
          rw [c_setupMinutes_L32]
          refine Ev.ps 2 rfl ?_
          refine Ev.getf (v := vR 16 k_p0) (by rfl) (by rfl) (by rfl) (rd6 (by have := hk_p0; omega)) rfl ?_
          refine Ev.lz (N := ((qMh k_p0).length)) (by rfl) (by rfl) (by rfl) (Nat.le_of_ble_eq_true rfl) (rd16 (by have := hk_p0; omega)) (List.length_map ..) ?_
          refine Ev.igeN (a := j32) (b := ((qMh k_p0).length)) (by have := wMl k_p0; omega) (by have := wMl k_p0; omega) (by rfl) (by rfl) (fun (c4 : j32 < (qMh k_p0).length) => ?_) (fun (c4 : ¬ j32 < (qMh k_p0).length) => ?_)
          · rw [if_pos c4]
            refine Ev.ps 1 rfl ?_
            refine Ev.getf (v := vR 16 k_p0) (by rfl) (by rfl) (by rfl) (rd6 (by have := hk_p0; omega)) rfl ?_
            refine Ev.ps 1 rfl ?_
            refine Ev.lg (j := j32) (v := vR 3 ((qMh k_p0).getD j32 0)) (by rfl) (by rfl) (by rfl) (Nat.le_of_ble_eq_true rfl) (rd16 (by have := hk_p0; omega)) (by have := wMl k_p0; have := wMl k_p0; omega) (mapget (by have := wMl k_p0; omega)) ?_
            refine Ev.cst (by rfl) (by rfl) (by rfl) (by rw [rd3 (by have := wMh _ _ (getD_mem (d := 0) (by have := wMl k_p0; omega)); omega)]; rfl) ?_
            refine Ev.getf (v := vI (qEd ((qMh k_p0).getD j32 0))) (by rfl) (by rfl) (by rfl) (rd3 (by have := wMh _ _ (getD_mem (d := 0) (by have := wMl k_p0; omega)); omega)) rfl ?_
            refine Ev.ps 1 rfl ?_
            refine Ev.ine (by rfl) (by rfl) (fun (c5 : qEd ((qMh k_p0).getD j32 0) = D) => ?_) (fun (c5 : ¬ qEd ((qMh k_p0).getD j32 0) = D) => ?_)
            · rw [if_pos c5]
              refine Ev.ps 1 rfl ?_
              refine Ev.getf (v := vR 16 k_p0) (by rfl) (by rfl) (by rfl) (rd6 (by have := hk_p0; omega)) rfl ?_
              refine Ev.ps 1 rfl ?_
              refine Ev.lg (j := j32) (v := vR 3 ((qMh k_p0).getD j32 0)) (by rfl) (by rfl) (by rfl) (Nat.le_of_ble_eq_true rfl) (rd16 (by have := hk_p0; omega)) (by have := wMl k_p0; have := wMl k_p0; omega) (mapget (by have := wMl k_p0; omega)) ?_
              refine Ev.cst (by rfl) (by rfl) (by rfl) (by rw [rd3 (by have := wMh _ _ (getD_mem (d := 0) (by have := wMl k_p0; omega)); omega)]; rfl) ?_
              refine Ev.ps 1 rfl ?_
              cases bf with
              | none =>
                dsimp only [oE]
                refine Ev.ps 6 rfl ?_
                have h9 := ih32 (j32 + 1) sm (some ((qMh k_p0).getD j32 0)) (some (vR 3 ((qMh k_p0).getD j32 0))) (by omega) Da.r (by omega) (by intro k9 z9; cases z9; exact wMh _ _ (getD_mem (d := 0) (by omega)))
                rw [← nI_1] at h9
                exact h9
              | some k6 =>
                dsimp only [oE]
                refine Ev.ps 5 rfl ?_
                refine Ev.getf (v := vI (qEw k6)) (by rfl) (by rfl) (by rfl) (rd3 (by have := hbf _ rfl; omega)) rfl ?_
                refine Ev.ps 1 rfl ?_
                refine Ev.getf (v := vI (qEw ((qMh k_p0).getD j32 0))) (by rfl) (by rfl) (by rfl) (rd3 (by have := wMh _ _ (getD_mem (d := 0) (by have := wMl k_p0; omega)); omega)) rfl ?_
                refine Ev.vir (as := [vI (qEw k6), vI (qEw ((qMh k_p0).getD j32 0))]) (rest := [vI sm]) (by rfl) (by rfl) (by rfl) (by rfl) rfl (Nat.le_of_ble_eq_true rfl) (by rfl) (by rw [rd6 (by have := hk_p0; omega)]; rfl) (s_c_setup hW (by have := hk_p0; omega)) ?_
                refine Ev.ps 6 rfl ?_
                have h9 := ih32 (j32 + 1) (sm + (f_c_setup qMs k_p0 (qEw k6) (qEw ((qMh k_p0).getD j32 0)))) (some ((qMh k_p0).getD j32 0)) (some (vR 3 ((qMh k_p0).getD j32 0))) (by omega) Da.r (by omega) (by intro k9 z9; cases z9; exact wMh _ _ (getD_mem (d := 0) (by omega)))
                rw [← nI_1] at h9
                exact h9
            · rw [if_neg c5]
              refine Ev.ps 1 rfl ?_
              exact Ev.re rfl rfl rfl rfl rfl
          · rw [if_neg c4]
            refine Ev.ps 1 rfl ?_
            exact Ev.re rfl rfl rfl rfl rfl
      exact L32 ((qMh k_p0).length - (f_c_placeOf qEd qEs qMh k_p0 D 0)) (f_c_placeOf qEd qEs qMh k_p0 D 0) 0 none none (Nat.le_refl _) Da.n place_le (fun _ z => nomatch z)
    · rw [if_neg c2]
      exact Ev.staX (as := [vI D, vI 0, vI (qDay + 6)]) (rest := []) (by rfl) (by rfl) (by rfl) (by rfl) rfl (Nat.le_of_ble_eq_true rfl) (cexc (s_rangeX (in_not c2))) (by rfl)
  · rw [if_neg c1]
    exact Ev.virX (as := [vI p0]) (rest := []) (by rfl) (by rfl) (by rfl) (by rfl) rfl (Nat.le_of_ble_eq_true rfl) (by rfl) (by rw [rd8]; rfl) (cexc (s_machineAtX rd8 (by rfl) rd11 (not_in_nat (by omega) c1))) (by rfl)
def c_firstByMinutes_L27 (qEc : Nat → Nat) (qEd : Nat → Int32) (qEe : Nat → Int32) (qEl : Nat → Int32) (qEm : Nat → Nat) (qEs : Nat → Int32) (qEw : Nat → Int32) (qMh : Nat → List Nat) (qMs : Nat → Int32) (qSt : Nat → Int32) (zc : Nat) (zn : Nat) (k_p0 : Nat) (D : Int32) (M : Int32) (V : Int32) : Nat → Nat → (Re × Nat × Nat)
  | 0, j27 =>
    ((.inr 4), zc + 1, zn + 6)
  | k27 + 1, j27 =>
    if 480 - M < nI j27 then
      ((.inr 4), zc + 1, zn + 6)
    else
      if f_c_isFree qEm qEc qEd qEs qEl qEe qEw qSt qMh qMs k_p0 (f_c_placeOf qEd qEs qMh k_p0 D 0) D (nI j27) M V then ((.inl (some (vI (nI j27)))), zc, zn) else c_firstByMinutes_L27 qEc qEd qEe qEl qEm qEs qEw qMh qMs qSt zc zn k_p0 D M V k27 (j27 + 1) 
def f_c_firstByMinutes (qDay : Int32) (qEc : Nat → Nat) (qEd : Nat → Int32) (qEe : Nat → Int32) (qEl : Nat → Int32) (qEm : Nat → Nat) (qEs : Nat → Int32) (qEw : Nat → Int32) (qMh : Nat → List Nat) (qMn : Nat) (qMs : Nat → Int32) (qSt : Nat → Int32) (zc : Nat) (zn : Nat) (p0 D M V : Int32) : Re × Nat × Nat :=
  if f_r_isMachine qMn p0 = true then
    if wishOk qDay D M V = true then c_firstByMinutes_L27 qEc qEd qEe qEl qEm qEs qEw qMh qMs qSt zc zn (nP p0) D M V 480 0  else ((.inr 1), zc + 1, zn + 6)
  else
    ((.inr 0), zc + 1, zn + 6)
theorem s_c_firstByMinutes {d : Nat} {zO : Int64} {zD : UInt64} {zX : Nat} {zL : Nat} {zXs : Nat → Int32} {zG5 : List Ob} {zG6 : List Ob} {zG7 : List Ob} {zc : Nat} {zn : Nat} {R : RD} {qNb : Nat → Int32} {qTf : Nat → Nat} {qLn : Nat} {qLy : Nat → Ly} {qMn : Nat} {qMk : Nat → Nat} {qMs : Nat → Int32} {qMh : Nat → List Nat} {qPn : Nat} {qPl : Nat → Nat → Int32} {qPo : Nat → Int32} {qPp : Nat → Int32} {qEn : Nat} {qEm : Nat → Nat} {qEc : Nat → Nat} {qEd : Nat → Int32} {qEs : Nat → Int32} {qEl : Nat → Int32} {qEe : Nat → Int32} {qEw : Nat → Int32} {qSt : Nat → Int32} {qDu : Nat → Int32} {qCu : Nat → List Nat} {qCn : Nat} {qCb : Nat → Nat} {qCl : Nat → Int32} {qBn : Nat} {qBm : Nat → Nat} {qBl : Nat → Int32} {qBf : Nat → Int32} {qKn : Nat} {qKl : Nat → Nat} {qKs : Nat → Nat → Int32} {qPr : Nat → Int32} {qDay : Int32} {qG2 : List Ob} {qG4 : List Ob} {qX1 : List Ob} {qX3 : List Ob} {p0 : Int32} {D : Int32} {M : Int32} {V : Int32} (hW : WfC qMn qPn qEn qBn qKn qCn qLn qMk qEm qEc qCb qBm qTf qKl qMh qCu qLy) : Cal (d + 2) 39 [vR 8 0, vI p0, vI D, vI M, vI V] (enc (mkC qNb qTf qLn qLy qMn qMk qMs qMh qPn qPl qPo qPp qEn qEm qEc qEd qEs qEl qEe qEw qSt qDu qCu qCn qCb qCl qBn qBm qBl qBf qKn qKl qKs qPr qDay qG2 qG4 qX1 qX3) R (mkW zO zD zX zL zXs zG5 zG6 zG7 zc zn)) ((f_c_firstByMinutes qDay qEc qEd qEe qEl qEm qEs qEw qMh qMn qMs qSt zc zn p0 D M V).1) (enc (mkC qNb qTf qLn qLy qMn qMk qMs qMh qPn qPl qPo qPp qEn qEm qEc qEd qEs qEl qEe qEw qSt qDu qCu qCn qCb qCl qBn qBm qBl qBf qKn qKl qKs qPr qDay qG2 qG4 qX1 qX3) R (mkW zO zD zX zL zXs zG5 zG6 zG7 ((f_c_firstByMinutes qDay qEc qEd qEe qEl qEm qEs qEw qMh qMn qMs qSt zc zn p0 D M V).2.1) ((f_c_firstByMinutes qDay qEc qEd qEe qEl qEm qEs qEw qMh qMn qMs qSt zc zn p0 D M V).2.2))) := by
  obtain ⟨wMn, wPn, wEn, wBn, wKn, wMk, wEm, wEc, wCb, wBm, wTf, wKl, wMh, wMl, wCu, wCl, wLy⟩ := id hW
  refine Cal.mk (n := 8) rfl (Nat.le_of_ble_eq_true rfl) rfl ?_
  unfold f_c_firstByMinutes
  refine Ev.ps 2 rfl ?_
  by_cases c1 : f_r_isMachine qMn p0 = true
  · rw [if_pos c1]
    have q_p0 := isMachine_nat wMn c1
    generalize nP p0 = k_p0 at q_p0 ⊢
    obtain ⟨rfl, hk_p0⟩ := q_p0
    refine Ev.vir (as := [vI (nI k_p0)]) (rest := []) (by rfl) (by rfl) (by rfl) (by rfl) rfl (Nat.le_of_ble_eq_true rfl) (by rfl) (by rw [rd8]; rfl) (s_machineAt rd8 (by rfl) rd11 (by omega) hk_p0 (by rw [rd6 hk_p0]; rfl)) ?_
    refine Ev.ps 5 rfl ?_
    by_cases c2 : wishOk qDay D M V = true
    · rw [if_pos c2]
      refine Ev.vir (as := [vI D, vI M, vI V]) (rest := []) (by rfl) (by rfl) (by rfl) (by rfl) rfl (Nat.le_of_ble_eq_true rfl) (by rfl) (by rw [rd8]; rfl) (s_c_wishOk hW c2) ?_
      refine Ev.ps 3 rfl ?_
      refine Ev.vir (as := [vI D, vI 0]) (rest := []) (by rfl) (by rfl) (by rfl) (by rfl) rfl (Nat.le_of_ble_eq_true rfl) (by rfl) (by rw [rd6 (by have := hk_p0; omega)]; rfl) (s_c_placeOf hW (by have := hk_p0; omega)) ?_
      refine Ev.ps 3 rfl ?_
      have L27 : ∀ (k27 j27 : Nat), j27 + k27 = 480 → Ev (d + 2) (39, 27, [some (vR 8 0), some (vI (nI k_p0)), some (vI D), some (vI M), some (vI V), some (vR 6 k_p0), some (vI (nI (f_c_placeOf qEd qEs qMh k_p0 D 0))), some (vI (nI j27))], []) (enc (mkC qNb qTf qLn qLy qMn qMk qMs qMh qPn qPl qPo qPp qEn qEm qEc qEd qEs qEl qEe qEw qSt qDu qCu qCn qCb qCl qBn qBm qBl qBf qKn qKl qKs qPr qDay qG2 qG4 qX1 qX3) R (mkW zO zD zX zL zXs zG5 zG6 zG7 zc zn)) (((c_firstByMinutes_L27 qEc qEd qEe qEl qEm qEs qEw qMh qMs qSt zc zn k_p0 D M V k27 j27 ).1), enc (mkC qNb qTf qLn qLy qMn qMk qMs qMh qPn qPl qPo qPp qEn qEm qEc qEd qEs qEl qEe qEw qSt qDu qCu qCn qCb qCl qBn qBm qBl qBf qKn qKl qKs qPr qDay qG2 qG4 qX1 qX3) R (mkW zO zD zX zL zXs zG5 zG6 zG7 ((c_firstByMinutes_L27 qEc qEd qEe qEl qEm qEs qEw qMh qMs qSt zc zn k_p0 D M V k27 j27 ).2.1) ((c_firstByMinutes_L27 qEc qEd qEe qEl qEm qEs qEw qMh qMs qSt zc zn k_p0 D M V k27 j27 ).2.2))) := by
        intro k27
        induction k27 with
        | zero =>
          intro j27 hj27
          rw [c_firstByMinutes_L27]
          refine Ev.ps 4 rfl ?_
          refine Ev.igt (by rfl) (by rfl) (fun (c3 : 480 - M < nI j27) => ?_) (fun (c3 : ¬ 480 - M < nI j27) => ?_)
          · exact Ev.thwE (by rfl)
          · exact absurd (fs_end2 (wish_M (by assumption)) hj27) (by assumption)
        | succ k27 ih27 =>
          intro j27 hj27
          rw [c_firstByMinutes_L27]
          refine Ev.ps 4 rfl ?_
          refine Ev.igt (by rfl) (by rfl) (fun (c4 : 480 - M < nI j27) => ?_) (fun (c4 : ¬ 480 - M < nI j27) => ?_)
          · rw [if_pos c4]
            exact Ev.thwE (by rfl)
          · rw [if_neg c4]
            refine Ev.ps 6 rfl ?_
            refine Ev.sta (as := [vR 6 k_p0, vI (nI (f_c_placeOf qEd qEs qMh k_p0 D 0)), vI D, vI (nI j27), vI M, vI V]) (rest := []) (by rfl) (by rfl) (by rfl) (by rfl) rfl (Nat.le_of_ble_eq_true rfl) (s_c_isFree hW (by have := hk_p0; omega) (by have := place_le (qEd := qEd) (qEs := qEs) (qMh := qMh) (mm := k_p0) (D := D) (S := 0); have := wMl k_p0; omega)) ?_
            refine Ev.ifbe (by rfl) (by rfl) (fun c5 => ?_) (fun c5 => ?_)
            · rw [if_pos c5]
              refine Ev.ps 1 rfl ?_
              exact Ev.re rfl rfl rfl rfl rfl
            · rw [if_neg c5]
              refine Ev.ps 2 rfl ?_
              have h9 := ih27 (j27 + 1) (by show j27 + 1 + k27 = 480; omega)
              rw [← nI_1] at h9
              exact h9
      exact L27 480 0 (by show 0 + 480 = 480; omega)
    · rw [if_neg c2]
      exact Ev.virX (as := [vI D, vI M, vI V]) (rest := []) (by rfl) (by rfl) (by rfl) (by rfl) rfl (Nat.le_of_ble_eq_true rfl) (by rfl) (by rw [rd8]; rfl) (s_c_wishX hW c2) (by rfl)
  · rw [if_neg c1]
    exact Ev.virX (as := [vI p0]) (rest := []) (by rfl) (by rfl) (by rfl) (by rfl) rfl (Nat.le_of_ble_eq_true rfl) (by rfl) (by rw [rd8]; rfl) (cexc (s_machineAtX rd8 (by rfl) rd11 (not_in_nat (by omega) c1))) (by rfl)
def c_minAgree_L30 (qDay : Int32) (qEc : Nat → Nat) (qEd : Nat → Int32) (qEe : Nat → Int32) (qEl : Nat → Int32) (qEm : Nat → Nat) (qEs : Nat → Int32) (qEw : Nat → Int32) (qMh : Nat → List Nat) (qMs : Nat → Int32) (qSt : Nat → Int32) (j2 : Nat) : Nat → Int32 → Bool → (Bool)
  | 0, dd, nx30 =>
    nx30
  | k30 + 1, dd, nx30 =>
    if qDay + 6 < dd then
      nx30
    else
      if f_c_lengths qEd qEl qEs qMh j2 dd = f_c_count qEm qEc qEd qEs qEl qEe qEw qSt qMh qMs j2 dd then c_minAgree_L30 qDay qEc qEd qEe qEl qEm qEs qEw qMh qMs qSt j2 k30 (dd + 1) nx30 else false
def c_minAgree_L2 (qDay : Int32) (qEc : Nat → Nat) (qEd : Nat → Int32) (qEe : Nat → Int32) (qEl : Nat → Int32) (qEm : Nat → Nat) (qEs : Nat → Int32) (qEw : Nat → Int32) (qMh : Nat → List Nat) (qMs : Nat → Int32) (qSt : Nat → Int32)  : Nat → Nat → (Bool)
  | 0, j2 =>
    true
  | k2 + 1, j2 =>
    c_minAgree_L30 qDay qEc qEd qEe qEl qEm qEs qEw qMh qMs qSt j2 ((qDay.toInt + 7 - qDay.toInt).toNat) qDay (
      c_minAgree_L2 qDay qEc qEd qEe qEl qEm qEs qEw qMh qMs qSt  k2 (j2 + 1) 
      )
def f_c_minAgree (qDay : Int32) (qEc : Nat → Nat) (qEd : Nat → Int32) (qEe : Nat → Int32) (qEl : Nat → Int32) (qEm : Nat → Nat) (qEs : Nat → Int32) (qEw : Nat → Int32) (qMh : Nat → List Nat) (qMn : Nat) (qMs : Nat → Int32) (qSt : Nat → Int32)  : Bool :=
  c_minAgree_L2 qDay qEc qEd qEe qEl qEm qEs qEw qMh qMs qSt  qMn 0 
theorem s_c_minAgree {d : Nat} {zO : Int64} {zD : UInt64} {zX : Nat} {zL : Nat} {zXs : Nat → Int32} {zG5 : List Ob} {zG6 : List Ob} {zG7 : List Ob} {zc : Nat} {zn : Nat} {R : RD} {qNb : Nat → Int32} {qTf : Nat → Nat} {qLn : Nat} {qLy : Nat → Ly} {qMn : Nat} {qMk : Nat → Nat} {qMs : Nat → Int32} {qMh : Nat → List Nat} {qPn : Nat} {qPl : Nat → Nat → Int32} {qPo : Nat → Int32} {qPp : Nat → Int32} {qEn : Nat} {qEm : Nat → Nat} {qEc : Nat → Nat} {qEd : Nat → Int32} {qEs : Nat → Int32} {qEl : Nat → Int32} {qEe : Nat → Int32} {qEw : Nat → Int32} {qSt : Nat → Int32} {qDu : Nat → Int32} {qCu : Nat → List Nat} {qCn : Nat} {qCb : Nat → Nat} {qCl : Nat → Int32} {qBn : Nat} {qBm : Nat → Nat} {qBl : Nat → Int32} {qBf : Nat → Int32} {qKn : Nat} {qKl : Nat → Nat} {qKs : Nat → Nat → Int32} {qPr : Nat → Int32} {qDay : Int32} {qG2 : List Ob} {qG4 : List Ob} {qX1 : List Ob} {qX3 : List Ob}  (hW : WfC qMn qPn qEn qBn qKn qCn qLn qMk qEm qEc qCb qBm qTf qKl qMh qCu qLy) (hD : 0 ≤ qDay.toInt ∧ qDay.toInt ≤ 900) : Cal (d + 3) 107 [vR 8 0] (enc (mkC qNb qTf qLn qLy qMn qMk qMs qMh qPn qPl qPo qPp qEn qEm qEc qEd qEs qEl qEe qEw qSt qDu qCu qCn qCb qCl qBn qBm qBl qBf qKn qKl qKs qPr qDay qG2 qG4 qX1 qX3) R (mkW zO zD zX zL zXs zG5 zG6 zG7 zc zn)) (.inl (some (vI (bI (f_c_minAgree qDay qEc qEd qEe qEl qEm qEs qEw qMh qMn qMs qSt))))) (enc (mkC qNb qTf qLn qLy qMn qMk qMs qMh qPn qPl qPo qPp qEn qEm qEc qEd qEs qEl qEe qEw qSt qDu qCu qCn qCb qCl qBn qBm qBl qBf qKn qKl qKs qPr qDay qG2 qG4 qX1 qX3) R (mkW zO zD zX zL zXs zG5 zG6 zG7 zc zn)) := by
  obtain ⟨wMn, wPn, wEn, wBn, wKn, wMk, wEm, wEc, wCb, wBm, wTf, wKl, wMh, wMl, wCu, wCl, wLy⟩ := id hW
  obtain ⟨hD0, hD9⟩ := id hD
  refine Cal.mk (n := 4) rfl (Nat.le_of_ble_eq_true rfl) rfl ?_
  unfold f_c_minAgree
  refine Ev.ps 2 rfl ?_
  have L2 : ∀ (k2 j2 : Nat) (o2_2 : Option MV) (o2_3 : Option MV), j2 + k2 = qMn → Da o2_2 → Da o2_3 → Ev (d + 3) (107, 2, [some (vR 8 0), some (vI (nI j2)), o2_2, o2_3], []) (enc (mkC qNb qTf qLn qLy qMn qMk qMs qMh qPn qPl qPo qPp qEn qEm qEc qEd qEs qEl qEe qEw qSt qDu qCu qCn qCb qCl qBn qBm qBl qBf qKn qKl qKs qPr qDay qG2 qG4 qX1 qX3) R (mkW zO zD zX zL zXs zG5 zG6 zG7 zc zn)) ((.inl (some (vI (bI (c_minAgree_L2 qDay qEc qEd qEe qEl qEm qEs qEw qMh qMs qSt  k2 j2 ))))), enc (mkC qNb qTf qLn qLy qMn qMk qMs qMh qPn qPl qPo qPp qEn qEm qEc qEd qEs qEl qEe qEw qSt qDu qCu qCn qCb qCl qBn qBm qBl qBf qKn qKl qKs qPr qDay qG2 qG4 qX1 qX3) R (mkW zO zD zX zL zXs zG5 zG6 zG7 zc zn)) := by
    intro k2
    induction k2 with
    | zero =>
      intro j2 o2_2 o2_3 hj2 ho2_2 ho2_3
      rw [c_minAgree_L2]
      refine Ev.ps 2 rfl ?_
      refine Ev.getf (v := vR 11 0) (by rfl) (by rfl) (by rfl) (rd8) rfl ?_
      refine Ev.lz (N := qMn) (by rfl) (by rfl) (by rfl) (Nat.le_of_ble_eq_true rfl) (rd11) range_len ?_
      refine Ev.igeN (a := j2) (b := qMn) (by omega) (by omega) (by rfl) (by rfl) (fun (c1 : j2 < qMn) => ?_) (fun (c1 : ¬ j2 < qMn) => ?_)
      · exfalso; omega
      · refine Ev.ps 1 rfl ?_
        exact Ev.re rfl rfl rfl rfl rfl
    | succ k2 ih2 =>
      intro j2 o2_2 o2_3 hj2 ho2_2 ho2_3
      rw [c_minAgree_L2]
      refine Ev.ps 2 rfl ?_
      refine Ev.getf (v := vR 11 0) (by rfl) (by rfl) (by rfl) (rd8) rfl ?_
      refine Ev.lz (N := qMn) (by rfl) (by rfl) (by rfl) (Nat.le_of_ble_eq_true rfl) (rd11) range_len ?_
      refine Ev.igeN (a := j2) (b := qMn) (by omega) (by omega) (by rfl) (by rfl) (fun (c2 : j2 < qMn) => ?_) (fun (c2 : ¬ j2 < qMn) => ?_)
      · refine Ev.ps 1 rfl ?_
        refine Ev.getf (v := vR 11 0) (by rfl) (by rfl) (by rfl) (rd8) rfl ?_
        refine Ev.ps 1 rfl ?_
        refine Ev.lg (j := j2) (v := vR 6 j2) (by rfl) (by rfl) (by rfl) (Nat.le_of_ble_eq_true rfl) (rd11) (by omega) (range_get (by omega)) ?_
        refine Ev.cst (by rfl) (by rfl) (by rfl) (by rw [rd6 (by omega)]; rfl) ?_
        refine Ev.ps 2 rfl ?_
        refine Ev.getf (v := vI qDay) (by rfl) (by rfl) (by rfl) (rd8) rfl ?_
        refine Ev.ps 1 rfl ?_
        have L30 : ∀ (k30 : Nat) (dd : Int32) (nx30 : Bool), (qDay.toInt + 7 - dd.toInt).toNat ≤ k30 → (∀ (e30_3 : Option MV), Da e30_3 → Ev (d + 3) (107, 62, [some (vR 8 0), some (vI (nI j2)), some (vR 6 j2), e30_3], []) (enc (mkC qNb qTf qLn qLy qMn qMk qMs qMh qPn qPl qPo qPp qEn qEm qEc qEd qEs qEl qEe qEw qSt qDu qCu qCn qCb qCl qBn qBm qBl qBf qKn qKl qKs qPr qDay qG2 qG4 qX1 qX3) R (mkW zO zD zX zL zXs zG5 zG6 zG7 zc zn)) ((.inl (some (vI (bI nx30)))), enc (mkC qNb qTf qLn qLy qMn qMk qMs qMh qPn qPl qPo qPp qEn qEm qEc qEd qEs qEl qEe qEw qSt qDu qCu qCn qCb qCl qBn qBm qBl qBf qKn qKl qKs qPr qDay qG2 qG4 qX1 qX3) R (mkW zO zD zX zL zXs zG5 zG6 zG7 zc zn))) → Ev (d + 3) (107, 30, [some (vR 8 0), some (vI (nI j2)), some (vR 6 j2), some (vI dd)], []) (enc (mkC qNb qTf qLn qLy qMn qMk qMs qMh qPn qPl qPo qPp qEn qEm qEc qEd qEs qEl qEe qEw qSt qDu qCu qCn qCb qCl qBn qBm qBl qBf qKn qKl qKs qPr qDay qG2 qG4 qX1 qX3) R (mkW zO zD zX zL zXs zG5 zG6 zG7 zc zn)) ((.inl (some (vI (bI (c_minAgree_L30 qDay qEc qEd qEe qEl qEm qEs qEw qMh qMs qSt j2 k30 dd nx30))))), enc (mkC qNb qTf qLn qLy qMn qMk qMs qMh qPn qPl qPo qPp qEn qEm qEc qEd qEs qEl qEe qEw qSt qDu qCu qCn qCb qCl qBn qBm qBl qBf qKn qKl qKs qPr qDay qG2 qG4 qX1 qX3) R (mkW zO zD zX zL zXs zG5 zG6 zG7 zc zn)) := by
          intro k30
          induction k30 with
          | zero =>
            intro dd nx30 hj30 K30
            rw [c_minAgree_L30]
            refine Ev.ps 2 rfl ?_
            refine Ev.getf (v := vI qDay) (by rfl) (by rfl) (by rfl) (rd8) rfl ?_
            refine Ev.ps 2 rfl ?_
            refine Ev.igt (by rfl) (by rfl) (fun (c3 : qDay + 6 < dd) => ?_) (fun (c3 : ¬ qDay + 6 < dd) => ?_)
            · exact K30 _ Da.i
            · have hq := day_in hD.1 hD.2 (by assumption); exfalso; omega
          | succ k30 ih30 =>
            intro dd nx30 hj30 K30
            rw [c_minAgree_L30]
            refine Ev.ps 2 rfl ?_
            refine Ev.getf (v := vI qDay) (by rfl) (by rfl) (by rfl) (rd8) rfl ?_
            refine Ev.ps 2 rfl ?_
            refine Ev.igt (by rfl) (by rfl) (fun (c4 : qDay + 6 < dd) => ?_) (fun (c4 : ¬ qDay + 6 < dd) => ?_)
            · rw [if_pos c4]
              exact K30 _ Da.i
            · rw [if_neg c4]
              refine Ev.ps 2 rfl ?_
              refine Ev.sta (as := [vR 6 j2, vI dd]) (rest := []) (by rfl) (by rfl) (by rfl) (by rfl) rfl (Nat.le_of_ble_eq_true rfl) (s_c_lengths hW (by omega)) ?_
              refine Ev.ps 2 rfl ?_
              refine Ev.sta (as := [vR 6 j2, vI dd]) (rest := [vI (f_c_lengths qEd qEl qEs qMh j2 dd)]) (by rfl) (by rfl) (by rfl) (by rfl) rfl (Nat.le_of_ble_eq_true rfl) (s_c_count hW (by omega)) ?_
              refine Ev.ieq (by rfl) (by rfl) (fun (c5 : f_c_lengths qEd qEl qEs qMh j2 dd = f_c_count qEm qEc qEd qEs qEl qEe qEw qSt qMh qMs j2 dd) => ?_) (fun (c5 : ¬ f_c_lengths qEd qEl qEs qMh j2 dd = f_c_count qEm qEc qEd qEs qEl qEe qEw qSt qMh qMs j2 dd) => ?_)
              · rw [if_pos c5]
                refine Ev.ps 2 rfl ?_
                have h9 := ih30  (dd + 1) nx30 (by have hq := day_in hD.1 hD.2 (x := dd) (by assumption); have hr := day_1 (x := dd) (by omega); omega) K30
                exact h9
              · rw [if_neg c5]
                refine Ev.ps 1 rfl ?_
                exact Ev.re rfl rfl rfl rfl rfl
        refine L30 ((qDay.toInt + 7 - qDay.toInt).toNat) qDay _ (Nat.le_refl _) ?_
        intro e30_3 he30_3
        refine Ev.ps 2 rfl ?_
        have h9 := ih2 (j2 + 1) (some (vR 6 j2)) e30_3 (by show j2 + 1 + k2 = qMn; omega) Da.r he30_3
        rw [← nI_1] at h9
        exact h9
      · exfalso; omega
  exact L2 qMn 0 none none (by show 0 + qMn = qMn; omega) Da.n Da.n
