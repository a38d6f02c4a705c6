/-! heaps after a new object as the records that they stand for (written by gmk.py) -/
theorem hget_newi {h : Hp} {s c n i : Nat} {o : Ob} (hs : (h.1 s).length = i) : hget (hnew h s [o] c n) s i = some o := by
  subst hs
  exact hget_new
theorem getD_set_ne' {l : List (List Ob)} {s t : Nat} {p : List Ob} (h : t ≠ s) : (l.set s p).getD t [] = l.getD t [] := by
  rw [List.getD_eq_getElem?_getD, List.getD_eq_getElem?_getD, List.getElem?_set_ne (fun z => h z.symm)]
theorem getD_set_eq' {l : List (List Ob)} {s : Nat} {p : List Ob} (h : s < l.length) : (l.set s p).getD s [] = p := by
  rw [List.getD_eq_getElem?_getD, List.getElem?_set_self h]
  rfl
theorem heq1 {l l' : List (List Ob)} {s1 : Nat} {p1 : List Ob} (E : l.set s1 p1 = l') (h1 : s1 < l.length) {f : Nat → List Ob} (f1 : f s1 = p1) (fo : ∀ t, t ≠ s1 → f t = l.getD t []) : f = fun t => l'.getD t [] := by
  subst E
  funext t
  by_cases e1 : t = s1
  · subst e1
    rw [getD_set_eq' (by first | exact h1 | (simp only [List.length_set]; exact h1)), f1]
  rw [getD_set_ne' e1]
  exact fo t e1
theorem heq2 {l l' : List (List Ob)} {s1 s2 : Nat} {p1 p2 : List Ob} (E : (l.set s1 p1).set s2 p2 = l') (h1 : s1 < l.length) (h2 : s2 < l.length) {f : Nat → List Ob} (f1 : f s1 = p1) (f2 : f s2 = p2) (fo : ∀ t, t ≠ s1 → t ≠ s2 → f t = l.getD t []) : f = fun t => l'.getD t [] := by
  subst E
  funext t
  by_cases e2 : t = s2
  · subst e2
    rw [getD_set_eq' (by first | exact h2 | (simp only [List.length_set]; exact h2)), f2]
  rw [getD_set_ne' e2]
  by_cases e1 : t = s1
  · subst e1
    rw [getD_set_eq' (by first | exact h1 | (simp only [List.length_set]; exact h1)), f1]
  rw [getD_set_ne' e1]
  exact fo t e1 e2
theorem heq3 {l l' : List (List Ob)} {s1 s2 s3 : Nat} {p1 p2 p3 : List Ob} (E : ((l.set s1 p1).set s2 p2).set s3 p3 = l') (h1 : s1 < l.length) (h2 : s2 < l.length) (h3 : s3 < l.length) {f : Nat → List Ob} (f1 : f s1 = p1) (f2 : f s2 = p2) (f3 : f s3 = p3) (fo : ∀ t, t ≠ s1 → t ≠ s2 → t ≠ s3 → f t = l.getD t []) : f = fun t => l'.getD t [] := by
  subst E
  funext t
  by_cases e3 : t = s3
  · subst e3
    rw [getD_set_eq' (by first | exact h3 | (simp only [List.length_set]; exact h3)), f3]
  rw [getD_set_ne' e3]
  by_cases e2 : t = s2
  · subst e2
    rw [getD_set_eq' (by first | exact h2 | (simp only [List.length_set]; exact h2)), f2]
  rw [getD_set_ne' e2]
  by_cases e1 : t = s1
  · subst e1
    rw [getD_set_eq' (by first | exact h1 | (simp only [List.length_set]; exact h1)), f1]
  rw [getD_set_ne' e1]
  exact fo t e1 e2 e3
theorem range_app {n s : Nat} : (List.range n).map (vR s) ++ [vR s n] = (List.range (n + 1)).map (vR s) := by
  rw [List.range_succ, List.map_append]
  rfl
section MO
variable {qNb : Nat → Int32} {qTf : Nat → Nat} {qLn : Nat} {qLy : Nat → Ly} {qMn : Nat} {qMk : Nat → Nat} {qMs : Nat → Int32} {qMh : Nat → List Nat} {qPn : Nat} {qPl : Nat → Nat → Int32} {qPo : Nat → Int32} {qPp : Nat → Int32} {qEn : Nat} {qEm : Nat → Nat} {qEc : Nat → Nat} {qEd : Nat → Int32} {qEs : Nat → Int32} {qEl : Nat → Int32} {qEe : Nat → Int32} {qEw : Nat → Int32} {qSt : Nat → Int32} {qDu : Nat → Int32} {qCu : Nat → List Nat} {qCn : Nat} {qCb : Nat → Nat} {qCl : Nat → Int32} {qBn : Nat} {qBm : Nat → Nat} {qBl : Nat → Int32} {qBf : Nat → Int32} {qKn : Nat} {qKl : Nat → Nat} {qKs : Nat → Nat → Int32} {qPr : Nat → Int32} {qDay : Int32} {qG2 : List Ob} {qG4 : List Ob} {qX1 : List Ob} {qX3 : List Ob} {R : RD} {zO : Int64} {zD : UInt64} {zX : Nat} {zL : Nat} {zXs : Nat → Int32} {zG5 : List Ob} {zG6 : List Ob} {zG7 : List Ob} {zc : Nat} {zn : Nat}
def exps (R : RD) (qNb : Nat → Int32) (qTf : Nat → Nat) (qLn : Nat) (qLy : Nat → Ly) (qMn : Nat) (qMk : Nat → Nat) (qMs : Nat → Int32) (qMh : Nat → List Nat) (qPn : Nat) (qPl : Nat → Nat → Int32) (qPo : Nat → Int32) (qPp : Nat → Int32) (qEn : Nat) (qEm : Nat → Nat) (qEc : Nat → Nat) (qEd : Nat → Int32) (qEs : Nat → Int32) (qEl : Nat → Int32) (qEe : Nat → Int32) (qEw : Nat → Int32) (qSt : Nat → Int32) (qDu : Nat → Int32) (qCu : Nat → List Nat) (qCn : Nat) (qCb : Nat → Nat) (qCl : Nat → Int32) (qBn : Nat) (qBm : Nat → Nat) (qBl : Nat → Int32) (qBf : Nat → Int32) (qKn : Nat) (qKl : Nat → Nat) (qKs : Nat → Nat → Int32) (qPr : Nat → Int32) (qDay : Int32) (qG2 : List Ob) (qG4 : List Ob) (qX1 : List Ob) (qX3 : List Ob) (zO : Int64) (zD : UInt64) (zX : Nat) (zL : Nat) (zXs : Nat → Int32) (zG5 : List Ob) (zG6 : List Ob) (zG7 : List Ob) : List (List Ob) := [pl (qBn) (fun i => [vI (nI (qBm i)), vI (qBl i), vI (qBf i)]), pl (qKn) (fun i => [vR 23 i]) ++ qX1, pl (qCn) (fun i => [vR 0 (qCb i), vI (qCl i)]), pl (qEn) (fun i => [vR 7 (qEm i), vR 6 (qEc i), vI (qEd i), vI (qEs i), vI (qEl i), vI (qEe i), vI (qEw i), vR 17 i, vI (qSt i), vI (qDu i)]), pl 4 (fun i => [vI (bt i), vI (nI i), vI (qNb i), vR 5 (qTf i)]), pl (qLn) (fun i => encL (qLy i)), pl (qMn) (fun i => [vR 4 (qMk i), vI (qMs i), vR 16 i]), pl (qPn) (fun i => [vR 20 i, vI (qPo i), vI (qPp i)]), [[vR 10 0, vR 11 0, vR 12 0, vR 13 0, vR 14 0, vR 15 0, vR 21 0, vI (qDay)]], [encR R], [(List.range 4).map (vR 4)], [(List.range (qMn)).map (vR 6)], [(List.range (qPn)).map (vR 7)], [(List.range (qEn)).map (vR 3)], [(List.range (qBn)).map (vR 0)], [(List.range (qKn)).map (vR 1)], pl (qMn) (fun i => (qMh i).map (vR 3)), pl (qEn) (fun i => (qCu i).map (vR 2)), [], [], pl (qPn) (fun i => pl 4 (fun k => vI (qPl i k))), [pl 3 (fun k => vI (qPr k))], qG2, pl (qKn) (fun i => pl (qKl i) (fun k => vI (qKs i k))) ++ qX3, qG4, [pl 6 (fun k => vI (nI (rMk R k)))], [pl 6 (fun k => vI (rSu R k))], [pl 10 (fun i => vR 28 i)], pl 10 (fun i => pl 4 (fun k => vI (rTk R i k))), [pl 10 (fun k => vL (rPaid R k))], [pl 4 (fun i => vR 31 i)], pl 4 (fun i => pl 4 (fun k => vI (bI (rNd R i k)))), [pl 150 (fun k => vI (nI (rOw R k)))], [pl 150 (fun k => vI (nI (rMo R k)))], [pl 150 (fun k => vI (rDy R k))], [pl 150 (fun k => vI (rSt R k))], [pl 150 (fun k => vI (rLe R k))], [pl 150 (fun k => vI (rWk R k))], [pl 150 (fun k => vI (rSta R k))], [pl 150 (fun k => vI (rDue R k))], [pl 150 (fun k => vI (nI (rCm R k)))], [pl 150 (fun i => vR 42 i)], pl 150 (fun i => pl 5 (fun k => vI (nI (rCb R i k)))), [pl 150 (fun i => vR 44 i)], pl 150 (fun i => pl 5 (fun k => vI (rCl R i k))), [pl 30 (fun k => vI (nI (rMt R k)))], [pl 30 (fun k => vI (rBl R k))], [pl 3 (fun k => vI (rPr R k))], [pl 4 (fun i => vR 49 i)], pl 4 (fun i => pl 6 (fun k => vI (rLs R i k))), [pl 4 (fun i => vR 51 i)], pl 4 (fun i => pl 6 (fun k => vI (rLnum R i k))), [pl 4 (fun k => vI (nI (rLm R k)))], [pl 20 (fun i => vR 54 i)], pl 20 (fun i => pl 10 (fun k => vI (rSh R i k))), zG5, zG6, zG7, [[vL (zO)]], [[vD (zD)]], List.replicate (zX) [], [pl (zL) (fun k => vI (zXs k))]]
theorem exps_eq : pools (mkC qNb qTf qLn qLy qMn qMk qMs qMh qPn qPl qPo qPp qEn qEm qEc qEd qEs qEl qEe qEw qSt qDu qCu qCn qCb qCl qBn qBm qBl qBf qKn qKl qKs qPr qDay qG2 qG4 qX1 qX3) R (mkW zO zD zX zL zXs zG5 zG6 zG7 zc zn) = exps R qNb qTf qLn qLy qMn qMk qMs qMh qPn qPl qPo qPp qEn qEm qEc qEd qEs qEl qEe qEw qSt qDu qCu qCn qCb qCl qBn qBm qBl qBf qKn qKl qKs qPr qDay qG2 qG4 qX1 qX3 zO zD zX zL zXs zG5 zG6 zG7 := rfl
theorem mk_bar {a : Nat} {b : Int32} {m : Nat} : hput (hcst (hput (hnew (enc (mkC qNb qTf qLn qLy qMn qMk qMs qMh qPn qPl qPo qPp qEn qEm qEc qEd qEs qEl qEe qEw qSt qDu qCu qCn qCb qCl qBn qBm qBl qBf qKn qKl qKs qPr qDay qG2 qG4 qX1 qX3) R (mkW zO zD zX zL zXs zG5 zG6 zG7 zc zn)) 0 [odf 0] 1 3) 0 qBn [vI (nI a), vI b, vI b]) 1 m) 14 0 ((List.range qBn).map (vR 0) ++ [vR 0 qBn]) = enc (mkC qNb qTf qLn qLy qMn qMk qMs qMh qPn qPl qPo qPp qEn qEm qEc qEd qEs qEl qEe qEw qSt qDu qCu qCn qCb qCl (qBn + 1) (fup qBm qBn a) (fup qBl qBn b) (fup qBf qBn b) qKn qKl qKs qPr qDay qG2 qG4 qX1 qX3) R (mkW zO zD zX zL zXs zG5 zG6 zG7 (zc + 1 + 1) (zn + 3 + m)) := by
  refine Prod.ext (Eq.trans (heq2 (l := exps R qNb qTf qLn qLy qMn qMk qMs qMh qPn qPl qPo qPp qEn qEm qEc qEd qEs qEl qEe qEw qSt qDu qCu qCn qCb qCl qBn qBm qBl qBf qKn qKl qKs qPr qDay qG2 qG4 qX1 qX3 zO zD zX zL zXs zG5 zG6 zG7) (l' := exps R qNb qTf qLn qLy qMn qMk qMs qMh qPn qPl qPo qPp qEn qEm qEc qEd qEs qEl qEe qEw qSt qDu qCu qCn qCb qCl (qBn + 1) (fup qBm qBn a) (fup qBl qBn b) (fup qBf qBn b) qKn qKl qKs qPr qDay qG2 qG4 qX1 qX3 zO zD zX zL zXs zG5 zG6 zG7) (s1 := 0) (p1 := (pl ((qBn + 1)) (fun i => [vI (nI ((fup qBm qBn a) i)), vI ((fup qBl qBn b) i), vI ((fup qBf qBn b) i)]))) (s2 := 14) (p2 := ([(List.range ((qBn + 1))).map (vR 0)])) (by rfl) (show 0 < 62 by decide) (show 14 < 62 by decide) ?_ ?_ ?_) (by rfl)) rfl
  · refine Eq.trans (show (pl qBn (fun i => [vI (nI (qBm i)), vI (qBl i), vI (qBf i)]) ++ [odf 0]).set qBn ([vI (nI a), vI b, vI b]) = pl (qBn + 1) (fup (fun i => [vI (nI (qBm i)), vI (qBl i), vI (qBf i)]) qBn ([vI (nI a), vI b, vI b])) from pla_setx.trans pl_app) (pl_ext fun j _ => ?_)
    by_cases e : j = qBn
    · subst e
      simp only [fup_same, List.map_nil]
    · simp only [fup_ne e]
  · exact congrArg (fun z => [z]) range_app
  · intro t e0 e14
    simp only [hput, hnew, hcst, if_neg e0, if_neg e14]
    rfl
theorem mk_mach {k : Nat} {s : Int32} {m : Nat} : hput (hcst (hput (hnew (hnew (enc (mkC qNb qTf qLn qLy qMn qMk qMs qMh qPn qPl qPo qPp qEn qEm qEc qEd qEs qEl qEe qEw qSt qDu qCu qCn qCb qCl qBn qBm qBl qBf qKn qKl qKs qPr qDay qG2 qG4 qX1 qX3) R (mkW zO zD zX zL zXs zG5 zG6 zG7 zc zn)) 6 [odf 6] 1 3) 16 [[]] 1 3) 6 qMn [vR 4 k, vI s, vR 16 qMn]) 1 m) 11 0 ((List.range qMn).map (vR 6) ++ [vR 6 qMn]) = enc (mkC qNb qTf qLn qLy (qMn + 1) (fup qMk qMn k) (fup qMs qMn s) (fup qMh qMn ([])) qPn qPl qPo qPp qEn qEm qEc qEd qEs qEl qEe qEw qSt qDu qCu qCn qCb qCl qBn qBm qBl qBf qKn qKl qKs qPr qDay qG2 qG4 qX1 qX3) R (mkW zO zD zX zL zXs zG5 zG6 zG7 (zc + 1 + 1 + 1) (zn + 3 + 3 + m)) := by
  refine Prod.ext (Eq.trans (heq3 (l := exps R qNb qTf qLn qLy qMn qMk qMs qMh qPn qPl qPo qPp qEn qEm qEc qEd qEs qEl qEe qEw qSt qDu qCu qCn qCb qCl qBn qBm qBl qBf qKn qKl qKs qPr qDay qG2 qG4 qX1 qX3 zO zD zX zL zXs zG5 zG6 zG7) (l' := exps R qNb qTf qLn qLy (qMn + 1) (fup qMk qMn k) (fup qMs qMn s) (fup qMh qMn ([])) qPn qPl qPo qPp qEn qEm qEc qEd qEs qEl qEe qEw qSt qDu qCu qCn qCb qCl qBn qBm qBl qBf qKn qKl qKs qPr qDay qG2 qG4 qX1 qX3 zO zD zX zL zXs zG5 zG6 zG7) (s1 := 6) (p1 := (pl ((qMn + 1)) (fun i => [vR 4 ((fup qMk qMn k) i), vI ((fup qMs qMn s) i), vR 16 i]))) (s2 := 16) (p2 := (pl ((qMn + 1)) (fun i => ((fup qMh qMn ([])) i).map (vR 3)))) (s3 := 11) (p3 := ([(List.range ((qMn + 1))).map (vR 6)])) (by rfl) (show 6 < 62 by decide) (show 16 < 62 by decide) (show 11 < 62 by decide) ?_ ?_ ?_ ?_) (by rfl)) rfl
  · refine Eq.trans (show (pl qMn (fun i => [vR 4 (qMk i), vI (qMs i), vR 16 i]) ++ [odf 6]).set qMn ([vR 4 k, vI s, vR 16 qMn]) = pl (qMn + 1) (fup (fun i => [vR 4 (qMk i), vI (qMs i), vR 16 i]) qMn ([vR 4 k, vI s, vR 16 qMn])) from pla_setx.trans pl_app) (pl_ext fun j _ => ?_)
    by_cases e : j = qMn
    · subst e
      simp only [fup_same, List.map_nil]
    · simp only [fup_ne e]
  · refine Eq.trans (show pl qMn (fun i => (qMh i).map (vR 3)) ++ [[]] = pl (qMn + 1) (fup (fun i => (qMh i).map (vR 3)) qMn ([])) from pl_app) (pl_ext fun j _ => ?_)
    by_cases e : j = qMn
    · subst e
      simp only [fup_same, List.map_nil]
    · simp only [fup_ne e]
  · exact congrArg (fun z => [z]) range_app
  · intro t e6 e16 e11
    simp only [hput, hnew, hcst, if_neg e6, if_neg e16, if_neg e11]
    rfl
theorem mk_ent {m c : Nat} {D S M V : Int32} {z : Nat} : hput (hcst (hput (hnew (hnew (enc (mkC qNb qTf qLn qLy qMn qMk qMs qMh qPn qPl qPo qPp qEn qEm qEc qEd qEs qEl qEe qEw qSt qDu qCu qCn qCb qCl qBn qBm qBl qBf qKn qKl qKs qPr qDay qG2 qG4 qX1 qX3) R (mkW zO zD zX zL zXs zG5 zG6 zG7 zc zn)) 3 [odf 3] 1 10) 17 [[]] 1 3) 3 qEn [vR 7 m, vR 6 c, vI D, vI S, vI M, vI (S + M), vI V, vR 17 qEn, vI 119, vI 0]) 1 z) 13 0 ((List.range qEn).map (vR 3) ++ [vR 3 qEn]) = enc (mkC qNb qTf qLn qLy qMn qMk qMs qMh qPn qPl qPo qPp (qEn + 1) (fup qEm qEn m) (fup qEc qEn c) (fup qEd qEn D) (fup qEs qEn S) (fup qEl qEn M) (fup qEe qEn (S + M)) (fup qEw qEn V) (fup qSt qEn 119) (fup qDu qEn 0) (fup qCu qEn ([])) qCn qCb qCl qBn qBm qBl qBf qKn qKl qKs qPr qDay qG2 qG4 qX1 qX3) R (mkW zO zD zX zL zXs zG5 zG6 zG7 (zc + 1 + 1 + 1) (zn + 10 + 3 + z)) := by
  refine Prod.ext (Eq.trans (heq3 (l := exps R qNb qTf qLn qLy qMn qMk qMs qMh qPn qPl qPo qPp qEn qEm qEc qEd qEs qEl qEe qEw qSt qDu qCu qCn qCb qCl qBn qBm qBl qBf qKn qKl qKs qPr qDay qG2 qG4 qX1 qX3 zO zD zX zL zXs zG5 zG6 zG7) (l' := exps R qNb qTf qLn qLy qMn qMk qMs qMh qPn qPl qPo qPp (qEn + 1) (fup qEm qEn m) (fup qEc qEn c) (fup qEd qEn D) (fup qEs qEn S) (fup qEl qEn M) (fup qEe qEn (S + M)) (fup qEw qEn V) (fup qSt qEn 119) (fup qDu qEn 0) (fup qCu qEn ([])) qCn qCb qCl qBn qBm qBl qBf qKn qKl qKs qPr qDay qG2 qG4 qX1 qX3 zO zD zX zL zXs zG5 zG6 zG7) (s1 := 3) (p1 := (pl ((qEn + 1)) (fun i => [vR 7 ((fup qEm qEn m) i), vR 6 ((fup qEc qEn c) i), vI ((fup qEd qEn D) i), vI ((fup qEs qEn S) i), vI ((fup qEl qEn M) i), vI ((fup qEe qEn (S + M)) i), vI ((fup qEw qEn V) i), vR 17 i, vI ((fup qSt qEn 119) i), vI ((fup qDu qEn 0) i)]))) (s2 := 17) (p2 := (pl ((qEn + 1)) (fun i => ((fup qCu qEn ([])) i).map (vR 2)))) (s3 := 13) (p3 := ([(List.range ((qEn + 1))).map (vR 3)])) (by rfl) (show 3 < 62 by decide) (show 17 < 62 by decide) (show 13 < 62 by decide) ?_ ?_ ?_ ?_) (by rfl)) rfl
  · refine Eq.trans (show (pl qEn (fun i => [vR 7 (qEm i), vR 6 (qEc i), vI (qEd i), vI (qEs i), vI (qEl i), vI (qEe i), vI (qEw i), vR 17 i, vI (qSt i), vI (qDu i)]) ++ [odf 3]).set qEn ([vR 7 m, vR 6 c, vI D, vI S, vI M, vI (S + M), vI V, vR 17 qEn, vI 119, vI 0]) = pl (qEn + 1) (fup (fun i => [vR 7 (qEm i), vR 6 (qEc i), vI (qEd i), vI (qEs i), vI (qEl i), vI (qEe i), vI (qEw i), vR 17 i, vI (qSt i), vI (qDu i)]) qEn ([vR 7 m, vR 6 c, vI D, vI S, vI M, vI (S + M), vI V, vR 17 qEn, vI 119, vI 0])) from pla_setx.trans pl_app) (pl_ext fun j _ => ?_)
    by_cases e : j = qEn
    · subst e
      simp only [fup_same, List.map_nil]
    · simp only [fup_ne e]
  · refine Eq.trans (show pl qEn (fun i => (qCu i).map (vR 2)) ++ [[]] = pl (qEn + 1) (fup (fun i => (qCu i).map (vR 2)) qEn ([])) from pl_app) (pl_ext fun j _ => ?_)
    by_cases e : j = qEn
    · subst e
      simp only [fup_same, List.map_nil]
    · simp only [fup_ne e]
  · exact congrArg (fun z => [z]) range_app
  · intro t e3 e17 e13
    simp only [hput, hnew, hcst, if_neg e3, if_neg e17, if_neg e13]
    rfl
theorem mk_cut {q : Nat} {b : Int32} : hput (hnew (enc (mkC qNb qTf qLn qLy qMn qMk qMs qMh qPn qPl qPo qPp qEn qEm qEc qEd qEs qEl qEe qEw qSt qDu qCu qCn qCb qCl qBn qBm qBl qBf qKn qKl qKs qPr qDay qG2 qG4 qX1 qX3) R (mkW zO zD zX zL zXs zG5 zG6 zG7 zc zn)) 2 [odf 2] 1 2) 2 qCn [vR 0 q, vI b] = enc (mkC qNb qTf qLn qLy qMn qMk qMs qMh qPn qPl qPo qPp qEn qEm qEc qEd qEs qEl qEe qEw qSt qDu qCu (qCn + 1) (fup qCb qCn q) (fup qCl qCn b) qBn qBm qBl qBf qKn qKl qKs qPr qDay qG2 qG4 qX1 qX3) R (mkW zO zD zX zL zXs zG5 zG6 zG7 (zc + 1) (zn + 2)) := by
  refine Prod.ext (Eq.trans (heq1 (l := exps R qNb qTf qLn qLy qMn qMk qMs qMh qPn qPl qPo qPp qEn qEm qEc qEd qEs qEl qEe qEw qSt qDu qCu qCn qCb qCl qBn qBm qBl qBf qKn qKl qKs qPr qDay qG2 qG4 qX1 qX3 zO zD zX zL zXs zG5 zG6 zG7) (l' := exps R qNb qTf qLn qLy qMn qMk qMs qMh qPn qPl qPo qPp qEn qEm qEc qEd qEs qEl qEe qEw qSt qDu qCu (qCn + 1) (fup qCb qCn q) (fup qCl qCn b) qBn qBm qBl qBf qKn qKl qKs qPr qDay qG2 qG4 qX1 qX3 zO zD zX zL zXs zG5 zG6 zG7) (s1 := 2) (p1 := (pl ((qCn + 1)) (fun i => [vR 0 ((fup qCb qCn q) i), vI ((fup qCl qCn b) i)]))) (by rfl) (show 2 < 62 by decide) ?_ ?_) (by rfl)) rfl
  · refine Eq.trans (show (pl qCn (fun i => [vR 0 (qCb i), vI (qCl i)]) ++ [odf 2]).set qCn ([vR 0 q, vI b]) = pl (qCn + 1) (fup (fun i => [vR 0 (qCb i), vI (qCl i)]) qCn ([vR 0 q, vI b])) from pla_setx.trans pl_app) (pl_ext fun j _ => ?_)
    by_cases e : j = qCn
    · subst e
      simp only [fup_same, List.map_nil]
    · simp only [fup_ne e]
  · intro t e2
    simp only [hput, hnew, hcst, if_neg e2]
    rfl
theorem mk_lay {y : Ly} : hput (hnew (enc (mkC qNb qTf qLn qLy qMn qMk qMs qMh qPn qPl qPo qPp qEn qEm qEc qEd qEs qEl qEe qEw qSt qDu qCu qCn qCb qCl qBn qBm qBl qBf qKn qKl qKs qPr qDay qG2 qG4 qX1 qX3) R (mkW zO zD zX zL zXs zG5 zG6 zG7 zc zn)) 5 [odf 5] 1 4) 5 qLn (encL y) = enc (mkC qNb qTf (qLn + 1) (fup qLy qLn y) qMn qMk qMs qMh qPn qPl qPo qPp qEn qEm qEc qEd qEs qEl qEe qEw qSt qDu qCu qCn qCb qCl qBn qBm qBl qBf qKn qKl qKs qPr qDay qG2 qG4 qX1 qX3) R (mkW zO zD zX zL zXs zG5 zG6 zG7 (zc + 1) (zn + 4)) := by
  refine Prod.ext (Eq.trans (heq1 (l := exps R qNb qTf qLn qLy qMn qMk qMs qMh qPn qPl qPo qPp qEn qEm qEc qEd qEs qEl qEe qEw qSt qDu qCu qCn qCb qCl qBn qBm qBl qBf qKn qKl qKs qPr qDay qG2 qG4 qX1 qX3 zO zD zX zL zXs zG5 zG6 zG7) (l' := exps R qNb qTf (qLn + 1) (fup qLy qLn y) qMn qMk qMs qMh qPn qPl qPo qPp qEn qEm qEc qEd qEs qEl qEe qEw qSt qDu qCu qCn qCb qCl qBn qBm qBl qBf qKn qKl qKs qPr qDay qG2 qG4 qX1 qX3 zO zD zX zL zXs zG5 zG6 zG7) (s1 := 5) (p1 := (pl ((qLn + 1)) (fun i => encL ((fup qLy qLn y) i)))) (by rfl) (show 5 < 62 by decide) ?_ ?_) (by rfl)) rfl
  · refine Eq.trans (show (pl qLn (fun i => encL (qLy i)) ++ [odf 5]).set qLn (encL y) = pl (qLn + 1) (fup (fun i => encL (qLy i)) qLn (encL y)) from pla_setx.trans pl_app) (pl_ext fun j _ => ?_)
    by_cases e : j = qLn
    · subst e
      simp only [fup_same, List.map_nil]
    · simp only [fup_ne e]
  · intro t e5
    simp only [hput, hnew, hcst, if_neg e5]
    rfl
theorem mk_mem {A : Nat → Int32} {m : Nat} : hput (hcst (hput (hput (hnew (hnew (enc (mkC qNb qTf qLn qLy qMn qMk qMs qMh qPn qPl qPo qPp qEn qEm qEc qEd qEs qEl qEe qEw qSt qDu qCu qCn qCb qCl qBn qBm qBl qBf qKn qKl qKs qPr qDay qG2 qG4 qX1 qX3) R (mkW zO zD zX zL zXs zG5 zG6 zG7 zc zn)) 7 [odf 7] 1 3) 20 [pl 4 (fun _ => vI 0)] 1 4) 7 qPn [vR 20 qPn, vI 0, vI 0]) 20 qPn (pl 4 (fun k => vI (A k)))) 1 m) 12 0 ((List.range qPn).map (vR 7) ++ [vR 7 qPn]) = enc (mkC qNb qTf qLn qLy qMn qMk qMs qMh (qPn + 1) (fup qPl qPn A) (fup qPo qPn 0) (fup qPp qPn 0) qEn qEm qEc qEd qEs qEl qEe qEw qSt qDu qCu qCn qCb qCl qBn qBm qBl qBf qKn qKl qKs qPr qDay qG2 qG4 qX1 qX3) R (mkW zO zD zX zL zXs zG5 zG6 zG7 (zc + 1 + 1 + 1) (zn + 3 + 4 + m)) := by
  refine Prod.ext (Eq.trans (heq3 (l := exps R qNb qTf qLn qLy qMn qMk qMs qMh qPn qPl qPo qPp qEn qEm qEc qEd qEs qEl qEe qEw qSt qDu qCu qCn qCb qCl qBn qBm qBl qBf qKn qKl qKs qPr qDay qG2 qG4 qX1 qX3 zO zD zX zL zXs zG5 zG6 zG7) (l' := exps R qNb qTf qLn qLy qMn qMk qMs qMh (qPn + 1) (fup qPl qPn A) (fup qPo qPn 0) (fup qPp qPn 0) qEn qEm qEc qEd qEs qEl qEe qEw qSt qDu qCu qCn qCb qCl qBn qBm qBl qBf qKn qKl qKs qPr qDay qG2 qG4 qX1 qX3 zO zD zX zL zXs zG5 zG6 zG7) (s1 := 7) (p1 := (pl ((qPn + 1)) (fun i => [vR 20 i, vI ((fup qPo qPn 0) i), vI ((fup qPp qPn 0) i)]))) (s2 := 20) (p2 := (pl ((qPn + 1)) (fun i => pl 4 (fun k => vI ((fup qPl qPn A) i k))))) (s3 := 12) (p3 := ([(List.range ((qPn + 1))).map (vR 7)])) (by rfl) (show 7 < 62 by decide) (show 20 < 62 by decide) (show 12 < 62 by decide) ?_ ?_ ?_ ?_) (by rfl)) rfl
  · refine Eq.trans (show (pl qPn (fun i => [vR 20 i, vI (qPo i), vI (qPp i)]) ++ [odf 7]).set qPn ([vR 20 qPn, vI 0, vI 0]) = pl (qPn + 1) (fup (fun i => [vR 20 i, vI (qPo i), vI (qPp i)]) qPn ([vR 20 qPn, vI 0, vI 0])) from pla_setx.trans pl_app) (pl_ext fun j _ => ?_)
    by_cases e : j = qPn
    · subst e
      simp only [fup_same, List.map_nil]
    · simp only [fup_ne e]
  · refine Eq.trans (show (pl qPn (fun i => pl 4 (fun k => vI (qPl i k))) ++ [pl 4 (fun _ => vI 0)]).set qPn (pl 4 (fun k => vI (A k))) = pl (qPn + 1) (fup (fun i => pl 4 (fun k => vI (qPl i k))) qPn (pl 4 (fun k => vI (A k)))) from pla_setx.trans pl_app) (pl_ext fun j _ => ?_)
    by_cases e : j = qPn
    · subst e
      simp only [fup_same, List.map_nil]
    · simp only [fup_ne e]
  · exact congrArg (fun z => [z]) range_app
  · intro t e7 e20 e12
    simp only [hput, hnew, hcst, if_neg e7, if_neg e20, if_neg e12]
    rfl
end MO
