/-! lists that grow and shrink in records (by hand) -/
theorem calr {d y : Nat} {as : List MV} {h h' h'' : Hp} {r : Re} (e : h' = h'') (c : Cal d y as h r h') : Cal d y as h r h'' := by
  subst e
  exact c
theorem map_ins {f : Nat → MV} {a : Nat} : ∀ (l : List Nat) (j : Nat), (l.map f).insertIdx j (f a) = (l.insertIdx j a).map f
  | l, 0 => by simp
  | [], j + 1 => by simp
  | b :: l, j + 1 => by
    rw [List.map_cons, List.insertIdx_succ_cons, List.insertIdx_succ_cons, List.map_cons, map_ins l j]
theorem map_era {f : Nat → MV} : ∀ (l : List Nat) (j : Nat), (l.map f).eraseIdx j = (l.eraseIdx j).map f
  | [], j => by simp
  | b :: l, 0 => by simp
  | b :: l, j + 1 => by
    rw [List.map_cons, List.eraseIdx_cons_succ, List.eraseIdx_cons_succ, List.map_cons, map_era l j]
section ML
variable {qNb : Nat → Int32} {qTf : Nat → Nat} {qLn : Nat} {qLy : Nat → Ly} {qMn : Nat} {qMk : Nat → Nat} {qMs : Nat → Int32} {qMh : Nat → List Nat} {qPn : Nat} {qPl : Nat → Nat → Int32} {qPo : Nat → Int32} {qPp : Nat → Int32} {qEn : Nat} {qEm : Nat → Nat} {qEc : Nat → Nat} {qEd : Nat → Int32} {qEs : Nat → Int32} {qEl : Nat → Int32} {qEe : Nat → Int32} {qEw : Nat → Int32} {qSt : Nat → Int32} {qDu : Nat → Int32} {qCu : Nat → List Nat} {qCn : Nat} {qCb : Nat → Nat} {qCl : Nat → Int32} {qBn : Nat} {qBm : Nat → Nat} {qBl : Nat → Int32} {qBf : Nat → Int32} {qKn : Nat} {qKl : Nat → Nat} {qKs : Nat → Nat → Int32} {qPr : Nat → Int32} {qDay : Int32} {qG2 : List Ob} {qG4 : List Ob} {qX1 : List Ob} {qX3 : List Ob} {R : RD} {zO : Int64} {zD : UInt64} {zX : Nat} {zL : Nat} {zXs : Nat → Int32} {zG5 : List Ob} {zG6 : List Ob} {zG7 : List Ob} {zc : Nat} {zn : Nat}
theorem mk_ins {m j e z : Nat} : hput (hcst (enc (mkC qNb qTf qLn qLy qMn qMk qMs qMh qPn qPl qPo qPp qEn qEm qEc qEd qEs qEl qEe qEw qSt qDu qCu qCn qCb qCl qBn qBm qBl qBf qKn qKl qKs qPr qDay qG2 qG4 qX1 qX3) R (mkW zO zD zX zL zXs zG5 zG6 zG7 zc zn)) 1 z) 16 m (((qMh m).map (vR 3)).insertIdx j (vR 3 e)) = enc (mkC qNb qTf qLn qLy qMn qMk qMs (fup qMh m ((qMh m).insertIdx j e)) qPn qPl qPo qPp qEn qEm qEc qEd qEs qEl qEe qEw qSt qDu qCu qCn qCb qCl qBn qBm qBl qBf qKn qKl qKs qPr qDay qG2 qG4 qX1 qX3) R (mkW zO zD zX zL zXs zG5 zG6 zG7 (zc + 1) (zn + z)) := by
  rw [map_ins, wr_cst]
  exact wr16
theorem mk_era {m j : Nat} : hput (enc (mkC qNb qTf qLn qLy qMn qMk qMs qMh qPn qPl qPo qPp qEn qEm qEc qEd qEs qEl qEe qEw qSt qDu qCu qCn qCb qCl qBn qBm qBl qBf qKn qKl qKs qPr qDay qG2 qG4 qX1 qX3) R (mkW zO zD zX zL zXs zG5 zG6 zG7 zc zn)) 16 m (((qMh m).map (vR 3)).eraseIdx j) = enc (mkC qNb qTf qLn qLy qMn qMk qMs (fup qMh m ((qMh m).eraseIdx j)) qPn qPl qPo qPp qEn qEm qEc qEd qEs qEl qEe qEw qSt qDu qCu qCn qCb qCl qBn qBm qBl qBf qKn qKl qKs qPr qDay qG2 qG4 qX1 qX3) R (mkW zO zD zX zL zXs zG5 zG6 zG7 zc zn) := by
  rw [map_era]
  exact wr16
theorem mk_cutl {e c z : Nat} : hput (hcst (enc (mkC qNb qTf qLn qLy qMn qMk qMs qMh qPn qPl qPo qPp qEn qEm qEc qEd qEs qEl qEe qEw qSt qDu qCu qCn qCb qCl qBn qBm qBl qBf qKn qKl qKs qPr qDay qG2 qG4 qX1 qX3) R (mkW zO zD zX zL zXs zG5 zG6 zG7 zc zn)) 1 z) 17 e ((qCu e).map (vR 2) ++ [vR 2 c]) = enc (mkC qNb qTf qLn qLy qMn qMk qMs qMh qPn qPl qPo qPp qEn qEm qEc qEd qEs qEl qEe qEw qSt qDu (fup qCu e (qCu e ++ [c])) qCn qCb qCl qBn qBm qBl qBf qKn qKl qKs qPr qDay qG2 qG4 qX1 qX3) R (mkW zO zD zX zL zXs zG5 zG6 zG7 (zc + 1) (zn + z)) := by
  rw [show (qCu e).map (vR 2) ++ [vR 2 c] = (qCu e ++ [c]).map (vR 2) by rw [List.map_append]; rfl, wr_cst]
  exact wr17
theorem mk_clr {e : Nat} : hput (enc (mkC qNb qTf qLn qLy qMn qMk qMs qMh qPn qPl qPo qPp qEn qEm qEc qEd qEs qEl qEe qEw qSt qDu qCu qCn qCb qCl qBn qBm qBl qBf qKn qKl qKs qPr qDay qG2 qG4 qX1 qX3) R (mkW zO zD zX zL zXs zG5 zG6 zG7 zc zn)) 17 e [] = enc (mkC qNb qTf qLn qLy qMn qMk qMs qMh qPn qPl qPo qPp qEn qEm qEc qEd qEs qEl qEe qEw qSt qDu (fup qCu e []) qCn qCb qCl qBn qBm qBl qBf qKn qKl qKs qPr qDay qG2 qG4 qX1 qX3) R (mkW zO zD zX zL zXs zG5 zG6 zG7 zc zn) := wr17 (es := [])
end ML
theorem s_iMach' {d : Nat} {h : Hp} {n q : Nat} {k : Nat} {s : Int32} (hq : (h.1 16).length = q) (hg : hget h 6 n = some (odf 6)) : Cal d 11 [vR 6 n, vR 4 k, vI s] h (.inl none) (hput (hnew h 16 [[]] 1 3) 6 n [vR 4 k, vI s, vR 16 q]) := by
  subst hq
  exact s_iMach hg
theorem s_iEnt' {d : Nat} {h : Hp} {n q : Nat} {m c : Nat} {D S M V : Int32} (hq : (h.1 17).length = q) (hg : hget h 3 n = some (odf 3)) (hV : pfit .char (vI V) = true) : Cal d 4 [vR 3 n, vR 7 m, vR 6 c, vI D, vI S, vI M, vI V] h (.inl none) (hput (hnew h 17 [[]] 1 3) 3 n [vR 7 m, vR 6 c, vI D, vI S, vI M, vI (S + M), vI V, vR 17 q, vI 119, vI 0]) := by
  subst hq
  exact s_iEnt hg hV
theorem s_iMem' {d : Nat} {h : Hp} {n q : Nat} (hq : (h.1 20).length = q) (hg : hget h 7 n = some (odf 7)) : Cal d 17 [vR 7 n] h (.inl none) (hput (hput (hnew h 20 [pl 4 (fun _ => vI 0)] 1 4) 7 n [vR 20 q, vI 0, vI 0]) 20 q (pl 4 (fun k => vI (fup (fup (fup (fup (fun _ => 0) 0 (-1)) 1 (-1)) 2 (-1)) 3 (-1) k)))) := by
  subst hq
  exact s_iMem hg
theorem pf_work {V : Int32} (h : f_r_in V 97 99 = true) : pfit .char (vI V) = true := by
  have h0 := Int32.not_lt.mp (in_lo h)
  have h1 := in_hi h
  rw [Int32.le_iff_toInt_le] at h0 h1
  rw [show (97 : Int32).toInt = 97 from rfl] at h0
  rw [show (99 : Int32).toInt = 99 from rfl] at h1
  have : V = 97 ∨ V = 98 ∨ V = 99 := by
    have : V.toInt = 97 ∨ V.toInt = 98 ∨ V.toInt = 99 := by omega
    rcases this with e | e | e
    · exact Or.inl (Int32.toInt.inj e)
    · exact Or.inr (Or.inl (Int32.toInt.inj e))
    · exact Or.inr (Or.inr (Int32.toInt.inj e))
  rcases this with rfl | rfl | rfl <;> rfl
