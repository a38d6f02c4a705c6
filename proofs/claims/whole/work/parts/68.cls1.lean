/-! the class's methods that only read (written by gcls1.py) -/
section TW
variable {d y pc : Nat} {L : Lo} {st : List MV} {h : Hp} {x' : Re × Hp} {len : Nat}
theorem Ev.tsw {x v : Int32} {D lo hi : Int} {offs : Array Int} {t : Nat} (hc : codeAt y pc = some (.tableswitch D lo hi offs, len)) (e : x = v) (ht : ptw pc L (vI v :: st) D lo hi offs = some (t, L, st)) (k : Ev d (y, t, L, st) h x') : Ev d (y, pc, L, vI x :: st) h x' := by
  subst e
  exact Ev.p hc ht k
theorem Ev.tswd {x : Int32} {D lo hi : Int} {offs : Array Int} {t : Nat} (hc : codeAt y pc = some (.tableswitch D lo hi offs, len)) (e : x.toInt < lo ∨ hi < x.toInt) (ht : tgt pc D = some t) (k : Ev d (y, t, L, st) h x') : Ev d (y, pc, L, vI x :: st) h x' := by
  refine Ev.p hc ?_ k
  show (if x.toInt < lo ∨ hi < x.toInt then _ else _) = _
  rw [if_pos e, ht]
  rfl
end TW
theorem tsw4 {x : Int32} (h1 : ¬ x = 1) (h2 : ¬ x = 2) (h3 : ¬ x = 3) (h4 : ¬ x = 4) : x.toInt < 1 ∨ 4 < x.toInt := by
  have e1 : ¬ x.toInt = 1 := fun e => h1 (Int32.toInt.inj e)
  have e2 : ¬ x.toInt = 2 := fun e => h2 (Int32.toInt.inj e)
  have e3 : ¬ x.toInt = 3 := fun e => h3 (Int32.toInt.inj e)
  have e4 : ¬ x.toInt = 4 := fun e => h4 (Int32.toInt.inj e)
  omega
def f_c_share (qKl : Nat → Nat) (qKs : Nat → Nat → Int32) (k : Nat) (p : Int32) : Int32 :=
  if p < 0 then 0 else if p < nI (qKl k) then qKs k (nP p) else 0
theorem s_c_share {d : Nat} {zO : Int64} {zD : UInt64} {zX : Nat} {zL : Nat} {zXs : Nat → Int32} {zG5 : List Ob} {zG6 : List Ob} {zG7 : List Ob} {zc : Nat} {zn : Nat} {R : RD} {qNb : Nat → Int32} {qTf : Nat → Nat} {qLn : Nat} {qLy : Nat → Ly} {qMn : Nat} {qMk : Nat → Nat} {qMs : Nat → Int32} {qMh : Nat → List Nat} {qPn : Nat} {qPl : Nat → Nat → Int32} {qPo : Nat → Int32} {qPp : Nat → Int32} {qEn : Nat} {qEm : Nat → Nat} {qEc : Nat → Nat} {qEd : Nat → Int32} {qEs : Nat → Int32} {qEl : Nat → Int32} {qEe : Nat → Int32} {qEw : Nat → Int32} {qSt : Nat → Int32} {qDu : Nat → Int32} {qCu : Nat → List Nat} {qCn : Nat} {qCb : Nat → Nat} {qCl : Nat → Int32} {qBn : Nat} {qBm : Nat → Nat} {qBl : Nat → Int32} {qBf : Nat → Int32} {qKn : Nat} {qKl : Nat → Nat} {qKs : Nat → Nat → Int32} {qPr : Nat → Int32} {qDay : Int32} {qG2 : List Ob} {qG4 : List Ob} {qX1 : List Ob} {qX3 : List Ob} {k : Nat} {p : Int32} (hW : WfC qMn qPn qEn qBn qKn qCn qLn qMk qEm qEc qCb qBm qTf qKl qMh qCu qLy) (hk : k < qKn) : Cal (d + 0) 2 [vR 1 k, vI p] (enc (mkC qNb qTf qLn qLy qMn qMk qMs qMh qPn qPl qPo qPp qEn qEm qEc qEd qEs qEl qEe qEw qSt qDu qCu qCn qCb qCl qBn qBm qBl qBf qKn qKl qKs qPr qDay qG2 qG4 qX1 qX3) R (mkW zO zD zX zL zXs zG5 zG6 zG7 zc zn)) (.inl (some (vI (f_c_share qKl qKs k p)))) (enc (mkC qNb qTf qLn qLy qMn qMk qMs qMh qPn qPl qPo qPp qEn qEm qEc qEd qEs qEl qEe qEw qSt qDu qCu qCn qCb qCl qBn qBm qBl qBf qKn qKl qKs qPr qDay qG2 qG4 qX1 qX3) R (mkW zO zD zX zL zXs zG5 zG6 zG7 zc zn)) := by
  obtain ⟨wMn, wPn, wEn, wBn, wKn, wMk, wEm, wEc, wCb, wBm, wTf, wKl, wMh, wMl, wCu, wCl, wLy⟩ := id hW
  have wk := wKl k
  refine Cal.mk (n := 2) rfl (Nat.le_of_ble_eq_true rfl) rfl ?_
  unfold f_c_share
  refine Ev.ps 1 rfl ?_
  refine Ev.zlt (by rfl) (by rfl) (fun (c1 : p < 0) => ?_) (fun (c1 : ¬ p < 0) => ?_)
  · rw [if_pos c1]
    refine Ev.ps 1 rfl ?_
    exact Ev.re rfl rfl rfl rfl rfl
  · rw [if_neg c1]
    refine Ev.ps 2 rfl ?_
    refine Ev.getf (v := vR 23 k) (by rfl) (by rfl) (by rfl) (rd1 (by have := hk; omega)) rfl ?_
    refine Ev.arl (N := (qKl k)) (by rfl) (by decide) (rd23 (by have := hk; omega)) pl_len ?_
    refine Ev.ige (by rfl) (by rfl) (fun (c2 : p < nI (qKl k)) => ?_) (fun (c2 : ¬ p < nI (qKl k)) => ?_)
    · rw [if_pos c2]
      have q_p := nP_of (n := qKl k) (by omega) (by assumption) c2
      generalize nP p = k_p at q_p ⊢
      obtain ⟨rfl, hk_p⟩ := q_p
      refine Ev.ps 1 rfl ?_
      refine Ev.getf (v := vR 23 k) (by rfl) (by rfl) (by rfl) (rd1 (by have := hk; omega)) rfl ?_
      refine Ev.ps 1 rfl ?_
      refine Ev.aiI (k := k_p) (v := vI (qKs k k_p)) (by rfl) (by decide) (rd23 (by have := hk; omega)) (by have := wKl k; omega) (by have := hk_p; omega) rfl ?_
      refine Ev.ps 1 rfl ?_
      exact Ev.re rfl rfl rfl rfl rfl
    · rw [if_neg c2]
      refine Ev.ps 1 rfl ?_
      exact Ev.re rfl rfl rfl rfl rfl
def f_c_priceOf (qPr : Nat → Int32) (p : Int32) : Int32 :=
  if p < 0 then 0 else if p < nI 3 then qPr (nP p) else 0
theorem s_c_priceOf {d : Nat} {zO : Int64} {zD : UInt64} {zX : Nat} {zL : Nat} {zXs : Nat → Int32} {zG5 : List Ob} {zG6 : List Ob} {zG7 : List Ob} {zc : Nat} {zn : Nat} {R : RD} {qNb : Nat → Int32} {qTf : Nat → Nat} {qLn : Nat} {qLy : Nat → Ly} {qMn : Nat} {qMk : Nat → Nat} {qMs : Nat → Int32} {qMh : Nat → List Nat} {qPn : Nat} {qPl : Nat → Nat → Int32} {qPo : Nat → Int32} {qPp : Nat → Int32} {qEn : Nat} {qEm : Nat → Nat} {qEc : Nat → Nat} {qEd : Nat → Int32} {qEs : Nat → Int32} {qEl : Nat → Int32} {qEe : Nat → Int32} {qEw : Nat → Int32} {qSt : Nat → Int32} {qDu : Nat → Int32} {qCu : Nat → List Nat} {qCn : Nat} {qCb : Nat → Nat} {qCl : Nat → Int32} {qBn : Nat} {qBm : Nat → Nat} {qBl : Nat → Int32} {qBf : Nat → Int32} {qKn : Nat} {qKl : Nat → Nat} {qKs : Nat → Nat → Int32} {qPr : Nat → Int32} {qDay : Int32} {qG2 : List Ob} {qG4 : List Ob} {qX1 : List Ob} {qX3 : List Ob} {p : Int32} (hW : WfC qMn qPn qEn qBn qKn qCn qLn qMk qEm qEc qCb qBm qTf qKl qMh qCu qLy) : Cal (d + 0) 93 [vR 8 0, vI p] (enc (mkC qNb qTf qLn qLy qMn qMk qMs qMh qPn qPl qPo qPp qEn qEm qEc qEd qEs qEl qEe qEw qSt qDu qCu qCn qCb qCl qBn qBm qBl qBf qKn qKl qKs qPr qDay qG2 qG4 qX1 qX3) R (mkW zO zD zX zL zXs zG5 zG6 zG7 zc zn)) (.inl (some (vI (f_c_priceOf qPr p)))) (enc (mkC qNb qTf qLn qLy qMn qMk qMs qMh qPn qPl qPo qPp qEn qEm qEc qEd qEs qEl qEe qEw qSt qDu qCu qCn qCb qCl qBn qBm qBl qBf qKn qKl qKs qPr qDay qG2 qG4 qX1 qX3) R (mkW zO zD zX zL zXs zG5 zG6 zG7 zc zn)) := by
  obtain ⟨wMn, wPn, wEn, wBn, wKn, wMk, wEm, wEc, wCb, wBm, wTf, wKl, wMh, wMl, wCu, wCl, wLy⟩ := id hW
  refine Cal.mk (n := 2) rfl (Nat.le_of_ble_eq_true rfl) rfl ?_
  unfold f_c_priceOf
  refine Ev.ps 1 rfl ?_
  refine Ev.zlt (by rfl) (by rfl) (fun (c1 : p < 0) => ?_) (fun (c1 : ¬ p < 0) => ?_)
  · rw [if_pos c1]
    refine Ev.ps 1 rfl ?_
    exact Ev.re rfl rfl rfl rfl rfl
  · rw [if_neg c1]
    refine Ev.ps 2 rfl ?_
    refine Ev.getf (v := vR 21 0) (by rfl) (by rfl) (by rfl) (rd8) rfl ?_
    refine Ev.arl (N := 3) (by rfl) (by decide) (rd21) pl_len ?_
    refine Ev.ige (by rfl) (by rfl) (fun (c2 : p < nI 3) => ?_) (fun (c2 : ¬ p < nI 3) => ?_)
    · rw [if_pos c2]
      have q_p := nP_of (n := 3) (by omega) (by assumption) c2
      generalize nP p = k_p at q_p ⊢
      obtain ⟨rfl, hk_p⟩ := q_p
      refine Ev.ps 1 rfl ?_
      refine Ev.getf (v := vR 21 0) (by rfl) (by rfl) (by rfl) (rd8) rfl ?_
      refine Ev.ps 1 rfl ?_
      refine Ev.aiI (k := k_p) (v := vI (qPr k_p)) (by rfl) (by decide) (rd21) (by omega) (by have := hk_p; omega) rfl ?_
      refine Ev.ps 1 rfl ?_
      exact Ev.re rfl rfl rfl rfl rfl
    · rw [if_neg c2]
      refine Ev.ps 1 rfl ?_
      exact Ev.re rfl rfl rfl rfl rfl
def f_c_isOpen (qSt : Nat → Int32) (e : Nat) : Bool :=
  if qSt e = 119 then true else if qSt e = 98 then true else false
theorem s_c_isOpen {d : Nat} {zO : Int64} {zD : UInt64} {zX : Nat} {zL : Nat} {zXs : Nat → Int32} {zG5 : List Ob} {zG6 : List Ob} {zG7 : List Ob} {zc : Nat} {zn : Nat} {R : RD} {qNb : Nat → Int32} {qTf : Nat → Nat} {qLn : Nat} {qLy : Nat → Ly} {qMn : Nat} {qMk : Nat → Nat} {qMs : Nat → Int32} {qMh : Nat → List Nat} {qPn : Nat} {qPl : Nat → Nat → Int32} {qPo : Nat → Int32} {qPp : Nat → Int32} {qEn : Nat} {qEm : Nat → Nat} {qEc : Nat → Nat} {qEd : Nat → Int32} {qEs : Nat → Int32} {qEl : Nat → Int32} {qEe : Nat → Int32} {qEw : Nat → Int32} {qSt : Nat → Int32} {qDu : Nat → Int32} {qCu : Nat → List Nat} {qCn : Nat} {qCb : Nat → Nat} {qCl : Nat → Int32} {qBn : Nat} {qBm : Nat → Nat} {qBl : Nat → Int32} {qBf : Nat → Int32} {qKn : Nat} {qKl : Nat → Nat} {qKs : Nat → Nat → Int32} {qPr : Nat → Int32} {qDay : Int32} {qG2 : List Ob} {qG4 : List Ob} {qX1 : List Ob} {qX3 : List Ob} {e : Nat} (hW : WfC qMn qPn qEn qBn qKn qCn qLn qMk qEm qEc qCb qBm qTf qKl qMh qCu qLy) (he : e < qEn) : Cal (d + 0) 5 [vR 3 e] (enc (mkC qNb qTf qLn qLy qMn qMk qMs qMh qPn qPl qPo qPp qEn qEm qEc qEd qEs qEl qEe qEw qSt qDu qCu qCn qCb qCl qBn qBm qBl qBf qKn qKl qKs qPr qDay qG2 qG4 qX1 qX3) R (mkW zO zD zX zL zXs zG5 zG6 zG7 zc zn)) (.inl (some (vI (bI (f_c_isOpen qSt e))))) (enc (mkC qNb qTf qLn qLy qMn qMk qMs qMh qPn qPl qPo qPp qEn qEm qEc qEd qEs qEl qEe qEw qSt qDu qCu qCn qCb qCl qBn qBm qBl qBf qKn qKl qKs qPr qDay qG2 qG4 qX1 qX3) R (mkW zO zD zX zL zXs zG5 zG6 zG7 zc zn)) := by
  obtain ⟨wMn, wPn, wEn, wBn, wKn, wMk, wEm, wEc, wCb, wBm, wTf, wKl, wMh, wMl, wCu, wCl, wLy⟩ := id hW
  refine Cal.mk (n := 1) rfl (Nat.le_of_ble_eq_true rfl) rfl ?_
  unfold f_c_isOpen
  refine Ev.ps 1 rfl ?_
  refine Ev.getf (v := vI (qSt e)) (by rfl) (by rfl) (by rfl) (rd3 (by have := he; omega)) rfl ?_
  refine Ev.ps 1 rfl ?_
  refine Ev.ieq (by rfl) (by rfl) (fun (c1 : qSt e = 119) => ?_) (fun (c1 : ¬ qSt e = 119) => ?_)
  · rw [if_pos c1]
    refine Ev.ps 2 rfl ?_
    exact Ev.re rfl rfl rfl rfl rfl
  · rw [if_neg c1]
    refine Ev.ps 1 rfl ?_
    refine Ev.getf (v := vI (qSt e)) (by rfl) (by rfl) (by rfl) (rd3 (by have := he; omega)) rfl ?_
    refine Ev.ps 1 rfl ?_
    refine Ev.ine (by rfl) (by rfl) (fun (c2 : qSt e = 98) => ?_) (fun (c2 : ¬ qSt e = 98) => ?_)
    · rw [if_pos c2]
      refine Ev.ps 2 rfl ?_
      exact Ev.re rfl rfl rfl rfl rfl
    · rw [if_neg c2]
      refine Ev.ps 1 rfl ?_
      exact Ev.re rfl rfl rfl rfl rfl
def f_c_overlaps (qEd : Nat → Int32) (qEe : Nat → Int32) (qEs : Nat → Int32) (e : Nat) (D S F : Int32) : Bool :=
  if qEd e = D then if qEs e < F then if S < qEe e then true else false else false else false
theorem s_c_overlaps {d : Nat} {zO : Int64} {zD : UInt64} {zX : Nat} {zL : Nat} {zXs : Nat → Int32} {zG5 : List Ob} {zG6 : List Ob} {zG7 : List Ob} {zc : Nat} {zn : Nat} {R : RD} {qNb : Nat → Int32} {qTf : Nat → Nat} {qLn : Nat} {qLy : Nat → Ly} {qMn : Nat} {qMk : Nat → Nat} {qMs : Nat → Int32} {qMh : Nat → List Nat} {qPn : Nat} {qPl : Nat → Nat → Int32} {qPo : Nat → Int32} {qPp : Nat → Int32} {qEn : Nat} {qEm : Nat → Nat} {qEc : Nat → Nat} {qEd : Nat → Int32} {qEs : Nat → Int32} {qEl : Nat → Int32} {qEe : Nat → Int32} {qEw : Nat → Int32} {qSt : Nat → Int32} {qDu : Nat → Int32} {qCu : Nat → List Nat} {qCn : Nat} {qCb : Nat → Nat} {qCl : Nat → Int32} {qBn : Nat} {qBm : Nat → Nat} {qBl : Nat → Int32} {qBf : Nat → Int32} {qKn : Nat} {qKl : Nat → Nat} {qKs : Nat → Nat → Int32} {qPr : Nat → Int32} {qDay : Int32} {qG2 : List Ob} {qG4 : List Ob} {qX1 : List Ob} {qX3 : List Ob} {e : Nat} {D : Int32} {S : Int32} {F : Int32} (hW : WfC qMn qPn qEn qBn qKn qCn qLn qMk qEm qEc qCb qBm qTf qKl qMh qCu qLy) (he : e < qEn) : Cal (d + 0) 6 [vR 3 e, vI D, vI S, vI F] (enc (mkC qNb qTf qLn qLy qMn qMk qMs qMh qPn qPl qPo qPp qEn qEm qEc qEd qEs qEl qEe qEw qSt qDu qCu qCn qCb qCl qBn qBm qBl qBf qKn qKl qKs qPr qDay qG2 qG4 qX1 qX3) R (mkW zO zD zX zL zXs zG5 zG6 zG7 zc zn)) (.inl (some (vI (bI (f_c_overlaps qEd qEe qEs e D S F))))) (enc (mkC qNb qTf qLn qLy qMn qMk qMs qMh qPn qPl qPo qPp qEn qEm qEc qEd qEs qEl qEe qEw qSt qDu qCu qCn qCb qCl qBn qBm qBl qBf qKn qKl qKs qPr qDay qG2 qG4 qX1 qX3) R (mkW zO zD zX zL zXs zG5 zG6 zG7 zc zn)) := by
  obtain ⟨wMn, wPn, wEn, wBn, wKn, wMk, wEm, wEc, wCb, wBm, wTf, wKl, wMh, wMl, wCu, wCl, wLy⟩ := id hW
  refine Cal.mk (n := 4) rfl (Nat.le_of_ble_eq_true rfl) rfl ?_
  unfold f_c_overlaps
  refine Ev.ps 1 rfl ?_
  refine Ev.getf (v := vI (qEd e)) (by rfl) (by rfl) (by rfl) (rd3 (by have := he; omega)) rfl ?_
  refine Ev.ps 1 rfl ?_
  refine Ev.ine (by rfl) (by rfl) (fun (c1 : qEd e = D) => ?_) (fun (c1 : ¬ qEd e = D) => ?_)
  · rw [if_pos c1]
    refine Ev.ps 1 rfl ?_
    refine Ev.getf (v := vI (qEs e)) (by rfl) (by rfl) (by rfl) (rd3 (by have := he; omega)) rfl ?_
    refine Ev.ps 1 rfl ?_
    refine Ev.ige (by rfl) (by rfl) (fun (c2 : qEs e < F) => ?_) (fun (c2 : ¬ qEs e < F) => ?_)
    · rw [if_pos c2]
      refine Ev.ps 2 rfl ?_
      refine Ev.getf (v := vI (qEe e)) (by rfl) (by rfl) (by rfl) (rd3 (by have := he; omega)) rfl ?_
      refine Ev.ige (by rfl) (by rfl) (fun (c3 : S < qEe e) => ?_) (fun (c3 : ¬ S < qEe e) => ?_)
      · rw [if_pos c3]
        refine Ev.ps 2 rfl ?_
        exact Ev.re rfl rfl rfl rfl rfl
      · rw [if_neg c3]
        refine Ev.ps 1 rfl ?_
        exact Ev.re rfl rfl rfl rfl rfl
    · rw [if_neg c2]
      refine Ev.ps 1 rfl ?_
      exact Ev.re rfl rfl rfl rfl rfl
  · rw [if_neg c1]
    refine Ev.ps 1 rfl ?_
    exact Ev.re rfl rfl rfl rfl rfl
def f_c_needs (qNb : Nat → Int32) (a b : Nat) : Bool :=
  if (qNb a) &&& (bt b) = 0 then false else true
theorem s_c_needs {d : Nat} {zO : Int64} {zD : UInt64} {zX : Nat} {zL : Nat} {zXs : Nat → Int32} {zG5 : List Ob} {zG6 : List Ob} {zG7 : List Ob} {zc : Nat} {zn : Nat} {R : RD} {qNb : Nat → Int32} {qTf : Nat → Nat} {qLn : Nat} {qLy : Nat → Ly} {qMn : Nat} {qMk : Nat → Nat} {qMs : Nat → Int32} {qMh : Nat → List Nat} {qPn : Nat} {qPl : Nat → Nat → Int32} {qPo : Nat → Int32} {qPp : Nat → Int32} {qEn : Nat} {qEm : Nat → Nat} {qEc : Nat → Nat} {qEd : Nat → Int32} {qEs : Nat → Int32} {qEl : Nat → Int32} {qEe : Nat → Int32} {qEw : Nat → Int32} {qSt : Nat → Int32} {qDu : Nat → Int32} {qCu : Nat → List Nat} {qCn : Nat} {qCb : Nat → Nat} {qCl : Nat → Int32} {qBn : Nat} {qBm : Nat → Nat} {qBl : Nat → Int32} {qBf : Nat → Int32} {qKn : Nat} {qKl : Nat → Nat} {qKs : Nat → Nat → Int32} {qPr : Nat → Int32} {qDay : Int32} {qG2 : List Ob} {qG4 : List Ob} {qX1 : List Ob} {qX3 : List Ob} {a : Nat} {b : Nat} (hW : WfC qMn qPn qEn qBn qKn qCn qLn qMk qEm qEc qCb qBm qTf qKl qMh qCu qLy) (ha : a < 4) (hb : b < 4) : Cal (d + 0) 8 [vR 4 a, vR 4 b] (enc (mkC qNb qTf qLn qLy qMn qMk qMs qMh qPn qPl qPo qPp qEn qEm qEc qEd qEs qEl qEe qEw qSt qDu qCu qCn qCb qCl qBn qBm qBl qBf qKn qKl qKs qPr qDay qG2 qG4 qX1 qX3) R (mkW zO zD zX zL zXs zG5 zG6 zG7 zc zn)) (.inl (some (vI (bI (f_c_needs qNb a b))))) (enc (mkC qNb qTf qLn qLy qMn qMk qMs qMh qPn qPl qPo qPp qEn qEm qEc qEd qEs qEl qEe qEw qSt qDu qCu qCn qCb qCl qBn qBm qBl qBf qKn qKl qKs qPr qDay qG2 qG4 qX1 qX3) R (mkW zO zD zX zL zXs zG5 zG6 zG7 zc zn)) := by
  obtain ⟨wMn, wPn, wEn, wBn, wKn, wMk, wEm, wEc, wCb, wBm, wTf, wKl, wMh, wMl, wCu, wCl, wLy⟩ := id hW
  refine Cal.mk (n := 2) rfl (Nat.le_of_ble_eq_true rfl) rfl ?_
  unfold f_c_needs
  refine Ev.ps 1 rfl ?_
  refine Ev.getf (v := vI (qNb a)) (by rfl) (by rfl) (by rfl) (rd4 (by have := ha; omega)) rfl ?_
  refine Ev.ps 1 rfl ?_
  refine Ev.getf (v := vI (bt b)) (by rfl) (by rfl) (by rfl) (rd4 (by have := hb; omega)) rfl ?_
  refine Ev.ps 1 rfl ?_
  refine Ev.zeq (by rfl) (by rfl) (fun (c1 : (qNb a) &&& (bt b) = 0) => ?_) (fun (c1 : ¬ (qNb a) &&& (bt b) = 0) => ?_)
  · rw [if_pos c1]
    refine Ev.ps 1 rfl ?_
    exact Ev.re rfl rfl rfl rfl rfl
  · rw [if_neg c1]
    refine Ev.ps 2 rfl ?_
    exact Ev.re rfl rfl rfl rfl rfl
def f_c_setup (qMs : Nat → Int32) (mm : Nat) (a b : Int32) : Int32 :=
  if a = b then 0 else qMs mm
theorem s_c_setup {d : Nat} {zO : Int64} {zD : UInt64} {zX : Nat} {zL : Nat} {zXs : Nat → Int32} {zG5 : List Ob} {zG6 : List Ob} {zG7 : List Ob} {zc : Nat} {zn : Nat} {R : RD} {qNb : Nat → Int32} {qTf : Nat → Nat} {qLn : Nat} {qLy : Nat → Ly} {qMn : Nat} {qMk : Nat → Nat} {qMs : Nat → Int32} {qMh : Nat → List Nat} {qPn : Nat} {qPl : Nat → Nat → Int32} {qPo : Nat → Int32} {qPp : Nat → Int32} {qEn : Nat} {qEm : Nat → Nat} {qEc : Nat → Nat} {qEd : Nat → Int32} {qEs : Nat → Int32} {qEl : Nat → Int32} {qEe : Nat → Int32} {qEw : Nat → Int32} {qSt : Nat → Int32} {qDu : Nat → Int32} {qCu : Nat → List Nat} {qCn : Nat} {qCb : Nat → Nat} {qCl : Nat → Int32} {qBn : Nat} {qBm : Nat → Nat} {qBl : Nat → Int32} {qBf : Nat → Int32} {qKn : Nat} {qKl : Nat → Nat} {qKs : Nat → Nat → Int32} {qPr : Nat → Int32} {qDay : Int32} {qG2 : List Ob} {qG4 : List Ob} {qX1 : List Ob} {qX3 : List Ob} {mm : Nat} {a : Int32} {b : Int32} (hW : WfC qMn qPn qEn qBn qKn qCn qLn qMk qEm qEc qCb qBm qTf qKl qMh qCu qLy) (hm : mm < qMn) : Cal (d + 0) 12 [vR 6 mm, vI a, vI b] (enc (mkC qNb qTf qLn qLy qMn qMk qMs qMh qPn qPl qPo qPp qEn qEm qEc qEd qEs qEl qEe qEw qSt qDu qCu qCn qCb qCl qBn qBm qBl qBf qKn qKl qKs qPr qDay qG2 qG4 qX1 qX3) R (mkW zO zD zX zL zXs zG5 zG6 zG7 zc zn)) (.inl (some (vI (f_c_setup qMs mm a b)))) (enc (mkC qNb qTf qLn qLy qMn qMk qMs qMh qPn qPl qPo qPp qEn qEm qEc qEd qEs qEl qEe qEw qSt qDu qCu qCn qCb qCl qBn qBm qBl qBf qKn qKl qKs qPr qDay qG2 qG4 qX1 qX3) R (mkW zO zD zX zL zXs zG5 zG6 zG7 zc zn)) := by
  obtain ⟨wMn, wPn, wEn, wBn, wKn, wMk, wEm, wEc, wCb, wBm, wTf, wKl, wMh, wMl, wCu, wCl, wLy⟩ := id hW
  refine Cal.mk (n := 3) rfl (Nat.le_of_ble_eq_true rfl) rfl ?_
  unfold f_c_setup
  refine Ev.ps 2 rfl ?_
  refine Ev.ine (by rfl) (by rfl) (fun (c1 : a = b) => ?_) (fun (c1 : ¬ a = b) => ?_)
  · rw [if_pos c1]
    refine Ev.ps 2 rfl ?_
    exact Ev.re rfl rfl rfl rfl rfl
  · rw [if_neg c1]
    refine Ev.ps 1 rfl ?_
    refine Ev.getf (v := vI (qMs mm)) (by rfl) (by rfl) (by rfl) (rd6 (by have := hm; omega)) rfl ?_
    exact Ev.re rfl rfl rfl rfl rfl
def f_c_lastTaken (qPl : Nat → Nat → Int32) (m kd : Nat) : Int32 :=
  qPl m kd
theorem s_c_lastTaken {d : Nat} {zO : Int64} {zD : UInt64} {zX : Nat} {zL : Nat} {zXs : Nat → Int32} {zG5 : List Ob} {zG6 : List Ob} {zG7 : List Ob} {zc : Nat} {zn : Nat} {R : RD} {qNb : Nat → Int32} {qTf : Nat → Nat} {qLn : Nat} {qLy : Nat → Ly} {qMn : Nat} {qMk : Nat → Nat} {qMs : Nat → Int32} {qMh : Nat → List Nat} {qPn : Nat} {qPl : Nat → Nat → Int32} {qPo : Nat → Int32} {qPp : Nat → Int32} {qEn : Nat} {qEm : Nat → Nat} {qEc : Nat → Nat} {qEd : Nat → Int32} {qEs : Nat → Int32} {qEl : Nat → Int32} {qEe : Nat → Int32} {qEw : Nat → Int32} {qSt : Nat → Int32} {qDu : Nat → Int32} {qCu : Nat → List Nat} {qCn : Nat} {qCb : Nat → Nat} {qCl : Nat → Int32} {qBn : Nat} {qBm : Nat → Nat} {qBl : Nat → Int32} {qBf : Nat → Int32} {qKn : Nat} {qKl : Nat → Nat} {qKs : Nat → Nat → Int32} {qPr : Nat → Int32} {qDay : Int32} {qG2 : List Ob} {qG4 : List Ob} {qX1 : List Ob} {qX3 : List Ob} {m : Nat} {kd : Nat} (hW : WfC qMn qPn qEn qBn qKn qCn qLn qMk qEm qEc qCb qBm qTf qKl qMh qCu qLy) (hm : m < qPn) (hk : kd < 4) : Cal (d + 0) 18 [vR 7 m, vR 4 kd] (enc (mkC qNb qTf qLn qLy qMn qMk qMs qMh qPn qPl qPo qPp qEn qEm qEc qEd qEs qEl qEe qEw qSt qDu qCu qCn qCb qCl qBn qBm qBl qBf qKn qKl qKs qPr qDay qG2 qG4 qX1 qX3) R (mkW zO zD zX zL zXs zG5 zG6 zG7 zc zn)) (.inl (some (vI (f_c_lastTaken qPl m kd)))) (enc (mkC qNb qTf qLn qLy qMn qMk qMs qMh qPn qPl qPo qPp qEn qEm qEc qEd qEs qEl qEe qEw qSt qDu qCu qCn qCb qCl qBn qBm qBl qBf qKn qKl qKs qPr qDay qG2 qG4 qX1 qX3) R (mkW zO zD zX zL zXs zG5 zG6 zG7 zc zn)) := by
  obtain ⟨wMn, wPn, wEn, wBn, wKn, wMk, wEm, wEc, wCb, wBm, wTf, wKl, wMh, wMl, wCu, wCl, wLy⟩ := id hW
  refine Cal.mk (n := 3) rfl (Nat.le_of_ble_eq_true rfl) rfl ?_
  unfold f_c_lastTaken
  refine Ev.ps 1 rfl ?_
  refine Ev.getf (v := vI (nI kd)) (by rfl) (by rfl) (by rfl) (rd4 (by have := hk; omega)) rfl ?_
  refine Ev.ps 2 rfl ?_
  refine Ev.zlt (by rfl) (by rfl) (fun (c1 : nI kd < 0) => ?_) (fun (c1 : ¬ nI kd < 0) => ?_)
  · exact absurd (by assumption) (nI_pos (by omega))
  · refine Ev.ps 2 rfl ?_
    refine Ev.getf (v := vR 20 m) (by rfl) (by rfl) (by rfl) (rd7 (by have := hm; omega)) rfl ?_
    refine Ev.arl (N := 4) (by rfl) (by decide) (rd20 (by have := hm; omega)) pl_len ?_
    refine Ev.igeN (a := kd) (b := 4) (by have := hk; omega) (by omega) (by rfl) (by rfl) (fun (c2 : kd < 4) => ?_) (fun (c2 : ¬ kd < 4) => ?_)
    · refine Ev.ps 1 rfl ?_
      refine Ev.getf (v := vR 20 m) (by rfl) (by rfl) (by rfl) (rd7 (by have := hm; omega)) rfl ?_
      refine Ev.ps 1 rfl ?_
      refine Ev.aiI (k := kd) (v := vI (qPl m kd)) (by rfl) (by decide) (rd20 (by have := hm; omega)) (by omega) (by have := hk; omega) rfl ?_
      refine Ev.ps 1 rfl ?_
      exact Ev.re rfl rfl rfl rfl rfl
    · exfalso; omega
def f_c_wish (qDay : Int32) (zc : Nat) (zn : Nat) (D M V : Int32) : Re × Nat × Nat :=
  if f_r_in D qDay (qDay + 6) = true then
    if f_r_in M 1 240 = true then if f_r_in V 97 99 = true then ((.inl none), zc, zn) else ((.inr 1), zc + 1, zn + 6) else ((.inr 1), zc + 1, zn + 6)
  else
    ((.inr 1), zc + 1, zn + 6)
theorem s_c_wish {d : Nat} {zO : Int64} {zD : UInt64} {zX : Nat} {zL : Nat} {zXs : Nat → Int32} {zG5 : List Ob} {zG6 : List Ob} {zG7 : List Ob} {zc : Nat} {zn : Nat} {R : RD} {qNb : Nat → Int32} {qTf : Nat → Nat} {qLn : Nat} {qLy : Nat → Ly} {qMn : Nat} {qMk : Nat → Nat} {qMs : Nat → Int32} {qMh : Nat → List Nat} {qPn : Nat} {qPl : Nat → Nat → Int32} {qPo : Nat → Int32} {qPp : Nat → Int32} {qEn : Nat} {qEm : Nat → Nat} {qEc : Nat → Nat} {qEd : Nat → Int32} {qEs : Nat → Int32} {qEl : Nat → Int32} {qEe : Nat → Int32} {qEw : Nat → Int32} {qSt : Nat → Int32} {qDu : Nat → Int32} {qCu : Nat → List Nat} {qCn : Nat} {qCb : Nat → Nat} {qCl : Nat → Int32} {qBn : Nat} {qBm : Nat → Nat} {qBl : Nat → Int32} {qBf : Nat → Int32} {qKn : Nat} {qKl : Nat → Nat} {qKs : Nat → Nat → Int32} {qPr : Nat → Int32} {qDay : Int32} {qG2 : List Ob} {qG4 : List Ob} {qX1 : List Ob} {qX3 : List Ob} {D : Int32} {M : Int32} {V : Int32} (hW : WfC qMn qPn qEn qBn qKn qCn qLn qMk qEm qEc qCb qBm qTf qKl qMh qCu qLy) : Cal (d + 1) 64 [vR 8 0, vI D, vI M, vI V] (enc (mkC qNb qTf qLn qLy qMn qMk qMs qMh qPn qPl qPo qPp qEn qEm qEc qEd qEs qEl qEe qEw qSt qDu qCu qCn qCb qCl qBn qBm qBl qBf qKn qKl qKs qPr qDay qG2 qG4 qX1 qX3) R (mkW zO zD zX zL zXs zG5 zG6 zG7 zc zn)) ((f_c_wish qDay zc zn D M V).1) (enc (mkC qNb qTf qLn qLy qMn qMk qMs qMh qPn qPl qPo qPp qEn qEm qEc qEd qEs qEl qEe qEw qSt qDu qCu qCn qCb qCl qBn qBm qBl qBf qKn qKl qKs qPr qDay qG2 qG4 qX1 qX3) R (mkW zO zD zX zL zXs zG5 zG6 zG7 ((f_c_wish qDay zc zn D M V).2.1) ((f_c_wish qDay zc zn D M V).2.2))) := by
  obtain ⟨wMn, wPn, wEn, wBn, wKn, wMk, wEm, wEc, wCb, wBm, wTf, wKl, wMh, wMl, wCu, wCl, wLy⟩ := id hW
  refine Cal.mk (n := 4) rfl (Nat.le_of_ble_eq_true rfl) rfl ?_
  unfold f_c_wish
  refine Ev.ps 2 rfl ?_
  refine Ev.getf (v := vI qDay) (by rfl) (by rfl) (by rfl) (rd8) rfl ?_
  refine Ev.ps 1 rfl ?_
  refine Ev.getf (v := vI qDay) (by rfl) (by rfl) (by rfl) (rd8) rfl ?_
  refine Ev.ps 2 rfl ?_
  by_cases c1 : f_r_in D qDay (qDay + 6) = true
  · rw [if_pos c1]
    refine Ev.sta (as := [vI D, vI qDay, vI (qDay + 6)]) (rest := []) (by rfl) (by rfl) (by rfl) (by rfl) rfl (Nat.le_of_ble_eq_true rfl) (s_range (in_lo c1) (in_hi c1)) ?_
    refine Ev.ps 3 rfl ?_
    by_cases c2 : f_r_in M 1 240 = true
    · rw [if_pos c2]
      refine Ev.sta (as := [vI M, vI 1, vI 240]) (rest := []) (by rfl) (by rfl) (by rfl) (by rfl) rfl (Nat.le_of_ble_eq_true rfl) (s_range (in_lo c2) (in_hi c2)) ?_
      refine Ev.ps 3 rfl ?_
      by_cases c3 : f_r_in V 97 99 = true
      · rw [if_pos c3]
        refine Ev.sta (as := [vI V, vI 97, vI 99]) (rest := []) (by rfl) (by rfl) (by rfl) (by rfl) rfl (Nat.le_of_ble_eq_true rfl) (s_range (in_lo c3) (in_hi c3)) ?_
        exact Ev.re rfl rfl rfl rfl rfl
      · rw [if_neg c3]
        exact Ev.staX (as := [vI V, vI 97, vI 99]) (rest := []) (by rfl) (by rfl) (by rfl) (by rfl) rfl (Nat.le_of_ble_eq_true rfl) (cexc (s_rangeX (in_not c3))) (by rfl)
    · rw [if_neg c2]
      exact Ev.staX (as := [vI M, vI 1, vI 240]) (rest := []) (by rfl) (by rfl) (by rfl) (by rfl) rfl (Nat.le_of_ble_eq_true rfl) (cexc (s_rangeX (in_not c2))) (by rfl)
  · rw [if_neg c1]
    exact Ev.staX (as := [vI D, vI qDay, vI (qDay + 6)]) (rest := []) (by rfl) (by rfl) (by rfl) (by rfl) rfl (Nat.le_of_ble_eq_true rfl) (cexc (s_rangeX (in_not c1))) (by rfl)
def wishOk (qDay D M V : Int32) : Bool := f_r_in D qDay (qDay + 6) && f_r_in M 1 240 && f_r_in V 97 99
theorem wish_ok {qDay D M V : Int32} {zc zn : Nat} (h : wishOk qDay D M V = true) : f_c_wish qDay zc zn D M V = (.inl none, zc, zn) := by
  unfold wishOk at h
  simp only [Bool.and_eq_true] at h
  unfold f_c_wish
  rw [if_pos h.1.1, if_pos h.1.2, if_pos h.2]
theorem wish_not {qDay D M V : Int32} {zc zn : Nat} (h : ¬ wishOk qDay D M V = true) : f_c_wish qDay zc zn D M V = (.inr 1, zc + 1, zn + 6) := by
  unfold wishOk at h
  simp only [Bool.and_eq_true] at h
  unfold f_c_wish
  repeat' split
  all_goals first | rfl | exact absurd ⟨⟨by assumption, by assumption⟩, by assumption⟩ h
theorem s_c_wishOk {d : Nat} {R : RD} {qNb : Nat → Int32} {qTf : Nat → Nat} {qLn : Nat} {qLy : Nat → Ly} {qMn : Nat} {qMk : Nat → Nat} {qMs : Nat → Int32} {qMh : Nat → List Nat} {qPn : Nat} {qPl : Nat → Nat → Int32} {qPo : Nat → Int32} {qPp : Nat → Int32} {qEn : Nat} {qEm : Nat → Nat} {qEc : Nat → Nat} {qEd : Nat → Int32} {qEs : Nat → Int32} {qEl : Nat → Int32} {qEe : Nat → Int32} {qEw : Nat → Int32} {qSt : Nat → Int32} {qDu : Nat → Int32} {qCu : Nat → List Nat} {qCn : Nat} {qCb : Nat → Nat} {qCl : Nat → Int32} {qBn : Nat} {qBm : Nat → Nat} {qBl : Nat → Int32} {qBf : Nat → Int32} {qKn : Nat} {qKl : Nat → Nat} {qKs : Nat → Nat → Int32} {qPr : Nat → Int32} {qDay : Int32} {qG2 : List Ob} {qG4 : List Ob} {qX1 : List Ob} {qX3 : List Ob} {zO : Int64} {zD : UInt64} {zX : Nat} {zL : Nat} {zXs : Nat → Int32} {zG5 : List Ob} {zG6 : List Ob} {zG7 : List Ob} {zc : Nat} {zn : Nat} {D M V : Int32} (hW : WfC qMn qPn qEn qBn qKn qCn qLn qMk qEm qEc qCb qBm qTf qKl qMh qCu qLy) (h : wishOk qDay D M V = true) : Cal (d + 1) 64 [vR 8 0, vI D, vI M, vI V] (enc (mkC qNb qTf qLn qLy qMn qMk qMs qMh qPn qPl qPo qPp qEn qEm qEc qEd qEs qEl qEe qEw qSt qDu qCu qCn qCb qCl qBn qBm qBl qBf qKn qKl qKs qPr qDay qG2 qG4 qX1 qX3) R (mkW zO zD zX zL zXs zG5 zG6 zG7 zc zn)) (.inl none) (enc (mkC qNb qTf qLn qLy qMn qMk qMs qMh qPn qPl qPo qPp qEn qEm qEc qEd qEs qEl qEe qEw qSt qDu qCu qCn qCb qCl qBn qBm qBl qBf qKn qKl qKs qPr qDay qG2 qG4 qX1 qX3) R (mkW zO zD zX zL zXs zG5 zG6 zG7 zc zn)) := by
  have h9 := s_c_wish (d := d) (R := R) (qNb := qNb) (qTf := qTf) (qLn := qLn) (qLy := qLy) (qMn := qMn) (qMk := qMk) (qMs := qMs) (qMh := qMh) (qPn := qPn) (qPl := qPl) (qPo := qPo) (qPp := qPp) (qEn := qEn) (qEm := qEm) (qEc := qEc) (qEd := qEd) (qEs := qEs) (qEl := qEl) (qEe := qEe) (qEw := qEw) (qSt := qSt) (qDu := qDu) (qCu := qCu) (qCn := qCn) (qCb := qCb) (qCl := qCl) (qBn := qBn) (qBm := qBm) (qBl := qBl) (qBf := qBf) (qKn := qKn) (qKl := qKl) (qKs := qKs) (qPr := qPr) (qDay := qDay) (qG2 := qG2) (qG4 := qG4) (qX1 := qX1) (qX3 := qX3) (zO := zO) (zD := zD) (zX := zX) (zL := zL) (zXs := zXs) (zG5 := zG5) (zG6 := zG6) (zG7 := zG7) (zc := zc) (zn := zn) (D := D) (M := M) (V := V) hW
  rw [wish_ok h] at h9
  exact h9
theorem s_c_wishX {d : Nat} {R : RD} {qNb : Nat → Int32} {qTf : Nat → Nat} {qLn : Nat} {qLy : Nat → Ly} {qMn : Nat} {qMk : Nat → Nat} {qMs : Nat → Int32} {qMh : Nat → List Nat} {qPn : Nat} {qPl : Nat → Nat → Int32} {qPo : Nat → Int32} {qPp : Nat → Int32} {qEn : Nat} {qEm : Nat → Nat} {qEc : Nat → Nat} {qEd : Nat → Int32} {qEs : Nat → Int32} {qEl : Nat → Int32} {qEe : Nat → Int32} {qEw : Nat → Int32} {qSt : Nat → Int32} {qDu : Nat → Int32} {qCu : Nat → List Nat} {qCn : Nat} {qCb : Nat → Nat} {qCl : Nat → Int32} {qBn : Nat} {qBm : Nat → Nat} {qBl : Nat → Int32} {qBf : Nat → Int32} {qKn : Nat} {qKl : Nat → Nat} {qKs : Nat → Nat → Int32} {qPr : Nat → Int32} {qDay : Int32} {qG2 : List Ob} {qG4 : List Ob} {qX1 : List Ob} {qX3 : List Ob} {zO : Int64} {zD : UInt64} {zX : Nat} {zL : Nat} {zXs : Nat → Int32} {zG5 : List Ob} {zG6 : List Ob} {zG7 : List Ob} {zc : Nat} {zn : Nat} {D M V : Int32} (hW : WfC qMn qPn qEn qBn qKn qCn qLn qMk qEm qEc qCb qBm qTf qKl qMh qCu qLy) (h : ¬ wishOk qDay D M V = true) : Cal (d + 1) 64 [vR 8 0, vI D, vI M, vI V] (enc (mkC qNb qTf qLn qLy qMn qMk qMs qMh qPn qPl qPo qPp qEn qEm qEc qEd qEs qEl qEe qEw qSt qDu qCu qCn qCb qCl qBn qBm qBl qBf qKn qKl qKs qPr qDay qG2 qG4 qX1 qX3) R (mkW zO zD zX zL zXs zG5 zG6 zG7 zc zn)) (.inr 1) (enc (mkC qNb qTf qLn qLy qMn qMk qMs qMh qPn qPl qPo qPp qEn qEm qEc qEd qEs qEl qEe qEw qSt qDu qCu qCn qCb qCl qBn qBm qBl qBf qKn qKl qKs qPr qDay qG2 qG4 qX1 qX3) R (mkW zO zD zX zL zXs zG5 zG6 zG7 (zc + 1) (zn + 6))) := by
  have h9 := s_c_wish (d := d) (R := R) (qNb := qNb) (qTf := qTf) (qLn := qLn) (qLy := qLy) (qMn := qMn) (qMk := qMk) (qMs := qMs) (qMh := qMh) (qPn := qPn) (qPl := qPl) (qPo := qPo) (qPp := qPp) (qEn := qEn) (qEm := qEm) (qEc := qEc) (qEd := qEd) (qEs := qEs) (qEl := qEl) (qEe := qEe) (qEw := qEw) (qSt := qSt) (qDu := qDu) (qCu := qCu) (qCn := qCn) (qCb := qCb) (qCl := qCl) (qBn := qBn) (qBm := qBm) (qBl := qBl) (qBf := qBf) (qKn := qKn) (qKl := qKl) (qKs := qKs) (qPr := qPr) (qDay := qDay) (qG2 := qG2) (qG4 := qG4) (qX1 := qX1) (qX3 := qX3) (zO := zO) (zD := zD) (zX := zX) (zL := zL) (zXs := zXs) (zG5 := zG5) (zG6 := zG6) (zG7 := zG7) (zc := zc) (zn := zn) (D := D) (M := M) (V := V) hW
  rw [wish_not h] at h9
  exact h9
def f_c_time (qDay : Int32) (zc : Nat) (zn : Nat) (D S M V : Int32) : Re × Nat × Nat :=
  if wishOk qDay D M V = true then if f_r_in S 0 (480 - M) = true then ((.inl none), zc, zn) else ((.inr 1), zc + 1, zn + 6) else ((.inr 1), zc + 1, zn + 6)
theorem s_c_time {d : Nat} {zO : Int64} {zD : UInt64} {zX : Nat} {zL : Nat} {zXs : Nat → Int32} {zG5 : List Ob} {zG6 : List Ob} {zG7 : List Ob} {zc : Nat} {zn : Nat} {R : RD} {qNb : Nat → Int32} {qTf : Nat → Nat} {qLn : Nat} {qLy : Nat → Ly} {qMn : Nat} {qMk : Nat → Nat} {qMs : Nat → Int32} {qMh : Nat → List Nat} {qPn : Nat} {qPl : Nat → Nat → Int32} {qPo : Nat → Int32} {qPp : Nat → Int32} {qEn : Nat} {qEm : Nat → Nat} {qEc : Nat → Nat} {qEd : Nat → Int32} {qEs : Nat → Int32} {qEl : Nat → Int32} {qEe : Nat → Int32} {qEw : Nat → Int32} {qSt : Nat → Int32} {qDu : Nat → Int32} {qCu : Nat → List Nat} {qCn : Nat} {qCb : Nat → Nat} {qCl : Nat → Int32} {qBn : Nat} {qBm : Nat → Nat} {qBl : Nat → Int32} {qBf : Nat → Int32} {qKn : Nat} {qKl : Nat → Nat} {qKs : Nat → Nat → Int32} {qPr : Nat → Int32} {qDay : Int32} {qG2 : List Ob} {qG4 : List Ob} {qX1 : List Ob} {qX3 : List Ob} {D : Int32} {S : Int32} {M : Int32} {V : Int32} (hW : WfC qMn qPn qEn qBn qKn qCn qLn qMk qEm qEc qCb qBm qTf qKl qMh qCu qLy) : Cal (d + 2) 65 [vR 8 0, vI D, vI S, vI M, vI V] (enc (mkC qNb qTf qLn qLy qMn qMk qMs qMh qPn qPl qPo qPp qEn qEm qEc qEd qEs qEl qEe qEw qSt qDu qCu qCn qCb qCl qBn qBm qBl qBf qKn qKl qKs qPr qDay qG2 qG4 qX1 qX3) R (mkW zO zD zX zL zXs zG5 zG6 zG7 zc zn)) ((f_c_time qDay zc zn D S M V).1) (enc (mkC qNb qTf qLn qLy qMn qMk qMs qMh qPn qPl qPo qPp qEn qEm qEc qEd qEs qEl qEe qEw qSt qDu qCu qCn qCb qCl qBn qBm qBl qBf qKn qKl qKs qPr qDay qG2 qG4 qX1 qX3) R (mkW zO zD zX zL zXs zG5 zG6 zG7 ((f_c_time qDay zc zn D S M V).2.1) ((f_c_time qDay zc zn D S M V).2.2))) := by
  obtain ⟨wMn, wPn, wEn, wBn, wKn, wMk, wEm, wEc, wCb, wBm, wTf, wKl, wMh, wMl, wCu, wCl, wLy⟩ := id hW
  refine Cal.mk (n := 5) rfl (Nat.le_of_ble_eq_true rfl) rfl ?_
  unfold f_c_time
  refine Ev.ps 4 rfl ?_
  by_cases c1 : wishOk qDay D M V = true
  · rw [if_pos c1]
    refine Ev.vir (as := [vI D, vI M, vI V]) (rest := []) (by rfl) (by rfl) (by rfl) (by rfl) rfl (Nat.le_of_ble_eq_true rfl) (by rfl) (by rw [rd8]; rfl) (s_c_wishOk hW c1) ?_
    refine Ev.ps 5 rfl ?_
    by_cases c2 : f_r_in S 0 (480 - M) = true
    · rw [if_pos c2]
      refine Ev.sta (as := [vI S, vI 0, vI (480 - M)]) (rest := []) (by rfl) (by rfl) (by rfl) (by rfl) rfl (Nat.le_of_ble_eq_true rfl) (s_range (in_lo c2) (in_hi c2)) ?_
      exact Ev.re rfl rfl rfl rfl rfl
    · rw [if_neg c2]
      exact Ev.staX (as := [vI S, vI 0, vI (480 - M)]) (rest := []) (by rfl) (by rfl) (by rfl) (by rfl) rfl (Nat.le_of_ble_eq_true rfl) (cexc (s_rangeX (in_not c2))) (by rfl)
  · rw [if_neg c1]
    exact Ev.virX (as := [vI D, vI M, vI V]) (rest := []) (by rfl) (by rfl) (by rfl) (by rfl) rfl (Nat.le_of_ble_eq_true rfl) (by rfl) (by rw [rd8]; rfl) (s_c_wishX hW c1) (by rfl)
def timeOk (qDay D S M V : Int32) : Bool := wishOk qDay D M V && f_r_in S 0 (480 - M)
theorem time_ok {qDay D S M V : Int32} {zc zn : Nat} (h : timeOk qDay D S M V = true) : f_c_time qDay zc zn D S M V = (.inl none, zc, zn) := by
  unfold timeOk at h
  simp only [Bool.and_eq_true] at h
  unfold f_c_time
  rw [if_pos h.1, if_pos h.2]
theorem time_not {qDay D S M V : Int32} {zc zn : Nat} (h : ¬ timeOk qDay D S M V = true) : f_c_time qDay zc zn D S M V = (.inr 1, zc + 1, zn + 6) := by
  unfold timeOk at h
  simp only [Bool.and_eq_true] at h
  unfold f_c_time
  repeat' split
  all_goals first | rfl | exact absurd ⟨by assumption, by assumption⟩ h
theorem s_c_timeOk {d : Nat} {R : RD} {qNb : Nat → Int32} {qTf : Nat → Nat} {qLn : Nat} {qLy : Nat → Ly} {qMn : Nat} {qMk : Nat → Nat} {qMs : Nat → Int32} {qMh : Nat → List Nat} {qPn : Nat} {qPl : Nat → Nat → Int32} {qPo : Nat → Int32} {qPp : Nat → Int32} {qEn : Nat} {qEm : Nat → Nat} {qEc : Nat → Nat} {qEd : Nat → Int32} {qEs : Nat → Int32} {qEl : Nat → Int32} {qEe : Nat → Int32} {qEw : Nat → Int32} {qSt : Nat → Int32} {qDu : Nat → Int32} {qCu : Nat → List Nat} {qCn : Nat} {qCb : Nat → Nat} {qCl : Nat → Int32} {qBn : Nat} {qBm : Nat → Nat} {qBl : Nat → Int32} {qBf : Nat → Int32} {qKn : Nat} {qKl : Nat → Nat} {qKs : Nat → Nat → Int32} {qPr : Nat → Int32} {qDay : Int32} {qG2 : List Ob} {qG4 : List Ob} {qX1 : List Ob} {qX3 : List Ob} {zO : Int64} {zD : UInt64} {zX : Nat} {zL : Nat} {zXs : Nat → Int32} {zG5 : List Ob} {zG6 : List Ob} {zG7 : List Ob} {zc : Nat} {zn : Nat} {D S M V : Int32} (hW : WfC qMn qPn qEn qBn qKn qCn qLn qMk qEm qEc qCb qBm qTf qKl qMh qCu qLy) (h : timeOk qDay D S M V = true) : Cal (d + 2) 65 [vR 8 0, vI D, vI S, vI M, vI V] (enc (mkC qNb qTf qLn qLy qMn qMk qMs qMh qPn qPl qPo qPp qEn qEm qEc qEd qEs qEl qEe qEw qSt qDu qCu qCn qCb qCl qBn qBm qBl qBf qKn qKl qKs qPr qDay qG2 qG4 qX1 qX3) R (mkW zO zD zX zL zXs zG5 zG6 zG7 zc zn)) (.inl none) (enc (mkC qNb qTf qLn qLy qMn qMk qMs qMh qPn qPl qPo qPp qEn qEm qEc qEd qEs qEl qEe qEw qSt qDu qCu qCn qCb qCl qBn qBm qBl qBf qKn qKl qKs qPr qDay qG2 qG4 qX1 qX3) R (mkW zO zD zX zL zXs zG5 zG6 zG7 zc zn)) := by
  have h9 := s_c_time (d := d) (R := R) (qNb := qNb) (qTf := qTf) (qLn := qLn) (qLy := qLy) (qMn := qMn) (qMk := qMk) (qMs := qMs) (qMh := qMh) (qPn := qPn) (qPl := qPl) (qPo := qPo) (qPp := qPp) (qEn := qEn) (qEm := qEm) (qEc := qEc) (qEd := qEd) (qEs := qEs) (qEl := qEl) (qEe := qEe) (qEw := qEw) (qSt := qSt) (qDu := qDu) (qCu := qCu) (qCn := qCn) (qCb := qCb) (qCl := qCl) (qBn := qBn) (qBm := qBm) (qBl := qBl) (qBf := qBf) (qKn := qKn) (qKl := qKl) (qKs := qKs) (qPr := qPr) (qDay := qDay) (qG2 := qG2) (qG4 := qG4) (qX1 := qX1) (qX3 := qX3) (zO := zO) (zD := zD) (zX := zX) (zL := zL) (zXs := zXs) (zG5 := zG5) (zG6 := zG6) (zG7 := zG7) (zc := zc) (zn := zn) (D := D) (S := S) (M := M) (V := V) hW
  rw [time_ok h] at h9
  exact h9
theorem s_c_timeX {d : Nat} {R : RD} {qNb : Nat → Int32} {qTf : Nat → Nat} {qLn : Nat} {qLy : Nat → Ly} {qMn : Nat} {qMk : Nat → Nat} {qMs : Nat → Int32} {qMh : Nat → List Nat} {qPn : Nat} {qPl : Nat → Nat → Int32} {qPo : Nat → Int32} {qPp : Nat → Int32} {qEn : Nat} {qEm : Nat → Nat} {qEc : Nat → Nat} {qEd : Nat → Int32} {qEs : Nat → Int32} {qEl : Nat → Int32} {qEe : Nat → Int32} {qEw : Nat → Int32} {qSt : Nat → Int32} {qDu : Nat → Int32} {qCu : Nat → List Nat} {qCn : Nat} {qCb : Nat → Nat} {qCl : Nat → Int32} {qBn : Nat} {qBm : Nat → Nat} {qBl : Nat → Int32} {qBf : Nat → Int32} {qKn : Nat} {qKl : Nat → Nat} {qKs : Nat → Nat → Int32} {qPr : Nat → Int32} {qDay : Int32} {qG2 : List Ob} {qG4 : List Ob} {qX1 : List Ob} {qX3 : List Ob} {zO : Int64} {zD : UInt64} {zX : Nat} {zL : Nat} {zXs : Nat → Int32} {zG5 : List Ob} {zG6 : List Ob} {zG7 : List Ob} {zc : Nat} {zn : Nat} {D S M V : Int32} (hW : WfC qMn qPn qEn qBn qKn qCn qLn qMk qEm qEc qCb qBm qTf qKl qMh qCu qLy) (h : ¬ timeOk qDay D S M V = true) : Cal (d + 2) 65 [vR 8 0, vI D, vI S, vI M, vI V] (enc (mkC qNb qTf qLn qLy qMn qMk qMs qMh qPn qPl qPo qPp qEn qEm qEc qEd qEs qEl qEe qEw qSt qDu qCu qCn qCb qCl qBn qBm qBl qBf qKn qKl qKs qPr qDay qG2 qG4 qX1 qX3) R (mkW zO zD zX zL zXs zG5 zG6 zG7 zc zn)) (.inr 1) (enc (mkC qNb qTf qLn qLy qMn qMk qMs qMh qPn qPl qPo qPp qEn qEm qEc qEd qEs qEl qEe qEw qSt qDu qCu qCn qCb qCl qBn qBm qBl qBf qKn qKl qKs qPr qDay qG2 qG4 qX1 qX3) R (mkW zO zD zX zL zXs zG5 zG6 zG7 (zc + 1) (zn + 6))) := by
  have h9 := s_c_time (d := d) (R := R) (qNb := qNb) (qTf := qTf) (qLn := qLn) (qLy := qLy) (qMn := qMn) (qMk := qMk) (qMs := qMs) (qMh := qMh) (qPn := qPn) (qPl := qPl) (qPo := qPo) (qPp := qPp) (qEn := qEn) (qEm := qEm) (qEc := qEc) (qEd := qEd) (qEs := qEs) (qEl := qEl) (qEe := qEe) (qEw := qEw) (qSt := qSt) (qDu := qDu) (qCu := qCu) (qCn := qCn) (qCb := qCb) (qCl := qCl) (qBn := qBn) (qBm := qBm) (qBl := qBl) (qBf := qBf) (qKn := qKn) (qKl := qKl) (qKs := qKs) (qPr := qPr) (qDay := qDay) (qG2 := qG2) (qG4 := qG4) (qX1 := qX1) (qX3 := qX3) (zO := zO) (zD := zD) (zX := zX) (zL := zL) (zXs := zXs) (zG5 := zG5) (zG6 := zG6) (zG7 := zG7) (zc := zc) (zn := zn) (D := D) (S := S) (M := M) (V := V) hW
  rw [time_not h] at h9
  exact h9
def f_c_hasInd (qEc : Nat → Nat) (qEd : Nat → Int32) (qEm : Nat → Nat) (qMk : Nat → Nat) (qNb : Nat → Int32) (qPl : Nat → Nat → Int32) (e : Nat) : Bool :=
  f_c_live qNb qPl (qEm e) (qMk (qEc e)) (qEd e)
theorem s_c_hasInd {d : Nat} {zO : Int64} {zD : UInt64} {zX : Nat} {zL : Nat} {zXs : Nat → Int32} {zG5 : List Ob} {zG6 : List Ob} {zG7 : List Ob} {zc : Nat} {zn : Nat} {R : RD} {qNb : Nat → Int32} {qTf : Nat → Nat} {qLn : Nat} {qLy : Nat → Ly} {qMn : Nat} {qMk : Nat → Nat} {qMs : Nat → Int32} {qMh : Nat → List Nat} {qPn : Nat} {qPl : Nat → Nat → Int32} {qPo : Nat → Int32} {qPp : Nat → Int32} {qEn : Nat} {qEm : Nat → Nat} {qEc : Nat → Nat} {qEd : Nat → Int32} {qEs : Nat → Int32} {qEl : Nat → Int32} {qEe : Nat → Int32} {qEw : Nat → Int32} {qSt : Nat → Int32} {qDu : Nat → Int32} {qCu : Nat → List Nat} {qCn : Nat} {qCb : Nat → Nat} {qCl : Nat → Int32} {qBn : Nat} {qBm : Nat → Nat} {qBl : Nat → Int32} {qBf : Nat → Int32} {qKn : Nat} {qKl : Nat → Nat} {qKs : Nat → Nat → Int32} {qPr : Nat → Int32} {qDay : Int32} {qG2 : List Ob} {qG4 : List Ob} {qX1 : List Ob} {qX3 : List Ob} {e : Nat} (hW : WfC qMn qPn qEn qBn qKn qCn qLn qMk qEm qEc qCb qBm qTf qKl qMh qCu qLy) (he : e < qEn) : Cal (d + 10) 75 [vR 8 0, vR 3 e] (enc (mkC qNb qTf qLn qLy qMn qMk qMs qMh qPn qPl qPo qPp qEn qEm qEc qEd qEs qEl qEe qEw qSt qDu qCu qCn qCb qCl qBn qBm qBl qBf qKn qKl qKs qPr qDay qG2 qG4 qX1 qX3) R (mkW zO zD zX zL zXs zG5 zG6 zG7 zc zn)) (.inl (some (vI (bI (f_c_hasInd qEc qEd qEm qMk qNb qPl e))))) (enc (mkC qNb qTf qLn qLy qMn qMk qMs qMh qPn qPl qPo qPp qEn qEm qEc qEd qEs qEl qEe qEw qSt qDu qCu qCn qCb qCl qBn qBm qBl qBf qKn qKl qKs qPr qDay qG2 qG4 qX1 qX3) R (mkW zO zD zX zL zXs zG5 zG6 zG7 zc zn)) := by
  obtain ⟨wMn, wPn, wEn, wBn, wKn, wMk, wEm, wEc, wCb, wBm, wTf, wKl, wMh, wMl, wCu, wCl, wLy⟩ := id hW
  refine Cal.mk (n := 2) rfl (Nat.le_of_ble_eq_true rfl) rfl ?_
  unfold f_c_hasInd
  refine Ev.ps 2 rfl ?_
  refine Ev.getf (v := vR 7 (qEm e)) (by rfl) (by rfl) (by rfl) (rd3 (by have := he; omega)) rfl ?_
  refine Ev.ps 1 rfl ?_
  refine Ev.getf (v := vR 6 (qEc e)) (by rfl) (by rfl) (by rfl) (rd3 (by have := he; omega)) rfl ?_
  refine Ev.getf (v := vR 4 (qMk (qEc e))) (by rfl) (by rfl) (by rfl) (rd6 (by have := wEc _ (by have := he; omega); omega)) rfl ?_
  refine Ev.ps 1 rfl ?_
  refine Ev.getf (v := vI (qEd e)) (by rfl) (by rfl) (by rfl) (rd3 (by have := he; omega)) rfl ?_
  refine Ev.ps 1 rfl ?_
  refine Ev.vir (as := [vR 7 (qEm e), vR 4 (qMk (qEc e)), vI (qEd e), vI 0]) (rest := []) (by rfl) (by rfl) (by rfl) (by rfl) rfl (Nat.le_of_ble_eq_true rfl) (by rfl) (by rw [rd8]; rfl) (s_c_live (by have := wEm _ (by have := he; omega); omega) (by have := wMk (qEc e); omega)) ?_
  exact Ev.re rfl rfl rfl rfl (rstB rfl)
def f_c_canBe (qEc : Nat → Nat) (qEd : Nat → Int32) (qEe : Nat → Int32) (qEl : Nat → Int32) (qEm : Nat → Nat) (qEn : Nat) (qEs : Nat → Int32) (qEw : Nat → Int32) (qMh : Nat → List Nat) (qMk : Nat → Nat) (qMs : Nat → Int32) (qNb : Nat → Int32) (qPl : Nat → Nat → Int32) (qSt : Nat → Int32) (e : Nat) : Bool :=
  if f_c_judge qEn qEm qEc qEd qEs qEl qEe qEw qSt qMh qMk qMs qNb qPl (qEm e) (qEc e) (qEd e) (qEs e) (qEl e) (qEw e) = 111 then true else false
theorem s_c_canBe {d : Nat} {zO : Int64} {zD : UInt64} {zX : Nat} {zL : Nat} {zXs : Nat → Int32} {zG5 : List Ob} {zG6 : List Ob} {zG7 : List Ob} {zc : Nat} {zn : Nat} {R : RD} {qNb : Nat → Int32} {qTf : Nat → Nat} {qLn : Nat} {qLy : Nat → Ly} {qMn : Nat} {qMk : Nat → Nat} {qMs : Nat → Int32} {qMh : Nat → List Nat} {qPn : Nat} {qPl : Nat → Nat → Int32} {qPo : Nat → Int32} {qPp : Nat → Int32} {qEn : Nat} {qEm : Nat → Nat} {qEc : Nat → Nat} {qEd : Nat → Int32} {qEs : Nat → Int32} {qEl : Nat → Int32} {qEe : Nat → Int32} {qEw : Nat → Int32} {qSt : Nat → Int32} {qDu : Nat → Int32} {qCu : Nat → List Nat} {qCn : Nat} {qCb : Nat → Nat} {qCl : Nat → Int32} {qBn : Nat} {qBm : Nat → Nat} {qBl : Nat → Int32} {qBf : Nat → Int32} {qKn : Nat} {qKl : Nat → Nat} {qKs : Nat → Nat → Int32} {qPr : Nat → Int32} {qDay : Int32} {qG2 : List Ob} {qG4 : List Ob} {qX1 : List Ob} {qX3 : List Ob} {e : Nat} (hW : WfC qMn qPn qEn qBn qKn qCn qLn qMk qEm qEc qCb qBm qTf qKl qMh qCu qLy) (he : e < qEn) : Cal (d + 11) 78 [vR 8 0, vR 3 e] (enc (mkC qNb qTf qLn qLy qMn qMk qMs qMh qPn qPl qPo qPp qEn qEm qEc qEd qEs qEl qEe qEw qSt qDu qCu qCn qCb qCl qBn qBm qBl qBf qKn qKl qKs qPr qDay qG2 qG4 qX1 qX3) R (mkW zO zD zX zL zXs zG5 zG6 zG7 zc zn)) (.inl (some (vI (bI (f_c_canBe qEc qEd qEe qEl qEm qEn qEs qEw qMh qMk qMs qNb qPl qSt e))))) (enc (mkC qNb qTf qLn qLy qMn qMk qMs qMh qPn qPl qPo qPp qEn qEm qEc qEd qEs qEl qEe qEw qSt qDu qCu qCn qCb qCl qBn qBm qBl qBf qKn qKl qKs qPr qDay qG2 qG4 qX1 qX3) R (mkW zO zD zX zL zXs zG5 zG6 zG7 zc zn)) := by
  obtain ⟨wMn, wPn, wEn, wBn, wKn, wMk, wEm, wEc, wCb, wBm, wTf, wKl, wMh, wMl, wCu, wCl, wLy⟩ := id hW
  refine Cal.mk (n := 2) rfl (Nat.le_of_ble_eq_true rfl) rfl ?_
  unfold f_c_canBe
  refine Ev.ps 2 rfl ?_
  refine Ev.getf (v := vR 7 (qEm e)) (by rfl) (by rfl) (by rfl) (rd3 (by have := he; omega)) rfl ?_
  refine Ev.ps 1 rfl ?_
  refine Ev.getf (v := vR 6 (qEc e)) (by rfl) (by rfl) (by rfl) (rd3 (by have := he; omega)) rfl ?_
  refine Ev.ps 1 rfl ?_
  refine Ev.getf (v := vI (qEd e)) (by rfl) (by rfl) (by rfl) (rd3 (by have := he; omega)) rfl ?_
  refine Ev.ps 1 rfl ?_
  refine Ev.getf (v := vI (qEs e)) (by rfl) (by rfl) (by rfl) (rd3 (by have := he; omega)) rfl ?_
  refine Ev.ps 1 rfl ?_
  refine Ev.getf (v := vI (qEl e)) (by rfl) (by rfl) (by rfl) (rd3 (by have := he; omega)) rfl ?_
  refine Ev.ps 1 rfl ?_
  refine Ev.getf (v := vI (qEw e)) (by rfl) (by rfl) (by rfl) (rd3 (by have := he; omega)) rfl ?_
  refine Ev.vir (as := [vR 7 (qEm e), vR 6 (qEc e), vI (qEd e), vI (qEs e), vI (qEl e), vI (qEw e)]) (rest := []) (by rfl) (by rfl) (by rfl) (by rfl) rfl (Nat.le_of_ble_eq_true rfl) (by rfl) (by rw [rd8]; rfl) (s_c_judge hW (by have := wEm _ (by have := he; omega); omega) (by have := wEc _ (by have := he; omega); omega)) ?_
  refine Ev.ps 1 rfl ?_
  refine Ev.ine (by rfl) (by rfl) (fun (c1 : f_c_judge qEn qEm qEc qEd qEs qEl qEe qEw qSt qMh qMk qMs qNb qPl (qEm e) (qEc e) (qEd e) (qEs e) (qEl e) (qEw e) = 111) => ?_) (fun (c1 : ¬ f_c_judge qEn qEm qEc qEd qEs qEl qEe qEw qSt qMh qMk qMs qNb qPl (qEm e) (qEc e) (qEd e) (qEs e) (qEl e) (qEw e) = 111) => ?_)
  · rw [if_pos c1]
    refine Ev.ps 2 rfl ?_
    exact Ev.re rfl rfl rfl rfl rfl
  · rw [if_neg c1]
    refine Ev.ps 1 rfl ?_
    exact Ev.re rfl rfl rfl rfl rfl
def c_first_L2 (qEc : Nat → Nat) (qEd : Nat → Int32) (qEe : Nat → Int32) (qEl : Nat → Int32) (qEm : Nat → Nat) (qEn : Nat) (qEs : Nat → Int32) (qEw : Nat → Int32) (qMh : Nat → List Nat) (qMk : Nat → Nat) (qMs : Nat → Int32) (qNb : Nat → Int32) (qPl : Nat → Nat → Int32) (qSt : Nat → Int32)  : Nat → Nat → (Option Nat)
  | 0, j2 =>
    none
  | k2 + 1, j2 =>
    if qSt j2 = 119 then
      if f_c_canBe qEc qEd qEe qEl qEm qEn qEs qEw qMh qMk qMs qNb qPl qSt j2 then (some j2) else c_first_L2 qEc qEd qEe qEl qEm qEn qEs qEw qMh qMk qMs qNb qPl qSt  k2 (j2 + 1) 
    else
      c_first_L2 qEc qEd qEe qEl qEm qEn qEs qEw qMh qMk qMs qNb qPl qSt  k2 (j2 + 1) 
def f_c_first (qEc : Nat → Nat) (qEd : Nat → Int32) (qEe : Nat → Int32) (qEl : Nat → Int32) (qEm : Nat → Nat) (qEn : Nat) (qEs : Nat → Int32) (qEw : Nat → Int32) (qMh : Nat → List Nat) (qMk : Nat → Nat) (qMs : Nat → Int32) (qNb : Nat → Int32) (qPl : Nat → Nat → Int32) (qSt : Nat → Int32)  : Option Nat :=
  c_first_L2 qEc qEd qEe qEl qEm qEn qEs qEw qMh qMk qMs qNb qPl qSt  qEn 0 
theorem s_c_first {d : Nat} {zO : Int64} {zD : UInt64} {zX : Nat} {zL : Nat} {zXs : Nat → Int32} {zG5 : List Ob} {zG6 : List Ob} {zG7 : List Ob} {zc : Nat} {zn : Nat} {R : RD} {qNb : Nat → Int32} {qTf : Nat → Nat} {qLn : Nat} {qLy : Nat → Ly} {qMn : Nat} {qMk : Nat → Nat} {qMs : Nat → Int32} {qMh : Nat → List Nat} {qPn : Nat} {qPl : Nat → Nat → Int32} {qPo : Nat → Int32} {qPp : Nat → Int32} {qEn : Nat} {qEm : Nat → Nat} {qEc : Nat → Nat} {qEd : Nat → Int32} {qEs : Nat → Int32} {qEl : Nat → Int32} {qEe : Nat → Int32} {qEw : Nat → Int32} {qSt : Nat → Int32} {qDu : Nat → Int32} {qCu : Nat → List Nat} {qCn : Nat} {qCb : Nat → Nat} {qCl : Nat → Int32} {qBn : Nat} {qBm : Nat → Nat} {qBl : Nat → Int32} {qBf : Nat → Int32} {qKn : Nat} {qKl : Nat → Nat} {qKs : Nat → Nat → Int32} {qPr : Nat → Int32} {qDay : Int32} {qG2 : List Ob} {qG4 : List Ob} {qX1 : List Ob} {qX3 : List Ob}  (hW : WfC qMn qPn qEn qBn qKn qCn qLn qMk qEm qEc qCb qBm qTf qKl qMh qCu qLy) : Cal (d + 12) 83 [vR 8 0] (enc (mkC qNb qTf qLn qLy qMn qMk qMs qMh qPn qPl qPo qPp qEn qEm qEc qEd qEs qEl qEe qEw qSt qDu qCu qCn qCb qCl qBn qBm qBl qBf qKn qKl qKs qPr qDay qG2 qG4 qX1 qX3) R (mkW zO zD zX zL zXs zG5 zG6 zG7 zc zn)) (.inl (some (refO (f_c_first qEc qEd qEe qEl qEm qEn qEs qEw qMh qMk qMs qNb qPl qSt)))) (enc (mkC qNb qTf qLn qLy qMn qMk qMs qMh qPn qPl qPo qPp qEn qEm qEc qEd qEs qEl qEe qEw qSt qDu qCu qCn qCb qCl qBn qBm qBl qBf qKn qKl qKs qPr qDay qG2 qG4 qX1 qX3) R (mkW zO zD zX zL zXs zG5 zG6 zG7 zc zn)) := by
  obtain ⟨wMn, wPn, wEn, wBn, wKn, wMk, wEm, wEc, wCb, wBm, wTf, wKl, wMh, wMl, wCu, wCl, wLy⟩ := id hW
  refine Cal.mk (n := 3) rfl (Nat.le_of_ble_eq_true rfl) rfl ?_
  unfold f_c_first
  refine Ev.ps 2 rfl ?_
  have L2 : ∀ (k2 j2 : Nat) (o2_2 : Option MV), j2 + k2 = qEn → Da o2_2 → Ev (d + 12) (83, 2, [some (vR 8 0), some (vI (nI j2)), o2_2], []) (enc (mkC qNb qTf qLn qLy qMn qMk qMs qMh qPn qPl qPo qPp qEn qEm qEc qEd qEs qEl qEe qEw qSt qDu qCu qCn qCb qCl qBn qBm qBl qBf qKn qKl qKs qPr qDay qG2 qG4 qX1 qX3) R (mkW zO zD zX zL zXs zG5 zG6 zG7 zc zn)) ((.inl (some (refO (c_first_L2 qEc qEd qEe qEl qEm qEn qEs qEw qMh qMk qMs qNb qPl qSt  k2 j2 )))), enc (mkC qNb qTf qLn qLy qMn qMk qMs qMh qPn qPl qPo qPp qEn qEm qEc qEd qEs qEl qEe qEw qSt qDu qCu qCn qCb qCl qBn qBm qBl qBf qKn qKl qKs qPr qDay qG2 qG4 qX1 qX3) R (mkW zO zD zX zL zXs zG5 zG6 zG7 zc zn)) := by
    intro k2
    induction k2 with
    | zero =>
      intro j2 o2_2 hj2 ho2_2
      rw [c_first_L2]
      refine Ev.ps 2 rfl ?_
      refine Ev.getf (v := vR 13 0) (by rfl) (by rfl) (by rfl) (rd8) rfl ?_
      refine Ev.lz (N := qEn) (by rfl) (by rfl) (by rfl) (Nat.le_of_ble_eq_true rfl) (rd13) range_len ?_
      refine Ev.igeN (a := j2) (b := qEn) (by omega) (by omega) (by rfl) (by rfl) (fun (c1 : j2 < qEn) => ?_) (fun (c1 : ¬ j2 < qEn) => ?_)
      · exfalso; omega
      · refine Ev.ps 1 rfl ?_
        exact Ev.re rfl rfl rfl rfl rfl
    | succ k2 ih2 =>
      intro j2 o2_2 hj2 ho2_2
      rw [c_first_L2]
      refine Ev.ps 2 rfl ?_
      refine Ev.getf (v := vR 13 0) (by rfl) (by rfl) (by rfl) (rd8) rfl ?_
      refine Ev.lz (N := qEn) (by rfl) (by rfl) (by rfl) (Nat.le_of_ble_eq_true rfl) (rd13) range_len ?_
      refine Ev.igeN (a := j2) (b := qEn) (by omega) (by omega) (by rfl) (by rfl) (fun (c2 : j2 < qEn) => ?_) (fun (c2 : ¬ j2 < qEn) => ?_)
      · refine Ev.ps 1 rfl ?_
        refine Ev.getf (v := vR 13 0) (by rfl) (by rfl) (by rfl) (rd8) rfl ?_
        refine Ev.ps 1 rfl ?_
        refine Ev.lg (j := j2) (v := vR 3 j2) (by rfl) (by rfl) (by rfl) (Nat.le_of_ble_eq_true rfl) (rd13) (by omega) (range_get (by omega)) ?_
        refine Ev.cst (by rfl) (by rfl) (by rfl) (by rw [rd3 (by omega)]; rfl) ?_
        refine Ev.ps 2 rfl ?_
        refine Ev.getf (v := vI (qSt j2)) (by rfl) (by rfl) (by rfl) (rd3 (by omega)) rfl ?_
        refine Ev.ps 1 rfl ?_
        refine Ev.ine (by rfl) (by rfl) (fun (c3 : qSt j2 = 119) => ?_) (fun (c3 : ¬ qSt j2 = 119) => ?_)
        · rw [if_pos c3]
          refine Ev.ps 2 rfl ?_
          refine Ev.vir (as := [vR 3 j2]) (rest := []) (by rfl) (by rfl) (by rfl) (by rfl) rfl (Nat.le_of_ble_eq_true rfl) (by rfl) (by rw [rd8]; rfl) (s_c_canBe hW (by omega)) ?_
          refine Ev.ifbe (by rfl) (by rfl) (fun c4 => ?_) (fun c4 => ?_)
          · rw [if_pos c4]
            refine Ev.ps 1 rfl ?_
            exact Ev.re rfl rfl rfl rfl rfl
          · rw [if_neg c4]
            refine Ev.ps 2 rfl ?_
            have h9 := ih2 (j2 + 1) (some (vR 3 j2)) (by show j2 + 1 + k2 = qEn; omega) Da.r
            rw [← nI_1] at h9
            exact h9
        · rw [if_neg c3]
          refine Ev.ps 2 rfl ?_
          have h9 := ih2 (j2 + 1) (some (vR 3 j2)) (by show j2 + 1 + k2 = qEn; omega) Da.r
          rw [← nI_1] at h9
          exact h9
      · exfalso; omega
  exact L2 qEn 0 none (by show 0 + qEn = qEn; omega) Da.n
def f_c_cletter (qDay : Int32) (qEd : Nat → Int32) (qSt : Nat → Int32) (e : Nat) : Int32 :=
  if qSt e = 119 then 119 else if qEd e = qDay then 104 else 102
theorem s_c_cletter {d : Nat} {zO : Int64} {zD : UInt64} {zX : Nat} {zL : Nat} {zXs : Nat → Int32} {zG5 : List Ob} {zG6 : List Ob} {zG7 : List Ob} {zc : Nat} {zn : Nat} {R : RD} {qNb : Nat → Int32} {qTf : Nat → Nat} {qLn : Nat} {qLy : Nat → Ly} {qMn : Nat} {qMk : Nat → Nat} {qMs : Nat → Int32} {qMh : Nat → List Nat} {qPn : Nat} {qPl : Nat → Nat → Int32} {qPo : Nat → Int32} {qPp : Nat → Int32} {qEn : Nat} {qEm : Nat → Nat} {qEc : Nat → Nat} {qEd : Nat → Int32} {qEs : Nat → Int32} {qEl : Nat → Int32} {qEe : Nat → Int32} {qEw : Nat → Int32} {qSt : Nat → Int32} {qDu : Nat → Int32} {qCu : Nat → List Nat} {qCn : Nat} {qCb : Nat → Nat} {qCl : Nat → Int32} {qBn : Nat} {qBm : Nat → Nat} {qBl : Nat → Int32} {qBf : Nat → Int32} {qKn : Nat} {qKl : Nat → Nat} {qKs : Nat → Nat → Int32} {qPr : Nat → Int32} {qDay : Int32} {qG2 : List Ob} {qG4 : List Ob} {qX1 : List Ob} {qX3 : List Ob} {e : Nat} (hW : WfC qMn qPn qEn qBn qKn qCn qLn qMk qEm qEc qCb qBm qTf qKl qMh qCu qLy) (he : e < qEn) : Cal (d + 0) 84 [vR 8 0, vR 3 e] (enc (mkC qNb qTf qLn qLy qMn qMk qMs qMh qPn qPl qPo qPp qEn qEm qEc qEd qEs qEl qEe qEw qSt qDu qCu qCn qCb qCl qBn qBm qBl qBf qKn qKl qKs qPr qDay qG2 qG4 qX1 qX3) R (mkW zO zD zX zL zXs zG5 zG6 zG7 zc zn)) (.inl (some (vI (f_c_cletter qDay qEd qSt e)))) (enc (mkC qNb qTf qLn qLy qMn qMk qMs qMh qPn qPl qPo qPp qEn qEm qEc qEd qEs qEl qEe qEw qSt qDu qCu qCn qCb qCl qBn qBm qBl qBf qKn qKl qKs qPr qDay qG2 qG4 qX1 qX3) R (mkW zO zD zX zL zXs zG5 zG6 zG7 zc zn)) := by
  obtain ⟨wMn, wPn, wEn, wBn, wKn, wMk, wEm, wEc, wCb, wBm, wTf, wKl, wMh, wMl, wCu, wCl, wLy⟩ := id hW
  refine Cal.mk (n := 2) rfl (Nat.le_of_ble_eq_true rfl) rfl ?_
  unfold f_c_cletter
  refine Ev.ps 1 rfl ?_
  refine Ev.getf (v := vI (qSt e)) (by rfl) (by rfl) (by rfl) (rd3 (by have := he; omega)) rfl ?_
  refine Ev.ps 1 rfl ?_
  refine Ev.ine (by rfl) (by rfl) (fun (c1 : qSt e = 119) => ?_) (fun (c1 : ¬ qSt e = 119) => ?_)
  · rw [if_pos c1]
    refine Ev.ps 1 rfl ?_
    exact Ev.re rfl rfl rfl rfl rfl
  · rw [if_neg c1]
    refine Ev.ps 1 rfl ?_
    refine Ev.getf (v := vI (qEd e)) (by rfl) (by rfl) (by rfl) (rd3 (by have := he; omega)) rfl ?_
    refine Ev.ps 1 rfl ?_
    refine Ev.getf (v := vI qDay) (by rfl) (by rfl) (by rfl) (rd8) rfl ?_
    refine Ev.ine (by rfl) (by rfl) (fun (c2 : qEd e = qDay) => ?_) (fun (c2 : ¬ qEd e = qDay) => ?_)
    · rw [if_pos c2]
      refine Ev.ps 2 rfl ?_
      exact Ev.re rfl rfl rfl rfl rfl
    · rw [if_neg c2]
      refine Ev.ps 1 rfl ?_
      exact Ev.re rfl rfl rfl rfl rfl
def c_taken_L4 (qCb : Nat → Nat) (qCl : Nat → Int32) (qCu : Nat → List Nat) (e : Nat) (b : Nat) : Nat → Nat → Int32 → (Int32)
  | 0, j4, tk =>
    tk
  | k4 + 1, j4, tk =>
    if qCb ((qCu e).getD j4 0) = b then c_taken_L4 qCb qCl qCu e b k4 (j4 + 1) (tk + ((qCl ((qCu e).getD j4 0)) + 3)) else c_taken_L4 qCb qCl qCu e b k4 (j4 + 1) tk
def f_c_taken (qCb : Nat → Nat) (qCl : Nat → Int32) (qCu : Nat → List Nat) (e b : Nat) : Int32 :=
  c_taken_L4 qCb qCl qCu e b ((qCu e).length) 0 0
theorem s_c_taken {d : Nat} {zO : Int64} {zD : UInt64} {zX : Nat} {zL : Nat} {zXs : Nat → Int32} {zG5 : List Ob} {zG6 : List Ob} {zG7 : List Ob} {zc : Nat} {zn : Nat} {R : RD} {qNb : Nat → Int32} {qTf : Nat → Nat} {qLn : Nat} {qLy : Nat → Ly} {qMn : Nat} {qMk : Nat → Nat} {qMs : Nat → Int32} {qMh : Nat → List Nat} {qPn : Nat} {qPl : Nat → Nat → Int32} {qPo : Nat → Int32} {qPp : Nat → Int32} {qEn : Nat} {qEm : Nat → Nat} {qEc : Nat → Nat} {qEd : Nat → Int32} {qEs : Nat → Int32} {qEl : Nat → Int32} {qEe : Nat → Int32} {qEw : Nat → Int32} {qSt : Nat → Int32} {qDu : Nat → Int32} {qCu : Nat → List Nat} {qCn : Nat} {qCb : Nat → Nat} {qCl : Nat → Int32} {qBn : Nat} {qBm : Nat → Nat} {qBl : Nat → Int32} {qBf : Nat → Int32} {qKn : Nat} {qKl : Nat → Nat} {qKs : Nat → Nat → Int32} {qPr : Nat → Int32} {qDay : Int32} {qG2 : List Ob} {qG4 : List Ob} {qX1 : List Ob} {qX3 : List Ob} {e : Nat} {b : Nat} (hW : WfC qMn qPn qEn qBn qKn qCn qLn qMk qEm qEc qCb qBm qTf qKl qMh qCu qLy) (he : e < qEn) (hb : b < qBn) : Cal (d + 0) 92 [vR 3 e, vR 0 b] (enc (mkC qNb qTf qLn qLy qMn qMk qMs qMh qPn qPl qPo qPp qEn qEm qEc qEd qEs qEl qEe qEw qSt qDu qCu qCn qCb qCl qBn qBm qBl qBf qKn qKl qKs qPr qDay qG2 qG4 qX1 qX3) R (mkW zO zD zX zL zXs zG5 zG6 zG7 zc zn)) (.inl (some (vI (f_c_taken qCb qCl qCu e b)))) (enc (mkC qNb qTf qLn qLy qMn qMk qMs qMh qPn qPl qPo qPp qEn qEm qEc qEd qEs qEl qEe qEw qSt qDu qCu qCn qCb qCl qBn qBm qBl qBf qKn qKl qKs qPr qDay qG2 qG4 qX1 qX3) R (mkW zO zD zX zL zXs zG5 zG6 zG7 zc zn)) := by
  obtain ⟨wMn, wPn, wEn, wBn, wKn, wMk, wEm, wEc, wCb, wBm, wTf, wKl, wMh, wMl, wCu, wCl, wLy⟩ := id hW
  refine Cal.mk (n := 5) rfl (Nat.le_of_ble_eq_true rfl) rfl ?_
  unfold f_c_taken
  refine Ev.ps 4 rfl ?_
  have L4 : ∀ (k4 j4 : Nat) (tk : Int32) (o4_4 : Option MV), j4 + k4 = (qCu e).length → Da o4_4 → Ev (d + 0) (92, 4, [some (vR 3 e), some (vR 0 b), some (vI tk), some (vI (nI j4)), o4_4], []) (enc (mkC qNb qTf qLn qLy qMn qMk qMs qMh qPn qPl qPo qPp qEn qEm qEc qEd qEs qEl qEe qEw qSt qDu qCu qCn qCb qCl qBn qBm qBl qBf qKn qKl qKs qPr qDay qG2 qG4 qX1 qX3) R (mkW zO zD zX zL zXs zG5 zG6 zG7 zc zn)) ((.inl (some (vI (c_taken_L4 qCb qCl qCu e b k4 j4 tk)))), enc (mkC qNb qTf qLn qLy qMn qMk qMs qMh qPn qPl qPo qPp qEn qEm qEc qEd qEs qEl qEe qEw qSt qDu qCu qCn qCb qCl qBn qBm qBl qBf qKn qKl qKs qPr qDay qG2 qG4 qX1 qX3) R (mkW zO zD zX zL zXs zG5 zG6 zG7 zc zn)) := by
    intro k4
    induction k4 with
    | zero =>
      intro j4 tk o4_4 hj4 ho4_4
      rw [c_taken_L4]
      refine Ev.ps 2 rfl ?_
      refine Ev.getf (v := vR 17 e) (by rfl) (by rfl) (by rfl) (rd3 (by have := he; omega)) rfl ?_
      refine Ev.lz (N := ((qCu e).length)) (by rfl) (by rfl) (by rfl) (Nat.le_of_ble_eq_true rfl) (rd17 (by have := he; omega)) (List.length_map ..) ?_
      refine Ev.igeN (a := j4) (b := ((qCu e).length)) (by have := wCl e; omega) (by have := wCl e; omega) (by rfl) (by rfl) (fun (c1 : j4 < (qCu e).length) => ?_) (fun (c1 : ¬ j4 < (qCu e).length) => ?_)
      · exfalso; omega
      · refine Ev.ps 1 rfl ?_
        exact Ev.re rfl rfl rfl rfl rfl
    | succ k4 ih4 =>
      intro j4 tk o4_4 hj4 ho4_4
      rw [c_taken_L4]
      refine Ev.ps 2 rfl ?_
      refine Ev.getf (v := vR 17 e) (by rfl) (by rfl) (by rfl) (rd3 (by have := he; omega)) rfl ?_
      refine Ev.lz (N := ((qCu e).length)) (by rfl) (by rfl) (by rfl) (Nat.le_of_ble_eq_true rfl) (rd17 (by have := he; omega)) (List.length_map ..) ?_
      refine Ev.igeN (a := j4) (b := ((qCu e).length)) (by have := wCl e; omega) (by have := wCl e; omega) (by rfl) (by rfl) (fun (c2 : j4 < (qCu e).length) => ?_) (fun (c2 : ¬ j4 < (qCu e).length) => ?_)
      · refine Ev.ps 1 rfl ?_
        refine Ev.getf (v := vR 17 e) (by rfl) (by rfl) (by rfl) (rd3 (by have := he; omega)) rfl ?_
        refine Ev.ps 1 rfl ?_
        refine Ev.lg (j := j4) (v := vR 2 ((qCu e).getD j4 0)) (by rfl) (by rfl) (by rfl) (Nat.le_of_ble_eq_true rfl) (rd17 (by have := he; omega)) (by have := wCl e; have := wCl e; omega) (mapget (by have := wCl e; omega)) ?_
        refine Ev.cst (by rfl) (by rfl) (by rfl) (by rw [rd2 (by have := wCu _ _ (getD_mem (d := 0) (by have := wCl e; omega)); omega)]; rfl) ?_
        refine Ev.ps 2 rfl ?_
        refine Ev.getf (v := vR 0 (qCb ((qCu e).getD j4 0))) (by rfl) (by rfl) (by rfl) (rd2 (by have := wCu _ _ (getD_mem (d := 0) (by have := wCl e; omega)); omega)) rfl ?_
        refine Ev.ps 1 rfl ?_
        refine Ev.ane (by rfl) (by rfl) (by decide) (fun (c3 : qCb ((qCu e).getD j4 0) = b) => ?_) (fun (c3 : ¬ qCb ((qCu e).getD j4 0) = b) => ?_)
        · rw [if_pos c3]
          refine Ev.ps 2 rfl ?_
          refine Ev.getf (v := vI (qCl ((qCu e).getD j4 0))) (by rfl) (by rfl) (by rfl) (rd2 (by have := wCu _ _ (getD_mem (d := 0) (by have := wCl e; omega)); omega)) rfl ?_
          refine Ev.ps 6 rfl ?_
          have h9 := ih4 (j4 + 1) (tk + ((qCl ((qCu e).getD j4 0)) + 3)) (some (vR 2 ((qCu e).getD j4 0))) (by show j4 + 1 + k4 = (qCu e).length; omega) Da.r
          rw [← nI_1] at h9
          exact h9
        · rw [if_neg c3]
          refine Ev.ps 2 rfl ?_
          have h9 := ih4 (j4 + 1) tk (some (vR 2 ((qCu e).getD j4 0))) (by show j4 + 1 + k4 = (qCu e).length; omega) Da.r
          rw [← nI_1] at h9
          exact h9
      · exfalso; omega
  exact L4 ((qCu e).length) 0 0 none (by show 0 + (qCu e).length = (qCu e).length; omega) Da.n
def c_left_L7 (qCb : Nat → Nat) (qCl : Nat → Int32) (qCu : Nat → List Nat) (b : Nat) : Nat → Nat → Int32 → (Int32)
  | 0, j7, lf =>
    lf
  | k7 + 1, j7, lf =>
    c_left_L7 qCb qCl qCu b k7 (j7 + 1) (lf - (f_c_taken qCb qCl qCu j7 b))
def f_c_left (qBl : Nat → Int32) (qCb : Nat → Nat) (qCl : Nat → Int32) (qCu : Nat → List Nat) (qEn : Nat) (b : Nat) : Int32 :=
  c_left_L7 qCb qCl qCu b qEn 0 (qBl b)
theorem s_c_left {d : Nat} {zO : Int64} {zD : UInt64} {zX : Nat} {zL : Nat} {zXs : Nat → Int32} {zG5 : List Ob} {zG6 : List Ob} {zG7 : List Ob} {zc : Nat} {zn : Nat} {R : RD} {qNb : Nat → Int32} {qTf : Nat → Nat} {qLn : Nat} {qLy : Nat → Ly} {qMn : Nat} {qMk : Nat → Nat} {qMs : Nat → Int32} {qMh : Nat → List Nat} {qPn : Nat} {qPl : Nat → Nat → Int32} {qPo : Nat → Int32} {qPp : Nat → Int32} {qEn : Nat} {qEm : Nat → Nat} {qEc : Nat → Nat} {qEd : Nat → Int32} {qEs : Nat → Int32} {qEl : Nat → Int32} {qEe : Nat → Int32} {qEw : Nat → Int32} {qSt : Nat → Int32} {qDu : Nat → Int32} {qCu : Nat → List Nat} {qCn : Nat} {qCb : Nat → Nat} {qCl : Nat → Int32} {qBn : Nat} {qBm : Nat → Nat} {qBl : Nat → Int32} {qBf : Nat → Int32} {qKn : Nat} {qKl : Nat → Nat} {qKs : Nat → Nat → Int32} {qPr : Nat → Int32} {qDay : Int32} {qG2 : List Ob} {qG4 : List Ob} {qX1 : List Ob} {qX3 : List Ob} {b : Nat} (hW : WfC qMn qPn qEn qBn qKn qCn qLn qMk qEm qEc qCb qBm qTf qKl qMh qCu qLy) (hb : b < qBn) : Cal (d + 1) 91 [vR 8 0, vR 0 b] (enc (mkC qNb qTf qLn qLy qMn qMk qMs qMh qPn qPl qPo qPp qEn qEm qEc qEd qEs qEl qEe qEw qSt qDu qCu qCn qCb qCl qBn qBm qBl qBf qKn qKl qKs qPr qDay qG2 qG4 qX1 qX3) R (mkW zO zD zX zL zXs zG5 zG6 zG7 zc zn)) (.inl (some (vI (f_c_left qBl qCb qCl qCu qEn b)))) (enc (mkC qNb qTf qLn qLy qMn qMk qMs qMh qPn qPl qPo qPp qEn qEm qEc qEd qEs qEl qEe qEw qSt qDu qCu qCn qCb qCl qBn qBm qBl qBf qKn qKl qKs qPr qDay qG2 qG4 qX1 qX3) R (mkW zO zD zX zL zXs zG5 zG6 zG7 zc zn)) := by
  obtain ⟨wMn, wPn, wEn, wBn, wKn, wMk, wEm, wEc, wCb, wBm, wTf, wKl, wMh, wMl, wCu, wCl, wLy⟩ := id hW
  refine Cal.mk (n := 4) rfl (Nat.le_of_ble_eq_true rfl) rfl ?_
  unfold f_c_left
  refine Ev.ps 1 rfl ?_
  refine Ev.getf (v := vI (qBl b)) (by rfl) (by rfl) (by rfl) (rd0 (by have := hb; omega)) rfl ?_
  refine Ev.ps 3 rfl ?_
  have L7 : ∀ (k7 j7 : Nat) (lf : Int32), j7 + k7 = qEn → Ev (d + 1) (91, 7, [some (vR 8 0), some (vR 0 b), some (vI lf), some (vI (nI j7))], []) (enc (mkC qNb qTf qLn qLy qMn qMk qMs qMh qPn qPl qPo qPp qEn qEm qEc qEd qEs qEl qEe qEw qSt qDu qCu qCn qCb qCl qBn qBm qBl qBf qKn qKl qKs qPr qDay qG2 qG4 qX1 qX3) R (mkW zO zD zX zL zXs zG5 zG6 zG7 zc zn)) ((.inl (some (vI (c_left_L7 qCb qCl qCu b k7 j7 lf)))), enc (mkC qNb qTf qLn qLy qMn qMk qMs qMh qPn qPl qPo qPp qEn qEm qEc qEd qEs qEl qEe qEw qSt qDu qCu qCn qCb qCl qBn qBm qBl qBf qKn qKl qKs qPr qDay qG2 qG4 qX1 qX3) R (mkW zO zD zX zL zXs zG5 zG6 zG7 zc zn)) := by
    intro k7
    induction k7 with
    | zero =>
      intro j7 lf hj7
      rw [c_left_L7]
      refine Ev.ps 2 rfl ?_
      refine Ev.getf (v := vR 13 0) (by rfl) (by rfl) (by rfl) (rd8) rfl ?_
      refine Ev.lz (N := qEn) (by rfl) (by rfl) (by rfl) (Nat.le_of_ble_eq_true rfl) (rd13) range_len ?_
      refine Ev.igeN (a := j7) (b := qEn) (by omega) (by omega) (by rfl) (by rfl) (fun (c1 : j7 < qEn) => ?_) (fun (c1 : ¬ j7 < qEn) => ?_)
      · exfalso; omega
      · refine Ev.ps 1 rfl ?_
        exact Ev.re rfl rfl rfl rfl rfl
    | succ k7 ih7 =>
      intro j7 lf hj7
      rw [c_left_L7]
      refine Ev.ps 2 rfl ?_
      refine Ev.getf (v := vR 13 0) (by rfl) (by rfl) (by rfl) (rd8) rfl ?_
      refine Ev.lz (N := qEn) (by rfl) (by rfl) (by rfl) (Nat.le_of_ble_eq_true rfl) (rd13) range_len ?_
      refine Ev.igeN (a := j7) (b := qEn) (by omega) (by omega) (by rfl) (by rfl) (fun (c2 : j7 < qEn) => ?_) (fun (c2 : ¬ j7 < qEn) => ?_)
      · refine Ev.ps 2 rfl ?_
        refine Ev.getf (v := vR 13 0) (by rfl) (by rfl) (by rfl) (rd8) rfl ?_
        refine Ev.ps 1 rfl ?_
        refine Ev.lg (j := j7) (v := vR 3 j7) (by rfl) (by rfl) (by rfl) (Nat.le_of_ble_eq_true rfl) (rd13) (by omega) (range_get (by omega)) ?_
        refine Ev.cst (by rfl) (by rfl) (by rfl) (by rw [rd3 (by omega)]; rfl) ?_
        refine Ev.ps 1 rfl ?_
        refine Ev.sta (as := [vR 3 j7, vR 0 b]) (rest := [vI lf]) (by rfl) (by rfl) (by rfl) (by rfl) rfl (Nat.le_of_ble_eq_true rfl) (s_c_taken hW (by omega) (by have := hb; omega)) ?_
        refine Ev.ps 4 rfl ?_
        have h9 := ih7 (j7 + 1) (lf - (f_c_taken qCb qCl qCu j7 b)) (by show j7 + 1 + k7 = qEn; omega)
        rw [← nI_1] at h9
        exact h9
      · exfalso; omega
  exact L7 qEn 0 (qBl b) (by show 0 + qEn = qEn; omega)
def c_cutPrice_L4 (qBm : Nat → Nat) (qCb : Nat → Nat) (qCl : Nat → Int32) (qCu : Nat → List Nat) (qPr : Nat → Int32) (e : Nat) : Nat → Nat → Int32 → (Int32)
  | 0, j4, sm =>
    sm
  | k4 + 1, j4, sm =>
    c_cutPrice_L4 qBm qCb qCl qCu qPr e k4 (j4 + 1) (sm + ((((qCl ((qCu e).getD j4 0)) * (f_c_priceOf qPr (nI (qBm (qCb ((qCu e).getD j4 0)))))) + 99) / 100))
def f_c_cutPrice (qBm : Nat → Nat) (qCb : Nat → Nat) (qCl : Nat → Int32) (qCu : Nat → List Nat) (qPr : Nat → Int32) (e : Nat) : Int32 :=
  c_cutPrice_L4 qBm qCb qCl qCu qPr e ((qCu e).length) 0 0
theorem s_c_cutPrice {d : Nat} {zO : Int64} {zD : UInt64} {zX : Nat} {zL : Nat} {zXs : Nat → Int32} {zG5 : List Ob} {zG6 : List Ob} {zG7 : List Ob} {zc : Nat} {zn : Nat} {R : RD} {qNb : Nat → Int32} {qTf : Nat → Nat} {qLn : Nat} {qLy : Nat → Ly} {qMn : Nat} {qMk : Nat → Nat} {qMs : Nat → Int32} {qMh : Nat → List Nat} {qPn : Nat} {qPl : Nat → Nat → Int32} {qPo : Nat → Int32} {qPp : Nat → Int32} {qEn : Nat} {qEm : Nat → Nat} {qEc : Nat → Nat} {qEd : Nat → Int32} {qEs : Nat → Int32} {qEl : Nat → Int32} {qEe : Nat → Int32} {qEw : Nat → Int32} {qSt : Nat → Int32} {qDu : Nat → Int32} {qCu : Nat → List Nat} {qCn : Nat} {qCb : Nat → Nat} {qCl : Nat → Int32} {qBn : Nat} {qBm : Nat → Nat} {qBl : Nat → Int32} {qBf : Nat → Int32} {qKn : Nat} {qKl : Nat → Nat} {qKs : Nat → Nat → Int32} {qPr : Nat → Int32} {qDay : Int32} {qG2 : List Ob} {qG4 : List Ob} {qX1 : List Ob} {qX3 : List Ob} {e : Nat} (hW : WfC qMn qPn qEn qBn qKn qCn qLn qMk qEm qEc qCb qBm qTf qKl qMh qCu qLy) (he : e < qEn) : Cal (d + 1) 97 [vR 8 0, vR 3 e] (enc (mkC qNb qTf qLn qLy qMn qMk qMs qMh qPn qPl qPo qPp qEn qEm qEc qEd qEs qEl qEe qEw qSt qDu qCu qCn qCb qCl qBn qBm qBl qBf qKn qKl qKs qPr qDay qG2 qG4 qX1 qX3) R (mkW zO zD zX zL zXs zG5 zG6 zG7 zc zn)) (.inl (some (vI (f_c_cutPrice qBm qCb qCl qCu qPr e)))) (enc (mkC qNb qTf qLn qLy qMn qMk qMs qMh qPn qPl qPo qPp qEn qEm qEc qEd qEs qEl qEe qEw qSt qDu qCu qCn qCb qCl qBn qBm qBl qBf qKn qKl qKs qPr qDay qG2 qG4 qX1 qX3) R (mkW zO zD zX zL zXs zG5 zG6 zG7 zc zn)) := by
  obtain ⟨wMn, wPn, wEn, wBn, wKn, wMk, wEm, wEc, wCb, wBm, wTf, wKl, wMh, wMl, wCu, wCl, wLy⟩ := id hW
  refine Cal.mk (n := 5) rfl (Nat.le_of_ble_eq_true rfl) rfl ?_
  unfold f_c_cutPrice
  refine Ev.ps 4 rfl ?_
  have L4 : ∀ (k4 j4 : Nat) (sm : Int32) (o4_4 : Option MV), j4 + k4 = (qCu e).length → Da o4_4 → Ev (d + 1) (97, 4, [some (vR 8 0), some (vR 3 e), some (vI sm), some (vI (nI j4)), o4_4], []) (enc (mkC qNb qTf qLn qLy qMn qMk qMs qMh qPn qPl qPo qPp qEn qEm qEc qEd qEs qEl qEe qEw qSt qDu qCu qCn qCb qCl qBn qBm qBl qBf qKn qKl qKs qPr qDay qG2 qG4 qX1 qX3) R (mkW zO zD zX zL zXs zG5 zG6 zG7 zc zn)) ((.inl (some (vI (c_cutPrice_L4 qBm qCb qCl qCu qPr e k4 j4 sm)))), enc (mkC qNb qTf qLn qLy qMn qMk qMs qMh qPn qPl qPo qPp qEn qEm qEc qEd qEs qEl qEe qEw qSt qDu qCu qCn qCb qCl qBn qBm qBl qBf qKn qKl qKs qPr qDay qG2 qG4 qX1 qX3) R (mkW zO zD zX zL zXs zG5 zG6 zG7 zc zn)) := by
    intro k4
    induction k4 with
    | zero =>
      intro j4 sm o4_4 hj4 ho4_4
      rw [c_cutPrice_L4]
      refine Ev.ps 2 rfl ?_
      refine Ev.getf (v := vR 17 e) (by rfl) (by rfl) (by rfl) (rd3 (by have := he; omega)) rfl ?_
      refine Ev.lz (N := ((qCu e).length)) (by rfl) (by rfl) (by rfl) (Nat.le_of_ble_eq_true rfl) (rd17 (by have := he; omega)) (List.length_map ..) ?_
      refine Ev.igeN (a := j4) (b := ((qCu e).length)) (by have := wCl e; omega) (by have := wCl e; omega) (by rfl) (by rfl) (fun (c1 : j4 < (qCu e).length) => ?_) (fun (c1 : ¬ j4 < (qCu e).length) => ?_)
      · exfalso; omega
      · refine Ev.ps 1 rfl ?_
        exact Ev.re rfl rfl rfl rfl rfl
    | succ k4 ih4 =>
      intro j4 sm o4_4 hj4 ho4_4
      rw [c_cutPrice_L4]
      refine Ev.ps 2 rfl ?_
      refine Ev.getf (v := vR 17 e) (by rfl) (by rfl) (by rfl) (rd3 (by have := he; omega)) rfl ?_
      refine Ev.lz (N := ((qCu e).length)) (by rfl) (by rfl) (by rfl) (Nat.le_of_ble_eq_true rfl) (rd17 (by have := he; omega)) (List.length_map ..) ?_
      refine Ev.igeN (a := j4) (b := ((qCu e).length)) (by have := wCl e; omega) (by have := wCl e; omega) (by rfl) (by rfl) (fun (c2 : j4 < (qCu e).length) => ?_) (fun (c2 : ¬ j4 < (qCu e).length) => ?_)
      · refine Ev.ps 1 rfl ?_
        refine Ev.getf (v := vR 17 e) (by rfl) (by rfl) (by rfl) (rd3 (by have := he; omega)) rfl ?_
        refine Ev.ps 1 rfl ?_
        refine Ev.lg (j := j4) (v := vR 2 ((qCu e).getD j4 0)) (by rfl) (by rfl) (by rfl) (Nat.le_of_ble_eq_true rfl) (rd17 (by have := he; omega)) (by have := wCl e; have := wCl e; omega) (mapget (by have := wCl e; omega)) ?_
        refine Ev.cst (by rfl) (by rfl) (by rfl) (by rw [rd2 (by have := wCu _ _ (getD_mem (d := 0) (by have := wCl e; omega)); omega)]; rfl) ?_
        refine Ev.ps 3 rfl ?_
        refine Ev.getf (v := vI (qCl ((qCu e).getD j4 0))) (by rfl) (by rfl) (by rfl) (rd2 (by have := wCu _ _ (getD_mem (d := 0) (by have := wCl e; omega)); omega)) rfl ?_
        refine Ev.ps 2 rfl ?_
        refine Ev.getf (v := vR 0 (qCb ((qCu e).getD j4 0))) (by rfl) (by rfl) (by rfl) (rd2 (by have := wCu _ _ (getD_mem (d := 0) (by have := wCl e; omega)); omega)) rfl ?_
        refine Ev.getf (v := vI (nI (qBm (qCb ((qCu e).getD j4 0))))) (by rfl) (by rfl) (by rfl) (rd0 (by have := wCb _ (by have := wCu _ _ (getD_mem (d := 0) (by have := wCl e; omega)); omega); omega)) rfl ?_
        refine Ev.vir (as := [vI (nI (qBm (qCb ((qCu e).getD j4 0))))]) (rest := [vI (qCl ((qCu e).getD j4 0)), vI sm]) (by rfl) (by rfl) (by rfl) (by rfl) rfl (Nat.le_of_ble_eq_true rfl) (by rfl) (by rw [rd8]; rfl) (s_c_priceOf hW) ?_
        refine Ev.ps 9 rfl ?_
        have h9 := ih4 (j4 + 1) (sm + ((((qCl ((qCu e).getD j4 0)) * (f_c_priceOf qPr (nI (qBm (qCb ((qCu e).getD j4 0)))))) + 99) / 100)) (some (vR 2 ((qCu e).getD j4 0))) (by show j4 + 1 + k4 = (qCu e).length; omega) Da.r
        rw [← nI_1] at h9
        exact h9
      · exfalso; omega
  exact L4 ((qCu e).length) 0 0 none (by show 0 + (qCu e).length = (qCu e).length; omega) Da.n
def c_blame_L5 (qDay : Int32) (qEc : Nat → Nat) (qEd : Nat → Int32) (qEl : Nat → Int32) (qEm : Nat → Nat) (qSt : Nat → Int32) (m : Nat) (mc : Nat) : Nat → Nat → Int32 → (Int32)
  | 0, j5, sm =>
    sm
  | k5 + 1, j5, sm =>
    if qSt j5 = 100 then
      if qEm j5 = m then
        if qEc j5 = mc then
          if qEd j5 < qDay then
            if qEd j5 < qDay - 7 then c_blame_L5 qDay qEc qEd qEl qEm qSt m mc k5 (j5 + 1) sm else c_blame_L5 qDay qEc qEd qEl qEm qSt m mc k5 (j5 + 1) (sm + (qEl j5))
          else
            c_blame_L5 qDay qEc qEd qEl qEm qSt m mc k5 (j5 + 1) sm
        else
          c_blame_L5 qDay qEc qEd qEl qEm qSt m mc k5 (j5 + 1) sm
      else
        c_blame_L5 qDay qEc qEd qEl qEm qSt m mc k5 (j5 + 1) sm
    else
      c_blame_L5 qDay qEc qEd qEl qEm qSt m mc k5 (j5 + 1) sm
def f_c_blame (qDay : Int32) (qEc : Nat → Nat) (qEd : Nat → Int32) (qEl : Nat → Int32) (qEm : Nat → Nat) (qEn : Nat) (qSt : Nat → Int32) (m mc : Nat) : Int32 :=
  c_blame_L5 qDay qEc qEd qEl qEm qSt m mc qEn 0 0
theorem s_c_blame {d : Nat} {zO : Int64} {zD : UInt64} {zX : Nat} {zL : Nat} {zXs : Nat → Int32} {zG5 : List Ob} {zG6 : List Ob} {zG7 : List Ob} {zc : Nat} {zn : Nat} {R : RD} {qNb : Nat → Int32} {qTf : Nat → Nat} {qLn : Nat} {qLy : Nat → Ly} {qMn : Nat} {qMk : Nat → Nat} {qMs : Nat → Int32} {qMh : Nat → List Nat} {qPn : Nat} {qPl : Nat → Nat → Int32} {qPo : Nat → Int32} {qPp : Nat → Int32} {qEn : Nat} {qEm : Nat → Nat} {qEc : Nat → Nat} {qEd : Nat → Int32} {qEs : Nat → Int32} {qEl : Nat → Int32} {qEe : Nat → Int32} {qEw : Nat → Int32} {qSt : Nat → Int32} {qDu : Nat → Int32} {qCu : Nat → List Nat} {qCn : Nat} {qCb : Nat → Nat} {qCl : Nat → Int32} {qBn : Nat} {qBm : Nat → Nat} {qBl : Nat → Int32} {qBf : Nat → Int32} {qKn : Nat} {qKl : Nat → Nat} {qKs : Nat → Nat → Int32} {qPr : Nat → Int32} {qDay : Int32} {qG2 : List Ob} {qG4 : List Ob} {qX1 : List Ob} {qX3 : List Ob} {m : Nat} {mc : Nat} (hW : WfC qMn qPn qEn qBn qKn qCn qLn qMk qEm qEc qCb qBm qTf qKl qMh qCu qLy) (hm : m < qPn) (hc : mc < qMn) : Cal (d + 0) 99 [vR 8 0, vR 7 m, vR 6 mc] (enc (mkC qNb qTf qLn qLy qMn qMk qMs qMh qPn qPl qPo qPp qEn qEm qEc qEd qEs qEl qEe qEw qSt qDu qCu qCn qCb qCl qBn qBm qBl qBf qKn qKl qKs qPr qDay qG2 qG4 qX1 qX3) R (mkW zO zD zX zL zXs zG5 zG6 zG7 zc zn)) (.inl (some (vI (f_c_blame qDay qEc qEd qEl qEm qEn qSt m mc)))) (enc (mkC qNb qTf qLn qLy qMn qMk qMs qMh qPn qPl qPo qPp qEn qEm qEc qEd qEs qEl qEe qEw qSt qDu qCu qCn qCb qCl qBn qBm qBl qBf qKn qKl qKs qPr qDay qG2 qG4 qX1 qX3) R (mkW zO zD zX zL zXs zG5 zG6 zG7 zc zn)) := by
  obtain ⟨wMn, wPn, wEn, wBn, wKn, wMk, wEm, wEc, wCb, wBm, wTf, wKl, wMh, wMl, wCu, wCl, wLy⟩ := id hW
  refine Cal.mk (n := 7) rfl (Nat.le_of_ble_eq_true rfl) rfl ?_
  unfold f_c_blame
  refine Ev.ps 4 rfl ?_
  have L5 : ∀ (k5 j5 : Nat) (sm : Int32) (o5_5 : Option MV) (o5_6 : Option MV), j5 + k5 = qEn → Da o5_5 → Da o5_6 → Ev (d + 0) (99, 5, [some (vR 8 0), some (vR 7 m), some (vR 6 mc), some (vI sm), some (vI (nI j5)), o5_5, o5_6], []) (enc (mkC qNb qTf qLn qLy qMn qMk qMs qMh qPn qPl qPo qPp qEn qEm qEc qEd qEs qEl qEe qEw qSt qDu qCu qCn qCb qCl qBn qBm qBl qBf qKn qKl qKs qPr qDay qG2 qG4 qX1 qX3) R (mkW zO zD zX zL zXs zG5 zG6 zG7 zc zn)) ((.inl (some (vI (c_blame_L5 qDay qEc qEd qEl qEm qSt m mc k5 j5 sm)))), enc (mkC qNb qTf qLn qLy qMn qMk qMs qMh qPn qPl qPo qPp qEn qEm qEc qEd qEs qEl qEe qEw qSt qDu qCu qCn qCb qCl qBn qBm qBl qBf qKn qKl qKs qPr qDay qG2 qG4 qX1 qX3) R (mkW zO zD zX zL zXs zG5 zG6 zG7 zc zn)) := by
    intro k5
    induction k5 with
    | zero =>
      intro j5 sm o5_5 o5_6 hj5 ho5_5 ho5_6
      rw [c_blame_L5]
      refine Ev.ps 2 rfl ?_
      refine Ev.getf (v := vR 13 0) (by rfl) (by rfl) (by rfl) (rd8) rfl ?_
      refine Ev.lz (N := qEn) (by rfl) (by rfl) (by rfl) (Nat.le_of_ble_eq_true rfl) (rd13) range_len ?_
      refine Ev.igeN (a := j5) (b := qEn) (by omega) (by omega) (by rfl) (by rfl) (fun (c1 : j5 < qEn) => ?_) (fun (c1 : ¬ j5 < qEn) => ?_)
      · exfalso; omega
      · refine Ev.ps 1 rfl ?_
        exact Ev.re rfl rfl rfl rfl rfl
    | succ k5 ih5 =>
      intro j5 sm o5_5 o5_6 hj5 ho5_5 ho5_6
      rw [c_blame_L5]
      refine Ev.ps 2 rfl ?_
      refine Ev.getf (v := vR 13 0) (by rfl) (by rfl) (by rfl) (rd8) rfl ?_
      refine Ev.lz (N := qEn) (by rfl) (by rfl) (by rfl) (Nat.le_of_ble_eq_true rfl) (rd13) range_len ?_
      refine Ev.igeN (a := j5) (b := qEn) (by omega) (by omega) (by rfl) (by rfl) (fun (c2 : j5 < qEn) => ?_) (fun (c2 : ¬ j5 < qEn) => ?_)
      · refine Ev.ps 1 rfl ?_
        refine Ev.getf (v := vR 13 0) (by rfl) (by rfl) (by rfl) (rd8) rfl ?_
        refine Ev.ps 1 rfl ?_
        refine Ev.lg (j := j5) (v := vR 3 j5) (by rfl) (by rfl) (by rfl) (Nat.le_of_ble_eq_true rfl) (rd13) (by omega) (range_get (by omega)) ?_
        refine Ev.cst (by rfl) (by rfl) (by rfl) (by rw [rd3 (by omega)]; rfl) ?_
        refine Ev.ps 2 rfl ?_
        refine Ev.getf (v := vI (qSt j5)) (by rfl) (by rfl) (by rfl) (rd3 (by omega)) rfl ?_
        refine Ev.ps 1 rfl ?_
        refine Ev.ine (by rfl) (by rfl) (fun (c3 : qSt j5 = 100) => ?_) (fun (c3 : ¬ qSt j5 = 100) => ?_)
        · rw [if_pos c3]
          refine Ev.ps 1 rfl ?_
          refine Ev.getf (v := vR 7 (qEm j5)) (by rfl) (by rfl) (by rfl) (rd3 (by omega)) rfl ?_
          refine Ev.ps 1 rfl ?_
          refine Ev.ane (by rfl) (by rfl) (by decide) (fun (c4 : qEm j5 = m) => ?_) (fun (c4 : ¬ qEm j5 = m) => ?_)
          · rw [if_pos c4]
            refine Ev.ps 1 rfl ?_
            refine Ev.getf (v := vR 6 (qEc j5)) (by rfl) (by rfl) (by rfl) (rd3 (by omega)) rfl ?_
            refine Ev.ps 1 rfl ?_
            refine Ev.ane (by rfl) (by rfl) (by decide) (fun (c5 : qEc j5 = mc) => ?_) (fun (c5 : ¬ qEc j5 = mc) => ?_)
            · rw [if_pos c5]
              refine Ev.ps 4 rfl ?_
              refine Ev.ifi (by rfl) (by rfl) (fun z => by exact absurd z (by decide)) (fun _ => ?_)
              refine Ev.ps 1 rfl ?_
              refine Ev.getf (v := vI (qEd j5)) (by rfl) (by rfl) (by rfl) (rd3 (by omega)) rfl ?_
              refine Ev.ps 1 rfl ?_
              refine Ev.getf (v := vI qDay) (by rfl) (by rfl) (by rfl) (rd8) rfl ?_
              refine Ev.ige (by rfl) (by rfl) (fun (c6 : qEd j5 < qDay) => ?_) (fun (c6 : ¬ qEd j5 < qDay) => ?_)
              · rw [if_pos c6]
                refine Ev.ps 1 rfl ?_
                refine Ev.getf (v := vI (qEd j5)) (by rfl) (by rfl) (by rfl) (rd3 (by omega)) rfl ?_
                refine Ev.ps 1 rfl ?_
                refine Ev.getf (v := vI qDay) (by rfl) (by rfl) (by rfl) (rd8) rfl ?_
                refine Ev.ps 2 rfl ?_
                refine Ev.ilt (by rfl) (by rfl) (fun (c7 : qEd j5 < qDay - 7) => ?_) (fun (c7 : ¬ qEd j5 < qDay - 7) => ?_)
                · rw [if_pos c7]
                  refine Ev.ps 2 rfl ?_
                  have h9 := ih5 (j5 + 1) sm (some (vR 3 j5)) (some (vI 1)) (by show j5 + 1 + k5 = qEn; omega) Da.r Da.i
                  rw [← nI_1] at h9
                  exact h9
                · rw [if_neg c7]
                  refine Ev.ps 2 rfl ?_
                  refine Ev.getf (v := vI (qEl j5)) (by rfl) (by rfl) (by rfl) (rd3 (by omega)) rfl ?_
                  refine Ev.ps 4 rfl ?_
                  have h9 := ih5 (j5 + 1) (sm + (qEl j5)) (some (vR 3 j5)) (some (vI 1)) (by show j5 + 1 + k5 = qEn; omega) Da.r Da.i
                  rw [← nI_1] at h9
                  exact h9
              · rw [if_neg c6]
                refine Ev.ps 2 rfl ?_
                have h9 := ih5 (j5 + 1) sm (some (vR 3 j5)) (some (vI 1)) (by show j5 + 1 + k5 = qEn; omega) Da.r Da.i
                rw [← nI_1] at h9
                exact h9
            · rw [if_neg c5]
              refine Ev.ps 3 rfl ?_
              refine Ev.ifi (by rfl) (by rfl) (fun _ => ?_) (fun z => by exact absurd z (by decide))
              refine Ev.ps 2 rfl ?_
              have h9 := ih5 (j5 + 1) sm (some (vR 3 j5)) (some (vI 0)) (by show j5 + 1 + k5 = qEn; omega) Da.r Da.i
              rw [← nI_1] at h9
              exact h9
          · rw [if_neg c4]
            refine Ev.ps 3 rfl ?_
            refine Ev.ifi (by rfl) (by rfl) (fun _ => ?_) (fun z => by exact absurd z (by decide))
            refine Ev.ps 2 rfl ?_
            have h9 := ih5 (j5 + 1) sm (some (vR 3 j5)) (some (vI 0)) (by show j5 + 1 + k5 = qEn; omega) Da.r Da.i
            rw [← nI_1] at h9
            exact h9
        · rw [if_neg c3]
          refine Ev.ps 3 rfl ?_
          refine Ev.ifi (by rfl) (by rfl) (fun _ => ?_) (fun z => by exact absurd z (by decide))
          refine Ev.ps 2 rfl ?_
          have h9 := ih5 (j5 + 1) sm (some (vR 3 j5)) (some (vI 0)) (by show j5 + 1 + k5 = qEn; omega) Da.r Da.i
          rw [← nI_1] at h9
          exact h9
      · exfalso; omega
  exact L5 qEn 0 0 none none (by show 0 + qEn = qEn; omega) Da.n Da.n
def c_tight_L8 (qBf : Nat → Int32) (qBm : Nat → Nat) (mt : Int32) (L : Int32) : Nat → Nat → Option Nat → Int32 → (Option Nat)
  | 0, j8, best, least =>
    best
  | k8 + 1, j8, best, least =>
    if nI (qBm j8) = mt then
      if qBf j8 < L then
        c_tight_L8 qBf qBm mt L k8 (j8 + 1) best least
      else
        oE best (
          c_tight_L8 qBf qBm mt L k8 (j8 + 1) (some j8) (qBf j8)
          ) (fun k5 =>
          if qBf j8 < least then c_tight_L8 qBf qBm mt L k8 (j8 + 1) (some j8) (qBf j8) else c_tight_L8 qBf qBm mt L k8 (j8 + 1) (some k5) least
          )
    else
      c_tight_L8 qBf qBm mt L k8 (j8 + 1) best least
def f_c_tight (qBf : Nat → Int32) (qBm : Nat → Nat) (qBn : Nat) (mt L : Int32) : Option Nat :=
  c_tight_L8 qBf qBm mt L qBn 0 none 0
theorem s_c_tight {d : Nat} {zO : Int64} {zD : UInt64} {zX : Nat} {zL : Nat} {zXs : Nat → Int32} {zG5 : List Ob} {zG6 : List Ob} {zG7 : List Ob} {zc : Nat} {zn : Nat} {R : RD} {qNb : Nat → Int32} {qTf : Nat → Nat} {qLn : Nat} {qLy : Nat → Ly} {qMn : Nat} {qMk : Nat → Nat} {qMs : Nat → Int32} {qMh : Nat → List Nat} {qPn : Nat} {qPl : Nat → Nat → Int32} {qPo : Nat → Int32} {qPp : Nat → Int32} {qEn : Nat} {qEm : Nat → Nat} {qEc : Nat → Nat} {qEd : Nat → Int32} {qEs : Nat → Int32} {qEl : Nat → Int32} {qEe : Nat → Int32} {qEw : Nat → Int32} {qSt : Nat → Int32} {qDu : Nat → Int32} {qCu : Nat → List Nat} {qCn : Nat} {qCb : Nat → Nat} {qCl : Nat → Int32} {qBn : Nat} {qBm : Nat → Nat} {qBl : Nat → Int32} {qBf : Nat → Int32} {qKn : Nat} {qKl : Nat → Nat} {qKs : Nat → Nat → Int32} {qPr : Nat → Int32} {qDay : Int32} {qG2 : List Ob} {qG4 : List Ob} {qX1 : List Ob} {qX3 : List Ob} {mt : Int32} {L : Int32} (hW : WfC qMn qPn qEn qBn qKn qCn qLn qMk qEm qEc qCb qBm qTf qKl qMh qCu qLy) : Cal (d + 0) 90 [vR 8 0, vI mt, vI L] (enc (mkC qNb qTf qLn qLy qMn qMk qMs qMh qPn qPl qPo qPp qEn qEm qEc qEd qEs qEl qEe qEw qSt qDu qCu qCn qCb qCl qBn qBm qBl qBf qKn qKl qKs qPr qDay qG2 qG4 qX1 qX3) R (mkW zO zD zX zL zXs zG5 zG6 zG7 zc zn)) (.inl (some (vI (oI (f_c_tight qBf qBm qBn mt L))))) (enc (mkC qNb qTf qLn qLy qMn qMk qMs qMh qPn qPl qPo qPp qEn qEm qEc qEd qEs qEl qEe qEw qSt qDu qCu qCn qCb qCl qBn qBm qBl qBf qKn qKl qKs qPr qDay qG2 qG4 qX1 qX3) R (mkW zO zD zX zL zXs zG5 zG6 zG7 zc zn)) := by
  obtain ⟨wMn, wPn, wEn, wBn, wKn, wMk, wEm, wEc, wCb, wBm, wTf, wKl, wMh, wMl, wCu, wCl, wLy⟩ := id hW
  refine Cal.mk (n := 8) rfl (Nat.le_of_ble_eq_true rfl) rfl ?_
  unfold f_c_tight
  refine Ev.ps 6 rfl ?_
  have L8 : ∀ (k8 j8 : Nat) (best : Option Nat) (least : Int32) (o8_6 : Option MV) (o8_7 : Option MV), j8 + k8 = qBn → Da o8_6 → Da o8_7 → (∀ k, best = some k → k < qBn) → Ev (d + 0) (90, 8, [some (vR 8 0), some (vI mt), some (vI L), some (vI (oI best)), some (vI least), some (vI (nI j8)), o8_6, o8_7], []) (enc (mkC qNb qTf qLn qLy qMn qMk qMs qMh qPn qPl qPo qPp qEn qEm qEc qEd qEs qEl qEe qEw qSt qDu qCu qCn qCb qCl qBn qBm qBl qBf qKn qKl qKs qPr qDay qG2 qG4 qX1 qX3) R (mkW zO zD zX zL zXs zG5 zG6 zG7 zc zn)) ((.inl (some (vI (oI (c_tight_L8 qBf qBm mt L k8 j8 best least))))), enc (mkC qNb qTf qLn qLy qMn qMk qMs qMh qPn qPl qPo qPp qEn qEm qEc qEd qEs qEl qEe qEw qSt qDu qCu qCn qCb qCl qBn qBm qBl qBf qKn qKl qKs qPr qDay qG2 qG4 qX1 qX3) R (mkW zO zD zX zL zXs zG5 zG6 zG7 zc zn)) := by
    intro k8
    induction k8 with
    | zero =>
      intro j8 best least o8_6 o8_7 hj8 ho8_6 ho8_7 hbest
      rw [c_tight_L8]
      refine Ev.ps 2 rfl ?_
      refine Ev.getf (v := vR 14 0) (by rfl) (by rfl) (by rfl) (rd8) rfl ?_
      refine Ev.lz (N := qBn) (by rfl) (by rfl) (by rfl) (Nat.le_of_ble_eq_true rfl) (rd14) range_len ?_
      refine Ev.igeN (a := j8) (b := qBn) (by omega) (by omega) (by rfl) (by rfl) (fun (c1 : j8 < qBn) => ?_) (fun (c1 : ¬ j8 < qBn) => ?_)
      · exfalso; omega
      · refine Ev.ps 1 rfl ?_
        exact Ev.re rfl rfl rfl rfl rfl
    | succ k8 ih8 =>
      intro j8 best least o8_6 o8_7 hj8 ho8_6 ho8_7 hbest
      rw [c_tight_L8]
      refine Ev.ps 2 rfl ?_
      refine Ev.getf (v := vR 14 0) (by rfl) (by rfl) (by rfl) (rd8) rfl ?_
      refine Ev.lz (N := qBn) (by rfl) (by rfl) (by rfl) (Nat.le_of_ble_eq_true rfl) (rd14) range_len ?_
      refine Ev.igeN (a := j8) (b := qBn) (by omega) (by omega) (by rfl) (by rfl) (fun (c2 : j8 < qBn) => ?_) (fun (c2 : ¬ j8 < qBn) => ?_)
      · refine Ev.ps 1 rfl ?_
        refine Ev.getf (v := vR 14 0) (by rfl) (by rfl) (by rfl) (rd8) rfl ?_
        refine Ev.ps 1 rfl ?_
        refine Ev.lg (j := j8) (v := vR 0 j8) (by rfl) (by rfl) (by rfl) (Nat.le_of_ble_eq_true rfl) (rd14) (by omega) (range_get (by omega)) ?_
        refine Ev.cst (by rfl) (by rfl) (by rfl) (by rw [rd0 (by omega)]; rfl) ?_
        refine Ev.ps 2 rfl ?_
        refine Ev.getf (v := vI (nI (qBm j8))) (by rfl) (by rfl) (by rfl) (rd0 (by omega)) rfl ?_
        refine Ev.ps 1 rfl ?_
        refine Ev.ine (by rfl) (by rfl) (fun (c3 : nI (qBm j8) = mt) => ?_) (fun (c3 : ¬ nI (qBm j8) = mt) => ?_)
        · rw [if_pos c3]
          refine Ev.ps 1 rfl ?_
          refine Ev.getf (v := vI (qBf j8)) (by rfl) (by rfl) (by rfl) (rd0 (by omega)) rfl ?_
          refine Ev.ps 1 rfl ?_
          refine Ev.ilt (by rfl) (by rfl) (fun (c4 : qBf j8 < L) => ?_) (fun (c4 : ¬ qBf j8 < L) => ?_)
          · rw [if_pos c4]
            refine Ev.ps 3 rfl ?_
            refine Ev.ifi (by rfl) (by rfl) (fun _ => ?_) (fun z => by exact absurd z (by decide))
            refine Ev.ps 2 rfl ?_
            have h9 := ih8 (j8 + 1) best least (some (vR 0 j8)) (some (vI 0)) (by show j8 + 1 + k8 = qBn; omega) Da.r Da.i (by intro k9 z9; first | exact hbest k9 z9 | (cases z9; omega))
            rw [← nI_1] at h9
            exact h9
          · rw [if_neg c4]
            refine Ev.ps 4 rfl ?_
            refine Ev.ifi (by rfl) (by rfl) (fun z => by exact absurd z (by decide)) (fun _ => ?_)
            refine Ev.ps 2 rfl ?_
            cases best with
            | none =>
              dsimp only [oE]
              refine Ev.icmp (by rfl) (by rfl) (fun _ => ?_) (fun z => by exact absurd z (by decide))
              refine Ev.ps 3 rfl ?_
              refine Ev.getf (v := vI (qBf j8)) (by rfl) (by rfl) (by rfl) (rd0 (by omega)) rfl ?_
              refine Ev.ps 3 rfl ?_
              have h9 := ih8 (j8 + 1) (some j8) (qBf j8) (some (vR 0 j8)) (some (vI 1)) (by show j8 + 1 + k8 = qBn; omega) Da.r Da.i (by intro k9 z9; first | exact hbest k9 z9 | (cases z9; omega))
              rw [← nI_1] at h9
              exact h9
            | some k5 =>
              dsimp only [oE]
              refine Ev.icmp (by rfl) (by rfl) (fun z => by exact absurd (of_decide_eq_true z) (nI_nm1 (by have := hbest _ rfl; omega))) (fun _ => ?_)
              refine Ev.ps 1 rfl ?_
              refine Ev.getf (v := vI (qBf j8)) (by rfl) (by rfl) (by rfl) (rd0 (by omega)) rfl ?_
              refine Ev.ps 1 rfl ?_
              refine Ev.ige (by rfl) (by rfl) (fun (c7 : qBf j8 < least) => ?_) (fun (c7 : ¬ qBf j8 < least) => ?_)
              · rw [if_pos c7]
                refine Ev.ps 3 rfl ?_
                refine Ev.getf (v := vI (qBf j8)) (by rfl) (by rfl) (by rfl) (rd0 (by omega)) rfl ?_
                refine Ev.ps 3 rfl ?_
                have h9 := ih8 (j8 + 1) (some j8) (qBf j8) (some (vR 0 j8)) (some (vI 1)) (by show j8 + 1 + k8 = qBn; omega) Da.r Da.i (by intro k9 z9; first | exact hbest k9 z9 | (cases z9; omega))
                rw [← nI_1] at h9
                exact h9
              · rw [if_neg c7]
                refine Ev.ps 2 rfl ?_
                have h9 := ih8 (j8 + 1) (some k5) least (some (vR 0 j8)) (some (vI 1)) (by show j8 + 1 + k8 = qBn; omega) Da.r Da.i (by intro k9 z9; first | exact hbest k9 z9 | (cases z9; omega))
                rw [← nI_1] at h9
                exact h9
        · rw [if_neg c3]
          refine Ev.ps 3 rfl ?_
          refine Ev.ifi (by rfl) (by rfl) (fun _ => ?_) (fun z => by exact absurd z (by decide))
          refine Ev.ps 2 rfl ?_
          have h9 := ih8 (j8 + 1) best least (some (vR 0 j8)) (some (vI 0)) (by show j8 + 1 + k8 = qBn; omega) Da.r Da.i (by intro k9 z9; first | exact hbest k9 z9 | (cases z9; omega))
          rw [← nI_1] at h9
          exact h9
      · exfalso; omega
  exact L8 qBn 0 none 0 none none (by show 0 + qBn = qBn; omega) Da.n Da.n (fun _ z => nomatch z)
def c_debts_L15 (qDu : Nat → Int32) (qEm : Nat → Nat) (m : Nat) : Nat → Nat → Int32 → (Int32)
  | 0, j15, sm =>
    sm
  | k15 + 1, j15, sm =>
    if qEm j15 = m then c_debts_L15 qDu qEm m k15 (j15 + 1) (sm + (qDu j15)) else c_debts_L15 qDu qEm m k15 (j15 + 1) sm
def c_debts_L67 (qKl : Nat → Nat) (qKs : Nat → Nat → Int32) (m : Nat) : Nat → Nat → Int32 → (Int32)
  | 0, j67, sm =>
    sm
  | k67 + 1, j67, sm =>
    c_debts_L67 qKl qKs m k67 (j67 + 1) (sm + (f_c_share qKl qKs j67 (nI m)))
def f_c_debts (qDu : Nat → Int32) (qEm : Nat → Nat) (qEn : Nat) (qKl : Nat → Nat) (qKn : Nat) (qKs : Nat → Nat → Int32) (qPp : Nat → Int32) (m : Nat) : Int32 :=
  c_debts_L67 qKl qKs m qKn 0 (c_debts_L15 qDu qEm m qEn 0 (-(qPp m)))
theorem s_c_debts {d : Nat} {zO : Int64} {zD : UInt64} {zX : Nat} {zL : Nat} {zXs : Nat → Int32} {zG5 : List Ob} {zG6 : List Ob} {zG7 : List Ob} {zc : Nat} {zn : Nat} {R : RD} {qNb : Nat → Int32} {qTf : Nat → Nat} {qLn : Nat} {qLy : Nat → Ly} {qMn : Nat} {qMk : Nat → Nat} {qMs : Nat → Int32} {qMh : Nat → List Nat} {qPn : Nat} {qPl : Nat → Nat → Int32} {qPo : Nat → Int32} {qPp : Nat → Int32} {qEn : Nat} {qEm : Nat → Nat} {qEc : Nat → Nat} {qEd : Nat → Int32} {qEs : Nat → Int32} {qEl : Nat → Int32} {qEe : Nat → Int32} {qEw : Nat → Int32} {qSt : Nat → Int32} {qDu : Nat → Int32} {qCu : Nat → List Nat} {qCn : Nat} {qCb : Nat → Nat} {qCl : Nat → Int32} {qBn : Nat} {qBm : Nat → Nat} {qBl : Nat → Int32} {qBf : Nat → Int32} {qKn : Nat} {qKl : Nat → Nat} {qKs : Nat → Nat → Int32} {qPr : Nat → Int32} {qDay : Int32} {qG2 : List Ob} {qG4 : List Ob} {qX1 : List Ob} {qX3 : List Ob} {m : Nat} (hW : WfC qMn qPn qEn qBn qKn qCn qLn qMk qEm qEc qCb qBm qTf qKl qMh qCu qLy) (hm : m < qPn) : Cal (d + 2) 102 [vR 8 0, vI (nI m)] (enc (mkC qNb qTf qLn qLy qMn qMk qMs qMh qPn qPl qPo qPp qEn qEm qEc qEd qEs qEl qEe qEw qSt qDu qCu qCn qCb qCl qBn qBm qBl qBf qKn qKl qKs qPr qDay qG2 qG4 qX1 qX3) R (mkW zO zD zX zL zXs zG5 zG6 zG7 zc zn)) (.inl (some (vI (f_c_debts qDu qEm qEn qKl qKn qKs qPp m)))) (enc (mkC qNb qTf qLn qLy qMn qMk qMs qMh qPn qPl qPo qPp qEn qEm qEc qEd qEs qEl qEe qEw qSt qDu qCu qCn qCb qCl qBn qBm qBl qBf qKn qKl qKs qPr qDay qG2 qG4 qX1 qX3) R (mkW zO zD zX zL zXs zG5 zG6 zG7 zc zn)) := by
  obtain ⟨wMn, wPn, wEn, wBn, wKn, wMk, wEm, wEc, wCb, wBm, wTf, wKl, wMh, wMl, wCu, wCl, wLy⟩ := id hW
  refine Cal.mk (n := 6) rfl (Nat.le_of_ble_eq_true rfl) rfl ?_
  unfold f_c_debts
  refine Ev.ps 2 rfl ?_
  refine Ev.vir (as := [vI (nI m)]) (rest := []) (by rfl) (by rfl) (by rfl) (by rfl) rfl (Nat.le_of_ble_eq_true rfl) (by rfl) (by rw [rd8]; rfl) (s_memberAt rd8 (by rfl) rd12 (by omega) (by have := hm; omega) (by rw [rd7 (by have := hm; omega)]; rfl)) ?_
  refine Ev.ps 2 rfl ?_
  refine Ev.getf (v := vI (qPp m)) (by rfl) (by rfl) (by rfl) (rd7 (by have := hm; omega)) rfl ?_
  refine Ev.ps 4 rfl ?_
  have L15 : ∀ {x : Re × Hp}, ∀ (k15 j15 : Nat) (sm : Int32) (o15_5 : Option MV), j15 + k15 = qEn → Da o15_5 → (∀ (e15_5 : Option MV) (e15_4 : Option MV), Da e15_5 → Da e15_4 → Ev (d + 2) (102, 64, [some (vR 8 0), some (vI (nI m)), some (vR 7 m), some (vI (c_debts_L15 qDu qEm m k15 j15 sm)), e15_4, e15_5], []) (enc (mkC qNb qTf qLn qLy qMn qMk qMs qMh qPn qPl qPo qPp qEn qEm qEc qEd qEs qEl qEe qEw qSt qDu qCu qCn qCb qCl qBn qBm qBl qBf qKn qKl qKs qPr qDay qG2 qG4 qX1 qX3) R (mkW zO zD zX zL zXs zG5 zG6 zG7 zc zn)) x) → Ev (d + 2) (102, 15, [some (vR 8 0), some (vI (nI m)), some (vR 7 m), some (vI sm), some (vI (nI j15)), o15_5], []) (enc (mkC qNb qTf qLn qLy qMn qMk qMs qMh qPn qPl qPo qPp qEn qEm qEc qEd qEs qEl qEe qEw qSt qDu qCu qCn qCb qCl qBn qBm qBl qBf qKn qKl qKs qPr qDay qG2 qG4 qX1 qX3) R (mkW zO zD zX zL zXs zG5 zG6 zG7 zc zn)) x := by
    intro x k15
    induction k15 with
    | zero =>
      intro j15 sm o15_5 hj15 ho15_5 K15
      rw [c_debts_L15] at K15
      refine Ev.ps 2 rfl ?_
      refine Ev.getf (v := vR 13 0) (by rfl) (by rfl) (by rfl) (rd8) rfl ?_
      refine Ev.lz (N := qEn) (by rfl) (by rfl) (by rfl) (Nat.le_of_ble_eq_true rfl) (rd13) range_len ?_
      refine Ev.igeN (a := j15) (b := qEn) (by omega) (by omega) (by rfl) (by rfl) (fun (c1 : j15 < qEn) => ?_) (fun (c1 : ¬ j15 < qEn) => ?_)
      · exfalso; omega
      · exact K15 _ _ ho15_5 Da.i
    | succ k15 ih15 =>
      intro j15 sm o15_5 hj15 ho15_5 K15
      rw [c_debts_L15] at K15
      refine Ev.ps 2 rfl ?_
      refine Ev.getf (v := vR 13 0) (by rfl) (by rfl) (by rfl) (rd8) rfl ?_
      refine Ev.lz (N := qEn) (by rfl) (by rfl) (by rfl) (Nat.le_of_ble_eq_true rfl) (rd13) range_len ?_
      refine Ev.igeN (a := j15) (b := qEn) (by omega) (by omega) (by rfl) (by rfl) (fun (c2 : j15 < qEn) => ?_) (fun (c2 : ¬ j15 < qEn) => ?_)
      · refine Ev.ps 1 rfl ?_
        refine Ev.getf (v := vR 13 0) (by rfl) (by rfl) (by rfl) (rd8) rfl ?_
        refine Ev.ps 1 rfl ?_
        refine Ev.lg (j := j15) (v := vR 3 j15) (by rfl) (by rfl) (by rfl) (Nat.le_of_ble_eq_true rfl) (rd13) (by omega) (range_get (by omega)) ?_
        refine Ev.cst (by rfl) (by rfl) (by rfl) (by rw [rd3 (by omega)]; rfl) ?_
        refine Ev.ps 2 rfl ?_
        refine Ev.getf (v := vR 7 (qEm j15)) (by rfl) (by rfl) (by rfl) (rd3 (by omega)) rfl ?_
        refine Ev.ps 1 rfl ?_
        refine Ev.ane (by rfl) (by rfl) (by decide) (fun (c3 : qEm j15 = m) => ?_) (fun (c3 : ¬ qEm j15 = m) => ?_)
        · rw [if_pos c3] at K15
          refine Ev.ps 2 rfl ?_
          refine Ev.getf (v := vI (qDu j15)) (by rfl) (by rfl) (by rfl) (rd3 (by omega)) rfl ?_
          refine Ev.ps 4 rfl ?_
          have h9 := ih15 (j15 + 1) (sm + (qDu j15)) (some (vR 3 j15)) (by show j15 + 1 + k15 = qEn; omega) Da.r K15
          rw [← nI_1] at h9
          exact h9
        · rw [if_neg c3] at K15
          refine Ev.ps 2 rfl ?_
          have h9 := ih15 (j15 + 1) sm (some (vR 3 j15)) (by show j15 + 1 + k15 = qEn; omega) Da.r K15
          rw [← nI_1] at h9
          exact h9
      · exfalso; omega
  refine L15 qEn 0 (-(qPp m)) none (by show 0 + qEn = qEn; omega) Da.n ?_
  intro e15_5 e15_4 he15_5 he15_4
  refine Ev.ps 2 rfl ?_
  have L67 : ∀ (k67 j67 : Nat) (sm : Int32), j67 + k67 = qKn → Ev (d + 2) (102, 67, [some (vR 8 0), some (vI (nI m)), some (vR 7 m), some (vI sm), some (vI (nI j67)), e15_5], []) (enc (mkC qNb qTf qLn qLy qMn qMk qMs qMh qPn qPl qPo qPp qEn qEm qEc qEd qEs qEl qEe qEw qSt qDu qCu qCn qCb qCl qBn qBm qBl qBf qKn qKl qKs qPr qDay qG2 qG4 qX1 qX3) R (mkW zO zD zX zL zXs zG5 zG6 zG7 zc zn)) ((.inl (some (vI (c_debts_L67 qKl qKs m k67 j67 sm)))), enc (mkC qNb qTf qLn qLy qMn qMk qMs qMh qPn qPl qPo qPp qEn qEm qEc qEd qEs qEl qEe qEw qSt qDu qCu qCn qCb qCl qBn qBm qBl qBf qKn qKl qKs qPr qDay qG2 qG4 qX1 qX3) R (mkW zO zD zX zL zXs zG5 zG6 zG7 zc zn)) := by
    intro k67
    induction k67 with
    | zero =>
      intro j67 sm hj67
      rw [c_debts_L67]
      refine Ev.ps 2 rfl ?_
      refine Ev.getf (v := vR 15 0) (by rfl) (by rfl) (by rfl) (rd8) rfl ?_
      refine Ev.lz (N := qKn) (by rfl) (by rfl) (by rfl) (Nat.le_of_ble_eq_true rfl) (rd15) range_len ?_
      refine Ev.igeN (a := j67) (b := qKn) (by omega) (by omega) (by rfl) (by rfl) (fun (c4 : j67 < qKn) => ?_) (fun (c4 : ¬ j67 < qKn) => ?_)
      · exfalso; omega
      · refine Ev.ps 1 rfl ?_
        exact Ev.re rfl rfl rfl rfl rfl
    | succ k67 ih67 =>
      intro j67 sm hj67
      rw [c_debts_L67]
      refine Ev.ps 2 rfl ?_
      refine Ev.getf (v := vR 15 0) (by rfl) (by rfl) (by rfl) (rd8) rfl ?_
      refine Ev.lz (N := qKn) (by rfl) (by rfl) (by rfl) (Nat.le_of_ble_eq_true rfl) (rd15) range_len ?_
      refine Ev.igeN (a := j67) (b := qKn) (by omega) (by omega) (by rfl) (by rfl) (fun (c5 : j67 < qKn) => ?_) (fun (c5 : ¬ j67 < qKn) => ?_)
      · refine Ev.ps 2 rfl ?_
        refine Ev.getf (v := vR 15 0) (by rfl) (by rfl) (by rfl) (rd8) rfl ?_
        refine Ev.ps 1 rfl ?_
        refine Ev.lg (j := j67) (v := vR 1 j67) (by rfl) (by rfl) (by rfl) (Nat.le_of_ble_eq_true rfl) (rd15) (by omega) (range_get (by omega)) ?_
        refine Ev.cst (by rfl) (by rfl) (by rfl) (by rw [rd1 (by omega)]; rfl) ?_
        refine Ev.ps 1 rfl ?_
        refine Ev.vir (as := [vI (nI m)]) (rest := [vI sm]) (by rfl) (by rfl) (by rfl) (by rfl) rfl (Nat.le_of_ble_eq_true rfl) (by rfl) (by rw [rd1 (by omega)]; rfl) (s_c_share hW (by omega)) ?_
        refine Ev.ps 4 rfl ?_
        have h9 := ih67 (j67 + 1) (sm + (f_c_share qKl qKs j67 (nI m))) (by show j67 + 1 + k67 = qKn; omega)
        rw [← nI_1] at h9
        exact h9
      · exfalso; omega
  exact L67 qKn 0 (c_debts_L15 qDu qEm m qEn 0 (-(qPp m))) (by show 0 + qKn = qKn; omega)
def c_clashes_L4 (qEc : Nat → Nat) (qEd : Nat → Int32) (qEe : Nat → Int32) (qEm : Nat → Nat) (qEs : Nat → Int32) (qSt : Nat → Int32) (i : Nat) (e : Nat) : Nat → Nat → (Bool)
  | 0, j4 =>
    false
  | k4 + 1, j4 =>
    if qEm j4 = qEm e then
      if qSt j4 = 98 then
        if f_c_overlaps qEd qEe qEs j4 (qEd e) (qEs e) (qEe e) then true else c_clashes_L4 qEc qEd qEe qEm qEs qSt i e k4 (j4 + 1) 
      else
        c_clashes_L4 qEc qEd qEe qEm qEs qSt i e k4 (j4 + 1) 
    else
      if qEc j4 = qEc e then
        if qSt j4 = 98 then
          if f_c_overlaps qEd qEe qEs j4 (qEd e) (qEs e) (qEe e) then true else c_clashes_L4 qEc qEd qEe qEm qEs qSt i e k4 (j4 + 1) 
        else
          c_clashes_L4 qEc qEd qEe qEm qEs qSt i e k4 (j4 + 1) 
      else
        c_clashes_L4 qEc qEd qEe qEm qEs qSt i e k4 (j4 + 1) 
def f_c_clashes (qEc : Nat → Nat) (qEd : Nat → Int32) (qEe : Nat → Int32) (qEm : Nat → Nat) (qEn : Nat) (qEs : Nat → Int32) (qSt : Nat → Int32) (i e : Nat) : Bool :=
  c_clashes_L4 qEc qEd qEe qEm qEs qSt i e (qEn - (i + 1)) (i + 1) 
theorem s_c_clashes {d : Nat} {zO : Int64} {zD : UInt64} {zX : Nat} {zL : Nat} {zXs : Nat → Int32} {zG5 : List Ob} {zG6 : List Ob} {zG7 : List Ob} {zc : Nat} {zn : Nat} {R : RD} {qNb : Nat → Int32} {qTf : Nat → Nat} {qLn : Nat} {qLy : Nat → Ly} {qMn : Nat} {qMk : Nat → Nat} {qMs : Nat → Int32} {qMh : Nat → List Nat} {qPn : Nat} {qPl : Nat → Nat → Int32} {qPo : Nat → Int32} {qPp : Nat → Int32} {qEn : Nat} {qEm : Nat → Nat} {qEc : Nat → Nat} {qEd : Nat → Int32} {qEs : Nat → Int32} {qEl : Nat → Int32} {qEe : Nat → Int32} {qEw : Nat → Int32} {qSt : Nat → Int32} {qDu : Nat → Int32} {qCu : Nat → List Nat} {qCn : Nat} {qCb : Nat → Nat} {qCl : Nat → Int32} {qBn : Nat} {qBm : Nat → Nat} {qBl : Nat → Int32} {qBf : Nat → Int32} {qKn : Nat} {qKl : Nat → Nat} {qKs : Nat → Nat → Int32} {qPr : Nat → Int32} {qDay : Int32} {qG2 : List Ob} {qG4 : List Ob} {qX1 : List Ob} {qX3 : List Ob} {i : Nat} {e : Nat} (hW : WfC qMn qPn qEn qBn qKn qCn qLn qMk qEm qEc qCb qBm qTf qKl qMh qCu qLy) (hi : i < qEn) (he : e < qEn) : Cal (d + 1) 104 [vR 8 0, vI (nI i), vR 3 e] (enc (mkC qNb qTf qLn qLy qMn qMk qMs qMh qPn qPl qPo qPp qEn qEm qEc qEd qEs qEl qEe qEw qSt qDu qCu qCn qCb qCl qBn qBm qBl qBf qKn qKl qKs qPr qDay qG2 qG4 qX1 qX3) R (mkW zO zD zX zL zXs zG5 zG6 zG7 zc zn)) (.inl (some (vI (bI (f_c_clashes qEc qEd qEe qEm qEn qEs qSt i e))))) (enc (mkC qNb qTf qLn qLy qMn qMk qMs qMh qPn qPl qPo qPp qEn qEm qEc qEd qEs qEl qEe qEw qSt qDu qCu qCn qCb qCl qBn qBm qBl qBf qKn qKl qKs qPr qDay qG2 qG4 qX1 qX3) R (mkW zO zD zX zL zXs zG5 zG6 zG7 zc zn)) := by
  obtain ⟨wMn, wPn, wEn, wBn, wKn, wMk, wEm, wEc, wCb, wBm, wTf, wKl, wMh, wMl, wCu, wCl, wLy⟩ := id hW
  refine Cal.mk (n := 6) rfl (Nat.le_of_ble_eq_true rfl) rfl ?_
  unfold f_c_clashes
  refine Ev.ps 3 rfl ?_
  refine Ev.st1 (b := nI (i + 1)) (nI_1 i) ?_
  refine Ev.ps 1 rfl ?_
  have L4 : ∀ (k4 j4 : Nat) (o4_4 : Option MV) (o4_5 : Option MV), j4 + k4 = qEn → Da o4_4 → Da o4_5 → Ev (d + 1) (104, 4, [some (vR 8 0), some (vI (nI i)), some (vR 3 e), some (vI (nI j4)), o4_4, o4_5], []) (enc (mkC qNb qTf qLn qLy qMn qMk qMs qMh qPn qPl qPo qPp qEn qEm qEc qEd qEs qEl qEe qEw qSt qDu qCu qCn qCb qCl qBn qBm qBl qBf qKn qKl qKs qPr qDay qG2 qG4 qX1 qX3) R (mkW zO zD zX zL zXs zG5 zG6 zG7 zc zn)) ((.inl (some (vI (bI (c_clashes_L4 qEc qEd qEe qEm qEs qSt i e k4 j4 ))))), enc (mkC qNb qTf qLn qLy qMn qMk qMs qMh qPn qPl qPo qPp qEn qEm qEc qEd qEs qEl qEe qEw qSt qDu qCu qCn qCb qCl qBn qBm qBl qBf qKn qKl qKs qPr qDay qG2 qG4 qX1 qX3) R (mkW zO zD zX zL zXs zG5 zG6 zG7 zc zn)) := by
    intro k4
    induction k4 with
    | zero =>
      intro j4 o4_4 o4_5 hj4 ho4_4 ho4_5
      rw [c_clashes_L4]
      refine Ev.ps 2 rfl ?_
      refine Ev.getf (v := vR 13 0) (by rfl) (by rfl) (by rfl) (rd8) rfl ?_
      refine Ev.lz (N := qEn) (by rfl) (by rfl) (by rfl) (Nat.le_of_ble_eq_true rfl) (rd13) range_len ?_
      refine Ev.igeN (a := j4) (b := qEn) (by omega) (by omega) (by rfl) (by rfl) (fun (c1 : j4 < qEn) => ?_) (fun (c1 : ¬ j4 < qEn) => ?_)
      · exfalso; omega
      · refine Ev.ps 1 rfl ?_
        exact Ev.re rfl rfl rfl rfl rfl
    | succ k4 ih4 =>
      intro j4 o4_4 o4_5 hj4 ho4_4 ho4_5
      rw [c_clashes_L4]
      refine Ev.ps 2 rfl ?_
      refine Ev.getf (v := vR 13 0) (by rfl) (by rfl) (by rfl) (rd8) rfl ?_
      refine Ev.lz (N := qEn) (by rfl) (by rfl) (by rfl) (Nat.le_of_ble_eq_true rfl) (rd13) range_len ?_
      refine Ev.igeN (a := j4) (b := qEn) (by omega) (by omega) (by rfl) (by rfl) (fun (c2 : j4 < qEn) => ?_) (fun (c2 : ¬ j4 < qEn) => ?_)
      · refine Ev.ps 1 rfl ?_
        refine Ev.getf (v := vR 13 0) (by rfl) (by rfl) (by rfl) (rd8) rfl ?_
        refine Ev.ps 1 rfl ?_
        refine Ev.lg (j := j4) (v := vR 3 j4) (by rfl) (by rfl) (by rfl) (Nat.le_of_ble_eq_true rfl) (rd13) (by omega) (range_get (by omega)) ?_
        refine Ev.cst (by rfl) (by rfl) (by rfl) (by rw [rd3 (by omega)]; rfl) ?_
        refine Ev.ps 2 rfl ?_
        refine Ev.getf (v := vR 7 (qEm j4)) (by rfl) (by rfl) (by rfl) (rd3 (by omega)) rfl ?_
        refine Ev.ps 1 rfl ?_
        refine Ev.getf (v := vR 7 (qEm e)) (by rfl) (by rfl) (by rfl) (rd3 (by have := he; omega)) rfl ?_
        refine Ev.aeq (by rfl) (by rfl) (by decide) (fun (c3 : qEm j4 = qEm e) => ?_) (fun (c3 : ¬ qEm j4 = qEm e) => ?_)
        · rw [if_pos c3]
          refine Ev.ps 4 rfl ?_
          refine Ev.ifi (by rfl) (by rfl) (fun z => by exact absurd z (by decide)) (fun _ => ?_)
          refine Ev.ps 1 rfl ?_
          refine Ev.getf (v := vI (qSt j4)) (by rfl) (by rfl) (by rfl) (rd3 (by omega)) rfl ?_
          refine Ev.ps 1 rfl ?_
          refine Ev.ine (by rfl) (by rfl) (fun (c4 : qSt j4 = 98) => ?_) (fun (c4 : ¬ qSt j4 = 98) => ?_)
          · rw [if_pos c4]
            refine Ev.ps 2 rfl ?_
            refine Ev.getf (v := vI (qEd e)) (by rfl) (by rfl) (by rfl) (rd3 (by have := he; omega)) rfl ?_
            refine Ev.ps 1 rfl ?_
            refine Ev.getf (v := vI (qEs e)) (by rfl) (by rfl) (by rfl) (rd3 (by have := he; omega)) rfl ?_
            refine Ev.ps 1 rfl ?_
            refine Ev.getf (v := vI (qEe e)) (by rfl) (by rfl) (by rfl) (rd3 (by have := he; omega)) rfl ?_
            refine Ev.vir (as := [vI (qEd e), vI (qEs e), vI (qEe e)]) (rest := []) (by rfl) (by rfl) (by rfl) (by rfl) rfl (Nat.le_of_ble_eq_true rfl) (by rfl) (by rw [rd3 (by omega)]; rfl) (s_c_overlaps hW (by omega)) ?_
            refine Ev.ifbe (by rfl) (by rfl) (fun c5 => ?_) (fun c5 => ?_)
            · rw [if_pos c5]
              refine Ev.ps 1 rfl ?_
              exact Ev.re rfl rfl rfl rfl rfl
            · rw [if_neg c5]
              refine Ev.ps 2 rfl ?_
              have h9 := ih4 (j4 + 1) (some (vR 3 j4)) (some (vI 1)) (by show j4 + 1 + k4 = qEn; omega) Da.r Da.i
              rw [← nI_1] at h9
              exact h9
          · rw [if_neg c4]
            refine Ev.ps 2 rfl ?_
            have h9 := ih4 (j4 + 1) (some (vR 3 j4)) (some (vI 1)) (by show j4 + 1 + k4 = qEn; omega) Da.r Da.i
            rw [← nI_1] at h9
            exact h9
        · rw [if_neg c3]
          refine Ev.ps 1 rfl ?_
          refine Ev.getf (v := vR 6 (qEc j4)) (by rfl) (by rfl) (by rfl) (rd3 (by omega)) rfl ?_
          refine Ev.ps 1 rfl ?_
          refine Ev.getf (v := vR 6 (qEc e)) (by rfl) (by rfl) (by rfl) (rd3 (by have := he; omega)) rfl ?_
          refine Ev.ane (by rfl) (by rfl) (by decide) (fun (c6 : qEc j4 = qEc e) => ?_) (fun (c6 : ¬ qEc j4 = qEc e) => ?_)
          · rw [if_pos c6]
            refine Ev.ps 4 rfl ?_
            refine Ev.ifi (by rfl) (by rfl) (fun z => by exact absurd z (by decide)) (fun _ => ?_)
            refine Ev.ps 1 rfl ?_
            refine Ev.getf (v := vI (qSt j4)) (by rfl) (by rfl) (by rfl) (rd3 (by omega)) rfl ?_
            refine Ev.ps 1 rfl ?_
            refine Ev.ine (by rfl) (by rfl) (fun (c7 : qSt j4 = 98) => ?_) (fun (c7 : ¬ qSt j4 = 98) => ?_)
            · rw [if_pos c7]
              refine Ev.ps 2 rfl ?_
              refine Ev.getf (v := vI (qEd e)) (by rfl) (by rfl) (by rfl) (rd3 (by have := he; omega)) rfl ?_
              refine Ev.ps 1 rfl ?_
              refine Ev.getf (v := vI (qEs e)) (by rfl) (by rfl) (by rfl) (rd3 (by have := he; omega)) rfl ?_
              refine Ev.ps 1 rfl ?_
              refine Ev.getf (v := vI (qEe e)) (by rfl) (by rfl) (by rfl) (rd3 (by have := he; omega)) rfl ?_
              refine Ev.vir (as := [vI (qEd e), vI (qEs e), vI (qEe e)]) (rest := []) (by rfl) (by rfl) (by rfl) (by rfl) rfl (Nat.le_of_ble_eq_true rfl) (by rfl) (by rw [rd3 (by omega)]; rfl) (s_c_overlaps hW (by omega)) ?_
              refine Ev.ifbe (by rfl) (by rfl) (fun c8 => ?_) (fun c8 => ?_)
              · rw [if_pos c8]
                refine Ev.ps 1 rfl ?_
                exact Ev.re rfl rfl rfl rfl rfl
              · rw [if_neg c8]
                refine Ev.ps 2 rfl ?_
                have h9 := ih4 (j4 + 1) (some (vR 3 j4)) (some (vI 1)) (by show j4 + 1 + k4 = qEn; omega) Da.r Da.i
                rw [← nI_1] at h9
                exact h9
            · rw [if_neg c7]
              refine Ev.ps 2 rfl ?_
              have h9 := ih4 (j4 + 1) (some (vR 3 j4)) (some (vI 1)) (by show j4 + 1 + k4 = qEn; omega) Da.r Da.i
              rw [← nI_1] at h9
              exact h9
          · rw [if_neg c6]
            refine Ev.ps 3 rfl ?_
            refine Ev.ifi (by rfl) (by rfl) (fun _ => ?_) (fun z => by exact absurd z (by decide))
            refine Ev.ps 2 rfl ?_
            have h9 := ih4 (j4 + 1) (some (vR 3 j4)) (some (vI 0)) (by show j4 + 1 + k4 = qEn; omega) Da.r Da.i
            rw [← nI_1] at h9
            exact h9
      · exfalso; omega
  exact L4 (qEn - (i + 1)) (i + 1) none none (by show (i + 1) + (qEn - (i + 1)) = qEn; omega) Da.n Da.n
def c_entSound_L2 (qEc : Nat → Nat) (qEd : Nat → Int32) (qEe : Nat → Int32) (qEl : Nat → Int32) (qEm : Nat → Nat) (qEn : Nat) (qEs : Nat → Int32) (qEw : Nat → Int32) (qMh : Nat → List Nat) (qMk : Nat → Nat) (qMs : Nat → Int32) (qNb : Nat → Int32) (qPl : Nat → Nat → Int32) (qSt : Nat → Int32)  : Nat → Nat → (Bool)
  | 0, j2 =>
    true
  | k2 + 1, j2 =>
    if qSt j2 = 119 then
      if f_c_canBe qEc qEd qEe qEl qEm qEn qEs qEw qMh qMk qMs qNb qPl qSt j2 then
        false
      else
        if qSt j2 = 98 then
          if f_c_hasInd qEc qEd qEm qMk qNb qPl j2 then if f_c_clashes qEc qEd qEe qEm qEn qEs qSt j2 j2 then false else c_entSound_L2 qEc qEd qEe qEl qEm qEn qEs qEw qMh qMk qMs qNb qPl qSt  k2 (j2 + 1)  else false
        else
          c_entSound_L2 qEc qEd qEe qEl qEm qEn qEs qEw qMh qMk qMs qNb qPl qSt  k2 (j2 + 1) 
    else
      if qSt j2 = 98 then
        if f_c_hasInd qEc qEd qEm qMk qNb qPl j2 then if f_c_clashes qEc qEd qEe qEm qEn qEs qSt j2 j2 then false else c_entSound_L2 qEc qEd qEe qEl qEm qEn qEs qEw qMh qMk qMs qNb qPl qSt  k2 (j2 + 1)  else false
      else
        c_entSound_L2 qEc qEd qEe qEl qEm qEn qEs qEw qMh qMk qMs qNb qPl qSt  k2 (j2 + 1) 
def f_c_entSound (qEc : Nat → Nat) (qEd : Nat → Int32) (qEe : Nat → Int32) (qEl : Nat → Int32) (qEm : Nat → Nat) (qEn : Nat) (qEs : Nat → Int32) (qEw : Nat → Int32) (qMh : Nat → List Nat) (qMk : Nat → Nat) (qMs : Nat → Int32) (qNb : Nat → Int32) (qPl : Nat → Nat → Int32) (qSt : Nat → Int32)  : Bool :=
  c_entSound_L2 qEc qEd qEe qEl qEm qEn qEs qEw qMh qMk qMs qNb qPl qSt  qEn 0 
theorem s_c_entSound {d : Nat} {zO : Int64} {zD : UInt64} {zX : Nat} {zL : Nat} {zXs : Nat → Int32} {zG5 : List Ob} {zG6 : List Ob} {zG7 : List Ob} {zc : Nat} {zn : Nat} {R : RD} {qNb : Nat → Int32} {qTf : Nat → Nat} {qLn : Nat} {qLy : Nat → Ly} {qMn : Nat} {qMk : Nat → Nat} {qMs : Nat → Int32} {qMh : Nat → List Nat} {qPn : Nat} {qPl : Nat → Nat → Int32} {qPo : Nat → Int32} {qPp : Nat → Int32} {qEn : Nat} {qEm : Nat → Nat} {qEc : Nat → Nat} {qEd : Nat → Int32} {qEs : Nat → Int32} {qEl : Nat → Int32} {qEe : Nat → Int32} {qEw : Nat → Int32} {qSt : Nat → Int32} {qDu : Nat → Int32} {qCu : Nat → List Nat} {qCn : Nat} {qCb : Nat → Nat} {qCl : Nat → Int32} {qBn : Nat} {qBm : Nat → Nat} {qBl : Nat → Int32} {qBf : Nat → Int32} {qKn : Nat} {qKl : Nat → Nat} {qKs : Nat → Nat → Int32} {qPr : Nat → Int32} {qDay : Int32} {qG2 : List Ob} {qG4 : List Ob} {qX1 : List Ob} {qX3 : List Ob}  (hW : WfC qMn qPn qEn qBn qKn qCn qLn qMk qEm qEc qCb qBm qTf qKl qMh qCu qLy) : Cal (d + 12) 103 [vR 8 0] (enc (mkC qNb qTf qLn qLy qMn qMk qMs qMh qPn qPl qPo qPp qEn qEm qEc qEd qEs qEl qEe qEw qSt qDu qCu qCn qCb qCl qBn qBm qBl qBf qKn qKl qKs qPr qDay qG2 qG4 qX1 qX3) R (mkW zO zD zX zL zXs zG5 zG6 zG7 zc zn)) (.inl (some (vI (bI (f_c_entSound qEc qEd qEe qEl qEm qEn qEs qEw qMh qMk qMs qNb qPl qSt))))) (enc (mkC qNb qTf qLn qLy qMn qMk qMs qMh qPn qPl qPo qPp qEn qEm qEc qEd qEs qEl qEe qEw qSt qDu qCu qCn qCb qCl qBn qBm qBl qBf qKn qKl qKs qPr qDay qG2 qG4 qX1 qX3) R (mkW zO zD zX zL zXs zG5 zG6 zG7 zc zn)) := by
  obtain ⟨wMn, wPn, wEn, wBn, wKn, wMk, wEm, wEc, wCb, wBm, wTf, wKl, wMh, wMl, wCu, wCl, wLy⟩ := id hW
  refine Cal.mk (n := 3) rfl (Nat.le_of_ble_eq_true rfl) rfl ?_
  unfold f_c_entSound
  refine Ev.ps 2 rfl ?_
  have L2 : ∀ (k2 j2 : Nat) (o2_2 : Option MV), j2 + k2 = qEn → Da o2_2 → Ev (d + 12) (103, 2, [some (vR 8 0), some (vI (nI j2)), o2_2], []) (enc (mkC qNb qTf qLn qLy qMn qMk qMs qMh qPn qPl qPo qPp qEn qEm qEc qEd qEs qEl qEe qEw qSt qDu qCu qCn qCb qCl qBn qBm qBl qBf qKn qKl qKs qPr qDay qG2 qG4 qX1 qX3) R (mkW zO zD zX zL zXs zG5 zG6 zG7 zc zn)) ((.inl (some (vI (bI (c_entSound_L2 qEc qEd qEe qEl qEm qEn qEs qEw qMh qMk qMs qNb qPl qSt  k2 j2 ))))), enc (mkC qNb qTf qLn qLy qMn qMk qMs qMh qPn qPl qPo qPp qEn qEm qEc qEd qEs qEl qEe qEw qSt qDu qCu qCn qCb qCl qBn qBm qBl qBf qKn qKl qKs qPr qDay qG2 qG4 qX1 qX3) R (mkW zO zD zX zL zXs zG5 zG6 zG7 zc zn)) := by
    intro k2
    induction k2 with
    | zero =>
      intro j2 o2_2 hj2 ho2_2
      rw [c_entSound_L2]
      refine Ev.ps 2 rfl ?_
      refine Ev.getf (v := vR 13 0) (by rfl) (by rfl) (by rfl) (rd8) rfl ?_
      refine Ev.lz (N := qEn) (by rfl) (by rfl) (by rfl) (Nat.le_of_ble_eq_true rfl) (rd13) range_len ?_
      refine Ev.igeN (a := j2) (b := qEn) (by omega) (by omega) (by rfl) (by rfl) (fun (c1 : j2 < qEn) => ?_) (fun (c1 : ¬ j2 < qEn) => ?_)
      · exfalso; omega
      · refine Ev.ps 1 rfl ?_
        exact Ev.re rfl rfl rfl rfl rfl
    | succ k2 ih2 =>
      intro j2 o2_2 hj2 ho2_2
      rw [c_entSound_L2]
      refine Ev.ps 2 rfl ?_
      refine Ev.getf (v := vR 13 0) (by rfl) (by rfl) (by rfl) (rd8) rfl ?_
      refine Ev.lz (N := qEn) (by rfl) (by rfl) (by rfl) (Nat.le_of_ble_eq_true rfl) (rd13) range_len ?_
      refine Ev.igeN (a := j2) (b := qEn) (by omega) (by omega) (by rfl) (by rfl) (fun (c2 : j2 < qEn) => ?_) (fun (c2 : ¬ j2 < qEn) => ?_)
      · refine Ev.ps 1 rfl ?_
        refine Ev.getf (v := vR 13 0) (by rfl) (by rfl) (by rfl) (rd8) rfl ?_
        refine Ev.ps 1 rfl ?_
        refine Ev.lg (j := j2) (v := vR 3 j2) (by rfl) (by rfl) (by rfl) (Nat.le_of_ble_eq_true rfl) (rd13) (by omega) (range_get (by omega)) ?_
        refine Ev.cst (by rfl) (by rfl) (by rfl) (by rw [rd3 (by omega)]; rfl) ?_
        refine Ev.ps 2 rfl ?_
        refine Ev.getf (v := vI (qSt j2)) (by rfl) (by rfl) (by rfl) (rd3 (by omega)) rfl ?_
        refine Ev.ps 1 rfl ?_
        refine Ev.ine (by rfl) (by rfl) (fun (c3 : qSt j2 = 119) => ?_) (fun (c3 : ¬ qSt j2 = 119) => ?_)
        · rw [if_pos c3]
          refine Ev.ps 2 rfl ?_
          refine Ev.vir (as := [vR 3 j2]) (rest := []) (by rfl) (by rfl) (by rfl) (by rfl) rfl (Nat.le_of_ble_eq_true rfl) (by rfl) (by rw [rd8]; rfl) (s_c_canBe hW (by omega)) ?_
          refine Ev.ifbe (by rfl) (by rfl) (fun c4 => ?_) (fun c4 => ?_)
          · rw [if_pos c4]
            refine Ev.ps 1 rfl ?_
            exact Ev.re rfl rfl rfl rfl rfl
          · rw [if_neg c4]
            refine Ev.ps 1 rfl ?_
            refine Ev.getf (v := vI (qSt j2)) (by rfl) (by rfl) (by rfl) (rd3 (by omega)) rfl ?_
            refine Ev.ps 1 rfl ?_
            refine Ev.ine (by rfl) (by rfl) (fun (c5 : qSt j2 = 98) => ?_) (fun (c5 : ¬ qSt j2 = 98) => ?_)
            · rw [if_pos c5]
              refine Ev.ps 2 rfl ?_
              refine Ev.vir (as := [vR 3 j2]) (rest := []) (by rfl) (by rfl) (by rfl) (by rfl) rfl (Nat.le_of_ble_eq_true rfl) (by rfl) (by rw [rd8]; rfl) (s_c_hasInd hW (by omega)) ?_
              refine Ev.ifbe (by rfl) (by rfl) (fun c6 => ?_) (fun c6 => ?_)
              · rw [if_pos c6]
                refine Ev.ps 3 rfl ?_
                refine Ev.vir (as := [vI (nI j2), vR 3 j2]) (rest := []) (by rfl) (by rfl) (by rfl) (by rfl) rfl (Nat.le_of_ble_eq_true rfl) (by rfl) (by rw [rd8]; rfl) (s_c_clashes hW (by omega) (by omega)) ?_
                refine Ev.ifbe (by rfl) (by rfl) (fun c7 => ?_) (fun c7 => ?_)
                · rw [if_pos c7]
                  refine Ev.ps 1 rfl ?_
                  exact Ev.re rfl rfl rfl rfl rfl
                · rw [if_neg c7]
                  refine Ev.ps 2 rfl ?_
                  have h9 := ih2 (j2 + 1) (some (vR 3 j2)) (by show j2 + 1 + k2 = qEn; omega) Da.r
                  rw [← nI_1] at h9
                  exact h9
              · rw [if_neg c6]
                refine Ev.ps 1 rfl ?_
                exact Ev.re rfl rfl rfl rfl rfl
            · rw [if_neg c5]
              refine Ev.ps 2 rfl ?_
              have h9 := ih2 (j2 + 1) (some (vR 3 j2)) (by show j2 + 1 + k2 = qEn; omega) Da.r
              rw [← nI_1] at h9
              exact h9
        · rw [if_neg c3]
          refine Ev.ps 1 rfl ?_
          refine Ev.getf (v := vI (qSt j2)) (by rfl) (by rfl) (by rfl) (rd3 (by omega)) rfl ?_
          refine Ev.ps 1 rfl ?_
          refine Ev.ine (by rfl) (by rfl) (fun (c8 : qSt j2 = 98) => ?_) (fun (c8 : ¬ qSt j2 = 98) => ?_)
          · rw [if_pos c8]
            refine Ev.ps 2 rfl ?_
            refine Ev.vir (as := [vR 3 j2]) (rest := []) (by rfl) (by rfl) (by rfl) (by rfl) rfl (Nat.le_of_ble_eq_true rfl) (by rfl) (by rw [rd8]; rfl) (s_c_hasInd hW (by omega)) ?_
            refine Ev.ifbe (by rfl) (by rfl) (fun c9 => ?_) (fun c9 => ?_)
            · rw [if_pos c9]
              refine Ev.ps 3 rfl ?_
              refine Ev.vir (as := [vI (nI j2), vR 3 j2]) (rest := []) (by rfl) (by rfl) (by rfl) (by rfl) rfl (Nat.le_of_ble_eq_true rfl) (by rfl) (by rw [rd8]; rfl) (s_c_clashes hW (by omega) (by omega)) ?_
              refine Ev.ifbe (by rfl) (by rfl) (fun c10 => ?_) (fun c10 => ?_)
              · rw [if_pos c10]
                refine Ev.ps 1 rfl ?_
                exact Ev.re rfl rfl rfl rfl rfl
              · rw [if_neg c10]
                refine Ev.ps 2 rfl ?_
                have h9 := ih2 (j2 + 1) (some (vR 3 j2)) (by show j2 + 1 + k2 = qEn; omega) Da.r
                rw [← nI_1] at h9
                exact h9
            · rw [if_neg c9]
              refine Ev.ps 1 rfl ?_
              exact Ev.re rfl rfl rfl rfl rfl
          · rw [if_neg c8]
            refine Ev.ps 2 rfl ?_
            have h9 := ih2 (j2 + 1) (some (vR 3 j2)) (by show j2 + 1 + k2 = qEn; omega) Da.r
            rw [← nI_1] at h9
            exact h9
      · exfalso; omega
  exact L2 qEn 0 none (by show 0 + qEn = qEn; omega) Da.n
def c_barsAgree_L2 (qBf : Nat → Int32) (qBl : Nat → Int32) (qCb : Nat → Nat) (qCl : Nat → Int32) (qCu : Nat → List Nat) (qEn : Nat)  : Nat → Nat → (Bool)
  | 0, j2 =>
    true
  | k2 + 1, j2 =>
    if qBf j2 = f_c_left qBl qCb qCl qCu qEn j2 then c_barsAgree_L2 qBf qBl qCb qCl qCu qEn  k2 (j2 + 1)  else false
def f_c_barsAgree (qBf : Nat → Int32) (qBl : Nat → Int32) (qBn : Nat) (qCb : Nat → Nat) (qCl : Nat → Int32) (qCu : Nat → List Nat) (qEn : Nat)  : Bool :=
  c_barsAgree_L2 qBf qBl qCb qCl qCu qEn  qBn 0 
theorem s_c_barsAgree {d : Nat} {zO : Int64} {zD : UInt64} {zX : Nat} {zL : Nat} {zXs : Nat → Int32} {zG5 : List Ob} {zG6 : List Ob} {zG7 : List Ob} {zc : Nat} {zn : Nat} {R : RD} {qNb : Nat → Int32} {qTf : Nat → Nat} {qLn : Nat} {qLy : Nat → Ly} {qMn : Nat} {qMk : Nat → Nat} {qMs : Nat → Int32} {qMh : Nat → List Nat} {qPn : Nat} {qPl : Nat → Nat → Int32} {qPo : Nat → Int32} {qPp : Nat → Int32} {qEn : Nat} {qEm : Nat → Nat} {qEc : Nat → Nat} {qEd : Nat → Int32} {qEs : Nat → Int32} {qEl : Nat → Int32} {qEe : Nat → Int32} {qEw : Nat → Int32} {qSt : Nat → Int32} {qDu : Nat → Int32} {qCu : Nat → List Nat} {qCn : Nat} {qCb : Nat → Nat} {qCl : Nat → Int32} {qBn : Nat} {qBm : Nat → Nat} {qBl : Nat → Int32} {qBf : Nat → Int32} {qKn : Nat} {qKl : Nat → Nat} {qKs : Nat → Nat → Int32} {qPr : Nat → Int32} {qDay : Int32} {qG2 : List Ob} {qG4 : List Ob} {qX1 : List Ob} {qX3 : List Ob}  (hW : WfC qMn qPn qEn qBn qKn qCn qLn qMk qEm qEc qCb qBm qTf qKl qMh qCu qLy) : Cal (d + 2) 105 [vR 8 0] (enc (mkC qNb qTf qLn qLy qMn qMk qMs qMh qPn qPl qPo qPp qEn qEm qEc qEd qEs qEl qEe qEw qSt qDu qCu qCn qCb qCl qBn qBm qBl qBf qKn qKl qKs qPr qDay qG2 qG4 qX1 qX3) R (mkW zO zD zX zL zXs zG5 zG6 zG7 zc zn)) (.inl (some (vI (bI (f_c_barsAgree qBf qBl qBn qCb qCl qCu qEn))))) (enc (mkC qNb qTf qLn qLy qMn qMk qMs qMh qPn qPl qPo qPp qEn qEm qEc qEd qEs qEl qEe qEw qSt qDu qCu qCn qCb qCl qBn qBm qBl qBf qKn qKl qKs qPr qDay qG2 qG4 qX1 qX3) R (mkW zO zD zX zL zXs zG5 zG6 zG7 zc zn)) := by
  obtain ⟨wMn, wPn, wEn, wBn, wKn, wMk, wEm, wEc, wCb, wBm, wTf, wKl, wMh, wMl, wCu, wCl, wLy⟩ := id hW
  refine Cal.mk (n := 3) rfl (Nat.le_of_ble_eq_true rfl) rfl ?_
  unfold f_c_barsAgree
  refine Ev.ps 2 rfl ?_
  have L2 : ∀ (k2 j2 : Nat) (o2_2 : Option MV), j2 + k2 = qBn → Da o2_2 → Ev (d + 2) (105, 2, [some (vR 8 0), some (vI (nI j2)), o2_2], []) (enc (mkC qNb qTf qLn qLy qMn qMk qMs qMh qPn qPl qPo qPp qEn qEm qEc qEd qEs qEl qEe qEw qSt qDu qCu qCn qCb qCl qBn qBm qBl qBf qKn qKl qKs qPr qDay qG2 qG4 qX1 qX3) R (mkW zO zD zX zL zXs zG5 zG6 zG7 zc zn)) ((.inl (some (vI (bI (c_barsAgree_L2 qBf qBl qCb qCl qCu qEn  k2 j2 ))))), enc (mkC qNb qTf qLn qLy qMn qMk qMs qMh qPn qPl qPo qPp qEn qEm qEc qEd qEs qEl qEe qEw qSt qDu qCu qCn qCb qCl qBn qBm qBl qBf qKn qKl qKs qPr qDay qG2 qG4 qX1 qX3) R (mkW zO zD zX zL zXs zG5 zG6 zG7 zc zn)) := by
    intro k2
    induction k2 with
    | zero =>
      intro j2 o2_2 hj2 ho2_2
      rw [c_barsAgree_L2]
      refine Ev.ps 2 rfl ?_
      refine Ev.getf (v := vR 14 0) (by rfl) (by rfl) (by rfl) (rd8) rfl ?_
      refine Ev.lz (N := qBn) (by rfl) (by rfl) (by rfl) (Nat.le_of_ble_eq_true rfl) (rd14) range_len ?_
      refine Ev.igeN (a := j2) (b := qBn) (by omega) (by omega) (by rfl) (by rfl) (fun (c1 : j2 < qBn) => ?_) (fun (c1 : ¬ j2 < qBn) => ?_)
      · exfalso; omega
      · refine Ev.ps 1 rfl ?_
        exact Ev.re rfl rfl rfl rfl rfl
    | succ k2 ih2 =>
      intro j2 o2_2 hj2 ho2_2
      rw [c_barsAgree_L2]
      refine Ev.ps 2 rfl ?_
      refine Ev.getf (v := vR 14 0) (by rfl) (by rfl) (by rfl) (rd8) rfl ?_
      refine Ev.lz (N := qBn) (by rfl) (by rfl) (by rfl) (Nat.le_of_ble_eq_true rfl) (rd14) range_len ?_
      refine Ev.igeN (a := j2) (b := qBn) (by omega) (by omega) (by rfl) (by rfl) (fun (c2 : j2 < qBn) => ?_) (fun (c2 : ¬ j2 < qBn) => ?_)
      · refine Ev.ps 1 rfl ?_
        refine Ev.getf (v := vR 14 0) (by rfl) (by rfl) (by rfl) (rd8) rfl ?_
        refine Ev.ps 1 rfl ?_
        refine Ev.lg (j := j2) (v := vR 0 j2) (by rfl) (by rfl) (by rfl) (Nat.le_of_ble_eq_true rfl) (rd14) (by omega) (range_get (by omega)) ?_
        refine Ev.cst (by rfl) (by rfl) (by rfl) (by rw [rd0 (by omega)]; rfl) ?_
        refine Ev.ps 2 rfl ?_
        refine Ev.getf (v := vI (qBf j2)) (by rfl) (by rfl) (by rfl) (rd0 (by omega)) rfl ?_
        refine Ev.ps 2 rfl ?_
        refine Ev.vir (as := [vR 0 j2]) (rest := [vI (qBf j2)]) (by rfl) (by rfl) (by rfl) (by rfl) rfl (Nat.le_of_ble_eq_true rfl) (by rfl) (by rw [rd8]; rfl) (s_c_left hW (by omega)) ?_
        refine Ev.ieq (by rfl) (by rfl) (fun (c3 : qBf j2 = f_c_left qBl qCb qCl qCu qEn j2) => ?_) (fun (c3 : ¬ qBf j2 = f_c_left qBl qCb qCl qCu qEn j2) => ?_)
        · rw [if_pos c3]
          refine Ev.ps 2 rfl ?_
          have h9 := ih2 (j2 + 1) (some (vR 0 j2)) (by show j2 + 1 + k2 = qBn; omega) Da.r
          rw [← nI_1] at h9
          exact h9
        · rw [if_neg c3]
          refine Ev.ps 1 rfl ?_
          exact Ev.re rfl rfl rfl rfl rfl
      · exfalso; omega
  exact L2 qBn 0 none (by show 0 + qBn = qBn; omega) Da.n
def c_debtsAgree_L2 (qDu : Nat → Int32) (qEm : Nat → Nat) (qEn : Nat) (qKl : Nat → Nat) (qKn : Nat) (qKs : Nat → Nat → Int32) (qPo : Nat → Int32) (qPp : Nat → Int32)  : Nat → Nat → (Bool)
  | 0, j2 =>
    true
  | k2 + 1, j2 =>
    if (qPo j2) - (qPp j2) = f_c_debts qDu qEm qEn qKl qKn qKs qPp j2 then c_debtsAgree_L2 qDu qEm qEn qKl qKn qKs qPo qPp  k2 (j2 + 1)  else false
def f_c_debtsAgree (qDu : Nat → Int32) (qEm : Nat → Nat) (qEn : Nat) (qKl : Nat → Nat) (qKn : Nat) (qKs : Nat → Nat → Int32) (qPn : Nat) (qPo : Nat → Int32) (qPp : Nat → Int32)  : Bool :=
  c_debtsAgree_L2 qDu qEm qEn qKl qKn qKs qPo qPp  qPn 0 
theorem s_c_debtsAgree {d : Nat} {zO : Int64} {zD : UInt64} {zX : Nat} {zL : Nat} {zXs : Nat → Int32} {zG5 : List Ob} {zG6 : List Ob} {zG7 : List Ob} {zc : Nat} {zn : Nat} {R : RD} {qNb : Nat → Int32} {qTf : Nat → Nat} {qLn : Nat} {qLy : Nat → Ly} {qMn : Nat} {qMk : Nat → Nat} {qMs : Nat → Int32} {qMh : Nat → List Nat} {qPn : Nat} {qPl : Nat → Nat → Int32} {qPo : Nat → Int32} {qPp : Nat → Int32} {qEn : Nat} {qEm : Nat → Nat} {qEc : Nat → Nat} {qEd : Nat → Int32} {qEs : Nat → Int32} {qEl : Nat → Int32} {qEe : Nat → Int32} {qEw : Nat → Int32} {qSt : Nat → Int32} {qDu : Nat → Int32} {qCu : Nat → List Nat} {qCn : Nat} {qCb : Nat → Nat} {qCl : Nat → Int32} {qBn : Nat} {qBm : Nat → Nat} {qBl : Nat → Int32} {qBf : Nat → Int32} {qKn : Nat} {qKl : Nat → Nat} {qKs : Nat → Nat → Int32} {qPr : Nat → Int32} {qDay : Int32} {qG2 : List Ob} {qG4 : List Ob} {qX1 : List Ob} {qX3 : List Ob}  (hW : WfC qMn qPn qEn qBn qKn qCn qLn qMk qEm qEc qCb qBm qTf qKl qMh qCu qLy) : Cal (d + 3) 106 [vR 8 0] (enc (mkC qNb qTf qLn qLy qMn qMk qMs qMh qPn qPl qPo qPp qEn qEm qEc qEd qEs qEl qEe qEw qSt qDu qCu qCn qCb qCl qBn qBm qBl qBf qKn qKl qKs qPr qDay qG2 qG4 qX1 qX3) R (mkW zO zD zX zL zXs zG5 zG6 zG7 zc zn)) (.inl (some (vI (bI (f_c_debtsAgree qDu qEm qEn qKl qKn qKs qPn qPo qPp))))) (enc (mkC qNb qTf qLn qLy qMn qMk qMs qMh qPn qPl qPo qPp qEn qEm qEc qEd qEs qEl qEe qEw qSt qDu qCu qCn qCb qCl qBn qBm qBl qBf qKn qKl qKs qPr qDay qG2 qG4 qX1 qX3) R (mkW zO zD zX zL zXs zG5 zG6 zG7 zc zn)) := by
  obtain ⟨wMn, wPn, wEn, wBn, wKn, wMk, wEm, wEc, wCb, wBm, wTf, wKl, wMh, wMl, wCu, wCl, wLy⟩ := id hW
  refine Cal.mk (n := 3) rfl (Nat.le_of_ble_eq_true rfl) rfl ?_
  unfold f_c_debtsAgree
  refine Ev.ps 2 rfl ?_
  have L2 : ∀ (k2 j2 : Nat) (o2_2 : Option MV), j2 + k2 = qPn → Da o2_2 → Ev (d + 3) (106, 2, [some (vR 8 0), some (vI (nI j2)), o2_2], []) (enc (mkC qNb qTf qLn qLy qMn qMk qMs qMh qPn qPl qPo qPp qEn qEm qEc qEd qEs qEl qEe qEw qSt qDu qCu qCn qCb qCl qBn qBm qBl qBf qKn qKl qKs qPr qDay qG2 qG4 qX1 qX3) R (mkW zO zD zX zL zXs zG5 zG6 zG7 zc zn)) ((.inl (some (vI (bI (c_debtsAgree_L2 qDu qEm qEn qKl qKn qKs qPo qPp  k2 j2 ))))), enc (mkC qNb qTf qLn qLy qMn qMk qMs qMh qPn qPl qPo qPp qEn qEm qEc qEd qEs qEl qEe qEw qSt qDu qCu qCn qCb qCl qBn qBm qBl qBf qKn qKl qKs qPr qDay qG2 qG4 qX1 qX3) R (mkW zO zD zX zL zXs zG5 zG6 zG7 zc zn)) := by
    intro k2
    induction k2 with
    | zero =>
      intro j2 o2_2 hj2 ho2_2
      rw [c_debtsAgree_L2]
      refine Ev.ps 2 rfl ?_
      refine Ev.getf (v := vR 12 0) (by rfl) (by rfl) (by rfl) (rd8) rfl ?_
      refine Ev.lz (N := qPn) (by rfl) (by rfl) (by rfl) (Nat.le_of_ble_eq_true rfl) (rd12) range_len ?_
      refine Ev.igeN (a := j2) (b := qPn) (by omega) (by omega) (by rfl) (by rfl) (fun (c1 : j2 < qPn) => ?_) (fun (c1 : ¬ j2 < qPn) => ?_)
      · exfalso; omega
      · refine Ev.ps 1 rfl ?_
        exact Ev.re rfl rfl rfl rfl rfl
    | succ k2 ih2 =>
      intro j2 o2_2 hj2 ho2_2
      rw [c_debtsAgree_L2]
      refine Ev.ps 2 rfl ?_
      refine Ev.getf (v := vR 12 0) (by rfl) (by rfl) (by rfl) (rd8) rfl ?_
      refine Ev.lz (N := qPn) (by rfl) (by rfl) (by rfl) (Nat.le_of_ble_eq_true rfl) (rd12) range_len ?_
      refine Ev.igeN (a := j2) (b := qPn) (by omega) (by omega) (by rfl) (by rfl) (fun (c2 : j2 < qPn) => ?_) (fun (c2 : ¬ j2 < qPn) => ?_)
      · refine Ev.ps 1 rfl ?_
        refine Ev.getf (v := vR 12 0) (by rfl) (by rfl) (by rfl) (rd8) rfl ?_
        refine Ev.ps 1 rfl ?_
        refine Ev.lg (j := j2) (v := vR 7 j2) (by rfl) (by rfl) (by rfl) (Nat.le_of_ble_eq_true rfl) (rd12) (by omega) (range_get (by omega)) ?_
        refine Ev.cst (by rfl) (by rfl) (by rfl) (by rw [rd7 (by omega)]; rfl) ?_
        refine Ev.ps 2 rfl ?_
        refine Ev.getf (v := vI (qPo j2)) (by rfl) (by rfl) (by rfl) (rd7 (by omega)) rfl ?_
        refine Ev.ps 1 rfl ?_
        refine Ev.getf (v := vI (qPp j2)) (by rfl) (by rfl) (by rfl) (rd7 (by omega)) rfl ?_
        refine Ev.ps 3 rfl ?_
        refine Ev.vir (as := [vI (nI j2)]) (rest := [vI ((qPo j2) - (qPp j2))]) (by rfl) (by rfl) (by rfl) (by rfl) rfl (Nat.le_of_ble_eq_true rfl) (by rfl) (by rw [rd8]; rfl) (s_c_debts hW (by omega)) ?_
        refine Ev.ieq (by rfl) (by rfl) (fun (c3 : (qPo j2) - (qPp j2) = f_c_debts qDu qEm qEn qKl qKn qKs qPp j2) => ?_) (fun (c3 : ¬ (qPo j2) - (qPp j2) = f_c_debts qDu qEm qEn qKl qKn qKs qPp j2) => ?_)
        · rw [if_pos c3]
          refine Ev.ps 2 rfl ?_
          have h9 := ih2 (j2 + 1) (some (vR 7 j2)) (by show j2 + 1 + k2 = qPn; omega) Da.r
          rw [← nI_1] at h9
          exact h9
        · rw [if_neg c3]
          refine Ev.ps 1 rfl ?_
          exact Ev.re rfl rfl rfl rfl rfl
      · exfalso; omega
  exact L2 qPn 0 none (by show 0 + qPn = qPn; omega) Da.n
theorem s_c_askN {d : Nat} {R : RD} {qNb : Nat → Int32} {qTf : Nat → Nat} {qLn : Nat} {qLy : Nat → Ly} {qMn : Nat} {qMk : Nat → Nat} {qMs : Nat → Int32} {qMh : Nat → List Nat} {qPn : Nat} {qPl : Nat → Nat → Int32} {qPo : Nat → Int32} {qPp : Nat → Int32} {qEn : Nat} {qEm : Nat → Nat} {qEc : Nat → Nat} {qEd : Nat → Int32} {qEs : Nat → Int32} {qEl : Nat → Int32} {qEe : Nat → Int32} {qEw : Nat → Int32} {qSt : Nat → Int32} {qDu : Nat → Int32} {qCu : Nat → List Nat} {qCn : Nat} {qCb : Nat → Nat} {qCl : Nat → Int32} {qBn : Nat} {qBm : Nat → Nat} {qBl : Nat → Int32} {qBf : Nat → Int32} {qKn : Nat} {qKl : Nat → Nat} {qKs : Nat → Nat → Int32} {qPr : Nat → Int32} {qDay : Int32} {qG2 : List Ob} {qG4 : List Ob} {qX1 : List Ob} {qX3 : List Ob} {zO : Int64} {zD : UInt64} {zX : Nat} {zL : Nat} {zXs : Nat → Int32} {zG5 : List Ob} {zG6 : List Ob} {zG7 : List Ob} {zc : Nat} {zn : Nat} {n : Int32} : Cal d 95 [vN, vI n] (enc (mkC qNb qTf qLn qLy qMn qMk qMs qMh qPn qPl qPo qPp qEn qEm qEc qEd qEs qEl qEe qEw qSt qDu qCu qCn qCb qCl qBn qBm qBl qBf qKn qKl qKs qPr qDay qG2 qG4 qX1 qX3) R (mkW zO zD zX zL zXs zG5 zG6 zG7 zc zn)) (.inl (some (vI 0))) (enc (mkC qNb qTf qLn qLy qMn qMk qMs qMh qPn qPl qPo qPp qEn qEm qEc qEd qEs qEl qEe qEw qSt qDu qCu qCn qCb qCl qBn qBm qBl qBf qKn qKl qKs qPr qDay qG2 qG4 qX1 qX3) R (mkW zO zD zX zL zXs zG5 zG6 zG7 zc zn)) := by
  refine Cal.mk (n := 4) rfl (Nat.le_of_ble_eq_true rfl) rfl ?_
  refine Ev.ps 3 rfl ?_
  exact Ev.re rfl rfl rfl rfl rfl
def f_c_ask1 (qLy : Nat → Ly) (l : Nat) (n : Int32) (lv : Int32 → Int32) : Int32 :=
  if 6 < lyHt (qLy l) then
    0
  else
    if lySort (qLy l) = 1 then
      (lv n) + (lyAm (qLy l))
    else
      if lySort (qLy l) = 2 then
        if (lyAm (qLy l)) < (lv n) then (lyAm (qLy l)) else (lv n)
      else
        if lySort (qLy l) = 3 then
          if lyAm (qLy l) < n then lv (n + (n - (lyAm (qLy l)))) else lv n
        else
          if lySort (qLy l) = 4 then
            (lv n) - (((lv n) * (lyAm (qLy l))) / 100)
          else
            (lyAm (qLy l)) * n
theorem s_c_ask1 {d : Nat} {zO : Int64} {zD : UInt64} {zX : Nat} {zL : Nat} {zXs : Nat → Int32} {zG5 : List Ob} {zG6 : List Ob} {zG7 : List Ob} {zc : Nat} {zn : Nat} {R : RD} {qNb : Nat → Int32} {qTf : Nat → Nat} {qLn : Nat} {qLy : Nat → Ly} {qMn : Nat} {qMk : Nat → Nat} {qMs : Nat → Int32} {qMh : Nat → List Nat} {qPn : Nat} {qPl : Nat → Nat → Int32} {qPo : Nat → Int32} {qPp : Nat → Int32} {qEn : Nat} {qEm : Nat → Nat} {qEc : Nat → Nat} {qEd : Nat → Int32} {qEs : Nat → Int32} {qEl : Nat → Int32} {qEe : Nat → Int32} {qEw : Nat → Int32} {qSt : Nat → Int32} {qDu : Nat → Int32} {qCu : Nat → List Nat} {qCn : Nat} {qCb : Nat → Nat} {qCl : Nat → Int32} {qBn : Nat} {qBm : Nat → Nat} {qBl : Nat → Int32} {qBf : Nat → Int32} {qKn : Nat} {qKl : Nat → Nat} {qKs : Nat → Nat → Int32} {qPr : Nat → Int32} {qDay : Int32} {qG2 : List Ob} {qG4 : List Ob} {qX1 : List Ob} {qX3 : List Ob} {l : Nat} {n : Int32} {lv : Int32 → Int32} (hW : WfC qMn qPn qEn qBn qKn qCn qLn qMk qEm qEc qCb qBm qTf qKl qMh qCu qLy) (hl : l < qLn) (hL : ∀ x, Cal d 95 [refL (lyBel (qLy l)), vI x] (enc (mkC qNb qTf qLn qLy qMn qMk qMs qMh qPn qPl qPo qPp qEn qEm qEc qEd qEs qEl qEe qEw qSt qDu qCu qCn qCb qCl qBn qBm qBl qBf qKn qKl qKs qPr qDay qG2 qG4 qX1 qX3) R (mkW zO zD zX zL zXs zG5 zG6 zG7 zc zn)) (.inl (some (vI (lv x)))) (enc (mkC qNb qTf qLn qLy qMn qMk qMs qMh qPn qPl qPo qPp qEn qEm qEc qEd qEs qEl qEe qEw qSt qDu qCu qCn qCb qCl qBn qBm qBl qBf qKn qKl qKs qPr qDay qG2 qG4 qX1 qX3) R (mkW zO zD zX zL zXs zG5 zG6 zG7 zc zn))) : Cal (d + 1) 95 [vR 5 l, vI n] (enc (mkC qNb qTf qLn qLy qMn qMk qMs qMh qPn qPl qPo qPp qEn qEm qEc qEd qEs qEl qEe qEw qSt qDu qCu qCn qCb qCl qBn qBm qBl qBf qKn qKl qKs qPr qDay qG2 qG4 qX1 qX3) R (mkW zO zD zX zL zXs zG5 zG6 zG7 zc zn)) (.inl (some (vI (f_c_ask1 qLy l n lv)))) (enc (mkC qNb qTf qLn qLy qMn qMk qMs qMh qPn qPl qPo qPp qEn qEm qEc qEd qEs qEl qEe qEw qSt qDu qCu qCn qCb qCl qBn qBm qBl qBf qKn qKl qKs qPr qDay qG2 qG4 qX1 qX3) R (mkW zO zD zX zL zXs zG5 zG6 zG7 zc zn)) := by
  obtain ⟨wMn, wPn, wEn, wBn, wKn, wMk, wEm, wEc, wCb, wBm, wTf, wKl, wMh, wMl, wCu, wCl, wLy⟩ := id hW
  refine Cal.mk (n := 4) rfl (Nat.le_of_ble_eq_true rfl) rfl ?_
  unfold f_c_ask1
  refine Ev.ps 3 rfl ?_
  refine Ev.getf (v := vI (lyHt (qLy l))) (by rfl) (by rfl) (by rfl) (rd5 (by have := hl; omega)) rfl ?_
  refine Ev.ps 1 rfl ?_
  refine Ev.ile (by rfl) (by rfl) (fun (c1 : 6 < lyHt (qLy l)) => ?_) (fun (c1 : ¬ 6 < lyHt (qLy l)) => ?_)
  · rw [if_pos c1]
    refine Ev.ps 1 rfl ?_
    exact Ev.re rfl rfl rfl rfl rfl
  · rw [if_neg c1]
    refine Ev.ps 1 rfl ?_
    refine Ev.getf (v := vI (lyAm (qLy l))) (by rfl) (by rfl) (by rfl) (rd5 (by have := hl; omega)) rfl ?_
    refine Ev.ps 2 rfl ?_
    refine Ev.getf (v := vI (lySort (qLy l))) (by rfl) (by rfl) (by rfl) (rd5 (by have := hl; omega)) rfl ?_
    by_cases t1 : lySort (qLy l) = 1
    · rw [if_pos t1]
      refine Ev.tsw (by rfl) t1 (by rfl) ?_
      refine Ev.ps 1 rfl ?_
      refine Ev.getf (v := refL (lyBel (qLy l))) (by rfl) (by rfl) (by rfl) (rd5 (by have := hl; omega)) rfl ?_
      refine Ev.ps 1 rfl ?_
      refine Ev.sta (as := [refL (lyBel (qLy l)), vI n]) (rest := []) (by rfl) (by rfl) (by rfl) (by rfl) rfl (Nat.le_of_ble_eq_true rfl) (hL n) ?_
      refine Ev.ps 2 rfl ?_
      exact Ev.re rfl rfl rfl rfl rfl
    · rw [if_neg t1]
      by_cases t2 : lySort (qLy l) = 2
      · rw [if_pos t2]
        refine Ev.tsw (by rfl) t2 (by rfl) ?_
        refine Ev.ps 1 rfl ?_
        refine Ev.getf (v := refL (lyBel (qLy l))) (by rfl) (by rfl) (by rfl) (rd5 (by have := hl; omega)) rfl ?_
        refine Ev.ps 1 rfl ?_
        refine Ev.sta (as := [refL (lyBel (qLy l)), vI n]) (rest := []) (by rfl) (by rfl) (by rfl) (by rfl) rfl (Nat.le_of_ble_eq_true rfl) (hL n) ?_
        refine Ev.ps 1 rfl ?_
        refine Ev.mn (by rfl) (by rfl) (Nat.le_of_ble_eq_true rfl) ?_
        exact Ev.re rfl rfl rfl rfl rfl
      · rw [if_neg t2]
        by_cases t3 : lySort (qLy l) = 3
        · rw [if_pos t3]
          refine Ev.tsw (by rfl) t3 (by rfl) ?_
          refine Ev.ps 1 rfl ?_
          refine Ev.getf (v := refL (lyBel (qLy l))) (by rfl) (by rfl) (by rfl) (rd5 (by have := hl; omega)) rfl ?_
          refine Ev.ps 2 rfl ?_
          refine Ev.ile (by rfl) (by rfl) (fun (c2 : lyAm (qLy l) < n) => ?_) (fun (c2 : ¬ lyAm (qLy l) < n) => ?_)
          · rw [if_pos c2]
            refine Ev.ps 6 rfl ?_
            refine Ev.sta (as := [refL (lyBel (qLy l)), vI (n + (n - (lyAm (qLy l))))]) (rest := []) (by rfl) (by rfl) (by rfl) (by rfl) rfl (Nat.le_of_ble_eq_true rfl) (hL (n + (n - (lyAm (qLy l))))) ?_
            exact Ev.re rfl rfl rfl rfl rfl
          · rw [if_neg c2]
            refine Ev.ps 1 rfl ?_
            refine Ev.sta (as := [refL (lyBel (qLy l)), vI n]) (rest := []) (by rfl) (by rfl) (by rfl) (by rfl) rfl (Nat.le_of_ble_eq_true rfl) (hL n) ?_
            exact Ev.re rfl rfl rfl rfl rfl
        · rw [if_neg t3]
          by_cases t4 : lySort (qLy l) = 4
          · rw [if_pos t4]
            refine Ev.tsw (by rfl) t4 (by rfl) ?_
            refine Ev.ps 1 rfl ?_
            refine Ev.getf (v := refL (lyBel (qLy l))) (by rfl) (by rfl) (by rfl) (rd5 (by have := hl; omega)) rfl ?_
            refine Ev.ps 1 rfl ?_
            refine Ev.sta (as := [refL (lyBel (qLy l)), vI n]) (rest := []) (by rfl) (by rfl) (by rfl) (by rfl) rfl (Nat.le_of_ble_eq_true rfl) (hL n) ?_
            refine Ev.ps 8 rfl ?_
            exact Ev.re rfl rfl rfl rfl rfl
          · rw [if_neg t4]
            refine Ev.tswd (by rfl) (tsw4 t1 t2 t3 t4) (by rfl) ?_
            refine Ev.ps 3 rfl ?_
            exact Ev.re rfl rfl rfl rfl rfl
def askF (qLy : Nat → Ly) : Nat → Option Nat → Int32 → Int32
  | 0, _, _ => 0
  | _ + 1, none, _ => 0
  | r + 1, some l, n => f_c_ask1 qLy l n (askF qLy r (lyBel (qLy l)))
theorem s_c_askF {d : Nat} {R : RD} {qNb : Nat → Int32} {qTf : Nat → Nat} {qLn : Nat} {qLy : Nat → Ly} {qMn : Nat} {qMk : Nat → Nat} {qMs : Nat → Int32} {qMh : Nat → List Nat} {qPn : Nat} {qPl : Nat → Nat → Int32} {qPo : Nat → Int32} {qPp : Nat → Int32} {qEn : Nat} {qEm : Nat → Nat} {qEc : Nat → Nat} {qEd : Nat → Int32} {qEs : Nat → Int32} {qEl : Nat → Int32} {qEe : Nat → Int32} {qEw : Nat → Int32} {qSt : Nat → Int32} {qDu : Nat → Int32} {qCu : Nat → List Nat} {qCn : Nat} {qCb : Nat → Nat} {qCl : Nat → Int32} {qBn : Nat} {qBm : Nat → Nat} {qBl : Nat → Int32} {qBf : Nat → Int32} {qKn : Nat} {qKl : Nat → Nat} {qKs : Nat → Nat → Int32} {qPr : Nat → Int32} {qDay : Int32} {qG2 : List Ob} {qG4 : List Ob} {qX1 : List Ob} {qX3 : List Ob} {zO : Int64} {zD : UInt64} {zX : Nat} {zL : Nat} {zXs : Nat → Int32} {zG5 : List Ob} {zG6 : List Ob} {zG7 : List Ob} {zc : Nat} {zn : Nat} (hW : WfC qMn qPn qEn qBn qKn qCn qLn qMk qEm qEc qCb qBm qTf qKl qMh qCu qLy) : ∀ (r k l : Nat) (n : Int32), l < qLn → lyHt (qLy l) = nI k → 1 ≤ k → k ≤ 6 → k ≤ r → Cal (d + r) 95 [vR 5 l, vI n] (enc (mkC qNb qTf qLn qLy qMn qMk qMs qMh qPn qPl qPo qPp qEn qEm qEc qEd qEs qEl qEe qEw qSt qDu qCu qCn qCb qCl qBn qBm qBl qBf qKn qKl qKs qPr qDay qG2 qG4 qX1 qX3) R (mkW zO zD zX zL zXs zG5 zG6 zG7 zc zn)) (.inl (some (vI (askF qLy r (some l) n)))) (enc (mkC qNb qTf qLn qLy qMn qMk qMs qMh qPn qPl qPo qPp qEn qEm qEc qEd qEs qEl qEe qEw qSt qDu qCu qCn qCb qCl qBn qBm qBl qBf qKn qKl qKs qPr qDay qG2 qG4 qX1 qX3) R (mkW zO zD zX zL zXs zG5 zG6 zG7 zc zn)) := by
  intro r
  induction r with
  | zero => intro k l n _ _ h1 _ h2; omega
  | succ r ih =>
    intro k l n hl hk h1 h6 h2
    refine s_c_ask1 (d := d + r) hW hl fun x => ?_
    obtain ⟨wMn, wPn, wEn, wBn, wKn, wMk, wEm, wEc, wCb, wBm, wTf, wKl, wMh, wMl, wCu, wCl, wLy⟩ := id hW
    obtain ⟨k2, a1, a2, a3, a4⟩ := wLy l hl
    have hkk : k2 = k := (nI_eq (by omega) (by omega)).mp (a3.symm.trans hk)
    subst hkk
    cases hb : lyBel (qLy l) with
    | none =>
      rw [show askF qLy r none x = 0 by cases r <;> rfl]
      exact s_c_askN
    | some b =>
      rw [hb] at a4
      exact ih (k2 - 1) b x (by omega) a4.2.1 (by omega) (by omega) (by omega)
def f_c_ask (qLy : Nat → Ly) (l : Nat) (n : Int32) : Int32 := askF qLy 6 (some l) n
theorem s_c_ask {d : Nat} {R : RD} {qNb : Nat → Int32} {qTf : Nat → Nat} {qLn : Nat} {qLy : Nat → Ly} {qMn : Nat} {qMk : Nat → Nat} {qMs : Nat → Int32} {qMh : Nat → List Nat} {qPn : Nat} {qPl : Nat → Nat → Int32} {qPo : Nat → Int32} {qPp : Nat → Int32} {qEn : Nat} {qEm : Nat → Nat} {qEc : Nat → Nat} {qEd : Nat → Int32} {qEs : Nat → Int32} {qEl : Nat → Int32} {qEe : Nat → Int32} {qEw : Nat → Int32} {qSt : Nat → Int32} {qDu : Nat → Int32} {qCu : Nat → List Nat} {qCn : Nat} {qCb : Nat → Nat} {qCl : Nat → Int32} {qBn : Nat} {qBm : Nat → Nat} {qBl : Nat → Int32} {qBf : Nat → Int32} {qKn : Nat} {qKl : Nat → Nat} {qKs : Nat → Nat → Int32} {qPr : Nat → Int32} {qDay : Int32} {qG2 : List Ob} {qG4 : List Ob} {qX1 : List Ob} {qX3 : List Ob} {zO : Int64} {zD : UInt64} {zX : Nat} {zL : Nat} {zXs : Nat → Int32} {zG5 : List Ob} {zG6 : List Ob} {zG7 : List Ob} {zc : Nat} {zn : Nat} (hW : WfC qMn qPn qEn qBn qKn qCn qLn qMk qEm qEc qCb qBm qTf qKl qMh qCu qLy) {l : Nat} {n : Int32} (hl : l < qLn) : Cal (d + 6) 95 [vR 5 l, vI n] (enc (mkC qNb qTf qLn qLy qMn qMk qMs qMh qPn qPl qPo qPp qEn qEm qEc qEd qEs qEl qEe qEw qSt qDu qCu qCn qCb qCl qBn qBm qBl qBf qKn qKl qKs qPr qDay qG2 qG4 qX1 qX3) R (mkW zO zD zX zL zXs zG5 zG6 zG7 zc zn)) (.inl (some (vI (f_c_ask qLy l n)))) (enc (mkC qNb qTf qLn qLy qMn qMk qMs qMh qPn qPl qPo qPp qEn qEm qEc qEd qEs qEl qEe qEw qSt qDu qCu qCn qCb qCl qBn qBm qBl qBf qKn qKl qKs qPr qDay qG2 qG4 qX1 qX3) R (mkW zO zD zX zL zXs zG5 zG6 zG7 zc zn)) := by
  obtain ⟨wMn, wPn, wEn, wBn, wKn, wMk, wEm, wEc, wCb, wBm, wTf, wKl, wMh, wMl, wCu, wCl, wLy⟩ := id hW
  obtain ⟨k2, a1, a2, a3, a4⟩ := wLy l hl
  exact s_c_askF hW 6 k2 l n hl a3 a2 a1 a1
def f_c_timePrice (qEc : Nat → Nat) (qEl : Nat → Int32) (qLy : Nat → Ly) (qMk : Nat → Nat) (qTf : Nat → Nat) (e : Nat) : Int32 :=
  f_c_ask qLy (qTf (qMk (qEc e))) (qEl e)
theorem s_c_timePrice {d : Nat} {zO : Int64} {zD : UInt64} {zX : Nat} {zL : Nat} {zXs : Nat → Int32} {zG5 : List Ob} {zG6 : List Ob} {zG7 : List Ob} {zc : Nat} {zn : Nat} {R : RD} {qNb : Nat → Int32} {qTf : Nat → Nat} {qLn : Nat} {qLy : Nat → Ly} {qMn : Nat} {qMk : Nat → Nat} {qMs : Nat → Int32} {qMh : Nat → List Nat} {qPn : Nat} {qPl : Nat → Nat → Int32} {qPo : Nat → Int32} {qPp : Nat → Int32} {qEn : Nat} {qEm : Nat → Nat} {qEc : Nat → Nat} {qEd : Nat → Int32} {qEs : Nat → Int32} {qEl : Nat → Int32} {qEe : Nat → Int32} {qEw : Nat → Int32} {qSt : Nat → Int32} {qDu : Nat → Int32} {qCu : Nat → List Nat} {qCn : Nat} {qCb : Nat → Nat} {qCl : Nat → Int32} {qBn : Nat} {qBm : Nat → Nat} {qBl : Nat → Int32} {qBf : Nat → Int32} {qKn : Nat} {qKl : Nat → Nat} {qKs : Nat → Nat → Int32} {qPr : Nat → Int32} {qDay : Int32} {qG2 : List Ob} {qG4 : List Ob} {qX1 : List Ob} {qX3 : List Ob} {e : Nat} (hW : WfC qMn qPn qEn qBn qKn qCn qLn qMk qEm qEc qCb qBm qTf qKl qMh qCu qLy) (he : e < qEn) : Cal (d + 7) 96 [vR 3 e] (enc (mkC qNb qTf qLn qLy qMn qMk qMs qMh qPn qPl qPo qPp qEn qEm qEc qEd qEs qEl qEe qEw qSt qDu qCu qCn qCb qCl qBn qBm qBl qBf qKn qKl qKs qPr qDay qG2 qG4 qX1 qX3) R (mkW zO zD zX zL zXs zG5 zG6 zG7 zc zn)) (.inl (some (vI (f_c_timePrice qEc qEl qLy qMk qTf e)))) (enc (mkC qNb qTf qLn qLy qMn qMk qMs qMh qPn qPl qPo qPp qEn qEm qEc qEd qEs qEl qEe qEw qSt qDu qCu qCn qCb qCl qBn qBm qBl qBf qKn qKl qKs qPr qDay qG2 qG4 qX1 qX3) R (mkW zO zD zX zL zXs zG5 zG6 zG7 zc zn)) := by
  obtain ⟨wMn, wPn, wEn, wBn, wKn, wMk, wEm, wEc, wCb, wBm, wTf, wKl, wMh, wMl, wCu, wCl, wLy⟩ := id hW
  refine Cal.mk (n := 1) rfl (Nat.le_of_ble_eq_true rfl) rfl ?_
  unfold f_c_timePrice
  refine Ev.ps 1 rfl ?_
  refine Ev.getf (v := vR 6 (qEc e)) (by rfl) (by rfl) (by rfl) (rd3 (by have := he; omega)) rfl ?_
  refine Ev.getf (v := vR 4 (qMk (qEc e))) (by rfl) (by rfl) (by rfl) (rd6 (by have := wEc _ (by have := he; omega); omega)) rfl ?_
  refine Ev.getf (v := vR 5 (qTf (qMk (qEc e)))) (by rfl) (by rfl) (by rfl) (rd4 (by have := wMk (qEc e); omega)) rfl ?_
  refine Ev.ps 1 rfl ?_
  refine Ev.getf (v := vI (qEl e)) (by rfl) (by rfl) (by rfl) (rd3 (by have := he; omega)) rfl ?_
  refine Ev.sta (as := [vR 5 (qTf (qMk (qEc e))), vI (qEl e)]) (rest := []) (by rfl) (by rfl) (by rfl) (by rfl) rfl (Nat.le_of_ble_eq_true rfl) (s_c_ask hW (by have := wTf _ (by have := wMk (qEc e); omega); omega)) ?_
  exact Ev.re rfl rfl rfl rfl rfl
def c_leads1_L20 (qNb : Nat → Int32) (a : Nat) (b : Nat) (c : Nat) (lv : Nat → Bool) : Nat → Nat → (Bool)
  | 0, j20 =>
    false
  | k20 + 1, j20 =>
    if f_c_needs qNb a j20 then if lv j20 then true else c_leads1_L20 qNb a b c lv k20 (j20 + 1)  else c_leads1_L20 qNb a b c lv k20 (j20 + 1) 
def f_c_leads1 (qNb : Nat → Int32) (a b c : Nat) (lv : Nat → Bool) : Bool :=
  if f_c_needs qNb a b then true else c_leads1_L20 qNb a b c lv 4 0 
theorem s_c_leads1 {d : Nat} {zO : Int64} {zD : UInt64} {zX : Nat} {zL : Nat} {zXs : Nat → Int32} {zG5 : List Ob} {zG6 : List Ob} {zG7 : List Ob} {zc : Nat} {zn : Nat} {R : RD} {qNb : Nat → Int32} {qTf : Nat → Nat} {qLn : Nat} {qLy : Nat → Ly} {qMn : Nat} {qMk : Nat → Nat} {qMs : Nat → Int32} {qMh : Nat → List Nat} {qPn : Nat} {qPl : Nat → Nat → Int32} {qPo : Nat → Int32} {qPp : Nat → Int32} {qEn : Nat} {qEm : Nat → Nat} {qEc : Nat → Nat} {qEd : Nat → Int32} {qEs : Nat → Int32} {qEl : Nat → Int32} {qEe : Nat → Int32} {qEw : Nat → Int32} {qSt : Nat → Int32} {qDu : Nat → Int32} {qCu : Nat → List Nat} {qCn : Nat} {qCb : Nat → Nat} {qCl : Nat → Int32} {qBn : Nat} {qBm : Nat → Nat} {qBl : Nat → Int32} {qBf : Nat → Int32} {qKn : Nat} {qKl : Nat → Nat} {qKs : Nat → Nat → Int32} {qPr : Nat → Int32} {qDay : Int32} {qG2 : List Ob} {qG4 : List Ob} {qX1 : List Ob} {qX3 : List Ob} {a : Nat} {b : Nat} {c : Nat} {lv : Nat → Bool} (hW : WfC qMn qPn qEn qBn qKn qCn qLn qMk qEm qEc qCb qBm qTf qKl qMh qCu qLy) (ha : a < 4) (hb : b < 4) (hc : c < 4) (hL : ∀ k, k < 4 → Cal (d + 1) 72 [vR 10 0, vR 4 k, vR 4 b, vI (nI (c + 1))] (enc (mkC qNb qTf qLn qLy qMn qMk qMs qMh qPn qPl qPo qPp qEn qEm qEc qEd qEs qEl qEe qEw qSt qDu qCu qCn qCb qCl qBn qBm qBl qBf qKn qKl qKs qPr qDay qG2 qG4 qX1 qX3) R (mkW zO zD zX zL zXs zG5 zG6 zG7 zc zn)) (.inl (some (vI (bI (lv k))))) (enc (mkC qNb qTf qLn qLy qMn qMk qMs qMh qPn qPl qPo qPp qEn qEm qEc qEd qEs qEl qEe qEw qSt qDu qCu qCn qCb qCl qBn qBm qBl qBf qKn qKl qKs qPr qDay qG2 qG4 qX1 qX3) R (mkW zO zD zX zL zXs zG5 zG6 zG7 zc zn))) : Cal (d + 2) 72 [vR 10 0, vR 4 a, vR 4 b, vI (nI c)] (enc (mkC qNb qTf qLn qLy qMn qMk qMs qMh qPn qPl qPo qPp qEn qEm qEc qEd qEs qEl qEe qEw qSt qDu qCu qCn qCb qCl qBn qBm qBl qBf qKn qKl qKs qPr qDay qG2 qG4 qX1 qX3) R (mkW zO zD zX zL zXs zG5 zG6 zG7 zc zn)) (.inl (some (vI (bI (f_c_leads1 qNb a b c lv))))) (enc (mkC qNb qTf qLn qLy qMn qMk qMs qMh qPn qPl qPo qPp qEn qEm qEc qEd qEs qEl qEe qEw qSt qDu qCu qCn qCb qCl qBn qBm qBl qBf qKn qKl qKs qPr qDay qG2 qG4 qX1 qX3) R (mkW zO zD zX zL zXs zG5 zG6 zG7 zc zn)) := by
  obtain ⟨wMn, wPn, wEn, wBn, wKn, wMk, wEm, wEc, wCb, wBm, wTf, wKl, wMh, wMl, wCu, wCl, wLy⟩ := id hW
  refine Cal.mk (n := 6) rfl (Nat.le_of_ble_eq_true rfl) rfl ?_
  unfold f_c_leads1
  refine Ev.ps 2 rfl ?_
  refine Ev.iltN (a := c) (b := 4) (by have := hc; omega) (by omega) (by rfl) (by rfl) (fun (c1 : c < 4) => ?_) (fun (c1 : ¬ c < 4) => ?_)
  · refine Ev.ps 2 rfl ?_
    refine Ev.vir (as := [vR 4 b]) (rest := []) (by rfl) (by rfl) (by rfl) (by rfl) rfl (Nat.le_of_ble_eq_true rfl) (by rfl) (by rw [rd4 (by have := ha; omega)]; rfl) (s_c_needs hW (by have := ha; omega) (by have := hb; omega)) ?_
    refine Ev.ifbe (by rfl) (by rfl) (fun c2 => ?_) (fun c2 => ?_)
    · rw [if_pos c2]
      refine Ev.ps 1 rfl ?_
      exact Ev.re rfl rfl rfl rfl rfl
    · rw [if_neg c2]
      refine Ev.ps 2 rfl ?_
      have L20 : ∀ (k20 j20 : Nat) (o20_5 : Option MV), j20 + k20 = 4 → Da o20_5 → Ev (d + 2) (72, 20, [some (vR 10 0), some (vR 4 a), some (vR 4 b), some (vI (nI c)), some (vI (nI j20)), o20_5], []) (enc (mkC qNb qTf qLn qLy qMn qMk qMs qMh qPn qPl qPo qPp qEn qEm qEc qEd qEs qEl qEe qEw qSt qDu qCu qCn qCb qCl qBn qBm qBl qBf qKn qKl qKs qPr qDay qG2 qG4 qX1 qX3) R (mkW zO zD zX zL zXs zG5 zG6 zG7 zc zn)) ((.inl (some (vI (bI (c_leads1_L20 qNb a b c lv k20 j20 ))))), enc (mkC qNb qTf qLn qLy qMn qMk qMs qMh qPn qPl qPo qPp qEn qEm qEc qEd qEs qEl qEe qEw qSt qDu qCu qCn qCb qCl qBn qBm qBl qBf qKn qKl qKs qPr qDay qG2 qG4 qX1 qX3) R (mkW zO zD zX zL zXs zG5 zG6 zG7 zc zn)) := by
        intro k20
        induction k20 with
        | zero =>
          intro j20 o20_5 hj20 ho20_5
          rw [c_leads1_L20]
          refine Ev.ps 2 rfl ?_
          refine Ev.lz (N := 4) (by rfl) (by rfl) (by rfl) (Nat.le_of_ble_eq_true rfl) (rd10) range_len ?_
          refine Ev.igeN (a := j20) (b := 4) (by omega) (by omega) (by rfl) (by rfl) (fun (c3 : j20 < 4) => ?_) (fun (c3 : ¬ j20 < 4) => ?_)
          · exfalso; omega
          · refine Ev.ps 1 rfl ?_
            exact Ev.re rfl rfl rfl rfl rfl
        | succ k20 ih20 =>
          intro j20 o20_5 hj20 ho20_5
          rw [c_leads1_L20]
          refine Ev.ps 2 rfl ?_
          refine Ev.lz (N := 4) (by rfl) (by rfl) (by rfl) (Nat.le_of_ble_eq_true rfl) (rd10) range_len ?_
          refine Ev.igeN (a := j20) (b := 4) (by omega) (by omega) (by rfl) (by rfl) (fun (c4 : j20 < 4) => ?_) (fun (c4 : ¬ j20 < 4) => ?_)
          · refine Ev.ps 2 rfl ?_
            refine Ev.lg (j := j20) (v := vR 4 j20) (by rfl) (by rfl) (by rfl) (Nat.le_of_ble_eq_true rfl) (rd10) (by omega) (range_get (by omega)) ?_
            refine Ev.cst (by rfl) (by rfl) (by rfl) (by rw [rd4 (by omega)]; rfl) ?_
            refine Ev.ps 3 rfl ?_
            refine Ev.vir (as := [vR 4 j20]) (rest := []) (by rfl) (by rfl) (by rfl) (by rfl) rfl (Nat.le_of_ble_eq_true rfl) (by rfl) (by rw [rd4 (by have := ha; omega)]; rfl) (s_c_needs hW (by have := ha; omega) (by omega)) ?_
            refine Ev.ifbe (by rfl) (by rfl) (fun c5 => ?_) (fun c5 => ?_)
            · rw [if_pos c5]
              refine Ev.ps 6 rfl ?_
              refine Ev.st1 (b := nI (c + 1)) (nI_1 c) ?_
              refine Ev.sta (as := [vR 10 0, vR 4 j20, vR 4 b, vI (nI (c + 1))]) (rest := []) (by rfl) (by rfl) (by rfl) (by rfl) rfl (Nat.le_of_ble_eq_true rfl) (hL _ (by omega)) ?_
              refine Ev.ifbe (by rfl) (by rfl) (fun c6 => ?_) (fun c6 => ?_)
              · rw [if_pos c6]
                refine Ev.ps 1 rfl ?_
                exact Ev.re rfl rfl rfl rfl rfl
              · rw [if_neg c6]
                refine Ev.ps 2 rfl ?_
                have h9 := ih20 (j20 + 1) (some (vR 4 j20)) (by show j20 + 1 + k20 = 4; omega) Da.r
                rw [← nI_1] at h9
                exact h9
            · rw [if_neg c5]
              refine Ev.ps 2 rfl ?_
              have h9 := ih20 (j20 + 1) (some (vR 4 j20)) (by show j20 + 1 + k20 = 4; omega) Da.r
              rw [← nI_1] at h9
              exact h9
          · exfalso; omega
      exact L20 4 0 none (by show 0 + 4 = 4; omega) Da.n
  · exfalso; omega
def leadsF (qNb : Nat → Int32) (b : Nat) : Nat → Nat → Bool
  | 0, _ => false
  | r + 1, a => f_c_leads1 qNb a b (4 - (r + 1)) (leadsF qNb b r)
theorem s_c_leadsF {d : Nat} {R : RD} {qNb : Nat → Int32} {qTf : Nat → Nat} {qLn : Nat} {qLy : Nat → Ly} {qMn : Nat} {qMk : Nat → Nat} {qMs : Nat → Int32} {qMh : Nat → List Nat} {qPn : Nat} {qPl : Nat → Nat → Int32} {qPo : Nat → Int32} {qPp : Nat → Int32} {qEn : Nat} {qEm : Nat → Nat} {qEc : Nat → Nat} {qEd : Nat → Int32} {qEs : Nat → Int32} {qEl : Nat → Int32} {qEe : Nat → Int32} {qEw : Nat → Int32} {qSt : Nat → Int32} {qDu : Nat → Int32} {qCu : Nat → List Nat} {qCn : Nat} {qCb : Nat → Nat} {qCl : Nat → Int32} {qBn : Nat} {qBm : Nat → Nat} {qBl : Nat → Int32} {qBf : Nat → Int32} {qKn : Nat} {qKl : Nat → Nat} {qKs : Nat → Nat → Int32} {qPr : Nat → Int32} {qDay : Int32} {qG2 : List Ob} {qG4 : List Ob} {qX1 : List Ob} {qX3 : List Ob} {zO : Int64} {zD : UInt64} {zX : Nat} {zL : Nat} {zXs : Nat → Int32} {zG5 : List Ob} {zG6 : List Ob} {zG7 : List Ob} {zc : Nat} {zn : Nat} (hW : WfC qMn qPn qEn qBn qKn qCn qLn qMk qEm qEc qCb qBm qTf qKl qMh qCu qLy) {b : Nat} (hb : b < 4) : ∀ (r a : Nat), r ≤ 4 → a < 4 → Cal (d + 1 + r) 72 [vR 10 0, vR 4 a, vR 4 b, vI (nI (4 - r))] (enc (mkC qNb qTf qLn qLy qMn qMk qMs qMh qPn qPl qPo qPp qEn qEm qEc qEd qEs qEl qEe qEw qSt qDu qCu qCn qCb qCl qBn qBm qBl qBf qKn qKl qKs qPr qDay qG2 qG4 qX1 qX3) R (mkW zO zD zX zL zXs zG5 zG6 zG7 zc zn)) (.inl (some (vI (bI (leadsF qNb b r a))))) (enc (mkC qNb qTf qLn qLy qMn qMk qMs qMh qPn qPl qPo qPp qEn qEm qEc qEd qEs qEl qEe qEw qSt qDu qCu qCn qCb qCl qBn qBm qBl qBf qKn qKl qKs qPr qDay qG2 qG4 qX1 qX3) R (mkW zO zD zX zL zXs zG5 zG6 zG7 zc zn)) := by
  intro r
  induction r with
  | zero =>
    intro a _ _
    refine Cal.mk (n := 6) rfl (Nat.le_of_ble_eq_true rfl) rfl ?_
    refine Ev.ps 2 rfl ?_
    refine Ev.icmp (by rfl) (by rfl) (fun z => by exact absurd z (by decide)) (fun _ => ?_)
    refine Ev.ps 1 rfl ?_
    exact Ev.re rfl rfl rfl rfl rfl
  | succ r ih =>
    intro a hr ha
    rw [show d + 1 + (r + 1) = d + r + 2 by omega]
    refine s_c_leads1 (d := d + r) hW ha hb (by omega) fun k hk => ?_
    have h9 := ih k (by omega) hk
    rw [show d + 1 + r = d + r + 1 by omega, show 4 - r = 4 - (r + 1) + 1 by omega] at h9
    exact h9
def f_c_leads (qNb : Nat → Int32) (a b : Nat) : Bool := leadsF qNb b 4 a
theorem s_c_leads {d : Nat} {R : RD} {qNb : Nat → Int32} {qTf : Nat → Nat} {qLn : Nat} {qLy : Nat → Ly} {qMn : Nat} {qMk : Nat → Nat} {qMs : Nat → Int32} {qMh : Nat → List Nat} {qPn : Nat} {qPl : Nat → Nat → Int32} {qPo : Nat → Int32} {qPp : Nat → Int32} {qEn : Nat} {qEm : Nat → Nat} {qEc : Nat → Nat} {qEd : Nat → Int32} {qEs : Nat → Int32} {qEl : Nat → Int32} {qEe : Nat → Int32} {qEw : Nat → Int32} {qSt : Nat → Int32} {qDu : Nat → Int32} {qCu : Nat → List Nat} {qCn : Nat} {qCb : Nat → Nat} {qCl : Nat → Int32} {qBn : Nat} {qBm : Nat → Nat} {qBl : Nat → Int32} {qBf : Nat → Int32} {qKn : Nat} {qKl : Nat → Nat} {qKs : Nat → Nat → Int32} {qPr : Nat → Int32} {qDay : Int32} {qG2 : List Ob} {qG4 : List Ob} {qX1 : List Ob} {qX3 : List Ob} {zO : Int64} {zD : UInt64} {zX : Nat} {zL : Nat} {zXs : Nat → Int32} {zG5 : List Ob} {zG6 : List Ob} {zG7 : List Ob} {zc : Nat} {zn : Nat} (hW : WfC qMn qPn qEn qBn qKn qCn qLn qMk qEm qEc qCb qBm qTf qKl qMh qCu qLy) {a b : Nat} (ha : a < 4) (hb : b < 4) : Cal (d + 5) 72 [vR 10 0, vR 4 a, vR 4 b, vI 0] (enc (mkC qNb qTf qLn qLy qMn qMk qMs qMh qPn qPl qPo qPp qEn qEm qEc qEd qEs qEl qEe qEw qSt qDu qCu qCn qCb qCl qBn qBm qBl qBf qKn qKl qKs qPr qDay qG2 qG4 qX1 qX3) R (mkW zO zD zX zL zXs zG5 zG6 zG7 zc zn)) (.inl (some (vI (bI (f_c_leads qNb a b))))) (enc (mkC qNb qTf qLn qLy qMn qMk qMs qMh qPn qPl qPo qPp qEn qEm qEc qEd qEs qEl qEe qEw qSt qDu qCu qCn qCb qCl qBn qBm qBl qBf qKn qKl qKs qPr qDay qG2 qG4 qX1 qX3) R (mkW zO zD zX zL zXs zG5 zG6 zG7 zc zn)) := s_c_leadsF hW hb 4 a (Nat.le_refl _) ha
