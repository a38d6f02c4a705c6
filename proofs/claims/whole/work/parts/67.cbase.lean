/-! the class's words, and the specs by hand over the records (written by gcb.py) -/
section CX
variable {d y pc : Nat} {C : CD} {R : RD} {zO : Int64} {zD : UInt64} {zX : Nat} {zL : Nat} {zXs : Nat → Int32} {zG5 : List Ob} {zG6 : List Ob} {zG7 : List Ob} {zc : Nat} {zn : Nat} {L : Lo}
theorem cexc {E : Nat} {as : List MV} (h : Cal d y as (enc C R (mkW zO zD zX zL zXs zG5 zG6 zG7 zc zn)) (.inr E) (hcst (enc C R (mkW zO zD zX zL zXs zG5 zG6 zG7 zc zn)) 1 6)) : Cal d y as (enc C R (mkW zO zD zX zL zXs zG5 zG6 zG7 zc zn)) (.inr E) (enc C R (mkW zO zD zX zL zXs zG5 zG6 zG7 (zc + 1) (zn + 6))) := by
  rw [wr_cst] at h
  exact h
theorem Ev.thwE {E : Nat} (ht : th y pc = some E) : Ev d (y, pc, L, []) (enc C R (mkW zO zD zX zL zXs zG5 zG6 zG7 zc zn)) (.inr E, enc C R (mkW zO zD zX zL zXs zG5 zG6 zG7 (zc + 1) (zn + 6))) := by
  have h := Ev.thw (d := d) (L := L) (h := enc C R (mkW zO zD zX zL zXs zG5 zG6 zG7 zc zn)) ht
  rw [wr_cst] at h
  exact h
end CX
theorem not_in_nat {v : Int32} {n : Nat} (hn : n < 2 ^ 30) (h : ¬ f_r_in v 0 (nI n - 1) = true) : v < 0 ∨ nI n ≤ v := by
  unfold f_r_in at h
  split at h
  · exact Or.inl (by assumption)
  · rename_i h0
    split at h
    · rename_i h1
      right
      rw [Int32.lt_iff_toInt_lt] at h1
      rw [Int32.le_iff_toInt_le, nI_toInt (by omega)]
      have h3 : (nI n - 1).toInt = (n : Int) - 1 := by
        cases n with
        | zero => decide
        | succ n =>
          rw [nI_pred, nI_toInt (by omega)]
          omega
      omega
    · exact absurd rfl h
theorem in_lo {v lo hi : Int32} (h : f_r_in v lo hi = true) : ¬ v < lo := by
  unfold f_r_in at h
  split at h
  · cases h
  · assumption
theorem in_hi {v lo hi : Int32} (h : f_r_in v lo hi = true) : v ≤ hi := by
  unfold f_r_in at h
  split at h
  · cases h
  · split at h
    · cases h
    · exact Int32.not_lt.mp (by assumption)
theorem in_not {v lo hi : Int32} (h : ¬ f_r_in v lo hi = true) : v < lo ∨ hi < v := by
  unfold f_r_in at h
  split at h
  · exact Or.inl (by assumption)
  · split at h
    · exact Or.inr (by assumption)
    · exact absurd rfl h
theorem getD_mem {l : List Nat} {j d : Nat} (h : j < l.length) : l.getD j d ∈ l := by
  rw [List.getD_eq_getElem?_getD, List.getElem?_eq_getElem h]
  exact List.getElem_mem h
theorem mapget {l : List Nat} {j d s : Nat} (h : j < l.length) : (l.map (vR s))[j]? = some (vR s (l.getD j d)) := by
  rw [List.getElem?_map, List.getD_eq_getElem?_getD, List.getElem?_eq_getElem h]
  rfl
/-- the layers lie over one another, and no tariff is higher than six -/
def LyOk (n : Nat) (ly : Nat → Ly) : Prop := ∀ l, l < n → (∃ k : Nat, k ≤ 6 ∧ 1 ≤ k ∧ lyHt (ly l) = nI k ∧ match lyBel (ly l) with | none => k = 1 | some b => b < l ∧ lyHt (ly b) = nI (k - 1) ∧ 2 ≤ k)
/-- the class's numbers are in range -/
def WfC (Mn Pn En Bn Kn Cn Ln : Nat) (Mk Em Ec Cb Bm Tf Kl : Nat → Nat) (Mh Cu : Nat → List Nat) (Ly : Nat → Ly) : Prop := Mn ≤ 6 ∧ Pn ≤ 10 ∧ En ≤ 150 ∧ Bn ≤ 30 ∧ Kn ≤ 20 ∧ (∀ m, Mk m < 4) ∧ (∀ e, e < En → Em e < Pn) ∧ (∀ e, e < En → Ec e < Mn) ∧ (∀ c, c < Cn → Cb c < Bn) ∧ (∀ b, Bm b < 3) ∧ (∀ k, k < 4 → Tf k < Ln) ∧ (∀ k, Kl k ≤ 10) ∧ (∀ m e, e ∈ Mh m → e < En) ∧ (∀ m, (Mh m).length ≤ 150) ∧ (∀ e c, c ∈ Cu e → c < Cn) ∧ (∀ e, (Cu e).length ≤ 5) ∧ LyOk Ln Ly
def vE (Em Ec : Nat → Nat) (Ed Es El Ee Ew St Du : Nat → Int32) : Nat → En := fun i => (Em i, Ec i, Ed i, Es i, El i, Ee i, Ew i, St i, Du i)
section CB
variable {d : Nat} {R : RD} {qNb : Nat → Int32} {qTf : Nat → Nat} {qLn : Nat} {qLy : Nat → Ly} {qMn : Nat} {qMk : Nat → Nat} {qMs : Nat → Int32} {qMh : Nat → List Nat} {qPn : Nat} {qPl : Nat → Nat → Int32} {qPo : Nat → Int32} {qPp : Nat → Int32} {qEn : Nat} {qEm : Nat → Nat} {qEc : Nat → Nat} {qEd : Nat → Int32} {qEs : Nat → Int32} {qEl : Nat → Int32} {qEe : Nat → Int32} {qEw : Nat → Int32} {qSt : Nat → Int32} {qDu : Nat → Int32} {qCu : Nat → List Nat} {qCn : Nat} {qCb : Nat → Nat} {qCl : Nat → Int32} {qBn : Nat} {qBm : Nat → Nat} {qBl : Nat → Int32} {qBf : Nat → Int32} {qKn : Nat} {qKl : Nat → Nat} {qKs : Nat → Nat → Int32} {qPr : Nat → Int32} {qDay : Int32} {qG2 : List Ob} {qG4 : List Ob} {qX1 : List Ob} {qX3 : List Ob} {zO : Int64} {zD : UInt64} {zX : Nat} {zL : Nat} {zXs : Nat → Int32} {zG5 : List Ob} {zG6 : List Ob} {zG7 : List Ob} {zc : Nat} {zn : Nat}
theorem entsAt (hn : qEn ≤ 150) : EntsAt (pl qEn (vE qEm qEc qEd qEs qEl qEe qEw qSt qDu)) (enc (mkC qNb qTf qLn qLy qMn qMk qMs qMh qPn qPl qPo qPp qEn qEm qEc qEd qEs qEl qEe qEw qSt qDu qCu qCn qCb qCl qBn qBm qBl qBf qKn qKl qKs qPr qDay qG2 qG4 qX1 qX3) R (mkW zO zD zX zL zXs zG5 zG6 zG7 zc zn)) := by
  refine ⟨⟨_, rd8, rfl⟩, by rw [pl_len]; exact rd13, by rw [pl_len]; omega, fun i e h => ?_⟩
  have hi : i < qEn := by
    have := (List.getElem?_eq_some_iff.mp h).1
    rw [pl_len] at this
    exact this
  rw [pl_get hi] at h
  cases h
  exact rd3 hi
theorem heldAt (hW : WfC qMn qPn qEn qBn qKn qCn qLn qMk qEm qEc qCb qBm qTf qKl qMh qCu qLy) {mm : Nat} (hm : mm < qMn) : HeldAt (vE qEm qEc qEd qEs qEl qEe qEw qSt qDu) mm mm (qMs mm) (qMh mm) (enc (mkC qNb qTf qLn qLy qMn qMk qMs qMh qPn qPl qPo qPp qEn qEm qEc qEd qEs qEl qEe qEw qSt qDu qCu qCn qCb qCl qBn qBm qBl qBf qKn qKl qKs qPr qDay qG2 qG4 qX1 qX3) R (mkW zO zD zX zL zXs zG5 zG6 zG7 zc zn)) := by
  obtain ⟨wMn, wPn, wEn, wBn, wKn, wMk, wEm, wEc, wCb, wBm, wTf, wKl, wMh, wMl, wCu, wCl, wLy⟩ := id hW
  exact ⟨⟨_, rd6 hm, rfl, rfl⟩, rd16 hm, Nat.lt_of_le_of_lt (wMl mm) (by decide), fun e he => rd3 (wMh mm e he)⟩
theorem kindsAt : KindsAt qNb bt (enc (mkC qNb qTf qLn qLy qMn qMk qMs qMh qPn qPl qPo qPp qEn qEm qEc qEd qEs qEl qEe qEw qSt qDu qCu qCn qCb qCl qBn qBm qBl qBf qKn qKl qKs qPr qDay qG2 qG4 qX1 qX3) R (mkW zO zD zX zL zXs zG5 zG6 zG7 zc zn)) := ⟨⟨_, rd8, rfl⟩, rd10, fun k hk => ⟨_, rd4 hk, rfl, rfl⟩⟩
theorem kindsN : ∀ k, k < 4 → ∃ ok, hget (enc (mkC qNb qTf qLn qLy qMn qMk qMs qMh qPn qPl qPo qPp qEn qEm qEc qEd qEs qEl qEe qEw qSt qDu qCu qCn qCb qCl qBn qBm qBl qBf qKn qKl qKs qPr qDay qG2 qG4 qX1 qX3) R (mkW zO zD zX zL zXs zG5 zG6 zG7 zc zn)) 4 k = some ok ∧ ok[1]? = some (vI (nI k)) := fun k hk => ⟨_, rd4 hk, rfl⟩
theorem lastAt {m : Nat} (hm : m < qPn) : LastAt (qPl m) m (enc (mkC qNb qTf qLn qLy qMn qMk qMs qMh qPn qPl qPo qPp qEn qEm qEc qEd qEs qEl qEe qEw qSt qDu qCu qCn qCb qCl qBn qBm qBl qBf qKn qKl qKs qPr qDay qG2 qG4 qX1 qX3) R (mkW zO zD zX zL zXs zG5 zG6 zG7 zc zn)) := ⟨_, m, _, rd7 hm, rfl, rd20 hm, pl_len, fun k hk => pl_get hk⟩
def f_c_live (qNb : Nat → Int32) (qPl : Nat → Nat → Int32) (m kd : Nat) (D : Int32) : Bool := liveF qNb bt (qPl m) D 4 kd
theorem s_c_live {m kd : Nat} {D : Int32} (hm : m < qPn) (hkd : kd < 4) : Cal (d + 9) 73 [vR 8 0, vR 7 m, vR 4 kd, vI D, vI 0] (enc (mkC qNb qTf qLn qLy qMn qMk qMs qMh qPn qPl qPo qPp qEn qEm qEc qEd qEs qEl qEe qEw qSt qDu qCu qCn qCb qCl qBn qBm qBl qBf qKn qKl qKs qPr qDay qG2 qG4 qX1 qX3) R (mkW zO zD zX zL zXs zG5 zG6 zG7 zc zn)) (.inl (some (vI (bI (f_c_live qNb qPl m kd D))))) (enc (mkC qNb qTf qLn qLy qMn qMk qMs qMh qPn qPl qPo qPp qEn qEm qEc qEd qEs qEl qEe qEw qSt qDu qCu qCn qCb qCl qBn qBm qBl qBf qKn qKl qKs qPr qDay qG2 qG4 qX1 qX3) R (mkW zO zD zX zL zXs zG5 zG6 zG7 zc zn)) :=
  s_hasLive (d := d) kindsAt kindsN (lastAt hm) 4 kd (Nat.le_refl _) hkd
def f_c_needsLive (qNb : Nat → Int32) (qPl : Nat → Nat → Int32) (m kd : Nat) (D : Int32) : Bool := allN (fun k => decide (qNb kd &&& bt k = 0) || liveF qNb bt (qPl m) D 3 k) 4 0
theorem s_c_needsLive {m kd : Nat} {D : Int32} (hm : m < qPn) (hkd : kd < 4) : Cal (d + 8) 74 [vR 8 0, vR 7 m, vR 4 kd, vI D, vI 0] (enc (mkC qNb qTf qLn qLy qMn qMk qMs qMh qPn qPl qPo qPp qEn qEm qEc qEd qEs qEl qEe qEw qSt qDu qCu qCn qCb qCl qBn qBm qBl qBf qKn qKl qKs qPr qDay qG2 qG4 qX1 qX3) R (mkW zO zD zX zL zXs zG5 zG6 zG7 zc zn)) (.inl (some (vI (bI (f_c_needsLive qNb qPl m kd D))))) (enc (mkC qNb qTf qLn qLy qMn qMk qMs qMh qPn qPl qPo qPp qEn qEm qEc qEd qEs qEl qEe qEw qSt qDu qCu qCn qCb qCl qBn qBm qBl qBf qKn qKl qKs qPr qDay qG2 qG4 qX1 qX3) R (mkW zO zD zX zL zXs zG5 zG6 zG7 zc zn)) :=
  s_hasLiveNeeds (d := d + 6) kindsAt (by rw [rd7 hm]; rfl) hkd fun k hk _ => s_hasLive (d := d) kindsAt kindsN (lastAt hm) 3 k (by decide) hk
def f_c_isBusy (qEn : Nat) (qEm qEc : Nat → Nat) (qEd qEs qEl qEe qEw qSt : Nat → Int32) (m : Nat) (D S E : Int32) : Bool := (pl qEn (vE qEm qEc qEd qEs qEl qEe qEw qSt (fun _ => 0))).any (busyE m D S E)
theorem busy_du {m : Nat} {D S E : Int32} : (pl qEn (vE qEm qEc qEd qEs qEl qEe qEw qSt qDu)).any (busyE m D S E) = f_c_isBusy qEn qEm qEc qEd qEs qEl qEe qEw qSt m D S E := by
  unfold f_c_isBusy pl
  rw [List.any_map, List.any_map]
  rfl
theorem s_c_isBusy {m : Nat} {D S E : Int32} (hn : qEn ≤ 150) : Cal (d + 1) 79 [vR 8 0, vR 7 m, vI D, vI S, vI E] (enc (mkC qNb qTf qLn qLy qMn qMk qMs qMh qPn qPl qPo qPp qEn qEm qEc qEd qEs qEl qEe qEw qSt qDu qCu qCn qCb qCl qBn qBm qBl qBf qKn qKl qKs qPr qDay qG2 qG4 qX1 qX3) R (mkW zO zD zX zL zXs zG5 zG6 zG7 zc zn)) (.inl (some (vI (bI (f_c_isBusy qEn qEm qEc qEd qEs qEl qEe qEw qSt m D S E))))) (enc (mkC qNb qTf qLn qLy qMn qMk qMs qMh qPn qPl qPo qPp qEn qEm qEc qEd qEs qEl qEe qEw qSt qDu qCu qCn qCb qCl qBn qBm qBl qBf qKn qKl qKs qPr qDay qG2 qG4 qX1 qX3) R (mkW zO zD zX zL zXs zG5 zG6 zG7 zc zn)) := by
  rw [← busy_du (qDu := qDu)]
  exact s_isBusy (entsAt hn)
def f_c_placeOf (qEd qEs : Nat → Int32) (qMh : Nat → List Nat) (mm : Nat) (D S : Int32) : Nat := placeL qEd qEs D S (qMh mm)
theorem place_le {mm : Nat} {D S : Int32} : f_c_placeOf qEd qEs qMh mm D S ≤ (qMh mm).length := placeL_le _
theorem s_c_placeOf (hW : WfC qMn qPn qEn qBn qKn qCn qLn qMk qEm qEc qCb qBm qTf qKl qMh qCu qLy) {mm : Nat} {D S : Int32} (hm : mm < qMn) : Cal (d + 1) 13 [vR 6 mm, vI D, vI S] (enc (mkC qNb qTf qLn qLy qMn qMk qMs qMh qPn qPl qPo qPp qEn qEm qEc qEd qEs qEl qEe qEw qSt qDu qCu qCn qCb qCl qBn qBm qBl qBf qKn qKl qKs qPr qDay qG2 qG4 qX1 qX3) R (mkW zO zD zX zL zXs zG5 zG6 zG7 zc zn)) (.inl (some (vI (nI (f_c_placeOf qEd qEs qMh mm D S))))) (enc (mkC qNb qTf qLn qLy qMn qMk qMs qMh qPn qPl qPo qPp qEn qEm qEc qEd qEs qEl qEe qEw qSt qDu qCu qCn qCb qCl qBn qBm qBl qBf qKn qKl qKs qPr qDay qG2 qG4 qX1 qX3) R (mkW zO zD zX zL zXs zG5 zG6 zG7 zc zn)) := s_placeH (heldAt hW hm)
def f_c_isFree (qEm qEc : Nat → Nat) (qEd qEs qEl qEe qEw qSt : Nat → Int32) (qMh : Nat → List Nat) (qMs : Nat → Int32) (mm p0 : Nat) (D S M V : Int32) : Bool := freeL (vE qEm qEc qEd qEs qEl qEe qEw qSt (fun _ => 0)) (qMs mm) D S (S + M) V none ((qMh mm).drop p0)
theorem freeL_du {s D S F V : Int32} : ∀ (l : List Nat) (b : Option Nat), freeL (vE qEm qEc qEd qEs qEl qEe qEw qSt qDu) s D S F V b l = freeL (vE qEm qEc qEd qEs qEl qEe qEw qSt (fun _ => 0)) s D S F V b l
  | [], none => rfl
  | [], some _ => rfl
  | e :: l, b => by
    unfold freeL
    rw [freeL_du l (some e)]
    cases b <;> rfl
theorem s_c_isFree (hW : WfC qMn qPn qEn qBn qKn qCn qLn qMk qEm qEc qCb qBm qTf qKl qMh qCu qLy) {mm p0 : Nat} {D S M V : Int32} (hm : mm < qMn) (hp : p0 ≤ (qMh mm).length) : Cal (d + 1) 80 [vR 6 mm, vI (nI p0), vI D, vI S, vI M, vI V] (enc (mkC qNb qTf qLn qLy qMn qMk qMs qMh qPn qPl qPo qPp qEn qEm qEc qEd qEs qEl qEe qEw qSt qDu qCu qCn qCb qCl qBn qBm qBl qBf qKn qKl qKs qPr qDay qG2 qG4 qX1 qX3) R (mkW zO zD zX zL zXs zG5 zG6 zG7 zc zn)) (.inl (some (vI (bI (f_c_isFree qEm qEc qEd qEs qEl qEe qEw qSt qMh qMs mm p0 D S M V))))) (enc (mkC qNb qTf qLn qLy qMn qMk qMs qMh qPn qPl qPo qPp qEn qEm qEc qEd qEs qEl qEe qEw qSt qDu qCu qCn qCb qCl qBn qBm qBl qBf qKn qKl qKs qPr qDay qG2 qG4 qX1 qX3) R (mkW zO zD zX zL zXs zG5 zG6 zG7 zc zn)) := by
  unfold f_c_isFree
  rw [← freeL_du (qDu := qDu)]
  exact s_isFree (heldAt hW hm) hp
def f_c_letter (qEm qEc : Nat → Nat) (qEd qEs qEl qEe qEw qSt : Nat → Int32) (qMh : Nat → List Nat) (qMs : Nat → Int32) (mm p0 : Nat) (D M : Int32) : Int32 := letterL (vE qEm qEc qEd qEs qEl qEe qEw qSt (fun _ => 0)) (qMs mm) D M none ((qMh mm).drop p0)
theorem letterL_du {s D M : Int32} : ∀ (l : List Nat) (b : Option Nat), letterL (vE qEm qEc qEd qEs qEl qEe qEw qSt qDu) s D M b l = letterL (vE qEm qEc qEd qEs qEl qEe qEw qSt (fun _ => 0)) s D M b l
  | [], none => rfl
  | [], some _ => rfl
  | e :: l, b => by
    unfold letterL
    rw [letterL_du l (some e)]
    cases b <;> rfl
theorem s_c_letter (hW : WfC qMn qPn qEn qBn qKn qCn qLn qMk qEm qEc qCb qBm qTf qKl qMh qCu qLy) {mm p0 : Nat} {D M : Int32} (hm : mm < qMn) (hp : p0 ≤ (qMh mm).length) : Cal (d + 1) 86 [vR 6 mm, vI (nI p0), vI D, vI M] (enc (mkC qNb qTf qLn qLy qMn qMk qMs qMh qPn qPl qPo qPp qEn qEm qEc qEd qEs qEl qEe qEw qSt qDu qCu qCn qCb qCl qBn qBm qBl qBf qKn qKl qKs qPr qDay qG2 qG4 qX1 qX3) R (mkW zO zD zX zL zXs zG5 zG6 zG7 zc zn)) (.inl (some (vI (f_c_letter qEm qEc qEd qEs qEl qEe qEw qSt qMh qMs mm p0 D M)))) (enc (mkC qNb qTf qLn qLy qMn qMk qMs qMh qPn qPl qPo qPp qEn qEm qEc qEd qEs qEl qEe qEw qSt qDu qCu qCn qCb qCl qBn qBm qBl qBf qKn qKl qKs qPr qDay qG2 qG4 qX1 qX3) R (mkW zO zD zX zL zXs zG5 zG6 zG7 zc zn)) := by
  unfold f_c_letter
  rw [← letterL_du (qDu := qDu)]
  exact s_letterOfMinute (heldAt hW hm) hp
def f_c_lengths (qEd qEl qEs : Nat → Int32) (qMh : Nat → List Nat) (mm : Nat) (D : Int32) : Int32 := sumL (vE (fun _ => 0) (fun _ => 0) qEd qEs qEl (fun _ => 0) (fun _ => 0) (fun _ => 0) (fun _ => 0)) D ((qMh mm).drop (f_c_placeOf qEd qEs qMh mm D 0)) 0
theorem sumL_du {D : Int32} : ∀ (l : List Nat) (a : Int32), sumL (vE qEm qEc qEd qEs qEl qEe qEw qSt qDu) D l a = sumL (vE (fun _ => 0) (fun _ => 0) qEd qEs qEl (fun _ => 0) (fun _ => 0) (fun _ => 0) (fun _ => 0)) D l a
  | [], _ => rfl
  | e :: l, a => by
    unfold sumL
    rw [sumL_du l]
    rfl
theorem s_c_lengths (hW : WfC qMn qPn qEn qBn qKn qCn qLn qMk qEm qEc qCb qBm qTf qKl qMh qCu qLy) {mm : Nat} {D : Int32} (hm : mm < qMn) : Cal (d + 2) 87 [vR 6 mm, vI D] (enc (mkC qNb qTf qLn qLy qMn qMk qMs qMh qPn qPl qPo qPp qEn qEm qEc qEd qEs qEl qEe qEw qSt qDu qCu qCn qCb qCl qBn qBm qBl qBf qKn qKl qKs qPr qDay qG2 qG4 qX1 qX3) R (mkW zO zD zX zL zXs zG5 zG6 zG7 zc zn)) (.inl (some (vI (f_c_lengths qEd qEl qEs qMh mm D)))) (enc (mkC qNb qTf qLn qLy qMn qMk qMs qMh qPn qPl qPo qPp qEn qEm qEc qEd qEs qEl qEe qEw qSt qDu qCu qCn qCb qCl qBn qBm qBl qBf qKn qKl qKs qPr qDay qG2 qG4 qX1 qX3) R (mkW zO zD zX zL zXs zG5 zG6 zG7 zc zn)) := by
  unfold f_c_lengths
  rw [← sumL_du (qDu := qDu) (qEm := qEm) (qEc := qEc) (qEe := qEe) (qEw := qEw) (qSt := qSt)]
  exact s_addLengths (heldAt hW hm)
def f_c_count (qEm qEc : Nat → Nat) (qEd qEs qEl qEe qEw qSt : Nat → Int32) (qMh : Nat → List Nat) (qMs : Nat → Int32) (mm : Nat) (D : Int32) : Int32 := cntM (fun M => f_c_letter qEm qEc qEd qEs qEl qEe qEw qSt qMh qMs mm (f_c_placeOf qEd qEs qMh mm D 0) D M) 480 0 0
theorem s_c_count (hW : WfC qMn qPn qEn qBn qKn qCn qLn qMk qEm qEc qCb qBm qTf qKl qMh qCu qLy) {mm : Nat} {D : Int32} (hm : mm < qMn) : Cal (d + 2) 88 [vR 6 mm, vI D] (enc (mkC qNb qTf qLn qLy qMn qMk qMs qMh qPn qPl qPo qPp qEn qEm qEc qEd qEs qEl qEe qEw qSt qDu qCu qCn qCb qCl qBn qBm qBl qBf qKn qKl qKs qPr qDay qG2 qG4 qX1 qX3) R (mkW zO zD zX zL zXs zG5 zG6 zG7 zc zn)) (.inl (some (vI (f_c_count qEm qEc qEd qEs qEl qEe qEw qSt qMh qMs mm D)))) (enc (mkC qNb qTf qLn qLy qMn qMk qMs qMh qPn qPl qPo qPp qEn qEm qEc qEd qEs qEl qEe qEw qSt qDu qCu qCn qCb qCl qBn qBm qBl qBf qKn qKl qKs qPr qDay qG2 qG4 qX1 qX3) R (mkW zO zD zX zL zXs zG5 zG6 zG7 zc zn)) := by
  have h9 := s_countMinutes (d := d) (h := enc (mkC qNb qTf qLn qLy qMn qMk qMs qMh qPn qPl qPo qPp qEn qEm qEc qEd qEs qEl qEe qEw qSt qDu qCu qCn qCb qCl qBn qBm qBl qBf qKn qKl qKs qPr qDay qG2 qG4 qX1 qX3) R (mkW zO zD zX zL zXs zG5 zG6 zG7 zc zn)) (v := (vE qEm qEc qEd qEs qEl qEe qEw qSt qDu)) (s := qMs mm) (D := D) (heldAt hW hm)
  rw [show (fun M => letterL (vE qEm qEc qEd qEs qEl qEe qEw qSt qDu) (qMs mm) D M none ((qMh mm).drop (placeL (fun e => eDay ((vE qEm qEc qEd qEs qEl qEe qEw qSt qDu) e)) (fun e => eSta ((vE qEm qEc qEd qEs qEl qEe qEw qSt qDu) e)) D 0 (qMh mm)))) = (fun M => f_c_letter qEm qEc qEd qEs qEl qEe qEw qSt qMh qMs mm (f_c_placeOf qEd qEs qMh mm D 0) D M) from funext fun M => letterL_du _ _] at h9
  exact h9
def f_c_gaps (qEm qEc : Nat → Nat) (qEd qEs qEl qEe qEw qSt : Nat → Int32) (qMh : Nat → List Nat) (qMs : Nat → Int32) (mm : Nat) (D M V : Int32) : Int32 := firstL (vE qEm qEc qEd qEs qEl qEe qEw qSt (fun _ => 0)) (qMs mm) D M V 0 ((qMh mm).drop (f_c_placeOf qEd qEs qMh mm D 0))
theorem firstL_du {s D M V : Int32} : ∀ (l : List Nat) (a : Int32), firstL (vE qEm qEc qEd qEs qEl qEe qEw qSt qDu) s D M V a l = firstL (vE qEm qEc qEd qEs qEl qEe qEw qSt (fun _ => 0)) s D M V a l
  | [], _ => rfl
  | e :: l, a => by
    unfold firstL
    rw [firstL_du l]
    rfl
theorem s_c_gaps (hW : WfC qMn qPn qEn qBn qKn qCn qLn qMk qEm qEc qCb qBm qTf qKl qMh qCu qLy) {mm : Nat} {D M V : Int32} (hm : mm < qMn) : Cal (d + 2) 89 [vR 6 mm, vI D, vI M, vI V] (enc (mkC qNb qTf qLn qLy qMn qMk qMs qMh qPn qPl qPo qPp qEn qEm qEc qEd qEs qEl qEe qEw qSt qDu qCu qCn qCb qCl qBn qBm qBl qBf qKn qKl qKs qPr qDay qG2 qG4 qX1 qX3) R (mkW zO zD zX zL zXs zG5 zG6 zG7 zc zn)) (.inl (some (vI (f_c_gaps qEm qEc qEd qEs qEl qEe qEw qSt qMh qMs mm D M V)))) (enc (mkC qNb qTf qLn qLy qMn qMk qMs qMh qPn qPl qPo qPp qEn qEm qEc qEd qEs qEl qEe qEw qSt qDu qCu qCn qCb qCl qBn qBm qBl qBf qKn qKl qKs qPr qDay qG2 qG4 qX1 qX3) R (mkW zO zD zX zL zXs zG5 zG6 zG7 zc zn)) := by
  unfold f_c_gaps
  rw [← firstL_du (qDu := qDu)]
  exact s_firstStartInGaps (heldAt hW hm)
def f_c_judge (qEn : Nat) (qEm qEc : Nat → Nat) (qEd qEs qEl qEe qEw qSt : Nat → Int32) (qMh : Nat → List Nat) (qMk : Nat → Nat) (qMs qNb : Nat → Int32) (qPl : Nat → Nat → Int32) (m mc : Nat) (D S M V : Int32) : Int32 := verdict (f_c_live qNb qPl m (qMk mc) D) (f_c_isBusy qEn qEm qEc qEd qEs qEl qEe qEw qSt m D S (S + M)) (f_c_isFree qEm qEc qEd qEs qEl qEe qEw qSt qMh qMs mc (f_c_placeOf qEd qEs qMh mc D 0) D S M V)
theorem s_c_judge (hW : WfC qMn qPn qEn qBn qKn qCn qLn qMk qEm qEc qCb qBm qTf qKl qMh qCu qLy) {m mc : Nat} {D S M V : Int32} (hm : m < qPn) (hc : mc < qMn) : Cal (d + 10) 77 [vR 8 0, vR 7 m, vR 6 mc, vI D, vI S, vI M, vI V] (enc (mkC qNb qTf qLn qLy qMn qMk qMs qMh qPn qPl qPo qPp qEn qEm qEc qEd qEs qEl qEe qEw qSt qDu qCu qCn qCb qCl qBn qBm qBl qBf qKn qKl qKs qPr qDay qG2 qG4 qX1 qX3) R (mkW zO zD zX zL zXs zG5 zG6 zG7 zc zn)) (.inl (some (vI (f_c_judge qEn qEm qEc qEd qEs qEl qEe qEw qSt qMh qMk qMs qNb qPl m mc D S M V)))) (enc (mkC qNb qTf qLn qLy qMn qMk qMs qMh qPn qPl qPo qPp qEn qEm qEc qEd qEs qEl qEe qEw qSt qDu qCu qCn qCb qCl qBn qBm qBl qBf qKn qKl qKs qPr qDay qG2 qG4 qX1 qX3) R (mkW zO zD zX zL zXs zG5 zG6 zG7 zc zn)) := by
  obtain ⟨wMn, wPn, wEn, wBn, wKn, wMk, wEm, wEc, wCb, wBm, wTf, wKl, wMh, wMl, wCu, wCl, wLy⟩ := id hW
  exact s_judge (d := d + 9) (by rw [rd8]; rfl) (rd6 hc) rfl (s_c_live hm (wMk mc)) ((s_c_isBusy wEn).dd (by omega : 1 ≤ d + 9)) ((s_c_placeOf (d := d) hW hc).dd (by omega)) ((s_c_isFree (d := d) hW hc place_le).dd (by omega))
theorem chr_judge {qEn : Nat} {m mc : Nat} {D S M V : Int32} : chr (f_c_judge qEn qEm qEc qEd qEs qEl qEe qEw qSt qMh qMk qMs qNb qPl m mc D S M V) := by
  unfold f_c_judge verdict
  repeat' split
  all_goals (unfold chr; decide)
theorem chr_cletterL {v : Nat → En} {s D M : Int32} : ∀ (l : List Nat) (b : Option Nat), chr (letterL v s D M b l)
  | [], _ => by unfold letterL; unfold chr; decide
  | e :: l, b => by
    have := chr_cletterL (v := v) (s := s) (D := D) (M := M) l (some e)
    unfold letterL
    repeat' split
    all_goals first | exact this | (unfold chr; decide) | (cases b <;> unfold setupOf <;> repeat' split) <;> (unfold chr; decide)
end CB
