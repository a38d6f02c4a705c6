/-! the class: booking what waits (written by gcls6.py) -/
/-- what a machine holds: its own entries, each once, none that waits -/
def HI (Ec : Nat → Nat) (St : Nat → Int32) (Mh : Nat → List Nat) : Prop := ∀ m, (Mh m).Nodup ∧ ∀ e, e ∈ Mh m → Ec e = m ∧ ¬ St e = 119
theorem mem_ins {a e : Nat} : ∀ (l : List Nat) (j : Nat), a ∈ l.insertIdx j e → a = e ∨ a ∈ l
  | l, 0, h => by
    rw [List.insertIdx_zero] at h
    exact List.mem_cons.mp h
  | [], j + 1, h => by
    rw [List.insertIdx_succ_nil] at h
    exact Or.inr h
  | b :: l, j + 1, h => by
    rw [List.insertIdx_succ_cons] at h
    rcases List.mem_cons.mp h with h | h
    · exact Or.inr (List.mem_cons.mpr (Or.inl h))
    · rcases mem_ins l j h with h | h
      · exact Or.inl h
      · exact Or.inr (List.mem_cons.mpr (Or.inr h))
theorem nodup_ins {e : Nat} : ∀ (l : List Nat) (j : Nat), l.Nodup → e ∉ l → (l.insertIdx j e).Nodup
  | l, 0, h, hn => by
    rw [List.insertIdx_zero]
    exact List.nodup_cons.mpr ⟨hn, h⟩
  | [], j + 1, h, _ => by
    rw [List.insertIdx_succ_nil]
    exact h
  | b :: l, j + 1, h, hn => by
    rw [List.insertIdx_succ_cons]
    obtain ⟨h1, h2⟩ := List.nodup_cons.mp h
    refine List.nodup_cons.mpr ⟨fun z => ?_, nodup_ins l j h2 (fun z => hn (List.mem_cons.mpr (Or.inr z)))⟩
    rcases mem_ins l j z with z | z
    · exact hn (List.mem_cons.mpr (Or.inl z.symm))
    · exact h1 z
theorem nodup_len : ∀ (n : Nat) (l : List Nat), l.Nodup → (∀ e, e ∈ l → e < n) → l.length ≤ n
  | 0, l, _, h => by
    cases l with
    | nil => exact Nat.le_refl _
    | cons a l => exact absurd (h a List.mem_cons_self) (by omega)
  | n + 1, l, hn, h => by
    by_cases hm : n ∈ l
    · have h1 := nodup_len n (l.erase n) (hn.erase n) (fun e he => by
        have h2 := (hn.mem_erase_iff).mp he
        have h3 := h e h2.2
        have h4 := h2.1
        omega)
      rw [List.length_erase_of_mem hm] at h1
      omega
    · have h1 := nodup_len n l hn (fun e he => by
        have h3 := h e he
        have h4 : e ≠ n := fun z => hm (z ▸ he)
        omega)
      omega
section HI
variable {qMn : Nat} {qPn : Nat} {qEn : Nat} {qBn : Nat} {qKn : Nat} {qCn : Nat} {qLn : Nat} {qMk : Nat → Nat} {qEm : Nat → Nat} {qEc : Nat → Nat} {qCb : Nat → Nat} {qBm : Nat → Nat} {qTf : Nat → Nat} {qKl : Nat → Nat} {qMh : Nat → List Nat} {qCu : Nat → List Nat} {qLy : Nat → Ly} {qSt qEd qEs : Nat → Int32} {zc zn : Nat}
theorem hi_ins {e j : Nat} (h : HI qEc qSt qMh) (hs : qSt e = 119) : HI qEc (fup qSt e 98) (fup qMh (qEc e) ((qMh (qEc e)).insertIdx j e)) := by
  intro m
  have he : ∀ m, e ∉ qMh m := fun m z => ((h m).2 e z).2 hs
  by_cases hm : m = qEc e
  · subst hm
    rw [fup_same]
    refine ⟨nodup_ins _ _ (h _).1 (he _), fun a ha => ?_⟩
    rcases mem_ins _ _ ha with rfl | ha
    · rw [fup_same]
      exact ⟨rfl, by decide⟩
    · have : a ≠ e := fun z => he _ (z ▸ ha)
      rw [fup_ne this]
      exact (h _).2 a ha
  · rw [fup_ne hm]
    refine ⟨(h m).1, fun a ha => ?_⟩
    have : a ≠ e := fun z => he _ (z ▸ ha)
    rw [fup_ne this]
    exact (h m).2 a ha
theorem wfc_ins {e j : Nat} (hW : WfC qMn qPn qEn qBn qKn qCn qLn qMk qEm qEc qCb qBm qTf qKl qMh qCu qLy) (h : HI qEc qSt qMh) (he : e < qEn) (hs : qSt e = 119) : WfC qMn qPn qEn qBn qKn qCn qLn qMk qEm qEc qCb qBm qTf qKl (fup qMh (qEc e) ((qMh (qEc e)).insertIdx j e)) qCu qLy := by
  have h2 := hi_ins (j := j) h hs
  obtain ⟨wMn, wPn, wEn, wBn, wKn, wMk, wEm, wEc, wCb, wBm, wTf, wKl, wMh, wMl, wCu, wCl, wLy⟩ := id hW
  have hb : ∀ m a, a ∈ fup qMh (qEc e) ((qMh (qEc e)).insertIdx j e) m → a < qEn := by
    intro m a ha
    by_cases hm : m = qEc e
    · subst hm
      rw [fup_same] at ha
      rcases mem_ins _ _ ha with rfl | ha
      · exact he
      · exact wMh _ a ha
    · rw [fup_ne hm] at ha
      exact wMh m a ha
  exact ⟨wMn, wPn, wEn, wBn, wKn, wMk, wEm, wEc, wCb, wBm, wTf, wKl, hb, fun m => Nat.le_trans (nodup_len qEn _ (h2 m).1 (hb m)) wEn, wCu, wCl, wLy⟩
theorem mb_I {e : Nat} (h : HI qEc qSt qMh) (hs : qSt e = 119) : HI qEc (f_c_makeBooked qEc qEd qEs qMh qSt zc zn e).2.1 (f_c_makeBooked qEc qEd qEs qMh qSt zc zn e).1 := hi_ins h hs
theorem mb_W {e : Nat} (hW : WfC qMn qPn qEn qBn qKn qCn qLn qMk qEm qEc qCb qBm qTf qKl qMh qCu qLy) (h : HI qEc qSt qMh) (he : e < qEn) (hs : qSt e = 119) : WfC qMn qPn qEn qBn qKn qCn qLn qMk qEm qEc qCb qBm qTf qKl (f_c_makeBooked qEc qEd qEs qMh qSt zc zn e).1 qCu qLy := wfc_ins hW h he hs
end HI
theorem first_specL {qEc : Nat → Nat} {qEd : Nat → Int32} {qEe : Nat → Int32} {qEl : Nat → Int32} {qEm : Nat → Nat} {qEn : Nat} {qEs : Nat → Int32} {qEw : Nat → Int32} {qMh : Nat → List Nat} {qMk : Nat → Nat} {qMs : Nat → Int32} {qNb : Nat → Int32} {qPl : Nat → Nat → Int32} {qSt : Nat → Int32} : ∀ (k j r : Nat), c_first_L2 qEc qEd qEe qEl qEm qEn qEs qEw qMh qMk qMs qNb qPl qSt k j = some r → j ≤ r ∧ r < j + k ∧ qSt r = 119 ∧ f_c_canBe qEc qEd qEe qEl qEm qEn qEs qEw qMh qMk qMs qNb qPl qSt r = true := by
  intro k
  induction k with
  | zero =>
    intro j r h
    rw [c_first_L2] at h
    cases h
  | succ k ih =>
    intro j r h
    rw [c_first_L2] at h
    split at h
    · split at h
      · cases h
        exact ⟨Nat.le_refl _, by omega, by assumption, by assumption⟩
      · obtain ⟨h1, h2, h3⟩ := ih _ _ h
        exact ⟨by omega, by omega, h3⟩
    · obtain ⟨h1, h2, h3⟩ := ih _ _ h
      exact ⟨by omega, by omega, h3⟩
theorem first_spec {qEc : Nat → Nat} {qEd : Nat → Int32} {qEe : Nat → Int32} {qEl : Nat → Int32} {qEm : Nat → Nat} {qEn : Nat} {qEs : Nat → Int32} {qEw : Nat → Int32} {qMh : Nat → List Nat} {qMk : Nat → Nat} {qMs : Nat → Int32} {qNb : Nat → Int32} {qPl : Nat → Nat → Int32} {qSt : Nat → Int32} {r : Nat} (h : f_c_first qEc qEd qEe qEl qEm qEn qEs qEw qMh qMk qMs qNb qPl qSt = some r) : r < qEn ∧ qSt r = 119 := by
  obtain ⟨_, h2, h3, _⟩ := first_specL _ _ _ h
  exact ⟨by omega, h3⟩
def c_bookW_L7 (qEc : Nat → Nat) (qEd : Nat → Int32) (qEe : Nat → Int32) (qEl : Nat → Int32) (qEm : Nat → Nat) (qEn : Nat) (qEs : Nat → Int32) (qEw : Nat → Int32) (qMk : Nat → Nat) (qMs : Nat → Int32) (qNb : Nat → Int32) (qPl : Nat → Nat → Int32)  : Nat → Nat → Option Nat → (Nat → List Nat) → (Nat → Int32) → Nat → Nat → ((Nat → List Nat) × (Nat → Int32) × Nat × Nat)
  | 0, j7, nx, qMh_7, qSt_7, zc_7, zn_7 =>
    (qMh_7, qSt_7, zc_7, zn_7)
  | k7 + 1, j7, nx, qMh_7, qSt_7, zc_7, zn_7 =>
    oE nx (
      (qMh_7, qSt_7, zc_7, zn_7)
      ) (fun k3 =>
      c_bookW_L7 qEc qEd qEe qEl qEm qEn qEs qEw qMk qMs qNb qPl  k7 (j7 + 1) (f_c_first qEc qEd qEe qEl qEm qEn qEs qEw ((f_c_makeBooked qEc qEd qEs qMh_7 qSt_7 zc_7 zn_7 k3).1) qMk qMs qNb qPl ((f_c_makeBooked qEc qEd qEs qMh_7 qSt_7 zc_7 zn_7 k3).2.1)) ((f_c_makeBooked qEc qEd qEs qMh_7 qSt_7 zc_7 zn_7 k3).1) ((f_c_makeBooked qEc qEd qEs qMh_7 qSt_7 zc_7 zn_7 k3).2.1) ((f_c_makeBooked qEc qEd qEs qMh_7 qSt_7 zc_7 zn_7 k3).2.2.1) ((f_c_makeBooked qEc qEd qEs qMh_7 qSt_7 zc_7 zn_7 k3).2.2.2)
      )
def f_c_bookW (qEc : Nat → Nat) (qEd : Nat → Int32) (qEe : Nat → Int32) (qEl : Nat → Int32) (qEm : Nat → Nat) (qEn : Nat) (qEs : Nat → Int32) (qEw : Nat → Int32) (qMh : Nat → List Nat) (qMk : Nat → Nat) (qMs : Nat → Int32) (qNb : Nat → Int32) (qPl : Nat → Nat → Int32) (qSt : Nat → Int32) (zc : Nat) (zn : Nat)  : (Nat → List Nat) × (Nat → Int32) × Nat × Nat :=
  c_bookW_L7 qEc qEd qEe qEl qEm qEn qEs qEw qMk qMs qNb qPl  150 0 (f_c_first qEc qEd qEe qEl qEm qEn qEs qEw qMh qMk qMs qNb qPl qSt) qMh qSt zc zn
theorem s_c_bookW {d : Nat} {zO : Int64} {zD : UInt64} {zX : Nat} {zL : Nat} {zXs : Nat → Int32} {zG5 : List Ob} {zG6 : List Ob} {zG7 : List Ob} {zc : Nat} {zn : Nat} {R : RD} {qNb : Nat → Int32} {qTf : Nat → Nat} {qLn : Nat} {qLy : Nat → Ly} {qMn : Nat} {qMk : Nat → Nat} {qMs : Nat → Int32} {qMh : Nat → List Nat} {qPn : Nat} {qPl : Nat → Nat → Int32} {qPo : Nat → Int32} {qPp : Nat → Int32} {qEn : Nat} {qEm : Nat → Nat} {qEc : Nat → Nat} {qEd : Nat → Int32} {qEs : Nat → Int32} {qEl : Nat → Int32} {qEe : Nat → Int32} {qEw : Nat → Int32} {qSt : Nat → Int32} {qDu : Nat → Int32} {qCu : Nat → List Nat} {qCn : Nat} {qCb : Nat → Nat} {qCl : Nat → Int32} {qBn : Nat} {qBm : Nat → Nat} {qBl : Nat → Int32} {qBf : Nat → Int32} {qKn : Nat} {qKl : Nat → Nat} {qKs : Nat → Nat → Int32} {qPr : Nat → Int32} {qDay : Int32} {qG2 : List Ob} {qG4 : List Ob} {qX1 : List Ob} {qX3 : List Ob}  (hW : WfC qMn qPn qEn qBn qKn qCn qLn qMk qEm qEc qCb qBm qTf qKl qMh qCu qLy) (hI : HI qEc qSt qMh) : Cal (d + 13) 82 [vR 8 0] (enc (mkC qNb qTf qLn qLy qMn qMk qMs qMh qPn qPl qPo qPp qEn qEm qEc qEd qEs qEl qEe qEw qSt qDu qCu qCn qCb qCl qBn qBm qBl qBf qKn qKl qKs qPr qDay qG2 qG4 qX1 qX3) R (mkW zO zD zX zL zXs zG5 zG6 zG7 zc zn)) (.inl none) (enc (mkC qNb qTf qLn qLy qMn qMk qMs ((f_c_bookW qEc qEd qEe qEl qEm qEn qEs qEw qMh qMk qMs qNb qPl qSt zc zn).1) qPn qPl qPo qPp qEn qEm qEc qEd qEs qEl qEe qEw ((f_c_bookW qEc qEd qEe qEl qEm qEn qEs qEw qMh qMk qMs qNb qPl qSt zc zn).2.1) qDu qCu qCn qCb qCl qBn qBm qBl qBf qKn qKl qKs qPr qDay qG2 qG4 qX1 qX3) R (mkW zO zD zX zL zXs zG5 zG6 zG7 ((f_c_bookW qEc qEd qEe qEl qEm qEn qEs qEw qMh qMk qMs qNb qPl qSt zc zn).2.2.1) ((f_c_bookW qEc qEd qEe qEl qEm qEn qEs qEw qMh qMk qMs qNb qPl qSt zc zn).2.2.2))) := by
  obtain ⟨wMn, wPn, wEn, wBn, wKn, wMk, wEm, wEc, wCb, wBm, wTf, wKl, wMh, wMl, wCu, wCl, wLy⟩ := id hW
  refine Cal.mk (n := 3) rfl (Nat.le_of_ble_eq_true rfl) rfl ?_
  unfold f_c_bookW
  refine Ev.ps 1 rfl ?_
  refine Ev.vir (as := []) (rest := []) (by rfl) (by rfl) (by rfl) (by rfl) rfl (Nat.le_of_ble_eq_true rfl) (by rfl) (by rw [rd8]; rfl) (s_c_first hW) ?_
  refine Ev.stn (i := 1) (kd := 4) (n := 1) (by rfl) (by rfl) (by rfl) mkd_refO (Nat.le_of_ble_eq_true rfl) mcat_refO (show Da (some (vR 8 0)) from Da.r) ?_
  refine Ev.ps 1 rfl ?_
  refine Ev.stn (i := 2) (kd := 0) (n := 1) (by rfl) (by rfl) (by rfl) (by rfl) (Nat.le_of_ble_eq_true rfl) (by rfl) (by intro w hw; cases hw; exact mcat_refO) ?_
  have L7 : ∀ (k7 j7 : Nat) (nx : Option Nat) (qMh_7 : Nat → List Nat) (qSt_7 : Nat → Int32) (zc_7 : Nat) (zn_7 : Nat), j7 + k7 = 150 → WfC qMn qPn qEn qBn qKn qCn qLn qMk qEm qEc qCb qBm qTf qKl qMh_7 qCu qLy → HI qEc qSt_7 qMh_7 → (∀ k, nx = some k → k < qEn ∧ qSt_7 k = 119) → Ev (d + 13) (82, 7, [some (vR 8 0), some (refO nx), some (vI (nI j7))], []) (enc (mkC qNb qTf qLn qLy qMn qMk qMs qMh_7 qPn qPl qPo qPp qEn qEm qEc qEd qEs qEl qEe qEw qSt_7 qDu qCu qCn qCb qCl qBn qBm qBl qBf qKn qKl qKs qPr qDay qG2 qG4 qX1 qX3) R (mkW zO zD zX zL zXs zG5 zG6 zG7 zc_7 zn_7)) ((.inl none), enc (mkC qNb qTf qLn qLy qMn qMk qMs ((c_bookW_L7 qEc qEd qEe qEl qEm qEn qEs qEw qMk qMs qNb qPl  k7 j7 nx qMh_7 qSt_7 zc_7 zn_7).1) qPn qPl qPo qPp qEn qEm qEc qEd qEs qEl qEe qEw ((c_bookW_L7 qEc qEd qEe qEl qEm qEn qEs qEw qMk qMs qNb qPl  k7 j7 nx qMh_7 qSt_7 zc_7 zn_7).2.1) qDu qCu qCn qCb qCl qBn qBm qBl qBf qKn qKl qKs qPr qDay qG2 qG4 qX1 qX3) R (mkW zO zD zX zL zXs zG5 zG6 zG7 ((c_bookW_L7 qEc qEd qEe qEl qEm qEn qEs qEw qMk qMs qNb qPl  k7 j7 nx qMh_7 qSt_7 zc_7 zn_7).2.2.1) ((c_bookW_L7 qEc qEd qEe qEl qEm qEn qEs qEw qMk qMs qNb qPl  k7 j7 nx qMh_7 qSt_7 zc_7 zn_7).2.2.2))) := by
    intro k7
    induction k7 with
    | zero =>
      intro j7 nx qMh_7 qSt_7 zc_7 zn_7 hj7 hW hI hnx
      obtain ⟨wMn, wPn, wEn, wBn, wKn, wMk, wEm, wEc, wCb, wBm, wTf, wKl, wMh, wMl, wCu, wCl, wLy⟩ := id hW
      rw [c_bookW_L7]
      refine Ev.ps 2 rfl ?_
      refine Ev.igeN (a := j7) (b := 150) (by omega) (by omega) (by rfl) (by rfl) (fun (c1 : j7 < 150) => ?_) (fun (c1 : ¬ j7 < 150) => ?_)
      · exfalso; omega
      · exact Ev.re rfl rfl rfl rfl rfl
    | succ k7 ih7 =>
      intro j7 nx qMh_7 qSt_7 zc_7 zn_7 hj7 hW hI hnx
      obtain ⟨wMn, wPn, wEn, wBn, wKn, wMk, wEm, wEc, wCb, wBm, wTf, wKl, wMh, wMl, wCu, wCl, wLy⟩ := id hW
      rw [c_bookW_L7]
      refine Ev.ps 2 rfl ?_
      refine Ev.igeN (a := j7) (b := 150) (by omega) (by omega) (by rfl) (by rfl) (fun (c2 : j7 < 150) => ?_) (fun (c2 : ¬ j7 < 150) => ?_)
      · cases nx with
        | none =>
          dsimp only [oE]
          refine Ev.ps 2 rfl ?_
          exact Ev.re rfl rfl rfl rfl rfl
        | some k3 =>
          dsimp only [oE]
          refine Ev.ps 3 rfl ?_
          refine Ev.sta (as := [vR 3 k3]) (rest := []) (by rfl) (by rfl) (by rfl) (by rfl) rfl (Nat.le_of_ble_eq_true rfl) (s_c_makeBooked hW (by have := (hnx _ rfl).1; omega)) ?_
          have hW2 := mb_W (qEd := qEd) (qEs := qEs) (zc := zc_7) (zn := zn_7) hW hI (hnx _ rfl).1 (hnx _ rfl).2
          have hI2 := mb_I (qEd := qEd) (qEs := qEs) (zc := zc_7) (zn := zn_7) hI (hnx _ rfl).2
          refine Ev.ps 1 rfl ?_
          refine Ev.vir (as := []) (rest := []) (by rfl) (by rfl) (by rfl) (by rfl) rfl (Nat.le_of_ble_eq_true rfl) (by rfl) (by rw [rd8]; rfl) (s_c_first hW2) ?_
          refine Ev.stn (i := 1) (kd := 4) (n := 1) (by rfl) (by rfl) (by rfl) mkd_refO (Nat.le_of_ble_eq_true rfl) mcat_refO (show Da (some (vR 8 0)) from Da.r) ?_
          refine Ev.inn (by rfl) (by rfl) (by intro w hw; cases hw; exact mcat_refO) ?_
          refine Ev.ps 1 rfl ?_
          have h9 := ih7 (j7 + 1) (f_c_first qEc qEd qEe qEl qEm qEn qEs qEw ((f_c_makeBooked qEc qEd qEs qMh_7 qSt_7 zc_7 zn_7 k3).1) qMk qMs qNb qPl ((f_c_makeBooked qEc qEd qEs qMh_7 qSt_7 zc_7 zn_7 k3).2.1)) ((f_c_makeBooked qEc qEd qEs qMh_7 qSt_7 zc_7 zn_7 k3).1) ((f_c_makeBooked qEc qEd qEs qMh_7 qSt_7 zc_7 zn_7 k3).2.1) ((f_c_makeBooked qEc qEd qEs qMh_7 qSt_7 zc_7 zn_7 k3).2.2.1) ((f_c_makeBooked qEc qEd qEs qMh_7 qSt_7 zc_7 zn_7 k3).2.2.2) (by show j7 + 1 + k7 = 150; omega) hW2 hI2 (fun k z => first_spec z)
          rw [← nI_1] at h9
          exact h9
      · exfalso; omega
  exact L7 150 0 (f_c_first qEc qEd qEe qEl qEm qEn qEs qEw qMh qMk qMs qNb qPl qSt) qMh qSt zc zn (by show 0 + 150 = 150; omega) hW hI (fun k z => first_spec z)
