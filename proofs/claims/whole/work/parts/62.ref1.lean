/-! the reference's methods that only read (written by gref1.py) -/
/-- the reference's numbers are in range -/
def WfR (R : RD) : Prop := rMac R ≤ 6 ∧ rMem R ≤ 10 ∧ rEnt R ≤ 150 ∧ rBar R ≤ 30 ∧ rBrk R ≤ 20 ∧ (∀ e, rOw R e < 10) ∧ (∀ e, rMo R e < 6) ∧ (∀ k, rMk R k < 4) ∧ (∀ e, rCm R e ≤ 5) ∧ (∀ e k, rCb R e k < 30) ∧ (∀ b, rMt R b < 3) ∧ (∀ k, 1 ≤ rLm R k ∧ rLm R k ≤ 6)
def f_r_in (v lo hi : Int32) : Bool :=
  if v < lo then false else if hi < v then false else true
theorem s_r_in {d : Nat} {t : Int32} {W : WD} {R : RD} {C : CD} {v : Int32} {lo : Int32} {hi : Int32}  : Cal (d + 0) 111 [vI v, vI lo, vI hi] (enc C (urThr R t) W) (.inl (some (vI (bI (f_r_in v lo hi))))) (enc C (urThr R t) W) := by
  refine Cal.mk (n := 3) rfl (Nat.le_of_ble_eq_true rfl) rfl ?_
  unfold f_r_in
  refine Ev.ps 2 rfl ?_
  refine Ev.ilt (by rfl) (by rfl) (fun (c1 : v < lo) => ?_) (fun (c1 : ¬ v < lo) => ?_)
  · rw [if_pos c1]
    refine Ev.ps 1 rfl ?_
    exact Ev.re rfl rfl rfl rfl rfl
  · rw [if_neg c1]
    refine Ev.ps 2 rfl ?_
    refine Ev.igt (by rfl) (by rfl) (fun (c2 : hi < v) => ?_) (fun (c2 : ¬ hi < v) => ?_)
    · rw [if_pos c2]
      refine Ev.ps 1 rfl ?_
      exact Ev.re rfl rfl rfl rfl rfl
    · rw [if_neg c2]
      refine Ev.ps 2 rfl ?_
      exact Ev.re rfl rfl rfl rfl rfl
def f_r_isKind (v : Int32) : Bool :=
  f_r_in v 0 3
theorem s_r_isKind {d : Nat} {t : Int32} {W : WD} {R : RD} {C : CD} {v : Int32}  : Cal (d + 1) 112 [vI v] (enc C (urThr R t) W) (.inl (some (vI (bI (f_r_isKind v))))) (enc C (urThr R t) W) := by
  refine Cal.mk (n := 1) rfl (Nat.le_of_ble_eq_true rfl) rfl ?_
  unfold f_r_isKind
  refine Ev.ps 3 rfl ?_
  refine Ev.sta (as := [vI v, vI 0, vI 3]) (rest := []) (by rfl) (by rfl) (by rfl) (by rfl) rfl (Nat.le_of_ble_eq_true rfl) (s_r_in ) ?_
  exact Ev.re rfl rfl rfl rfl (rstB rfl)
def f_r_isMember (R : RD) (v : Int32) : Bool :=
  f_r_in v 0 ((nI (rMem R)) - 1)
theorem s_r_isMember {d : Nat} {t : Int32} {W : WD} {C : CD} {R : RD} {v : Int32}  : Cal (d + 1) 113 [vR 9 0, vI v] (enc C (urThr R t) W) (.inl (some (vI (bI (f_r_isMember R v))))) (enc C (urThr R t) W) := by
  refine Cal.mk (n := 2) rfl (Nat.le_of_ble_eq_true rfl) rfl ?_
  unfold f_r_isMember
  refine Ev.ps 3 rfl ?_
  refine Ev.getf (v := vI (nI (rMem R))) (by rfl) (by rfl) (by rfl) (g9) rfl ?_
  refine Ev.ps 2 rfl ?_
  refine Ev.sta (as := [vI v, vI 0, vI ((nI (rMem R)) - 1)]) (rest := []) (by rfl) (by rfl) (by rfl) (by rfl) rfl (Nat.le_of_ble_eq_true rfl) (s_r_in ) ?_
  exact Ev.re rfl rfl rfl rfl (rstB rfl)
def f_r_isMachine (R : RD) (v : Int32) : Bool :=
  f_r_in v 0 ((nI (rMac R)) - 1)
theorem s_r_isMachine {d : Nat} {t : Int32} {W : WD} {C : CD} {R : RD} {v : Int32}  : Cal (d + 1) 114 [vR 9 0, vI v] (enc C (urThr R t) W) (.inl (some (vI (bI (f_r_isMachine R v))))) (enc C (urThr R t) W) := by
  refine Cal.mk (n := 2) rfl (Nat.le_of_ble_eq_true rfl) rfl ?_
  unfold f_r_isMachine
  refine Ev.ps 3 rfl ?_
  refine Ev.getf (v := vI (nI (rMac R))) (by rfl) (by rfl) (by rfl) (g9) rfl ?_
  refine Ev.ps 2 rfl ?_
  refine Ev.sta (as := [vI v, vI 0, vI ((nI (rMac R)) - 1)]) (rest := []) (by rfl) (by rfl) (by rfl) (by rfl) rfl (Nat.le_of_ble_eq_true rfl) (s_r_in ) ?_
  exact Ev.re rfl rfl rfl rfl (rstB rfl)
def f_r_isEntry (R : RD) (v : Int32) : Bool :=
  f_r_in v 0 ((nI (rEnt R)) - 1)
theorem s_r_isEntry {d : Nat} {t : Int32} {W : WD} {C : CD} {R : RD} {v : Int32}  : Cal (d + 1) 115 [vR 9 0, vI v] (enc C (urThr R t) W) (.inl (some (vI (bI (f_r_isEntry R v))))) (enc C (urThr R t) W) := by
  refine Cal.mk (n := 2) rfl (Nat.le_of_ble_eq_true rfl) rfl ?_
  unfold f_r_isEntry
  refine Ev.ps 3 rfl ?_
  refine Ev.getf (v := vI (nI (rEnt R))) (by rfl) (by rfl) (by rfl) (g9) rfl ?_
  refine Ev.ps 2 rfl ?_
  refine Ev.sta (as := [vI v, vI 0, vI ((nI (rEnt R)) - 1)]) (rest := []) (by rfl) (by rfl) (by rfl) (by rfl) rfl (Nat.le_of_ble_eq_true rfl) (s_r_in ) ?_
  exact Ev.re rfl rfl rfl rfl (rstB rfl)
def f_r_endOf (R : RD) (e : Nat) : Int32 :=
  (rSt R e) + (rLe R e)
theorem s_r_endOf {d : Nat} {t : Int32} {W : WD} {C : CD} {R : RD} {e : Nat} (he : e < 150) : Cal (d + 0) 125 [vR 9 0, vI (nI e)] (enc C (urThr R t) W) (.inl (some (vI (f_r_endOf R e)))) (enc C (urThr R t) W) := by
  refine Cal.mk (n := 2) rfl (Nat.le_of_ble_eq_true rfl) rfl ?_
  unfold f_r_endOf
  refine Ev.ps 1 rfl ?_
  refine Ev.getf (v := vR 35 0) (by rfl) (by rfl) (by rfl) (g9) rfl ?_
  refine Ev.ps 1 rfl ?_
  refine Ev.aiI (k := e) (v := vI (rSt R e)) (by rfl) (by decide) (g35) (by omega) (by omega) rfl ?_
  refine Ev.ps 1 rfl ?_
  refine Ev.getf (v := vR 36 0) (by rfl) (by rfl) (by rfl) (g9) rfl ?_
  refine Ev.ps 1 rfl ?_
  refine Ev.aiI (k := e) (v := vI (rLe R e)) (by rfl) (by decide) (g36) (by omega) (by omega) rfl ?_
  refine Ev.ps 1 rfl ?_
  exact Ev.re rfl rfl rfl rfl rfl
def f_r_overlaps (R : RD) (e : Nat) (D S M : Int32) : Bool :=
  if rSta R e = 98 then if rDy R e = D then if rSt R e < S + M then if S < f_r_endOf R e then true else false else false else false else false
theorem s_r_overlaps {d : Nat} {t : Int32} {W : WD} {C : CD} {R : RD} {e : Nat} {D : Int32} {S : Int32} {M : Int32} (he : e < 150) : Cal (d + 1) 126 [vR 9 0, vI (nI e), vI D, vI S, vI M] (enc C (urThr R t) W) (.inl (some (vI (bI (f_r_overlaps R e D S M))))) (enc C (urThr R t) W) := by
  refine Cal.mk (n := 5) rfl (Nat.le_of_ble_eq_true rfl) rfl ?_
  unfold f_r_overlaps
  refine Ev.ps 1 rfl ?_
  refine Ev.getf (v := vR 38 0) (by rfl) (by rfl) (by rfl) (g9) rfl ?_
  refine Ev.ps 1 rfl ?_
  refine Ev.aiC (k := e) (v := vI (rSta R e)) (by rfl) (by decide) (g38) (by omega) (by omega) rfl ?_
  refine Ev.ps 1 rfl ?_
  refine Ev.ine (by rfl) (by rfl) (fun (c1 : rSta R e = 98) => ?_) (fun (c1 : ¬ rSta R e = 98) => ?_)
  · rw [if_pos c1]
    refine Ev.ps 1 rfl ?_
    refine Ev.getf (v := vR 34 0) (by rfl) (by rfl) (by rfl) (g9) rfl ?_
    refine Ev.ps 1 rfl ?_
    refine Ev.aiI (k := e) (v := vI (rDy R e)) (by rfl) (by decide) (g34) (by omega) (by omega) rfl ?_
    refine Ev.ps 1 rfl ?_
    refine Ev.ine (by rfl) (by rfl) (fun (c2 : rDy R e = D) => ?_) (fun (c2 : ¬ rDy R e = D) => ?_)
    · rw [if_pos c2]
      refine Ev.ps 1 rfl ?_
      refine Ev.getf (v := vR 35 0) (by rfl) (by rfl) (by rfl) (g9) rfl ?_
      refine Ev.ps 1 rfl ?_
      refine Ev.aiI (k := e) (v := vI (rSt R e)) (by rfl) (by decide) (g35) (by omega) (by omega) rfl ?_
      refine Ev.ps 3 rfl ?_
      refine Ev.ige (by rfl) (by rfl) (fun (c3 : rSt R e < S + M) => ?_) (fun (c3 : ¬ rSt R e < S + M) => ?_)
      · rw [if_pos c3]
        refine Ev.ps 3 rfl ?_
        refine Ev.vir (as := [vI (nI e)]) (rest := [vI S]) (by rfl) (by rfl) (by rfl) (by rfl) rfl (Nat.le_of_ble_eq_true rfl) (by rfl) (by rw [g9]; rfl) (s_r_endOf (by omega)) ?_
        refine Ev.ige (by rfl) (by rfl) (fun (c4 : S < f_r_endOf R e) => ?_) (fun (c4 : ¬ S < f_r_endOf R e) => ?_)
        · rw [if_pos c4]
          refine Ev.ps 2 rfl ?_
          exact Ev.re rfl rfl rfl rfl rfl
        · rw [if_neg c4]
          refine Ev.ps 1 rfl ?_
          exact Ev.re rfl rfl rfl rfl rfl
      · rw [if_neg c3]
        refine Ev.ps 1 rfl ?_
        exact Ev.re rfl rfl rfl rfl rfl
    · rw [if_neg c2]
      refine Ev.ps 1 rfl ?_
      exact Ev.re rfl rfl rfl rfl rfl
  · rw [if_neg c1]
    refine Ev.ps 1 rfl ?_
    exact Ev.re rfl rfl rfl rfl rfl
def f_r_setup (R : RD) (m : Nat) (a b : Int32) : Int32 :=
  if a = b then 0 else rSu R m
theorem s_r_setup {d : Nat} {t : Int32} {W : WD} {C : CD} {R : RD} {m : Nat} {a : Int32} {b : Int32} (hm : m < 6) : Cal (d + 0) 127 [vR 9 0, vI (nI m), vI a, vI b] (enc C (urThr R t) W) (.inl (some (vI (f_r_setup R m a b)))) (enc C (urThr R t) W) := by
  refine Cal.mk (n := 4) rfl (Nat.le_of_ble_eq_true rfl) rfl ?_
  unfold f_r_setup
  refine Ev.ps 2 rfl ?_
  refine Ev.ine (by rfl) (by rfl) (fun (c1 : a = b) => ?_) (fun (c1 : ¬ a = b) => ?_)
  · rw [if_pos c1]
    refine Ev.ps 2 rfl ?_
    exact Ev.re rfl rfl rfl rfl rfl
  · rw [if_neg c1]
    refine Ev.ps 1 rfl ?_
    refine Ev.getf (v := vR 26 0) (by rfl) (by rfl) (by rfl) (g9) rfl ?_
    refine Ev.ps 1 rfl ?_
    refine Ev.aiI (k := m) (v := vI (rSu R m)) (by rfl) (by decide) (g26) (by omega) (by omega) rfl ?_
    exact Ev.re rfl rfl rfl rfl rfl
def f_r_stands (R : RD) (e m : Nat) (D : Int32) : Bool :=
  if rSta R e = 98 then
    if rMo R e = m then if rDy R e = D then true else false else false
  else
    if rSta R e = 100 then if rMo R e = m then if rDy R e = D then true else false else false else false
theorem s_r_stands {d : Nat} {t : Int32} {W : WD} {C : CD} {R : RD} {e : Nat} {m : Nat} {D : Int32} (hW : WfR R) (he : e < 150) (hm : m < 6) : Cal (d + 0) 142 [vR 9 0, vI (nI e), vI (nI m), vI D] (enc C (urThr R t) W) (.inl (some (vI (bI (f_r_stands R e m D))))) (enc C (urThr R t) W) := by
  obtain ⟨wMac, wMem, wEnt, wBar, wBrk, wOw, wMo, wMk, wCm, wCb, wMt, wLm⟩ := id hW
  refine Cal.mk (n := 4) rfl (Nat.le_of_ble_eq_true rfl) rfl ?_
  unfold f_r_stands
  refine Ev.ps 1 rfl ?_
  refine Ev.getf (v := vR 38 0) (by rfl) (by rfl) (by rfl) (g9) rfl ?_
  refine Ev.ps 1 rfl ?_
  refine Ev.aiC (k := e) (v := vI (rSta R e)) (by rfl) (by decide) (g38) (by omega) (by omega) rfl ?_
  refine Ev.ps 1 rfl ?_
  refine Ev.ieq (by rfl) (by rfl) (fun (c1 : rSta R e = 98) => ?_) (fun (c1 : ¬ rSta R e = 98) => ?_)
  · rw [if_pos c1]
    refine Ev.ps 1 rfl ?_
    refine Ev.getf (v := vR 33 0) (by rfl) (by rfl) (by rfl) (g9) rfl ?_
    refine Ev.ps 1 rfl ?_
    refine Ev.aiI (k := e) (v := vI (nI (rMo R e))) (by rfl) (by decide) (g33) (by omega) (by omega) rfl ?_
    refine Ev.ps 1 rfl ?_
    refine Ev.ineN (a := (rMo R e)) (b := m) (by have := wMo e; omega) (by omega) (by rfl) (by rfl) (fun (c2 : rMo R e = m) => ?_) (fun (c2 : ¬ rMo R e = m) => ?_)
    · rw [if_pos c2]
      refine Ev.ps 1 rfl ?_
      refine Ev.getf (v := vR 34 0) (by rfl) (by rfl) (by rfl) (g9) rfl ?_
      refine Ev.ps 1 rfl ?_
      refine Ev.aiI (k := e) (v := vI (rDy R e)) (by rfl) (by decide) (g34) (by omega) (by omega) rfl ?_
      refine Ev.ps 1 rfl ?_
      refine Ev.ine (by rfl) (by rfl) (fun (c3 : rDy R e = D) => ?_) (fun (c3 : ¬ rDy R e = D) => ?_)
      · rw [if_pos c3]
        refine Ev.ps 2 rfl ?_
        exact Ev.re rfl rfl rfl rfl rfl
      · rw [if_neg c3]
        refine Ev.ps 1 rfl ?_
        exact Ev.re rfl rfl rfl rfl rfl
    · rw [if_neg c2]
      refine Ev.ps 1 rfl ?_
      exact Ev.re rfl rfl rfl rfl rfl
  · rw [if_neg c1]
    refine Ev.ps 1 rfl ?_
    refine Ev.getf (v := vR 38 0) (by rfl) (by rfl) (by rfl) (g9) rfl ?_
    refine Ev.ps 1 rfl ?_
    refine Ev.aiC (k := e) (v := vI (rSta R e)) (by rfl) (by decide) (g38) (by omega) (by omega) rfl ?_
    refine Ev.ps 1 rfl ?_
    refine Ev.ine (by rfl) (by rfl) (fun (c4 : rSta R e = 100) => ?_) (fun (c4 : ¬ rSta R e = 100) => ?_)
    · rw [if_pos c4]
      refine Ev.ps 1 rfl ?_
      refine Ev.getf (v := vR 33 0) (by rfl) (by rfl) (by rfl) (g9) rfl ?_
      refine Ev.ps 1 rfl ?_
      refine Ev.aiI (k := e) (v := vI (nI (rMo R e))) (by rfl) (by decide) (g33) (by omega) (by omega) rfl ?_
      refine Ev.ps 1 rfl ?_
      refine Ev.ineN (a := (rMo R e)) (b := m) (by have := wMo e; omega) (by omega) (by rfl) (by rfl) (fun (c5 : rMo R e = m) => ?_) (fun (c5 : ¬ rMo R e = m) => ?_)
      · rw [if_pos c5]
        refine Ev.ps 1 rfl ?_
        refine Ev.getf (v := vR 34 0) (by rfl) (by rfl) (by rfl) (g9) rfl ?_
        refine Ev.ps 1 rfl ?_
        refine Ev.aiI (k := e) (v := vI (rDy R e)) (by rfl) (by decide) (g34) (by omega) (by omega) rfl ?_
        refine Ev.ps 1 rfl ?_
        refine Ev.ine (by rfl) (by rfl) (fun (c6 : rDy R e = D) => ?_) (fun (c6 : ¬ rDy R e = D) => ?_)
        · rw [if_pos c6]
          refine Ev.ps 2 rfl ?_
          exact Ev.re rfl rfl rfl rfl rfl
        · rw [if_neg c6]
          refine Ev.ps 1 rfl ?_
          exact Ev.re rfl rfl rfl rfl rfl
      · rw [if_neg c5]
        refine Ev.ps 1 rfl ?_
        exact Ev.re rfl rfl rfl rfl rfl
    · rw [if_neg c4]
      refine Ev.ps 1 rfl ?_
      exact Ev.re rfl rfl rfl rfl rfl
def r_isBusy_L6 (R : RD) (m : Nat) (D : Int32) (S : Int32) (M : Int32) : Nat → Nat → Bool → Bool
  | 0, j6, is =>
    is
  | k6 + 1, j6, is =>
    if is then
      r_isBusy_L6 R m D S M k6 (j6 + 1) true
    else
      if rOw R j6 = m then
        if f_r_overlaps R j6 D S M then r_isBusy_L6 R m D S M k6 (j6 + 1) true else r_isBusy_L6 R m D S M k6 (j6 + 1) false
      else
        r_isBusy_L6 R m D S M k6 (j6 + 1) false
def f_r_isBusy (R : RD) (m : Nat) (D S M : Int32) : Bool :=
  r_isBusy_L6 R m D S M (rEnt R) 0 false
theorem s_r_isBusy {d : Nat} {t : Int32} {W : WD} {C : CD} {R : RD} {m : Nat} {D : Int32} {S : Int32} {M : Int32} (hW : WfR R) (hm : m < 10) : Cal (d + 2) 129 [vR 9 0, vI (nI m), vI D, vI S, vI M] (enc C (urThr R t) W) (.inl (some (vI (bI (f_r_isBusy R m D S M))))) (enc C (urThr R t) W) := by
  obtain ⟨wMac, wMem, wEnt, wBar, wBrk, wOw, wMo, wMk, wCm, wCb, wMt, wLm⟩ := id hW
  refine Cal.mk (n := 7) rfl (Nat.le_of_ble_eq_true rfl) rfl ?_
  unfold f_r_isBusy
  refine Ev.ps 4 rfl ?_
  have L6 : ∀ (k6 j6 : Nat) (is : Bool), j6 + k6 = rEnt R → Ev (d + 2) (129, 6, [some (vR 9 0), some (vI (nI m)), some (vI D), some (vI S), some (vI M), some (vI (bI is)), some (vI (nI j6))], []) (enc C (urThr R t) W) ((.inl (some (vI (bI (r_isBusy_L6 R m D S M k6 j6 is))))), enc C (urThr R t) W) := by
    intro k6
    induction k6 with
    | zero =>
      intro j6 is hj6
      rw [r_isBusy_L6]
      refine Ev.ps 2 rfl ?_
      refine Ev.getf (v := vI (nI (rEnt R))) (by rfl) (by rfl) (by rfl) (g9) rfl ?_
      refine Ev.igeN (a := j6) (b := (rEnt R)) (by omega) (by omega) (by rfl) (by rfl) (fun (c1 : j6 < rEnt R) => ?_) (fun (c1 : ¬ j6 < rEnt R) => ?_)
      · exfalso; omega
      · refine Ev.ps 1 rfl ?_
        exact Ev.re rfl rfl rfl rfl (rstB rfl)
    | succ k6 ih6 =>
      intro j6 is hj6
      rw [r_isBusy_L6]
      refine Ev.ps 2 rfl ?_
      refine Ev.getf (v := vI (nI (rEnt R))) (by rfl) (by rfl) (by rfl) (g9) rfl ?_
      refine Ev.igeN (a := j6) (b := (rEnt R)) (by omega) (by omega) (by rfl) (by rfl) (fun (c2 : j6 < rEnt R) => ?_) (fun (c2 : ¬ j6 < rEnt R) => ?_)
      · refine Ev.ps 1 rfl ?_
        refine Ev.ifbn (by rfl) (by rfl) (fun c3 => ?_) (fun c3 => ?_)
        · rw [if_pos c3]
          refine Ev.ps 5 rfl ?_
          have h9 := ih6 (j6 + 1) true (by show j6 + 1 + k6 = rEnt R; omega)
          rw [← nI_1] at h9
          exact h9
        · rw [if_neg c3]
          refine Ev.ps 1 rfl ?_
          refine Ev.getf (v := vR 32 0) (by rfl) (by rfl) (by rfl) (g9) rfl ?_
          refine Ev.ps 1 rfl ?_
          refine Ev.aiI (k := j6) (v := vI (nI (rOw R j6))) (by rfl) (by decide) (g32) (by omega) (by omega) rfl ?_
          refine Ev.ps 1 rfl ?_
          refine Ev.ineN (a := (rOw R j6)) (b := m) (by have := wOw j6; omega) (by omega) (by rfl) (by rfl) (fun (c4 : rOw R j6 = m) => ?_) (fun (c4 : ¬ rOw R j6 = m) => ?_)
          · rw [if_pos c4]
            refine Ev.ps 5 rfl ?_
            refine Ev.vir (as := [vI (nI j6), vI D, vI S, vI M]) (rest := []) (by rfl) (by rfl) (by rfl) (by rfl) rfl (Nat.le_of_ble_eq_true rfl) (by rfl) (by rw [g9]; rfl) (s_r_overlaps (by omega)) ?_
            refine Ev.ifbe (by rfl) (by rfl) (fun c5 => ?_) (fun c5 => ?_)
            · rw [if_pos c5]
              refine Ev.ps 5 rfl ?_
              have h9 := ih6 (j6 + 1) true (by show j6 + 1 + k6 = rEnt R; omega)
              rw [← nI_1] at h9
              exact h9
            · rw [if_neg c5]
              refine Ev.ps 4 rfl ?_
              have h9 := ih6 (j6 + 1) false (by show j6 + 1 + k6 = rEnt R; omega)
              rw [← nI_1] at h9
              exact h9
          · rw [if_neg c4]
            refine Ev.ps 4 rfl ?_
            have h9 := ih6 (j6 + 1) false (by show j6 + 1 + k6 = rEnt R; omega)
            rw [← nI_1] at h9
            exact h9
      · exfalso; omega
  exact L6 (rEnt R) 0 false (by show 0 + rEnt R = rEnt R; omega)
def r_isFree_L9 (R : RD) (mc : Nat) (D : Int32) (S : Int32) (M : Int32) (W9 : Int32) : Nat → Nat → Option Nat → Option Nat → Bool
  | 0, j9, bf, bh =>
    oE bf (
      oE bh (
        true
        ) (fun k4 =>
        if ((rSt R k4) - S) - M < f_r_setup R mc (rWk R k4) W9 then false else true
        )
      ) (fun k2 =>
      if S - (f_r_endOf R k2) < f_r_setup R mc (rWk R k2) W9 then
        false
      else
        oE bh (
          true
          ) (fun k8 =>
          if ((rSt R k8) - S) - M < f_r_setup R mc (rWk R k8) W9 then false else true
          )
      )
  | k9 + 1, j9, bf, bh =>
    if rSta R j9 = 98 then
      if rMo R j9 = mc then
        if rDy R j9 = D then
          if f_r_overlaps R j9 D S M then
            false
          else
            if rSt R j9 < S then
              oE bf (
                r_isFree_L9 R mc D S M W9 k9 (j9 + 1) (some j9) bh
                ) (fun k17 =>
                if rSt R k17 < rSt R j9 then r_isFree_L9 R mc D S M W9 k9 (j9 + 1) (some j9) bh else r_isFree_L9 R mc D S M W9 k9 (j9 + 1) (some k17) bh
                )
            else
              oE bh (
                r_isFree_L9 R mc D S M W9 k9 (j9 + 1) bf (some j9)
                ) (fun k20 =>
                if rSt R j9 < rSt R k20 then r_isFree_L9 R mc D S M W9 k9 (j9 + 1) bf (some j9) else r_isFree_L9 R mc D S M W9 k9 (j9 + 1) bf (some k20)
                )
        else
          r_isFree_L9 R mc D S M W9 k9 (j9 + 1) bf bh
      else
        r_isFree_L9 R mc D S M W9 k9 (j9 + 1) bf bh
    else
      r_isFree_L9 R mc D S M W9 k9 (j9 + 1) bf bh
def f_r_isFree (R : RD) (mc : Nat) (D S M W9 : Int32) : Bool :=
  r_isFree_L9 R mc D S M W9 (rEnt R) 0 none none
theorem s_r_isFree {d : Nat} {t : Int32} {W : WD} {C : CD} {R : RD} {mc : Nat} {D : Int32} {S : Int32} {M : Int32} {W9 : Int32} (hW : WfR R) (hm : mc < 6) : Cal (d + 2) 128 [vR 9 0, vI (nI mc), vI D, vI S, vI M, vI W9] (enc C (urThr R t) W) (.inl (some (vI (bI (f_r_isFree R mc D S M W9))))) (enc C (urThr R t) W) := by
  obtain ⟨wMac, wMem, wEnt, wBar, wBrk, wOw, wMo, wMk, wCm, wCb, wMt, wLm⟩ := id hW
  refine Cal.mk (n := 9) rfl (Nat.le_of_ble_eq_true rfl) rfl ?_
  unfold f_r_isFree
  refine Ev.ps 6 rfl ?_
  have L9 : ∀ (k9 j9 : Nat) (bf : Option Nat) (bh : Option Nat), j9 + k9 = rEnt R → (∀ k, bf = some k → k < rEnt R) → (∀ k, bh = some k → k < rEnt R) → Ev (d + 2) (128, 9, [some (vR 9 0), some (vI (nI mc)), some (vI D), some (vI S), some (vI M), some (vI W9), some (vI (oI bf)), some (vI (oI bh)), some (vI (nI j9))], []) (enc C (urThr R t) W) ((.inl (some (vI (bI (r_isFree_L9 R mc D S M W9 k9 j9 bf bh))))), enc C (urThr R t) W) := by
    intro k9
    induction k9 with
    | zero =>
      intro j9 bf bh hj9 hbf hbh
      rw [r_isFree_L9]
      refine Ev.ps 2 rfl ?_
      refine Ev.getf (v := vI (nI (rEnt R))) (by rfl) (by rfl) (by rfl) (g9) rfl ?_
      refine Ev.igeN (a := j9) (b := (rEnt R)) (by omega) (by omega) (by rfl) (by rfl) (fun (c1 : j9 < rEnt R) => ?_) (fun (c1 : ¬ j9 < rEnt R) => ?_)
      · exfalso; omega
      · refine Ev.ps 2 rfl ?_
        cases bf with
        | none =>
          dsimp only [oE]
          refine Ev.icmp (by rfl) (by rfl) (fun _ => ?_) (fun z => by exact absurd z (by decide))
          refine Ev.ps 2 rfl ?_
          cases bh with
          | none =>
            dsimp only [oE]
            refine Ev.icmp (by rfl) (by rfl) (fun _ => ?_) (fun z => by exact absurd z (by decide))
            refine Ev.ps 2 rfl ?_
            exact Ev.re rfl rfl rfl rfl rfl
          | some k4 =>
            dsimp only [oE]
            refine Ev.icmp (by rfl) (by rfl) (fun z => by exact absurd (of_decide_eq_true z) (nI_nm1 (by have := hbh _ rfl; omega))) (fun _ => ?_)
            refine Ev.ps 1 rfl ?_
            refine Ev.getf (v := vR 35 0) (by rfl) (by rfl) (by rfl) (g9) rfl ?_
            refine Ev.ps 1 rfl ?_
            refine Ev.aiI (k := k4) (v := vI (rSt R k4)) (by rfl) (by decide) (g35) (by omega) (by have := hbh _ rfl; omega) rfl ?_
            refine Ev.ps 7 rfl ?_
            refine Ev.getf (v := vR 37 0) (by rfl) (by rfl) (by rfl) (g9) rfl ?_
            refine Ev.ps 1 rfl ?_
            refine Ev.aiC (k := k4) (v := vI (rWk R k4)) (by rfl) (by decide) (g37) (by omega) (by have := hbh _ rfl; omega) rfl ?_
            refine Ev.ps 1 rfl ?_
            refine Ev.vir (as := [vI (nI mc), vI (rWk R k4), vI W9]) (rest := [vI (((rSt R k4) - S) - M)]) (by rfl) (by rfl) (by rfl) (by rfl) rfl (Nat.le_of_ble_eq_true rfl) (by rfl) (by rw [g9]; rfl) (s_r_setup (by omega)) ?_
            refine Ev.ilt (by rfl) (by rfl) (fun (c6 : ((rSt R k4) - S) - M < f_r_setup R mc (rWk R k4) W9) => ?_) (fun (c6 : ¬ ((rSt R k4) - S) - M < f_r_setup R mc (rWk R k4) W9) => ?_)
            · rw [if_pos c6]
              refine Ev.ps 1 rfl ?_
              exact Ev.re rfl rfl rfl rfl rfl
            · rw [if_neg c6]
              refine Ev.ps 2 rfl ?_
              exact Ev.re rfl rfl rfl rfl rfl
        | some k2 =>
          dsimp only [oE]
          refine Ev.icmp (by rfl) (by rfl) (fun z => by exact absurd (of_decide_eq_true z) (nI_nm1 (by have := hbf _ rfl; omega))) (fun _ => ?_)
          refine Ev.ps 3 rfl ?_
          refine Ev.vir (as := [vI (nI k2)]) (rest := [vI S]) (by rfl) (by rfl) (by rfl) (by rfl) rfl (Nat.le_of_ble_eq_true rfl) (by rfl) (by rw [g9]; rfl) (s_r_endOf (by have := hbf _ rfl; omega)) ?_
          refine Ev.ps 4 rfl ?_
          refine Ev.getf (v := vR 37 0) (by rfl) (by rfl) (by rfl) (g9) rfl ?_
          refine Ev.ps 1 rfl ?_
          refine Ev.aiC (k := k2) (v := vI (rWk R k2)) (by rfl) (by decide) (g37) (by omega) (by have := hbf _ rfl; omega) rfl ?_
          refine Ev.ps 1 rfl ?_
          refine Ev.vir (as := [vI (nI mc), vI (rWk R k2), vI W9]) (rest := [vI (S - (f_r_endOf R k2))]) (by rfl) (by rfl) (by rfl) (by rfl) rfl (Nat.le_of_ble_eq_true rfl) (by rfl) (by rw [g9]; rfl) (s_r_setup (by omega)) ?_
          refine Ev.ilt (by rfl) (by rfl) (fun (c7 : S - (f_r_endOf R k2) < f_r_setup R mc (rWk R k2) W9) => ?_) (fun (c7 : ¬ S - (f_r_endOf R k2) < f_r_setup R mc (rWk R k2) W9) => ?_)
          · rw [if_pos c7]
            refine Ev.ps 1 rfl ?_
            exact Ev.re rfl rfl rfl rfl rfl
          · rw [if_neg c7]
            refine Ev.ps 2 rfl ?_
            cases bh with
            | none =>
              dsimp only [oE]
              refine Ev.icmp (by rfl) (by rfl) (fun _ => ?_) (fun z => by exact absurd z (by decide))
              refine Ev.ps 2 rfl ?_
              exact Ev.re rfl rfl rfl rfl rfl
            | some k8 =>
              dsimp only [oE]
              refine Ev.icmp (by rfl) (by rfl) (fun z => by exact absurd (of_decide_eq_true z) (nI_nm1 (by have := hbh _ rfl; omega))) (fun _ => ?_)
              refine Ev.ps 1 rfl ?_
              refine Ev.getf (v := vR 35 0) (by rfl) (by rfl) (by rfl) (g9) rfl ?_
              refine Ev.ps 1 rfl ?_
              refine Ev.aiI (k := k8) (v := vI (rSt R k8)) (by rfl) (by decide) (g35) (by omega) (by have := hbh _ rfl; omega) rfl ?_
              refine Ev.ps 7 rfl ?_
              refine Ev.getf (v := vR 37 0) (by rfl) (by rfl) (by rfl) (g9) rfl ?_
              refine Ev.ps 1 rfl ?_
              refine Ev.aiC (k := k8) (v := vI (rWk R k8)) (by rfl) (by decide) (g37) (by omega) (by have := hbh _ rfl; omega) rfl ?_
              refine Ev.ps 1 rfl ?_
              refine Ev.vir (as := [vI (nI mc), vI (rWk R k8), vI W9]) (rest := [vI (((rSt R k8) - S) - M)]) (by rfl) (by rfl) (by rfl) (by rfl) rfl (Nat.le_of_ble_eq_true rfl) (by rfl) (by rw [g9]; rfl) (s_r_setup (by omega)) ?_
              refine Ev.ilt (by rfl) (by rfl) (fun (c10 : ((rSt R k8) - S) - M < f_r_setup R mc (rWk R k8) W9) => ?_) (fun (c10 : ¬ ((rSt R k8) - S) - M < f_r_setup R mc (rWk R k8) W9) => ?_)
              · rw [if_pos c10]
                refine Ev.ps 1 rfl ?_
                exact Ev.re rfl rfl rfl rfl rfl
              · rw [if_neg c10]
                refine Ev.ps 2 rfl ?_
                exact Ev.re rfl rfl rfl rfl rfl
    | succ k9 ih9 =>
      intro j9 bf bh hj9 hbf hbh
      rw [r_isFree_L9]
      refine Ev.ps 2 rfl ?_
      refine Ev.getf (v := vI (nI (rEnt R))) (by rfl) (by rfl) (by rfl) (g9) rfl ?_
      refine Ev.igeN (a := j9) (b := (rEnt R)) (by omega) (by omega) (by rfl) (by rfl) (fun (c11 : j9 < rEnt R) => ?_) (fun (c11 : ¬ j9 < rEnt R) => ?_)
      · refine Ev.ps 1 rfl ?_
        refine Ev.getf (v := vR 38 0) (by rfl) (by rfl) (by rfl) (g9) rfl ?_
        refine Ev.ps 1 rfl ?_
        refine Ev.aiC (k := j9) (v := vI (rSta R j9)) (by rfl) (by decide) (g38) (by omega) (by omega) rfl ?_
        refine Ev.ps 1 rfl ?_
        refine Ev.ine (by rfl) (by rfl) (fun (c12 : rSta R j9 = 98) => ?_) (fun (c12 : ¬ rSta R j9 = 98) => ?_)
        · rw [if_pos c12]
          refine Ev.ps 1 rfl ?_
          refine Ev.getf (v := vR 33 0) (by rfl) (by rfl) (by rfl) (g9) rfl ?_
          refine Ev.ps 1 rfl ?_
          refine Ev.aiI (k := j9) (v := vI (nI (rMo R j9))) (by rfl) (by decide) (g33) (by omega) (by omega) rfl ?_
          refine Ev.ps 1 rfl ?_
          refine Ev.ineN (a := (rMo R j9)) (b := mc) (by have := wMo j9; omega) (by omega) (by rfl) (by rfl) (fun (c13 : rMo R j9 = mc) => ?_) (fun (c13 : ¬ rMo R j9 = mc) => ?_)
          · rw [if_pos c13]
            refine Ev.ps 1 rfl ?_
            refine Ev.getf (v := vR 34 0) (by rfl) (by rfl) (by rfl) (g9) rfl ?_
            refine Ev.ps 1 rfl ?_
            refine Ev.aiI (k := j9) (v := vI (rDy R j9)) (by rfl) (by decide) (g34) (by omega) (by omega) rfl ?_
            refine Ev.ps 1 rfl ?_
            refine Ev.ine (by rfl) (by rfl) (fun (c14 : rDy R j9 = D) => ?_) (fun (c14 : ¬ rDy R j9 = D) => ?_)
            · rw [if_pos c14]
              refine Ev.ps 5 rfl ?_
              refine Ev.vir (as := [vI (nI j9), vI D, vI S, vI M]) (rest := []) (by rfl) (by rfl) (by rfl) (by rfl) rfl (Nat.le_of_ble_eq_true rfl) (by rfl) (by rw [g9]; rfl) (s_r_overlaps (by omega)) ?_
              refine Ev.ifbe (by rfl) (by rfl) (fun c15 => ?_) (fun c15 => ?_)
              · rw [if_pos c15]
                refine Ev.ps 1 rfl ?_
                exact Ev.re rfl rfl rfl rfl rfl
              · rw [if_neg c15]
                refine Ev.ps 1 rfl ?_
                refine Ev.getf (v := vR 35 0) (by rfl) (by rfl) (by rfl) (g9) rfl ?_
                refine Ev.ps 1 rfl ?_
                refine Ev.aiI (k := j9) (v := vI (rSt R j9)) (by rfl) (by decide) (g35) (by omega) (by omega) rfl ?_
                refine Ev.ps 1 rfl ?_
                refine Ev.ige (by rfl) (by rfl) (fun (c16 : rSt R j9 < S) => ?_) (fun (c16 : ¬ rSt R j9 < S) => ?_)
                · rw [if_pos c16]
                  refine Ev.ps 2 rfl ?_
                  cases bf with
                  | none =>
                    dsimp only [oE]
                    refine Ev.icmp (by rfl) (by rfl) (fun _ => ?_) (fun z => by exact absurd z (by decide))
                    refine Ev.ps 6 rfl ?_
                    have h9 := ih9 (j9 + 1) (some j9) bh (by show j9 + 1 + k9 = rEnt R; omega) (by intro k9 z9; first | exact hbf k9 z9 | (cases z9; omega)) (by intro k9 z9; first | exact hbh k9 z9 | (cases z9; omega))
                    rw [← nI_1] at h9
                    exact h9
                  | some k17 =>
                    dsimp only [oE]
                    refine Ev.icmp (by rfl) (by rfl) (fun z => by exact absurd (of_decide_eq_true z) (nI_nm1 (by have := hbf _ rfl; omega))) (fun _ => ?_)
                    refine Ev.ps 1 rfl ?_
                    refine Ev.getf (v := vR 35 0) (by rfl) (by rfl) (by rfl) (g9) rfl ?_
                    refine Ev.ps 1 rfl ?_
                    refine Ev.aiI (k := j9) (v := vI (rSt R j9)) (by rfl) (by decide) (g35) (by omega) (by omega) rfl ?_
                    refine Ev.ps 1 rfl ?_
                    refine Ev.getf (v := vR 35 0) (by rfl) (by rfl) (by rfl) (g9) rfl ?_
                    refine Ev.ps 1 rfl ?_
                    refine Ev.aiI (k := k17) (v := vI (rSt R k17)) (by rfl) (by decide) (g35) (by omega) (by have := hbf _ rfl; omega) rfl ?_
                    refine Ev.ile (by rfl) (by rfl) (fun (c19 : rSt R k17 < rSt R j9) => ?_) (fun (c19 : ¬ rSt R k17 < rSt R j9) => ?_)
                    · rw [if_pos c19]
                      refine Ev.ps 6 rfl ?_
                      have h9 := ih9 (j9 + 1) (some j9) bh (by show j9 + 1 + k9 = rEnt R; omega) (by intro k9 z9; first | exact hbf k9 z9 | (cases z9; omega)) (by intro k9 z9; first | exact hbh k9 z9 | (cases z9; omega))
                      rw [← nI_1] at h9
                      exact h9
                    · rw [if_neg c19]
                      refine Ev.ps 5 rfl ?_
                      have h9 := ih9 (j9 + 1) (some k17) bh (by show j9 + 1 + k9 = rEnt R; omega) (by intro k9 z9; first | exact hbf k9 z9 | (cases z9; omega)) (by intro k9 z9; first | exact hbh k9 z9 | (cases z9; omega))
                      rw [← nI_1] at h9
                      exact h9
                · rw [if_neg c16]
                  refine Ev.ps 2 rfl ?_
                  cases bh with
                  | none =>
                    dsimp only [oE]
                    refine Ev.icmp (by rfl) (by rfl) (fun _ => ?_) (fun z => by exact absurd z (by decide))
                    refine Ev.ps 5 rfl ?_
                    have h9 := ih9 (j9 + 1) bf (some j9) (by show j9 + 1 + k9 = rEnt R; omega) (by intro k9 z9; first | exact hbf k9 z9 | (cases z9; omega)) (by intro k9 z9; first | exact hbh k9 z9 | (cases z9; omega))
                    rw [← nI_1] at h9
                    exact h9
                  | some k20 =>
                    dsimp only [oE]
                    refine Ev.icmp (by rfl) (by rfl) (fun z => by exact absurd (of_decide_eq_true z) (nI_nm1 (by have := hbh _ rfl; omega))) (fun _ => ?_)
                    refine Ev.ps 1 rfl ?_
                    refine Ev.getf (v := vR 35 0) (by rfl) (by rfl) (by rfl) (g9) rfl ?_
                    refine Ev.ps 1 rfl ?_
                    refine Ev.aiI (k := j9) (v := vI (rSt R j9)) (by rfl) (by decide) (g35) (by omega) (by omega) rfl ?_
                    refine Ev.ps 1 rfl ?_
                    refine Ev.getf (v := vR 35 0) (by rfl) (by rfl) (by rfl) (g9) rfl ?_
                    refine Ev.ps 1 rfl ?_
                    refine Ev.aiI (k := k20) (v := vI (rSt R k20)) (by rfl) (by decide) (g35) (by omega) (by have := hbh _ rfl; omega) rfl ?_
                    refine Ev.ige (by rfl) (by rfl) (fun (c22 : rSt R j9 < rSt R k20) => ?_) (fun (c22 : ¬ rSt R j9 < rSt R k20) => ?_)
                    · rw [if_pos c22]
                      refine Ev.ps 5 rfl ?_
                      have h9 := ih9 (j9 + 1) bf (some j9) (by show j9 + 1 + k9 = rEnt R; omega) (by intro k9 z9; first | exact hbf k9 z9 | (cases z9; omega)) (by intro k9 z9; first | exact hbh k9 z9 | (cases z9; omega))
                      rw [← nI_1] at h9
                      exact h9
                    · rw [if_neg c22]
                      refine Ev.ps 4 rfl ?_
                      have h9 := ih9 (j9 + 1) bf (some k20) (by show j9 + 1 + k9 = rEnt R; omega) (by intro k9 z9; first | exact hbf k9 z9 | (cases z9; omega)) (by intro k9 z9; first | exact hbh k9 z9 | (cases z9; omega))
                      rw [← nI_1] at h9
                      exact h9
            · rw [if_neg c14]
              refine Ev.ps 2 rfl ?_
              have h9 := ih9 (j9 + 1) bf bh (by show j9 + 1 + k9 = rEnt R; omega) (by intro k9 z9; first | exact hbf k9 z9 | (cases z9; omega)) (by intro k9 z9; first | exact hbh k9 z9 | (cases z9; omega))
              rw [← nI_1] at h9
              exact h9
          · rw [if_neg c13]
            refine Ev.ps 2 rfl ?_
            have h9 := ih9 (j9 + 1) bf bh (by show j9 + 1 + k9 = rEnt R; omega) (by intro k9 z9; first | exact hbf k9 z9 | (cases z9; omega)) (by intro k9 z9; first | exact hbh k9 z9 | (cases z9; omega))
            rw [← nI_1] at h9
            exact h9
        · rw [if_neg c12]
          refine Ev.ps 2 rfl ?_
          have h9 := ih9 (j9 + 1) bf bh (by show j9 + 1 + k9 = rEnt R; omega) (by intro k9 z9; first | exact hbf k9 z9 | (cases z9; omega)) (by intro k9 z9; first | exact hbh k9 z9 | (cases z9; omega))
          rw [← nI_1] at h9
          exact h9
      · exfalso; omega
  exact L9 (rEnt R) 0 none none (by show 0 + rEnt R = rEnt R; omega) (fun _ z => nomatch z) (fun _ z => nomatch z)
def r_minute_L9 (R : RD) (mc : Nat) (D : Int32) (M : Int32) : Nat → Nat → Option Nat → Option Nat → Int32
  | 0, j9, bh, bf =>
    oE bh (
      102
      ) (fun k2 =>
      oE bf (
        102
        ) (fun k4 =>
        if f_r_setup R mc (rWk R k4) (rWk R k2) < (rSt R k2) - M then 102 else 115
        )
      )
  | k9 + 1, j9, bh, bf =>
    if f_r_stands R j9 mc D then
      if f_r_in M (rSt R j9) ((f_r_endOf R j9) - 1) then
        98
      else
        if M < rSt R j9 then
          oE bh (
            r_minute_L9 R mc D M k9 (j9 + 1) (some j9) bf
            ) (fun k11 =>
            if rSt R j9 < rSt R k11 then r_minute_L9 R mc D M k9 (j9 + 1) (some j9) bf else r_minute_L9 R mc D M k9 (j9 + 1) (some k11) bf
            )
        else
          oE bf (
            r_minute_L9 R mc D M k9 (j9 + 1) bh (some j9)
            ) (fun k14 =>
            if rSt R k14 < rSt R j9 then r_minute_L9 R mc D M k9 (j9 + 1) bh (some j9) else r_minute_L9 R mc D M k9 (j9 + 1) bh (some k14)
            )
    else
      r_minute_L9 R mc D M k9 (j9 + 1) bh bf
def f_r_minute (R : RD) (mc : Nat) (D M : Int32) : Int32 :=
  r_minute_L9 R mc D M (rEnt R) 0 none none
theorem s_r_minute {d : Nat} {t : Int32} {W : WD} {C : CD} {R : RD} {mc : Nat} {D : Int32} {M : Int32} (hW : WfR R) (hm : mc < 6) : Cal (d + 2) 143 [vR 9 0, vI (nI mc), vI D, vI M] (enc C (urThr R t) W) (.inl (some (vI (f_r_minute R mc D M)))) (enc C (urThr R t) W) := by
  obtain ⟨wMac, wMem, wEnt, wBar, wBrk, wOw, wMo, wMk, wCm, wCb, wMt, wLm⟩ := id hW
  refine Cal.mk (n := 7) rfl (Nat.le_of_ble_eq_true rfl) rfl ?_
  unfold f_r_minute
  refine Ev.ps 6 rfl ?_
  have L9 : ∀ (k9 j9 : Nat) (bh : Option Nat) (bf : Option Nat), j9 + k9 = rEnt R → (∀ k, bh = some k → k < rEnt R) → (∀ k, bf = some k → k < rEnt R) → Ev (d + 2) (143, 9, [some (vR 9 0), some (vI (nI mc)), some (vI D), some (vI M), some (vI (oI bh)), some (vI (oI bf)), some (vI (nI j9))], []) (enc C (urThr R t) W) ((.inl (some (vI (r_minute_L9 R mc D M k9 j9 bh bf)))), enc C (urThr R t) W) := by
    intro k9
    induction k9 with
    | zero =>
      intro j9 bh bf hj9 hbh hbf
      rw [r_minute_L9]
      refine Ev.ps 2 rfl ?_
      refine Ev.getf (v := vI (nI (rEnt R))) (by rfl) (by rfl) (by rfl) (g9) rfl ?_
      refine Ev.igeN (a := j9) (b := (rEnt R)) (by omega) (by omega) (by rfl) (by rfl) (fun (c1 : j9 < rEnt R) => ?_) (fun (c1 : ¬ j9 < rEnt R) => ?_)
      · exfalso; omega
      · refine Ev.ps 2 rfl ?_
        cases bh with
        | none =>
          dsimp only [oE]
          refine Ev.icmp (by rfl) (by rfl) (fun _ => ?_) (fun z => by exact absurd z (by decide))
          refine Ev.ps 3 rfl ?_
          refine Ev.ifi (by rfl) (by rfl) (fun _ => ?_) (fun z => by exact absurd z (by decide))
          refine Ev.ps 1 rfl ?_
          exact Ev.re rfl rfl rfl rfl rfl
        | some k2 =>
          dsimp only [oE]
          refine Ev.icmp (by rfl) (by rfl) (fun z => by exact absurd (of_decide_eq_true z) (nI_nm1 (by have := hbh _ rfl; omega))) (fun _ => ?_)
          refine Ev.ps 2 rfl ?_
          cases bf with
          | none =>
            dsimp only [oE]
            refine Ev.icmp (by rfl) (by rfl) (fun _ => ?_) (fun z => by exact absurd z (by decide))
            refine Ev.ps 3 rfl ?_
            refine Ev.ifi (by rfl) (by rfl) (fun _ => ?_) (fun z => by exact absurd z (by decide))
            refine Ev.ps 1 rfl ?_
            exact Ev.re rfl rfl rfl rfl rfl
          | some k4 =>
            dsimp only [oE]
            refine Ev.icmp (by rfl) (by rfl) (fun z => by exact absurd (of_decide_eq_true z) (nI_nm1 (by have := hbf _ rfl; omega))) (fun _ => ?_)
            refine Ev.ps 1 rfl ?_
            refine Ev.getf (v := vR 35 0) (by rfl) (by rfl) (by rfl) (g9) rfl ?_
            refine Ev.ps 1 rfl ?_
            refine Ev.aiI (k := k2) (v := vI (rSt R k2)) (by rfl) (by decide) (g35) (by omega) (by have := hbh _ rfl; omega) rfl ?_
            refine Ev.ps 5 rfl ?_
            refine Ev.getf (v := vR 37 0) (by rfl) (by rfl) (by rfl) (g9) rfl ?_
            refine Ev.ps 1 rfl ?_
            refine Ev.aiC (k := k4) (v := vI (rWk R k4)) (by rfl) (by decide) (g37) (by omega) (by have := hbf _ rfl; omega) rfl ?_
            refine Ev.ps 1 rfl ?_
            refine Ev.getf (v := vR 37 0) (by rfl) (by rfl) (by rfl) (g9) rfl ?_
            refine Ev.ps 1 rfl ?_
            refine Ev.aiC (k := k2) (v := vI (rWk R k2)) (by rfl) (by decide) (g37) (by omega) (by have := hbh _ rfl; omega) rfl ?_
            refine Ev.vir (as := [vI (nI mc), vI (rWk R k4), vI (rWk R k2)]) (rest := [vI ((rSt R k2) - M)]) (by rfl) (by rfl) (by rfl) (by rfl) rfl (Nat.le_of_ble_eq_true rfl) (by rfl) (by rw [g9]; rfl) (s_r_setup (by omega)) ?_
            refine Ev.igt (by rfl) (by rfl) (fun (c6 : f_r_setup R mc (rWk R k4) (rWk R k2) < (rSt R k2) - M) => ?_) (fun (c6 : ¬ f_r_setup R mc (rWk R k4) (rWk R k2) < (rSt R k2) - M) => ?_)
            · rw [if_pos c6]
              refine Ev.ps 3 rfl ?_
              refine Ev.ifi (by rfl) (by rfl) (fun _ => ?_) (fun z => by exact absurd z (by decide))
              refine Ev.ps 1 rfl ?_
              exact Ev.re rfl rfl rfl rfl rfl
            · rw [if_neg c6]
              refine Ev.ps 4 rfl ?_
              refine Ev.ifi (by rfl) (by rfl) (fun z => by exact absurd z (by decide)) (fun _ => ?_)
              refine Ev.ps 2 rfl ?_
              exact Ev.re rfl rfl rfl rfl rfl
    | succ k9 ih9 =>
      intro j9 bh bf hj9 hbh hbf
      rw [r_minute_L9]
      refine Ev.ps 2 rfl ?_
      refine Ev.getf (v := vI (nI (rEnt R))) (by rfl) (by rfl) (by rfl) (g9) rfl ?_
      refine Ev.igeN (a := j9) (b := (rEnt R)) (by omega) (by omega) (by rfl) (by rfl) (fun (c7 : j9 < rEnt R) => ?_) (fun (c7 : ¬ j9 < rEnt R) => ?_)
      · refine Ev.ps 4 rfl ?_
        refine Ev.vir (as := [vI (nI j9), vI (nI mc), vI D]) (rest := []) (by rfl) (by rfl) (by rfl) (by rfl) rfl (Nat.le_of_ble_eq_true rfl) (by rfl) (by rw [g9]; rfl) (s_r_stands hW (by omega) (by omega)) ?_
        refine Ev.ifbe (by rfl) (by rfl) (fun c8 => ?_) (fun c8 => ?_)
        · rw [if_pos c8]
          refine Ev.ps 2 rfl ?_
          refine Ev.getf (v := vR 35 0) (by rfl) (by rfl) (by rfl) (g9) rfl ?_
          refine Ev.ps 1 rfl ?_
          refine Ev.aiI (k := j9) (v := vI (rSt R j9)) (by rfl) (by decide) (g35) (by omega) (by omega) rfl ?_
          refine Ev.ps 2 rfl ?_
          refine Ev.vir (as := [vI (nI j9)]) (rest := [vI (rSt R j9), vI M]) (by rfl) (by rfl) (by rfl) (by rfl) rfl (Nat.le_of_ble_eq_true rfl) (by rfl) (by rw [g9]; rfl) (s_r_endOf (by omega)) ?_
          refine Ev.ps 2 rfl ?_
          refine Ev.sta (as := [vI M, vI (rSt R j9), vI ((f_r_endOf R j9) - 1)]) (rest := []) (by rfl) (by rfl) (by rfl) (by rfl) rfl (Nat.le_of_ble_eq_true rfl) (s_r_in ) ?_
          refine Ev.ifbe (by rfl) (by rfl) (fun c9 => ?_) (fun c9 => ?_)
          · rw [if_pos c9]
            refine Ev.ps 1 rfl ?_
            exact Ev.re rfl rfl rfl rfl rfl
          · rw [if_neg c9]
            refine Ev.ps 1 rfl ?_
            refine Ev.getf (v := vR 35 0) (by rfl) (by rfl) (by rfl) (g9) rfl ?_
            refine Ev.ps 1 rfl ?_
            refine Ev.aiI (k := j9) (v := vI (rSt R j9)) (by rfl) (by decide) (g35) (by omega) (by omega) rfl ?_
            refine Ev.ps 1 rfl ?_
            refine Ev.ile (by rfl) (by rfl) (fun (c10 : M < rSt R j9) => ?_) (fun (c10 : ¬ M < rSt R j9) => ?_)
            · rw [if_pos c10]
              refine Ev.ps 2 rfl ?_
              cases bh with
              | none =>
                dsimp only [oE]
                refine Ev.icmp (by rfl) (by rfl) (fun _ => ?_) (fun z => by exact absurd z (by decide))
                refine Ev.ps 6 rfl ?_
                have h9 := ih9 (j9 + 1) (some j9) bf (by show j9 + 1 + k9 = rEnt R; omega) (by intro k9 z9; first | exact hbh k9 z9 | (cases z9; omega)) (by intro k9 z9; first | exact hbf k9 z9 | (cases z9; omega))
                rw [← nI_1] at h9
                exact h9
              | some k11 =>
                dsimp only [oE]
                refine Ev.icmp (by rfl) (by rfl) (fun z => by exact absurd (of_decide_eq_true z) (nI_nm1 (by have := hbh _ rfl; omega))) (fun _ => ?_)
                refine Ev.ps 1 rfl ?_
                refine Ev.getf (v := vR 35 0) (by rfl) (by rfl) (by rfl) (g9) rfl ?_
                refine Ev.ps 1 rfl ?_
                refine Ev.aiI (k := j9) (v := vI (rSt R j9)) (by rfl) (by decide) (g35) (by omega) (by omega) rfl ?_
                refine Ev.ps 1 rfl ?_
                refine Ev.getf (v := vR 35 0) (by rfl) (by rfl) (by rfl) (g9) rfl ?_
                refine Ev.ps 1 rfl ?_
                refine Ev.aiI (k := k11) (v := vI (rSt R k11)) (by rfl) (by decide) (g35) (by omega) (by have := hbh _ rfl; omega) rfl ?_
                refine Ev.ige (by rfl) (by rfl) (fun (c13 : rSt R j9 < rSt R k11) => ?_) (fun (c13 : ¬ rSt R j9 < rSt R k11) => ?_)
                · rw [if_pos c13]
                  refine Ev.ps 6 rfl ?_
                  have h9 := ih9 (j9 + 1) (some j9) bf (by show j9 + 1 + k9 = rEnt R; omega) (by intro k9 z9; first | exact hbh k9 z9 | (cases z9; omega)) (by intro k9 z9; first | exact hbf k9 z9 | (cases z9; omega))
                  rw [← nI_1] at h9
                  exact h9
                · rw [if_neg c13]
                  refine Ev.ps 5 rfl ?_
                  have h9 := ih9 (j9 + 1) (some k11) bf (by show j9 + 1 + k9 = rEnt R; omega) (by intro k9 z9; first | exact hbh k9 z9 | (cases z9; omega)) (by intro k9 z9; first | exact hbf k9 z9 | (cases z9; omega))
                  rw [← nI_1] at h9
                  exact h9
            · rw [if_neg c10]
              refine Ev.ps 2 rfl ?_
              cases bf with
              | none =>
                dsimp only [oE]
                refine Ev.icmp (by rfl) (by rfl) (fun _ => ?_) (fun z => by exact absurd z (by decide))
                refine Ev.ps 5 rfl ?_
                have h9 := ih9 (j9 + 1) bh (some j9) (by show j9 + 1 + k9 = rEnt R; omega) (by intro k9 z9; first | exact hbh k9 z9 | (cases z9; omega)) (by intro k9 z9; first | exact hbf k9 z9 | (cases z9; omega))
                rw [← nI_1] at h9
                exact h9
              | some k14 =>
                dsimp only [oE]
                refine Ev.icmp (by rfl) (by rfl) (fun z => by exact absurd (of_decide_eq_true z) (nI_nm1 (by have := hbf _ rfl; omega))) (fun _ => ?_)
                refine Ev.ps 1 rfl ?_
                refine Ev.getf (v := vR 35 0) (by rfl) (by rfl) (by rfl) (g9) rfl ?_
                refine Ev.ps 1 rfl ?_
                refine Ev.aiI (k := j9) (v := vI (rSt R j9)) (by rfl) (by decide) (g35) (by omega) (by omega) rfl ?_
                refine Ev.ps 1 rfl ?_
                refine Ev.getf (v := vR 35 0) (by rfl) (by rfl) (by rfl) (g9) rfl ?_
                refine Ev.ps 1 rfl ?_
                refine Ev.aiI (k := k14) (v := vI (rSt R k14)) (by rfl) (by decide) (g35) (by omega) (by have := hbf _ rfl; omega) rfl ?_
                refine Ev.ile (by rfl) (by rfl) (fun (c16 : rSt R k14 < rSt R j9) => ?_) (fun (c16 : ¬ rSt R k14 < rSt R j9) => ?_)
                · rw [if_pos c16]
                  refine Ev.ps 5 rfl ?_
                  have h9 := ih9 (j9 + 1) bh (some j9) (by show j9 + 1 + k9 = rEnt R; omega) (by intro k9 z9; first | exact hbh k9 z9 | (cases z9; omega)) (by intro k9 z9; first | exact hbf k9 z9 | (cases z9; omega))
                  rw [← nI_1] at h9
                  exact h9
                · rw [if_neg c16]
                  refine Ev.ps 4 rfl ?_
                  have h9 := ih9 (j9 + 1) bh (some k14) (by show j9 + 1 + k9 = rEnt R; omega) (by intro k9 z9; first | exact hbh k9 z9 | (cases z9; omega)) (by intro k9 z9; first | exact hbf k9 z9 | (cases z9; omega))
                  rw [← nI_1] at h9
                  exact h9
        · rw [if_neg c8]
          refine Ev.ps 2 rfl ?_
          have h9 := ih9 (j9 + 1) bh bf (by show j9 + 1 + k9 = rEnt R; omega) (by intro k9 z9; first | exact hbh k9 z9 | (cases z9; omega)) (by intro k9 z9; first | exact hbf k9 z9 | (cases z9; omega))
          rw [← nI_1] at h9
          exact h9
      · exfalso; omega
  exact L9 (rEnt R) 0 none none (by show 0 + rEnt R = rEnt R; omega) (fun _ z => nomatch z) (fun _ z => nomatch z)
def r_minutes_L6 (R : RD) (mc : Nat) (D : Int32) (w : Int32) : Nat → Nat → Int32 → Int32
  | 0, j6, sum =>
    sum
  | k6 + 1, j6, sum =>
    if f_r_minute R mc D (nI j6) = w then r_minutes_L6 R mc D w k6 (j6 + 1) (sum + 1) else r_minutes_L6 R mc D w k6 (j6 + 1) (sum + 0)
def f_r_minutes (R : RD) (mc : Nat) (D w : Int32) : Int32 :=
  r_minutes_L6 R mc D w 480 0 0
theorem s_r_minutes {d : Nat} {t : Int32} {W : WD} {C : CD} {R : RD} {mc : Nat} {D : Int32} {w : Int32} (hW : WfR R) (hm : mc < 6) : Cal (d + 3) 146 [vR 9 0, vI (nI mc), vI D, vI w] (enc C (urThr R t) W) (.inl (some (vI (f_r_minutes R mc D w)))) (enc C (urThr R t) W) := by
  obtain ⟨wMac, wMem, wEnt, wBar, wBrk, wOw, wMo, wMk, wCm, wCb, wMt, wLm⟩ := id hW
  refine Cal.mk (n := 6) rfl (Nat.le_of_ble_eq_true rfl) rfl ?_
  unfold f_r_minutes
  refine Ev.ps 4 rfl ?_
  have L6 : ∀ (k6 j6 : Nat) (sum : Int32), j6 + k6 = 480 → Ev (d + 3) (146, 6, [some (vR 9 0), some (vI (nI mc)), some (vI D), some (vI w), some (vI sum), some (vI (nI j6))], []) (enc C (urThr R t) W) ((.inl (some (vI (r_minutes_L6 R mc D w k6 j6 sum)))), enc C (urThr R t) W) := by
    intro k6
    induction k6 with
    | zero =>
      intro j6 sum hj6
      rw [r_minutes_L6]
      refine Ev.ps 2 rfl ?_
      refine Ev.igeN (a := j6) (b := 480) (by omega) (by omega) (by rfl) (by rfl) (fun (c1 : j6 < 480) => ?_) (fun (c1 : ¬ j6 < 480) => ?_)
      · exfalso; omega
      · refine Ev.ps 1 rfl ?_
        exact Ev.re rfl rfl rfl rfl rfl
    | succ k6 ih6 =>
      intro j6 sum hj6
      rw [r_minutes_L6]
      refine Ev.ps 2 rfl ?_
      refine Ev.igeN (a := j6) (b := 480) (by omega) (by omega) (by rfl) (by rfl) (fun (c2 : j6 < 480) => ?_) (fun (c2 : ¬ j6 < 480) => ?_)
      · refine Ev.ps 5 rfl ?_
        refine Ev.vir (as := [vI (nI mc), vI D, vI (nI j6)]) (rest := [vI sum]) (by rfl) (by rfl) (by rfl) (by rfl) rfl (Nat.le_of_ble_eq_true rfl) (by rfl) (by rw [g9]; rfl) (s_r_minute hW (by omega)) ?_
        refine Ev.ps 1 rfl ?_
        refine Ev.ine (by rfl) (by rfl) (fun (c3 : f_r_minute R mc D (nI j6) = w) => ?_) (fun (c3 : ¬ f_r_minute R mc D (nI j6) = w) => ?_)
        · rw [if_pos c3]
          refine Ev.ps 6 rfl ?_
          have h9 := ih6 (j6 + 1) (sum + 1) (by show j6 + 1 + k6 = 480; omega)
          rw [← nI_1] at h9
          exact h9
        · rw [if_neg c3]
          refine Ev.ps 5 rfl ?_
          have h9 := ih6 (j6 + 1) (sum + 0) (by show j6 + 1 + k6 = 480; omega)
          rw [← nI_1] at h9
          exact h9
      · exfalso; omega
  exact L6 480 0 0 (by show 0 + 480 = 480; omega)
def r_used_L5 (R : RD) (mc : Nat) (D : Int32) : Nat → Nat → Int32 → Int32
  | 0, j5, sum =>
    sum
  | k5 + 1, j5, sum =>
    if f_r_stands R j5 mc D then r_used_L5 R mc D k5 (j5 + 1) (sum + (rLe R j5)) else r_used_L5 R mc D k5 (j5 + 1) (sum + 0)
def f_r_used (R : RD) (mc : Nat) (D : Int32) : Int32 :=
  r_used_L5 R mc D (rEnt R) 0 0
theorem s_r_used {d : Nat} {t : Int32} {W : WD} {C : CD} {R : RD} {mc : Nat} {D : Int32} (hW : WfR R) (hm : mc < 6) : Cal (d + 1) 147 [vR 9 0, vI (nI mc), vI D] (enc C (urThr R t) W) (.inl (some (vI (f_r_used R mc D)))) (enc C (urThr R t) W) := by
  obtain ⟨wMac, wMem, wEnt, wBar, wBrk, wOw, wMo, wMk, wCm, wCb, wMt, wLm⟩ := id hW
  refine Cal.mk (n := 5) rfl (Nat.le_of_ble_eq_true rfl) rfl ?_
  unfold f_r_used
  refine Ev.ps 4 rfl ?_
  have L5 : ∀ (k5 j5 : Nat) (sum : Int32), j5 + k5 = rEnt R → Ev (d + 1) (147, 5, [some (vR 9 0), some (vI (nI mc)), some (vI D), some (vI sum), some (vI (nI j5))], []) (enc C (urThr R t) W) ((.inl (some (vI (r_used_L5 R mc D k5 j5 sum)))), enc C (urThr R t) W) := by
    intro k5
    induction k5 with
    | zero =>
      intro j5 sum hj5
      rw [r_used_L5]
      refine Ev.ps 2 rfl ?_
      refine Ev.getf (v := vI (nI (rEnt R))) (by rfl) (by rfl) (by rfl) (g9) rfl ?_
      refine Ev.igeN (a := j5) (b := (rEnt R)) (by omega) (by omega) (by rfl) (by rfl) (fun (c1 : j5 < rEnt R) => ?_) (fun (c1 : ¬ j5 < rEnt R) => ?_)
      · exfalso; omega
      · refine Ev.ps 1 rfl ?_
        exact Ev.re rfl rfl rfl rfl rfl
    | succ k5 ih5 =>
      intro j5 sum hj5
      rw [r_used_L5]
      refine Ev.ps 2 rfl ?_
      refine Ev.getf (v := vI (nI (rEnt R))) (by rfl) (by rfl) (by rfl) (g9) rfl ?_
      refine Ev.igeN (a := j5) (b := (rEnt R)) (by omega) (by omega) (by rfl) (by rfl) (fun (c2 : j5 < rEnt R) => ?_) (fun (c2 : ¬ j5 < rEnt R) => ?_)
      · refine Ev.ps 5 rfl ?_
        refine Ev.vir (as := [vI (nI j5), vI (nI mc), vI D]) (rest := [vI sum]) (by rfl) (by rfl) (by rfl) (by rfl) rfl (Nat.le_of_ble_eq_true rfl) (by rfl) (by rw [g9]; rfl) (s_r_stands hW (by omega) (by omega)) ?_
        refine Ev.ifbe (by rfl) (by rfl) (fun c3 => ?_) (fun c3 => ?_)
        · rw [if_pos c3]
          refine Ev.ps 1 rfl ?_
          refine Ev.getf (v := vR 36 0) (by rfl) (by rfl) (by rfl) (g9) rfl ?_
          refine Ev.ps 1 rfl ?_
          refine Ev.aiI (k := j5) (v := vI (rLe R j5)) (by rfl) (by decide) (g36) (by omega) (by omega) rfl ?_
          refine Ev.ps 5 rfl ?_
          have h9 := ih5 (j5 + 1) (sum + (rLe R j5)) (by show j5 + 1 + k5 = rEnt R; omega)
          rw [← nI_1] at h9
          exact h9
        · rw [if_neg c3]
          refine Ev.ps 5 rfl ?_
          have h9 := ih5 (j5 + 1) (sum + 0) (by show j5 + 1 + k5 = rEnt R; omega)
          rw [← nI_1] at h9
          exact h9
      · exfalso; omega
  exact L5 (rEnt R) 0 0 (by show 0 + rEnt R = rEnt R; omega)
def f_r_isWork (w : Int32) : Bool :=
  if w = 97 then true else if w = 98 then true else if w = 99 then true else false
theorem s_r_isWork {d : Nat} {t : Int32} {W : WD} {R : RD} {C : CD} {w : Int32}  : Cal (d + 0) 132 [vI w] (enc C (urThr R t) W) (.inl (some (vI (bI (f_r_isWork w))))) (enc C (urThr R t) W) := by
  refine Cal.mk (n := 1) rfl (Nat.le_of_ble_eq_true rfl) rfl ?_
  unfold f_r_isWork
  refine Ev.ps 2 rfl ?_
  refine Ev.ieq (by rfl) (by rfl) (fun (c1 : w = 97) => ?_) (fun (c1 : ¬ w = 97) => ?_)
  · rw [if_pos c1]
    refine Ev.ps 2 rfl ?_
    exact Ev.re rfl rfl rfl rfl rfl
  · rw [if_neg c1]
    refine Ev.ps 2 rfl ?_
    refine Ev.ieq (by rfl) (by rfl) (fun (c2 : w = 98) => ?_) (fun (c2 : ¬ w = 98) => ?_)
    · rw [if_pos c2]
      refine Ev.ps 2 rfl ?_
      exact Ev.re rfl rfl rfl rfl rfl
    · rw [if_neg c2]
      refine Ev.ps 2 rfl ?_
      refine Ev.ine (by rfl) (by rfl) (fun (c3 : w = 99) => ?_) (fun (c3 : ¬ w = 99) => ?_)
      · rw [if_pos c3]
        refine Ev.ps 2 rfl ?_
        exact Ev.re rfl rfl rfl rfl rfl
      · rw [if_neg c3]
        refine Ev.ps 1 rfl ?_
        exact Ev.re rfl rfl rfl rfl rfl
