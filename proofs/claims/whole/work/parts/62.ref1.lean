/-! the reference's methods that only read (written by gref1.py) -/
/-- the reference's numbers are in range -/
def WfR (mac mem ent bar brk : Nat) (ow mo mk cm : Nat → Nat) (cb : Nat → Nat → Nat) (mt lm : Nat → Nat) : Prop := mac ≤ 6 ∧ mem ≤ 10 ∧ ent ≤ 150 ∧ bar ≤ 30 ∧ brk ≤ 20 ∧ (∀ e, ow e < 10) ∧ (∀ e, mo e < 6) ∧ (∀ k, mk k < 4) ∧ (∀ e, cm e ≤ 5) ∧ (∀ e k, cb e k < 30) ∧ (∀ b, mt b < 3) ∧ (∀ k, 1 ≤ lm k ∧ lm k ≤ 6)
def f_r_in  (v lo hi : Int32) : Bool :=
  if v < lo then false else if hi < v then false else true
theorem s_r_in {d : Nat} {W : WD} {aMk : Nat → Nat} {aSu : Nat → Int32} {aMac : Nat} {aMem : Nat} {aTk : Nat → Nat → Int32} {aPaid : Nat → Int64} {aNd : Nat → Nat → Bool} {aDay : Int32} {aOw : Nat → Nat} {aMo : Nat → Nat} {aDy : Nat → Int32} {aSt : Nat → Int32} {aLe : Nat → Int32} {aWk : Nat → Int32} {aSta : Nat → Int32} {aDue : Nat → Int32} {aCm : Nat → Nat} {aCb : Nat → Nat → Nat} {aCl : Nat → Nat → Int32} {aEnt : Nat} {aMt : Nat → Nat} {aBl : Nat → Int32} {aBar : Nat} {aPr : Nat → Int32} {aLs : Nat → Nat → Int32} {aLnum : Nat → Nat → Int32} {aLm : Nat → Nat} {aSh : Nat → Nat → Int32} {aBrk : Nat} {aThr : Int32} {C : CD} {v : Int32} {lo : Int32} {hi : Int32}  : Cal (d + 0) 111 [vI v, vI lo, vI hi] (enc C (mkR aMk aSu aMac aMem aTk aPaid aNd aDay aOw aMo aDy aSt aLe aWk aSta aDue aCm aCb aCl aEnt aMt aBl aBar aPr aLs aLnum aLm aSh aBrk aThr) W) (.inl (some (vI (bI (f_r_in  v lo hi))))) (enc C (mkR aMk aSu aMac aMem aTk aPaid aNd aDay aOw aMo aDy aSt aLe aWk aSta aDue aCm aCb aCl aEnt aMt aBl aBar aPr aLs aLnum aLm aSh aBrk aThr) W) := by
  refine Cal.mk (n := 3) rfl (Nat.le_of_ble_eq_true rfl) rfl ?_
  unfold f_r_in
  refine Ev.ps 2 rfl ?_
  refine Ev.ilt (by rfl) (by rfl) (fun (c1 : v < lo) => ?_) (fun (c1 : ¬ v < lo) => ?_)
  · rw [if_pos c1]
    refine Ev.ps 1 rfl ?_
    exact Ev.re rfl rfl rfl rfl rfl
  · rw [if_neg c1]
    refine Ev.ps 2 rfl ?_
    refine Ev.igt (by rfl) (by rfl) (fun (c2 : hi < v) => ?_) (fun (c2 : ¬ hi < v) => ?_)
    · rw [if_pos c2]
      refine Ev.ps 1 rfl ?_
      exact Ev.re rfl rfl rfl rfl rfl
    · rw [if_neg c2]
      refine Ev.ps 2 rfl ?_
      exact Ev.re rfl rfl rfl rfl rfl
def f_r_isKind  (v : Int32) : Bool :=
  f_r_in v 0 3
theorem s_r_isKind {d : Nat} {W : WD} {aMk : Nat → Nat} {aSu : Nat → Int32} {aMac : Nat} {aMem : Nat} {aTk : Nat → Nat → Int32} {aPaid : Nat → Int64} {aNd : Nat → Nat → Bool} {aDay : Int32} {aOw : Nat → Nat} {aMo : Nat → Nat} {aDy : Nat → Int32} {aSt : Nat → Int32} {aLe : Nat → Int32} {aWk : Nat → Int32} {aSta : Nat → Int32} {aDue : Nat → Int32} {aCm : Nat → Nat} {aCb : Nat → Nat → Nat} {aCl : Nat → Nat → Int32} {aEnt : Nat} {aMt : Nat → Nat} {aBl : Nat → Int32} {aBar : Nat} {aPr : Nat → Int32} {aLs : Nat → Nat → Int32} {aLnum : Nat → Nat → Int32} {aLm : Nat → Nat} {aSh : Nat → Nat → Int32} {aBrk : Nat} {aThr : Int32} {C : CD} {v : Int32}  : Cal (d + 1) 112 [vI v] (enc C (mkR aMk aSu aMac aMem aTk aPaid aNd aDay aOw aMo aDy aSt aLe aWk aSta aDue aCm aCb aCl aEnt aMt aBl aBar aPr aLs aLnum aLm aSh aBrk aThr) W) (.inl (some (vI (bI (f_r_isKind  v))))) (enc C (mkR aMk aSu aMac aMem aTk aPaid aNd aDay aOw aMo aDy aSt aLe aWk aSta aDue aCm aCb aCl aEnt aMt aBl aBar aPr aLs aLnum aLm aSh aBrk aThr) W) := by
  refine Cal.mk (n := 1) rfl (Nat.le_of_ble_eq_true rfl) rfl ?_
  unfold f_r_isKind
  refine Ev.ps 3 rfl ?_
  refine Ev.sta (as := [vI v, vI 0, vI 3]) (rest := []) (by rfl) (by rfl) (by rfl) (by rfl) rfl (Nat.le_of_ble_eq_true rfl) (s_r_in ) ?_
  exact Ev.re rfl rfl rfl rfl (rstB rfl)
def f_r_isMember (aMem : Nat) (v : Int32) : Bool :=
  f_r_in v 0 ((nI aMem) - 1)
theorem s_r_isMember {d : Nat} {W : WD} {aMk : Nat → Nat} {aSu : Nat → Int32} {aMac : Nat} {aMem : Nat} {aTk : Nat → Nat → Int32} {aPaid : Nat → Int64} {aNd : Nat → Nat → Bool} {aDay : Int32} {aOw : Nat → Nat} {aMo : Nat → Nat} {aDy : Nat → Int32} {aSt : Nat → Int32} {aLe : Nat → Int32} {aWk : Nat → Int32} {aSta : Nat → Int32} {aDue : Nat → Int32} {aCm : Nat → Nat} {aCb : Nat → Nat → Nat} {aCl : Nat → Nat → Int32} {aEnt : Nat} {aMt : Nat → Nat} {aBl : Nat → Int32} {aBar : Nat} {aPr : Nat → Int32} {aLs : Nat → Nat → Int32} {aLnum : Nat → Nat → Int32} {aLm : Nat → Nat} {aSh : Nat → Nat → Int32} {aBrk : Nat} {aThr : Int32} {C : CD} {v : Int32}  : Cal (d + 1) 113 [vR 9 0, vI v] (enc C (mkR aMk aSu aMac aMem aTk aPaid aNd aDay aOw aMo aDy aSt aLe aWk aSta aDue aCm aCb aCl aEnt aMt aBl aBar aPr aLs aLnum aLm aSh aBrk aThr) W) (.inl (some (vI (bI (f_r_isMember aMem v))))) (enc C (mkR aMk aSu aMac aMem aTk aPaid aNd aDay aOw aMo aDy aSt aLe aWk aSta aDue aCm aCb aCl aEnt aMt aBl aBar aPr aLs aLnum aLm aSh aBrk aThr) W) := by
  refine Cal.mk (n := 2) rfl (Nat.le_of_ble_eq_true rfl) rfl ?_
  unfold f_r_isMember
  refine Ev.ps 3 rfl ?_
  refine Ev.getf (v := vI (nI aMem)) (by rfl) (by rfl) (by rfl) (rd9) rfl ?_
  refine Ev.ps 2 rfl ?_
  refine Ev.sta (as := [vI v, vI 0, vI ((nI aMem) - 1)]) (rest := []) (by rfl) (by rfl) (by rfl) (by rfl) rfl (Nat.le_of_ble_eq_true rfl) (s_r_in ) ?_
  exact Ev.re rfl rfl rfl rfl (rstB rfl)
def f_r_isMachine (aMac : Nat) (v : Int32) : Bool :=
  f_r_in v 0 ((nI aMac) - 1)
theorem s_r_isMachine {d : Nat} {W : WD} {aMk : Nat → Nat} {aSu : Nat → Int32} {aMac : Nat} {aMem : Nat} {aTk : Nat → Nat → Int32} {aPaid : Nat → Int64} {aNd : Nat → Nat → Bool} {aDay : Int32} {aOw : Nat → Nat} {aMo : Nat → Nat} {aDy : Nat → Int32} {aSt : Nat → Int32} {aLe : Nat → Int32} {aWk : Nat → Int32} {aSta : Nat → Int32} {aDue : Nat → Int32} {aCm : Nat → Nat} {aCb : Nat → Nat → Nat} {aCl : Nat → Nat → Int32} {aEnt : Nat} {aMt : Nat → Nat} {aBl : Nat → Int32} {aBar : Nat} {aPr : Nat → Int32} {aLs : Nat → Nat → Int32} {aLnum : Nat → Nat → Int32} {aLm : Nat → Nat} {aSh : Nat → Nat → Int32} {aBrk : Nat} {aThr : Int32} {C : CD} {v : Int32}  : Cal (d + 1) 114 [vR 9 0, vI v] (enc C (mkR aMk aSu aMac aMem aTk aPaid aNd aDay aOw aMo aDy aSt aLe aWk aSta aDue aCm aCb aCl aEnt aMt aBl aBar aPr aLs aLnum aLm aSh aBrk aThr) W) (.inl (some (vI (bI (f_r_isMachine aMac v))))) (enc C (mkR aMk aSu aMac aMem aTk aPaid aNd aDay aOw aMo aDy aSt aLe aWk aSta aDue aCm aCb aCl aEnt aMt aBl aBar aPr aLs aLnum aLm aSh aBrk aThr) W) := by
  refine Cal.mk (n := 2) rfl (Nat.le_of_ble_eq_true rfl) rfl ?_
  unfold f_r_isMachine
  refine Ev.ps 3 rfl ?_
  refine Ev.getf (v := vI (nI aMac)) (by rfl) (by rfl) (by rfl) (rd9) rfl ?_
  refine Ev.ps 2 rfl ?_
  refine Ev.sta (as := [vI v, vI 0, vI ((nI aMac) - 1)]) (rest := []) (by rfl) (by rfl) (by rfl) (by rfl) rfl (Nat.le_of_ble_eq_true rfl) (s_r_in ) ?_
  exact Ev.re rfl rfl rfl rfl (rstB rfl)
def f_r_isEntry (aEnt : Nat) (v : Int32) : Bool :=
  f_r_in v 0 ((nI aEnt) - 1)
theorem s_r_isEntry {d : Nat} {W : WD} {aMk : Nat → Nat} {aSu : Nat → Int32} {aMac : Nat} {aMem : Nat} {aTk : Nat → Nat → Int32} {aPaid : Nat → Int64} {aNd : Nat → Nat → Bool} {aDay : Int32} {aOw : Nat → Nat} {aMo : Nat → Nat} {aDy : Nat → Int32} {aSt : Nat → Int32} {aLe : Nat → Int32} {aWk : Nat → Int32} {aSta : Nat → Int32} {aDue : Nat → Int32} {aCm : Nat → Nat} {aCb : Nat → Nat → Nat} {aCl : Nat → Nat → Int32} {aEnt : Nat} {aMt : Nat → Nat} {aBl : Nat → Int32} {aBar : Nat} {aPr : Nat → Int32} {aLs : Nat → Nat → Int32} {aLnum : Nat → Nat → Int32} {aLm : Nat → Nat} {aSh : Nat → Nat → Int32} {aBrk : Nat} {aThr : Int32} {C : CD} {v : Int32}  : Cal (d + 1) 115 [vR 9 0, vI v] (enc C (mkR aMk aSu aMac aMem aTk aPaid aNd aDay aOw aMo aDy aSt aLe aWk aSta aDue aCm aCb aCl aEnt aMt aBl aBar aPr aLs aLnum aLm aSh aBrk aThr) W) (.inl (some (vI (bI (f_r_isEntry aEnt v))))) (enc C (mkR aMk aSu aMac aMem aTk aPaid aNd aDay aOw aMo aDy aSt aLe aWk aSta aDue aCm aCb aCl aEnt aMt aBl aBar aPr aLs aLnum aLm aSh aBrk aThr) W) := by
  refine Cal.mk (n := 2) rfl (Nat.le_of_ble_eq_true rfl) rfl ?_
  unfold f_r_isEntry
  refine Ev.ps 3 rfl ?_
  refine Ev.getf (v := vI (nI aEnt)) (by rfl) (by rfl) (by rfl) (rd9) rfl ?_
  refine Ev.ps 2 rfl ?_
  refine Ev.sta (as := [vI v, vI 0, vI ((nI aEnt) - 1)]) (rest := []) (by rfl) (by rfl) (by rfl) (by rfl) rfl (Nat.le_of_ble_eq_true rfl) (s_r_in ) ?_
  exact Ev.re rfl rfl rfl rfl (rstB rfl)
def f_r_endOf (aLe : Nat → Int32) (aSt : Nat → Int32) (e : Nat) : Int32 :=
  (aSt e) + (aLe e)
theorem s_r_endOf {d : Nat} {W : WD} {aMk : Nat → Nat} {aSu : Nat → Int32} {aMac : Nat} {aMem : Nat} {aTk : Nat → Nat → Int32} {aPaid : Nat → Int64} {aNd : Nat → Nat → Bool} {aDay : Int32} {aOw : Nat → Nat} {aMo : Nat → Nat} {aDy : Nat → Int32} {aSt : Nat → Int32} {aLe : Nat → Int32} {aWk : Nat → Int32} {aSta : Nat → Int32} {aDue : Nat → Int32} {aCm : Nat → Nat} {aCb : Nat → Nat → Nat} {aCl : Nat → Nat → Int32} {aEnt : Nat} {aMt : Nat → Nat} {aBl : Nat → Int32} {aBar : Nat} {aPr : Nat → Int32} {aLs : Nat → Nat → Int32} {aLnum : Nat → Nat → Int32} {aLm : Nat → Nat} {aSh : Nat → Nat → Int32} {aBrk : Nat} {aThr : Int32} {C : CD} {e : Nat} (he : e < 150) : Cal (d + 0) 125 [vR 9 0, vI (nI e)] (enc C (mkR aMk aSu aMac aMem aTk aPaid aNd aDay aOw aMo aDy aSt aLe aWk aSta aDue aCm aCb aCl aEnt aMt aBl aBar aPr aLs aLnum aLm aSh aBrk aThr) W) (.inl (some (vI (f_r_endOf aLe aSt e)))) (enc C (mkR aMk aSu aMac aMem aTk aPaid aNd aDay aOw aMo aDy aSt aLe aWk aSta aDue aCm aCb aCl aEnt aMt aBl aBar aPr aLs aLnum aLm aSh aBrk aThr) W) := by
  refine Cal.mk (n := 2) rfl (Nat.le_of_ble_eq_true rfl) rfl ?_
  unfold f_r_endOf
  refine Ev.ps 1 rfl ?_
  refine Ev.getf (v := vR 35 0) (by rfl) (by rfl) (by rfl) (rd9) rfl ?_
  refine Ev.ps 1 rfl ?_
  refine Ev.aiI (k := e) (v := vI (aSt e)) (by rfl) (by decide) (rd35) (by omega) (by omega) rfl ?_
  refine Ev.ps 1 rfl ?_
  refine Ev.getf (v := vR 36 0) (by rfl) (by rfl) (by rfl) (rd9) rfl ?_
  refine Ev.ps 1 rfl ?_
  refine Ev.aiI (k := e) (v := vI (aLe e)) (by rfl) (by decide) (rd36) (by omega) (by omega) rfl ?_
  refine Ev.ps 1 rfl ?_
  exact Ev.re rfl rfl rfl rfl rfl
def f_r_overlaps (aDy : Nat → Int32) (aLe : Nat → Int32) (aSt : Nat → Int32) (aSta : Nat → Int32) (e : Nat) (D S M : Int32) : Bool :=
  if aSta e = 98 then if aDy e = D then if aSt e < S + M then if S < f_r_endOf aLe aSt e then true else false else false else false else false
theorem s_r_overlaps {d : Nat} {W : WD} {aMk : Nat → Nat} {aSu : Nat → Int32} {aMac : Nat} {aMem : Nat} {aTk : Nat → Nat → Int32} {aPaid : Nat → Int64} {aNd : Nat → Nat → Bool} {aDay : Int32} {aOw : Nat → Nat} {aMo : Nat → Nat} {aDy : Nat → Int32} {aSt : Nat → Int32} {aLe : Nat → Int32} {aWk : Nat → Int32} {aSta : Nat → Int32} {aDue : Nat → Int32} {aCm : Nat → Nat} {aCb : Nat → Nat → Nat} {aCl : Nat → Nat → Int32} {aEnt : Nat} {aMt : Nat → Nat} {aBl : Nat → Int32} {aBar : Nat} {aPr : Nat → Int32} {aLs : Nat → Nat → Int32} {aLnum : Nat → Nat → Int32} {aLm : Nat → Nat} {aSh : Nat → Nat → Int32} {aBrk : Nat} {aThr : Int32} {C : CD} {e : Nat} {D : Int32} {S : Int32} {M : Int32} (he : e < 150) : Cal (d + 1) 126 [vR 9 0, vI (nI e), vI D, vI S, vI M] (enc C (mkR aMk aSu aMac aMem aTk aPaid aNd aDay aOw aMo aDy aSt aLe aWk aSta aDue aCm aCb aCl aEnt aMt aBl aBar aPr aLs aLnum aLm aSh aBrk aThr) W) (.inl (some (vI (bI (f_r_overlaps aDy aLe aSt aSta e D S M))))) (enc C (mkR aMk aSu aMac aMem aTk aPaid aNd aDay aOw aMo aDy aSt aLe aWk aSta aDue aCm aCb aCl aEnt aMt aBl aBar aPr aLs aLnum aLm aSh aBrk aThr) W) := by
  refine Cal.mk (n := 5) rfl (Nat.le_of_ble_eq_true rfl) rfl ?_
  unfold f_r_overlaps
  refine Ev.ps 1 rfl ?_
  refine Ev.getf (v := vR 38 0) (by rfl) (by rfl) (by rfl) (rd9) rfl ?_
  refine Ev.ps 1 rfl ?_
  refine Ev.aiC (k := e) (v := vI (aSta e)) (by rfl) (by decide) (rd38) (by omega) (by omega) rfl ?_
  refine Ev.ps 1 rfl ?_
  refine Ev.ine (by rfl) (by rfl) (fun (c1 : aSta e = 98) => ?_) (fun (c1 : ¬ aSta e = 98) => ?_)
  · rw [if_pos c1]
    refine Ev.ps 1 rfl ?_
    refine Ev.getf (v := vR 34 0) (by rfl) (by rfl) (by rfl) (rd9) rfl ?_
    refine Ev.ps 1 rfl ?_
    refine Ev.aiI (k := e) (v := vI (aDy e)) (by rfl) (by decide) (rd34) (by omega) (by omega) rfl ?_
    refine Ev.ps 1 rfl ?_
    refine Ev.ine (by rfl) (by rfl) (fun (c2 : aDy e = D) => ?_) (fun (c2 : ¬ aDy e = D) => ?_)
    · rw [if_pos c2]
      refine Ev.ps 1 rfl ?_
      refine Ev.getf (v := vR 35 0) (by rfl) (by rfl) (by rfl) (rd9) rfl ?_
      refine Ev.ps 1 rfl ?_
      refine Ev.aiI (k := e) (v := vI (aSt e)) (by rfl) (by decide) (rd35) (by omega) (by omega) rfl ?_
      refine Ev.ps 3 rfl ?_
      refine Ev.ige (by rfl) (by rfl) (fun (c3 : aSt e < S + M) => ?_) (fun (c3 : ¬ aSt e < S + M) => ?_)
      · rw [if_pos c3]
        refine Ev.ps 3 rfl ?_
        refine Ev.vir (as := [vI (nI e)]) (rest := [vI S]) (by rfl) (by rfl) (by rfl) (by rfl) rfl (Nat.le_of_ble_eq_true rfl) (by rfl) (by rw [rd9]; rfl) (s_r_endOf (by omega)) ?_
        refine Ev.ige (by rfl) (by rfl) (fun (c4 : S < f_r_endOf aLe aSt e) => ?_) (fun (c4 : ¬ S < f_r_endOf aLe aSt e) => ?_)
        · rw [if_pos c4]
          refine Ev.ps 2 rfl ?_
          exact Ev.re rfl rfl rfl rfl rfl
        · rw [if_neg c4]
          refine Ev.ps 1 rfl ?_
          exact Ev.re rfl rfl rfl rfl rfl
      · rw [if_neg c3]
        refine Ev.ps 1 rfl ?_
        exact Ev.re rfl rfl rfl rfl rfl
    · rw [if_neg c2]
      refine Ev.ps 1 rfl ?_
      exact Ev.re rfl rfl rfl rfl rfl
  · rw [if_neg c1]
    refine Ev.ps 1 rfl ?_
    exact Ev.re rfl rfl rfl rfl rfl
def f_r_setup (aSu : Nat → Int32) (m : Nat) (a b : Int32) : Int32 :=
  if a = b then 0 else aSu m
theorem s_r_setup {d : Nat} {W : WD} {aMk : Nat → Nat} {aSu : Nat → Int32} {aMac : Nat} {aMem : Nat} {aTk : Nat → Nat → Int32} {aPaid : Nat → Int64} {aNd : Nat → Nat → Bool} {aDay : Int32} {aOw : Nat → Nat} {aMo : Nat → Nat} {aDy : Nat → Int32} {aSt : Nat → Int32} {aLe : Nat → Int32} {aWk : Nat → Int32} {aSta : Nat → Int32} {aDue : Nat → Int32} {aCm : Nat → Nat} {aCb : Nat → Nat → Nat} {aCl : Nat → Nat → Int32} {aEnt : Nat} {aMt : Nat → Nat} {aBl : Nat → Int32} {aBar : Nat} {aPr : Nat → Int32} {aLs : Nat → Nat → Int32} {aLnum : Nat → Nat → Int32} {aLm : Nat → Nat} {aSh : Nat → Nat → Int32} {aBrk : Nat} {aThr : Int32} {C : CD} {m : Nat} {a : Int32} {b : Int32} (hm : m < 6) : Cal (d + 0) 127 [vR 9 0, vI (nI m), vI a, vI b] (enc C (mkR aMk aSu aMac aMem aTk aPaid aNd aDay aOw aMo aDy aSt aLe aWk aSta aDue aCm aCb aCl aEnt aMt aBl aBar aPr aLs aLnum aLm aSh aBrk aThr) W) (.inl (some (vI (f_r_setup aSu m a b)))) (enc C (mkR aMk aSu aMac aMem aTk aPaid aNd aDay aOw aMo aDy aSt aLe aWk aSta aDue aCm aCb aCl aEnt aMt aBl aBar aPr aLs aLnum aLm aSh aBrk aThr) W) := by
  refine Cal.mk (n := 4) rfl (Nat.le_of_ble_eq_true rfl) rfl ?_
  unfold f_r_setup
  refine Ev.ps 2 rfl ?_
  refine Ev.ine (by rfl) (by rfl) (fun (c1 : a = b) => ?_) (fun (c1 : ¬ a = b) => ?_)
  · rw [if_pos c1]
    refine Ev.ps 2 rfl ?_
    exact Ev.re rfl rfl rfl rfl rfl
  · rw [if_neg c1]
    refine Ev.ps 1 rfl ?_
    refine Ev.getf (v := vR 26 0) (by rfl) (by rfl) (by rfl) (rd9) rfl ?_
    refine Ev.ps 1 rfl ?_
    refine Ev.aiI (k := m) (v := vI (aSu m)) (by rfl) (by decide) (rd26) (by omega) (by omega) rfl ?_
    exact Ev.re rfl rfl rfl rfl rfl
def f_r_stands (aDy : Nat → Int32) (aMo : Nat → Nat) (aSta : Nat → Int32) (e m : Nat) (D : Int32) : Bool :=
  if aSta e = 98 then
    if aMo e = m then if aDy e = D then true else false else false
  else
    if aSta e = 100 then if aMo e = m then if aDy e = D then true else false else false else false
theorem s_r_stands {d : Nat} {W : WD} {aMk : Nat → Nat} {aSu : Nat → Int32} {aMac : Nat} {aMem : Nat} {aTk : Nat → Nat → Int32} {aPaid : Nat → Int64} {aNd : Nat → Nat → Bool} {aDay : Int32} {aOw : Nat → Nat} {aMo : Nat → Nat} {aDy : Nat → Int32} {aSt : Nat → Int32} {aLe : Nat → Int32} {aWk : Nat → Int32} {aSta : Nat → Int32} {aDue : Nat → Int32} {aCm : Nat → Nat} {aCb : Nat → Nat → Nat} {aCl : Nat → Nat → Int32} {aEnt : Nat} {aMt : Nat → Nat} {aBl : Nat → Int32} {aBar : Nat} {aPr : Nat → Int32} {aLs : Nat → Nat → Int32} {aLnum : Nat → Nat → Int32} {aLm : Nat → Nat} {aSh : Nat → Nat → Int32} {aBrk : Nat} {aThr : Int32} {C : CD} {e : Nat} {m : Nat} {D : Int32} (hW : WfR aMac aMem aEnt aBar aBrk aOw aMo aMk aCm aCb aMt aLm) (he : e < 150) (hm : m < 6) : Cal (d + 0) 142 [vR 9 0, vI (nI e), vI (nI m), vI D] (enc C (mkR aMk aSu aMac aMem aTk aPaid aNd aDay aOw aMo aDy aSt aLe aWk aSta aDue aCm aCb aCl aEnt aMt aBl aBar aPr aLs aLnum aLm aSh aBrk aThr) W) (.inl (some (vI (bI (f_r_stands aDy aMo aSta e m D))))) (enc C (mkR aMk aSu aMac aMem aTk aPaid aNd aDay aOw aMo aDy aSt aLe aWk aSta aDue aCm aCb aCl aEnt aMt aBl aBar aPr aLs aLnum aLm aSh aBrk aThr) W) := by
  obtain ⟨wMac, wMem, wEnt, wBar, wBrk, wOw, wMo, wMk, wCm, wCb, wMt, wLm⟩ := id hW
  refine Cal.mk (n := 4) rfl (Nat.le_of_ble_eq_true rfl) rfl ?_
  unfold f_r_stands
  refine Ev.ps 1 rfl ?_
  refine Ev.getf (v := vR 38 0) (by rfl) (by rfl) (by rfl) (rd9) rfl ?_
  refine Ev.ps 1 rfl ?_
  refine Ev.aiC (k := e) (v := vI (aSta e)) (by rfl) (by decide) (rd38) (by omega) (by omega) rfl ?_
  refine Ev.ps 1 rfl ?_
  refine Ev.ieq (by rfl) (by rfl) (fun (c1 : aSta e = 98) => ?_) (fun (c1 : ¬ aSta e = 98) => ?_)
  · rw [if_pos c1]
    refine Ev.ps 1 rfl ?_
    refine Ev.getf (v := vR 33 0) (by rfl) (by rfl) (by rfl) (rd9) rfl ?_
    refine Ev.ps 1 rfl ?_
    refine Ev.aiI (k := e) (v := vI (nI (aMo e))) (by rfl) (by decide) (rd33) (by omega) (by omega) rfl ?_
    refine Ev.ps 1 rfl ?_
    refine Ev.ineN (a := (aMo e)) (b := m) (by have := wMo e; omega) (by omega) (by rfl) (by rfl) (fun (c2 : aMo e = m) => ?_) (fun (c2 : ¬ aMo e = m) => ?_)
    · rw [if_pos c2]
      refine Ev.ps 1 rfl ?_
      refine Ev.getf (v := vR 34 0) (by rfl) (by rfl) (by rfl) (rd9) rfl ?_
      refine Ev.ps 1 rfl ?_
      refine Ev.aiI (k := e) (v := vI (aDy e)) (by rfl) (by decide) (rd34) (by omega) (by omega) rfl ?_
      refine Ev.ps 1 rfl ?_
      refine Ev.ine (by rfl) (by rfl) (fun (c3 : aDy e = D) => ?_) (fun (c3 : ¬ aDy e = D) => ?_)
      · rw [if_pos c3]
        refine Ev.ps 2 rfl ?_
        exact Ev.re rfl rfl rfl rfl rfl
      · rw [if_neg c3]
        refine Ev.ps 1 rfl ?_
        exact Ev.re rfl rfl rfl rfl rfl
    · rw [if_neg c2]
      refine Ev.ps 1 rfl ?_
      exact Ev.re rfl rfl rfl rfl rfl
  · rw [if_neg c1]
    refine Ev.ps 1 rfl ?_
    refine Ev.getf (v := vR 38 0) (by rfl) (by rfl) (by rfl) (rd9) rfl ?_
    refine Ev.ps 1 rfl ?_
    refine Ev.aiC (k := e) (v := vI (aSta e)) (by rfl) (by decide) (rd38) (by omega) (by omega) rfl ?_
    refine Ev.ps 1 rfl ?_
    refine Ev.ine (by rfl) (by rfl) (fun (c4 : aSta e = 100) => ?_) (fun (c4 : ¬ aSta e = 100) => ?_)
    · rw [if_pos c4]
      refine Ev.ps 1 rfl ?_
      refine Ev.getf (v := vR 33 0) (by rfl) (by rfl) (by rfl) (rd9) rfl ?_
      refine Ev.ps 1 rfl ?_
      refine Ev.aiI (k := e) (v := vI (nI (aMo e))) (by rfl) (by decide) (rd33) (by omega) (by omega) rfl ?_
      refine Ev.ps 1 rfl ?_
      refine Ev.ineN (a := (aMo e)) (b := m) (by have := wMo e; omega) (by omega) (by rfl) (by rfl) (fun (c5 : aMo e = m) => ?_) (fun (c5 : ¬ aMo e = m) => ?_)
      · rw [if_pos c5]
        refine Ev.ps 1 rfl ?_
        refine Ev.getf (v := vR 34 0) (by rfl) (by rfl) (by rfl) (rd9) rfl ?_
        refine Ev.ps 1 rfl ?_
        refine Ev.aiI (k := e) (v := vI (aDy e)) (by rfl) (by decide) (rd34) (by omega) (by omega) rfl ?_
        refine Ev.ps 1 rfl ?_
        refine Ev.ine (by rfl) (by rfl) (fun (c6 : aDy e = D) => ?_) (fun (c6 : ¬ aDy e = D) => ?_)
        · rw [if_pos c6]
          refine Ev.ps 2 rfl ?_
          exact Ev.re rfl rfl rfl rfl rfl
        · rw [if_neg c6]
          refine Ev.ps 1 rfl ?_
          exact Ev.re rfl rfl rfl rfl rfl
      · rw [if_neg c5]
        refine Ev.ps 1 rfl ?_
        exact Ev.re rfl rfl rfl rfl rfl
    · rw [if_neg c4]
      refine Ev.ps 1 rfl ?_
      exact Ev.re rfl rfl rfl rfl rfl
def r_isBusy_L6 (aDy : Nat → Int32) (aLe : Nat → Int32) (aOw : Nat → Nat) (aSt : Nat → Int32) (aSta : Nat → Int32) (m : Nat) (D : Int32) (S : Int32) (M : Int32) : Nat → Nat → Bool → (Bool)
  | 0, j6, is =>
    is
  | k6 + 1, j6, is =>
    if is then
      r_isBusy_L6 aDy aLe aOw aSt aSta m D S M k6 (j6 + 1) true
    else
      if aOw j6 = m then
        if f_r_overlaps aDy aLe aSt aSta j6 D S M then r_isBusy_L6 aDy aLe aOw aSt aSta m D S M k6 (j6 + 1) true else r_isBusy_L6 aDy aLe aOw aSt aSta m D S M k6 (j6 + 1) false
      else
        r_isBusy_L6 aDy aLe aOw aSt aSta m D S M k6 (j6 + 1) false
def f_r_isBusy (aDy : Nat → Int32) (aEnt : Nat) (aLe : Nat → Int32) (aOw : Nat → Nat) (aSt : Nat → Int32) (aSta : Nat → Int32) (m : Nat) (D S M : Int32) : Bool :=
  r_isBusy_L6 aDy aLe aOw aSt aSta m D S M aEnt 0 false
theorem s_r_isBusy {d : Nat} {W : WD} {aMk : Nat → Nat} {aSu : Nat → Int32} {aMac : Nat} {aMem : Nat} {aTk : Nat → Nat → Int32} {aPaid : Nat → Int64} {aNd : Nat → Nat → Bool} {aDay : Int32} {aOw : Nat → Nat} {aMo : Nat → Nat} {aDy : Nat → Int32} {aSt : Nat → Int32} {aLe : Nat → Int32} {aWk : Nat → Int32} {aSta : Nat → Int32} {aDue : Nat → Int32} {aCm : Nat → Nat} {aCb : Nat → Nat → Nat} {aCl : Nat → Nat → Int32} {aEnt : Nat} {aMt : Nat → Nat} {aBl : Nat → Int32} {aBar : Nat} {aPr : Nat → Int32} {aLs : Nat → Nat → Int32} {aLnum : Nat → Nat → Int32} {aLm : Nat → Nat} {aSh : Nat → Nat → Int32} {aBrk : Nat} {aThr : Int32} {C : CD} {m : Nat} {D : Int32} {S : Int32} {M : Int32} (hW : WfR aMac aMem aEnt aBar aBrk aOw aMo aMk aCm aCb aMt aLm) (hm : m < 10) : Cal (d + 2) 129 [vR 9 0, vI (nI m), vI D, vI S, vI M] (enc C (mkR aMk aSu aMac aMem aTk aPaid aNd aDay aOw aMo aDy aSt aLe aWk aSta aDue aCm aCb aCl aEnt aMt aBl aBar aPr aLs aLnum aLm aSh aBrk aThr) W) (.inl (some (vI (bI (f_r_isBusy aDy aEnt aLe aOw aSt aSta m D S M))))) (enc C (mkR aMk aSu aMac aMem aTk aPaid aNd aDay aOw aMo aDy aSt aLe aWk aSta aDue aCm aCb aCl aEnt aMt aBl aBar aPr aLs aLnum aLm aSh aBrk aThr) W) := by
  obtain ⟨wMac, wMem, wEnt, wBar, wBrk, wOw, wMo, wMk, wCm, wCb, wMt, wLm⟩ := id hW
  refine Cal.mk (n := 7) rfl (Nat.le_of_ble_eq_true rfl) rfl ?_
  unfold f_r_isBusy
  refine Ev.ps 4 rfl ?_
  have L6 : ∀ (k6 j6 : Nat) (is : Bool), j6 + k6 = aEnt → Ev (d + 2) (129, 6, [some (vR 9 0), some (vI (nI m)), some (vI D), some (vI S), some (vI M), some (vI (bI is)), some (vI (nI j6))], []) (enc C (mkR aMk aSu aMac aMem aTk aPaid aNd aDay aOw aMo aDy aSt aLe aWk aSta aDue aCm aCb aCl aEnt aMt aBl aBar aPr aLs aLnum aLm aSh aBrk aThr) W) ((.inl (some (vI (bI (r_isBusy_L6 aDy aLe aOw aSt aSta m D S M k6 j6 is))))), enc C (mkR aMk aSu aMac aMem aTk aPaid aNd aDay aOw aMo aDy aSt aLe aWk aSta aDue aCm aCb aCl aEnt aMt aBl aBar aPr aLs aLnum aLm aSh aBrk aThr) W) := by
    intro k6
    induction k6 with
    | zero =>
      intro j6 is hj6
      rw [r_isBusy_L6]
      refine Ev.ps 2 rfl ?_
      refine Ev.getf (v := vI (nI aEnt)) (by rfl) (by rfl) (by rfl) (rd9) rfl ?_
      refine Ev.igeN (a := j6) (b := aEnt) (by omega) (by omega) (by rfl) (by rfl) (fun (c1 : j6 < aEnt) => ?_) (fun (c1 : ¬ j6 < aEnt) => ?_)
      · exfalso; omega
      · refine Ev.ps 1 rfl ?_
        exact Ev.re rfl rfl rfl rfl (rstB rfl)
    | succ k6 ih6 =>
      intro j6 is hj6
      rw [r_isBusy_L6]
      refine Ev.ps 2 rfl ?_
      refine Ev.getf (v := vI (nI aEnt)) (by rfl) (by rfl) (by rfl) (rd9) rfl ?_
      refine Ev.igeN (a := j6) (b := aEnt) (by omega) (by omega) (by rfl) (by rfl) (fun (c2 : j6 < aEnt) => ?_) (fun (c2 : ¬ j6 < aEnt) => ?_)
      · refine Ev.ps 1 rfl ?_
        refine Ev.ifbn (by rfl) (by rfl) (fun c3 => ?_) (fun c3 => ?_)
        · rw [if_pos c3]
          refine Ev.ps 5 rfl ?_
          have h9 := ih6 (j6 + 1) true (by show j6 + 1 + k6 = aEnt; omega)
          rw [← nI_1] at h9
          exact h9
        · rw [if_neg c3]
          refine Ev.ps 1 rfl ?_
          refine Ev.getf (v := vR 32 0) (by rfl) (by rfl) (by rfl) (rd9) rfl ?_
          refine Ev.ps 1 rfl ?_
          refine Ev.aiI (k := j6) (v := vI (nI (aOw j6))) (by rfl) (by decide) (rd32) (by omega) (by omega) rfl ?_
          refine Ev.ps 1 rfl ?_
          refine Ev.ineN (a := (aOw j6)) (b := m) (by have := wOw j6; omega) (by omega) (by rfl) (by rfl) (fun (c4 : aOw j6 = m) => ?_) (fun (c4 : ¬ aOw j6 = m) => ?_)
          · rw [if_pos c4]
            refine Ev.ps 5 rfl ?_
            refine Ev.vir (as := [vI (nI j6), vI D, vI S, vI M]) (rest := []) (by rfl) (by rfl) (by rfl) (by rfl) rfl (Nat.le_of_ble_eq_true rfl) (by rfl) (by rw [rd9]; rfl) (s_r_overlaps (by omega)) ?_
            refine Ev.ifbe (by rfl) (by rfl) (fun c5 => ?_) (fun c5 => ?_)
            · rw [if_pos c5]
              refine Ev.ps 5 rfl ?_
              have h9 := ih6 (j6 + 1) true (by show j6 + 1 + k6 = aEnt; omega)
              rw [← nI_1] at h9
              exact h9
            · rw [if_neg c5]
              refine Ev.ps 4 rfl ?_
              have h9 := ih6 (j6 + 1) false (by show j6 + 1 + k6 = aEnt; omega)
              rw [← nI_1] at h9
              exact h9
          · rw [if_neg c4]
            refine Ev.ps 4 rfl ?_
            have h9 := ih6 (j6 + 1) false (by show j6 + 1 + k6 = aEnt; omega)
            rw [← nI_1] at h9
            exact h9
      · exfalso; omega
  exact L6 aEnt 0 false (by show 0 + aEnt = aEnt; omega)
def r_isFree_L9 (aDy : Nat → Int32) (aLe : Nat → Int32) (aMo : Nat → Nat) (aSt : Nat → Int32) (aSta : Nat → Int32) (aSu : Nat → Int32) (aWk : Nat → Int32) (mc : Nat) (D : Int32) (S : Int32) (M : Int32) (W9 : Int32) : Nat → Nat → Option Nat → Option Nat → (Bool)
  | 0, j9, bf, bh =>
    oE bf (
      oE bh (
        true
        ) (fun k4 =>
        if ((aSt k4) - S) - M < f_r_setup aSu mc (aWk k4) W9 then false else true
        )
      ) (fun k2 =>
      if S - (f_r_endOf aLe aSt k2) < f_r_setup aSu mc (aWk k2) W9 then
        false
      else
        oE bh (
          true
          ) (fun k8 =>
          if ((aSt k8) - S) - M < f_r_setup aSu mc (aWk k8) W9 then false else true
          )
      )
  | k9 + 1, j9, bf, bh =>
    if aSta j9 = 98 then
      if aMo j9 = mc then
        if aDy j9 = D then
          if f_r_overlaps aDy aLe aSt aSta j9 D S M then
            false
          else
            if aSt j9 < S then
              oE bf (
                r_isFree_L9 aDy aLe aMo aSt aSta aSu aWk mc D S M W9 k9 (j9 + 1) (some j9) bh
                ) (fun k17 =>
                if aSt k17 < aSt j9 then r_isFree_L9 aDy aLe aMo aSt aSta aSu aWk mc D S M W9 k9 (j9 + 1) (some j9) bh else r_isFree_L9 aDy aLe aMo aSt aSta aSu aWk mc D S M W9 k9 (j9 + 1) (some k17) bh
                )
            else
              oE bh (
                r_isFree_L9 aDy aLe aMo aSt aSta aSu aWk mc D S M W9 k9 (j9 + 1) bf (some j9)
                ) (fun k20 =>
                if aSt j9 < aSt k20 then r_isFree_L9 aDy aLe aMo aSt aSta aSu aWk mc D S M W9 k9 (j9 + 1) bf (some j9) else r_isFree_L9 aDy aLe aMo aSt aSta aSu aWk mc D S M W9 k9 (j9 + 1) bf (some k20)
                )
        else
          r_isFree_L9 aDy aLe aMo aSt aSta aSu aWk mc D S M W9 k9 (j9 + 1) bf bh
      else
        r_isFree_L9 aDy aLe aMo aSt aSta aSu aWk mc D S M W9 k9 (j9 + 1) bf bh
    else
      r_isFree_L9 aDy aLe aMo aSt aSta aSu aWk mc D S M W9 k9 (j9 + 1) bf bh
def f_r_isFree (aDy : Nat → Int32) (aEnt : Nat) (aLe : Nat → Int32) (aMo : Nat → Nat) (aSt : Nat → Int32) (aSta : Nat → Int32) (aSu : Nat → Int32) (aWk : Nat → Int32) (mc : Nat) (D S M W9 : Int32) : Bool :=
  r_isFree_L9 aDy aLe aMo aSt aSta aSu aWk mc D S M W9 aEnt 0 none none
theorem s_r_isFree {d : Nat} {W : WD} {aMk : Nat → Nat} {aSu : Nat → Int32} {aMac : Nat} {aMem : Nat} {aTk : Nat → Nat → Int32} {aPaid : Nat → Int64} {aNd : Nat → Nat → Bool} {aDay : Int32} {aOw : Nat → Nat} {aMo : Nat → Nat} {aDy : Nat → Int32} {aSt : Nat → Int32} {aLe : Nat → Int32} {aWk : Nat → Int32} {aSta : Nat → Int32} {aDue : Nat → Int32} {aCm : Nat → Nat} {aCb : Nat → Nat → Nat} {aCl : Nat → Nat → Int32} {aEnt : Nat} {aMt : Nat → Nat} {aBl : Nat → Int32} {aBar : Nat} {aPr : Nat → Int32} {aLs : Nat → Nat → Int32} {aLnum : Nat → Nat → Int32} {aLm : Nat → Nat} {aSh : Nat → Nat → Int32} {aBrk : Nat} {aThr : Int32} {C : CD} {mc : Nat} {D : Int32} {S : Int32} {M : Int32} {W9 : Int32} (hW : WfR aMac aMem aEnt aBar aBrk aOw aMo aMk aCm aCb aMt aLm) (hm : mc < 6) : Cal (d + 2) 128 [vR 9 0, vI (nI mc), vI D, vI S, vI M, vI W9] (enc C (mkR aMk aSu aMac aMem aTk aPaid aNd aDay aOw aMo aDy aSt aLe aWk aSta aDue aCm aCb aCl aEnt aMt aBl aBar aPr aLs aLnum aLm aSh aBrk aThr) W) (.inl (some (vI (bI (f_r_isFree aDy aEnt aLe aMo aSt aSta aSu aWk mc D S M W9))))) (enc C (mkR aMk aSu aMac aMem aTk aPaid aNd aDay aOw aMo aDy aSt aLe aWk aSta aDue aCm aCb aCl aEnt aMt aBl aBar aPr aLs aLnum aLm aSh aBrk aThr) W) := by
  obtain ⟨wMac, wMem, wEnt, wBar, wBrk, wOw, wMo, wMk, wCm, wCb, wMt, wLm⟩ := id hW
  refine Cal.mk (n := 9) rfl (Nat.le_of_ble_eq_true rfl) rfl ?_
  unfold f_r_isFree
  refine Ev.ps 6 rfl ?_
  have L9 : ∀ (k9 j9 : Nat) (bf : Option Nat) (bh : Option Nat), j9 + k9 = aEnt → (∀ k, bf = some k → k < aEnt) → (∀ k, bh = some k → k < aEnt) → Ev (d + 2) (128, 9, [some (vR 9 0), some (vI (nI mc)), some (vI D), some (vI S), some (vI M), some (vI W9), some (vI (oI bf)), some (vI (oI bh)), some (vI (nI j9))], []) (enc C (mkR aMk aSu aMac aMem aTk aPaid aNd aDay aOw aMo aDy aSt aLe aWk aSta aDue aCm aCb aCl aEnt aMt aBl aBar aPr aLs aLnum aLm aSh aBrk aThr) W) ((.inl (some (vI (bI (r_isFree_L9 aDy aLe aMo aSt aSta aSu aWk mc D S M W9 k9 j9 bf bh))))), enc C (mkR aMk aSu aMac aMem aTk aPaid aNd aDay aOw aMo aDy aSt aLe aWk aSta aDue aCm aCb aCl aEnt aMt aBl aBar aPr aLs aLnum aLm aSh aBrk aThr) W) := by
    intro k9
    induction k9 with
    | zero =>
      intro j9 bf bh hj9 hbf hbh
      rw [r_isFree_L9]
      refine Ev.ps 2 rfl ?_
      refine Ev.getf (v := vI (nI aEnt)) (by rfl) (by rfl) (by rfl) (rd9) rfl ?_
      refine Ev.igeN (a := j9) (b := aEnt) (by omega) (by omega) (by rfl) (by rfl) (fun (c1 : j9 < aEnt) => ?_) (fun (c1 : ¬ j9 < aEnt) => ?_)
      · exfalso; omega
      · refine Ev.ps 2 rfl ?_
        cases bf with
        | none =>
          dsimp only [oE]
          refine Ev.icmp (by rfl) (by rfl) (fun _ => ?_) (fun z => by exact absurd z (by decide))
          refine Ev.ps 2 rfl ?_
          cases bh with
          | none =>
            dsimp only [oE]
            refine Ev.icmp (by rfl) (by rfl) (fun _ => ?_) (fun z => by exact absurd z (by decide))
            refine Ev.ps 2 rfl ?_
            exact Ev.re rfl rfl rfl rfl rfl
          | some k4 =>
            dsimp only [oE]
            refine Ev.icmp (by rfl) (by rfl) (fun z => by exact absurd (of_decide_eq_true z) (nI_nm1 (by have := hbh _ rfl; omega))) (fun _ => ?_)
            refine Ev.ps 1 rfl ?_
            refine Ev.getf (v := vR 35 0) (by rfl) (by rfl) (by rfl) (rd9) rfl ?_
            refine Ev.ps 1 rfl ?_
            refine Ev.aiI (k := k4) (v := vI (aSt k4)) (by rfl) (by decide) (rd35) (by omega) (by have := hbh _ rfl; omega) rfl ?_
            refine Ev.ps 7 rfl ?_
            refine Ev.getf (v := vR 37 0) (by rfl) (by rfl) (by rfl) (rd9) rfl ?_
            refine Ev.ps 1 rfl ?_
            refine Ev.aiC (k := k4) (v := vI (aWk k4)) (by rfl) (by decide) (rd37) (by omega) (by have := hbh _ rfl; omega) rfl ?_
            refine Ev.ps 1 rfl ?_
            refine Ev.vir (as := [vI (nI mc), vI (aWk k4), vI W9]) (rest := [vI (((aSt k4) - S) - M)]) (by rfl) (by rfl) (by rfl) (by rfl) rfl (Nat.le_of_ble_eq_true rfl) (by rfl) (by rw [rd9]; rfl) (s_r_setup (by omega)) ?_
            refine Ev.ilt (by rfl) (by rfl) (fun (c6 : ((aSt k4) - S) - M < f_r_setup aSu mc (aWk k4) W9) => ?_) (fun (c6 : ¬ ((aSt k4) - S) - M < f_r_setup aSu mc (aWk k4) W9) => ?_)
            · rw [if_pos c6]
              refine Ev.ps 1 rfl ?_
              exact Ev.re rfl rfl rfl rfl rfl
            · rw [if_neg c6]
              refine Ev.ps 2 rfl ?_
              exact Ev.re rfl rfl rfl rfl rfl
        | some k2 =>
          dsimp only [oE]
          refine Ev.icmp (by rfl) (by rfl) (fun z => by exact absurd (of_decide_eq_true z) (nI_nm1 (by have := hbf _ rfl; omega))) (fun _ => ?_)
          refine Ev.ps 3 rfl ?_
          refine Ev.vir (as := [vI (nI k2)]) (rest := [vI S]) (by rfl) (by rfl) (by rfl) (by rfl) rfl (Nat.le_of_ble_eq_true rfl) (by rfl) (by rw [rd9]; rfl) (s_r_endOf (by have := hbf _ rfl; omega)) ?_
          refine Ev.ps 4 rfl ?_
          refine Ev.getf (v := vR 37 0) (by rfl) (by rfl) (by rfl) (rd9) rfl ?_
          refine Ev.ps 1 rfl ?_
          refine Ev.aiC (k := k2) (v := vI (aWk k2)) (by rfl) (by decide) (rd37) (by omega) (by have := hbf _ rfl; omega) rfl ?_
          refine Ev.ps 1 rfl ?_
          refine Ev.vir (as := [vI (nI mc), vI (aWk k2), vI W9]) (rest := [vI (S - (f_r_endOf aLe aSt k2))]) (by rfl) (by rfl) (by rfl) (by rfl) rfl (Nat.le_of_ble_eq_true rfl) (by rfl) (by rw [rd9]; rfl) (s_r_setup (by omega)) ?_
          refine Ev.ilt (by rfl) (by rfl) (fun (c7 : S - (f_r_endOf aLe aSt k2) < f_r_setup aSu mc (aWk k2) W9) => ?_) (fun (c7 : ¬ S - (f_r_endOf aLe aSt k2) < f_r_setup aSu mc (aWk k2) W9) => ?_)
          · rw [if_pos c7]
            refine Ev.ps 1 rfl ?_
            exact Ev.re rfl rfl rfl rfl rfl
          · rw [if_neg c7]
            refine Ev.ps 2 rfl ?_
            cases bh with
            | none =>
              dsimp only [oE]
              refine Ev.icmp (by rfl) (by rfl) (fun _ => ?_) (fun z => by exact absurd z (by decide))
              refine Ev.ps 2 rfl ?_
              exact Ev.re rfl rfl rfl rfl rfl
            | some k8 =>
              dsimp only [oE]
              refine Ev.icmp (by rfl) (by rfl) (fun z => by exact absurd (of_decide_eq_true z) (nI_nm1 (by have := hbh _ rfl; omega))) (fun _ => ?_)
              refine Ev.ps 1 rfl ?_
              refine Ev.getf (v := vR 35 0) (by rfl) (by rfl) (by rfl) (rd9) rfl ?_
              refine Ev.ps 1 rfl ?_
              refine Ev.aiI (k := k8) (v := vI (aSt k8)) (by rfl) (by decide) (rd35) (by omega) (by have := hbh _ rfl; omega) rfl ?_
              refine Ev.ps 7 rfl ?_
              refine Ev.getf (v := vR 37 0) (by rfl) (by rfl) (by rfl) (rd9) rfl ?_
              refine Ev.ps 1 rfl ?_
              refine Ev.aiC (k := k8) (v := vI (aWk k8)) (by rfl) (by decide) (rd37) (by omega) (by have := hbh _ rfl; omega) rfl ?_
              refine Ev.ps 1 rfl ?_
              refine Ev.vir (as := [vI (nI mc), vI (aWk k8), vI W9]) (rest := [vI (((aSt k8) - S) - M)]) (by rfl) (by rfl) (by rfl) (by rfl) rfl (Nat.le_of_ble_eq_true rfl) (by rfl) (by rw [rd9]; rfl) (s_r_setup (by omega)) ?_
              refine Ev.ilt (by rfl) (by rfl) (fun (c10 : ((aSt k8) - S) - M < f_r_setup aSu mc (aWk k8) W9) => ?_) (fun (c10 : ¬ ((aSt k8) - S) - M < f_r_setup aSu mc (aWk k8) W9) => ?_)
              · rw [if_pos c10]
                refine Ev.ps 1 rfl ?_
                exact Ev.re rfl rfl rfl rfl rfl
              · rw [if_neg c10]
                refine Ev.ps 2 rfl ?_
                exact Ev.re rfl rfl rfl rfl rfl
    | succ k9 ih9 =>
      intro j9 bf bh hj9 hbf hbh
      rw [r_isFree_L9]
      refine Ev.ps 2 rfl ?_
      refine Ev.getf (v := vI (nI aEnt)) (by rfl) (by rfl) (by rfl) (rd9) rfl ?_
      refine Ev.igeN (a := j9) (b := aEnt) (by omega) (by omega) (by rfl) (by rfl) (fun (c11 : j9 < aEnt) => ?_) (fun (c11 : ¬ j9 < aEnt) => ?_)
      · refine Ev.ps 1 rfl ?_
        refine Ev.getf (v := vR 38 0) (by rfl) (by rfl) (by rfl) (rd9) rfl ?_
        refine Ev.ps 1 rfl ?_
        refine Ev.aiC (k := j9) (v := vI (aSta j9)) (by rfl) (by decide) (rd38) (by omega) (by omega) rfl ?_
        refine Ev.ps 1 rfl ?_
        refine Ev.ine (by rfl) (by rfl) (fun (c12 : aSta j9 = 98) => ?_) (fun (c12 : ¬ aSta j9 = 98) => ?_)
        · rw [if_pos c12]
          refine Ev.ps 1 rfl ?_
          refine Ev.getf (v := vR 33 0) (by rfl) (by rfl) (by rfl) (rd9) rfl ?_
          refine Ev.ps 1 rfl ?_
          refine Ev.aiI (k := j9) (v := vI (nI (aMo j9))) (by rfl) (by decide) (rd33) (by omega) (by omega) rfl ?_
          refine Ev.ps 1 rfl ?_
          refine Ev.ineN (a := (aMo j9)) (b := mc) (by have := wMo j9; omega) (by omega) (by rfl) (by rfl) (fun (c13 : aMo j9 = mc) => ?_) (fun (c13 : ¬ aMo j9 = mc) => ?_)
          · rw [if_pos c13]
            refine Ev.ps 1 rfl ?_
            refine Ev.getf (v := vR 34 0) (by rfl) (by rfl) (by rfl) (rd9) rfl ?_
            refine Ev.ps 1 rfl ?_
            refine Ev.aiI (k := j9) (v := vI (aDy j9)) (by rfl) (by decide) (rd34) (by omega) (by omega) rfl ?_
            refine Ev.ps 1 rfl ?_
            refine Ev.ine (by rfl) (by rfl) (fun (c14 : aDy j9 = D) => ?_) (fun (c14 : ¬ aDy j9 = D) => ?_)
            · rw [if_pos c14]
              refine Ev.ps 5 rfl ?_
              refine Ev.vir (as := [vI (nI j9), vI D, vI S, vI M]) (rest := []) (by rfl) (by rfl) (by rfl) (by rfl) rfl (Nat.le_of_ble_eq_true rfl) (by rfl) (by rw [rd9]; rfl) (s_r_overlaps (by omega)) ?_
              refine Ev.ifbe (by rfl) (by rfl) (fun c15 => ?_) (fun c15 => ?_)
              · rw [if_pos c15]
                refine Ev.ps 1 rfl ?_
                exact Ev.re rfl rfl rfl rfl rfl
              · rw [if_neg c15]
                refine Ev.ps 1 rfl ?_
                refine Ev.getf (v := vR 35 0) (by rfl) (by rfl) (by rfl) (rd9) rfl ?_
                refine Ev.ps 1 rfl ?_
                refine Ev.aiI (k := j9) (v := vI (aSt j9)) (by rfl) (by decide) (rd35) (by omega) (by omega) rfl ?_
                refine Ev.ps 1 rfl ?_
                refine Ev.ige (by rfl) (by rfl) (fun (c16 : aSt j9 < S) => ?_) (fun (c16 : ¬ aSt j9 < S) => ?_)
                · rw [if_pos c16]
                  refine Ev.ps 2 rfl ?_
                  cases bf with
                  | none =>
                    dsimp only [oE]
                    refine Ev.icmp (by rfl) (by rfl) (fun _ => ?_) (fun z => by exact absurd z (by decide))
                    refine Ev.ps 6 rfl ?_
                    have h9 := ih9 (j9 + 1) (some j9) bh (by show j9 + 1 + k9 = aEnt; omega) (by intro k9 z9; first | exact hbf k9 z9 | (cases z9; omega)) (by intro k9 z9; first | exact hbh k9 z9 | (cases z9; omega))
                    rw [← nI_1] at h9
                    exact h9
                  | some k17 =>
                    dsimp only [oE]
                    refine Ev.icmp (by rfl) (by rfl) (fun z => by exact absurd (of_decide_eq_true z) (nI_nm1 (by have := hbf _ rfl; omega))) (fun _ => ?_)
                    refine Ev.ps 1 rfl ?_
                    refine Ev.getf (v := vR 35 0) (by rfl) (by rfl) (by rfl) (rd9) rfl ?_
                    refine Ev.ps 1 rfl ?_
                    refine Ev.aiI (k := j9) (v := vI (aSt j9)) (by rfl) (by decide) (rd35) (by omega) (by omega) rfl ?_
                    refine Ev.ps 1 rfl ?_
                    refine Ev.getf (v := vR 35 0) (by rfl) (by rfl) (by rfl) (rd9) rfl ?_
                    refine Ev.ps 1 rfl ?_
                    refine Ev.aiI (k := k17) (v := vI (aSt k17)) (by rfl) (by decide) (rd35) (by omega) (by have := hbf _ rfl; omega) rfl ?_
                    refine Ev.ile (by rfl) (by rfl) (fun (c19 : aSt k17 < aSt j9) => ?_) (fun (c19 : ¬ aSt k17 < aSt j9) => ?_)
                    · rw [if_pos c19]
                      refine Ev.ps 6 rfl ?_
                      have h9 := ih9 (j9 + 1) (some j9) bh (by show j9 + 1 + k9 = aEnt; omega) (by intro k9 z9; first | exact hbf k9 z9 | (cases z9; omega)) (by intro k9 z9; first | exact hbh k9 z9 | (cases z9; omega))
                      rw [← nI_1] at h9
                      exact h9
                    · rw [if_neg c19]
                      refine Ev.ps 5 rfl ?_
                      have h9 := ih9 (j9 + 1) (some k17) bh (by show j9 + 1 + k9 = aEnt; omega) (by intro k9 z9; first | exact hbf k9 z9 | (cases z9; omega)) (by intro k9 z9; first | exact hbh k9 z9 | (cases z9; omega))
                      rw [← nI_1] at h9
                      exact h9
                · rw [if_neg c16]
                  refine Ev.ps 2 rfl ?_
                  cases bh with
                  | none =>
                    dsimp only [oE]
                    refine Ev.icmp (by rfl) (by rfl) (fun _ => ?_) (fun z => by exact absurd z (by decide))
                    refine Ev.ps 5 rfl ?_
                    have h9 := ih9 (j9 + 1) bf (some j9) (by show j9 + 1 + k9 = aEnt; omega) (by intro k9 z9; first | exact hbf k9 z9 | (cases z9; omega)) (by intro k9 z9; first | exact hbh k9 z9 | (cases z9; omega))
                    rw [← nI_1] at h9
                    exact h9
                  | some k20 =>
                    dsimp only [oE]
                    refine Ev.icmp (by rfl) (by rfl) (fun z => by exact absurd (of_decide_eq_true z) (nI_nm1 (by have := hbh _ rfl; omega))) (fun _ => ?_)
                    refine Ev.ps 1 rfl ?_
                    refine Ev.getf (v := vR 35 0) (by rfl) (by rfl) (by rfl) (rd9) rfl ?_
                    refine Ev.ps 1 rfl ?_
                    refine Ev.aiI (k := j9) (v := vI (aSt j9)) (by rfl) (by decide) (rd35) (by omega) (by omega) rfl ?_
                    refine Ev.ps 1 rfl ?_
                    refine Ev.getf (v := vR 35 0) (by rfl) (by rfl) (by rfl) (rd9) rfl ?_
                    refine Ev.ps 1 rfl ?_
                    refine Ev.aiI (k := k20) (v := vI (aSt k20)) (by rfl) (by decide) (rd35) (by omega) (by have := hbh _ rfl; omega) rfl ?_
                    refine Ev.ige (by rfl) (by rfl) (fun (c22 : aSt j9 < aSt k20) => ?_) (fun (c22 : ¬ aSt j9 < aSt k20) => ?_)
                    · rw [if_pos c22]
                      refine Ev.ps 5 rfl ?_
                      have h9 := ih9 (j9 + 1) bf (some j9) (by show j9 + 1 + k9 = aEnt; omega) (by intro k9 z9; first | exact hbf k9 z9 | (cases z9; omega)) (by intro k9 z9; first | exact hbh k9 z9 | (cases z9; omega))
                      rw [← nI_1] at h9
                      exact h9
                    · rw [if_neg c22]
                      refine Ev.ps 4 rfl ?_
                      have h9 := ih9 (j9 + 1) bf (some k20) (by show j9 + 1 + k9 = aEnt; omega) (by intro k9 z9; first | exact hbf k9 z9 | (cases z9; omega)) (by intro k9 z9; first | exact hbh k9 z9 | (cases z9; omega))
                      rw [← nI_1] at h9
                      exact h9
            · rw [if_neg c14]
              refine Ev.ps 2 rfl ?_
              have h9 := ih9 (j9 + 1) bf bh (by show j9 + 1 + k9 = aEnt; omega) (by intro k9 z9; first | exact hbf k9 z9 | (cases z9; omega)) (by intro k9 z9; first | exact hbh k9 z9 | (cases z9; omega))
              rw [← nI_1] at h9
              exact h9
          · rw [if_neg c13]
            refine Ev.ps 2 rfl ?_
            have h9 := ih9 (j9 + 1) bf bh (by show j9 + 1 + k9 = aEnt; omega) (by intro k9 z9; first | exact hbf k9 z9 | (cases z9; omega)) (by intro k9 z9; first | exact hbh k9 z9 | (cases z9; omega))
            rw [← nI_1] at h9
            exact h9
        · rw [if_neg c12]
          refine Ev.ps 2 rfl ?_
          have h9 := ih9 (j9 + 1) bf bh (by show j9 + 1 + k9 = aEnt; omega) (by intro k9 z9; first | exact hbf k9 z9 | (cases z9; omega)) (by intro k9 z9; first | exact hbh k9 z9 | (cases z9; omega))
          rw [← nI_1] at h9
          exact h9
      · exfalso; omega
  exact L9 aEnt 0 none none (by show 0 + aEnt = aEnt; omega) (fun _ z => nomatch z) (fun _ z => nomatch z)
def r_minute_L9 (aDy : Nat → Int32) (aLe : Nat → Int32) (aMo : Nat → Nat) (aSt : Nat → Int32) (aSta : Nat → Int32) (aSu : Nat → Int32) (aWk : Nat → Int32) (mc : Nat) (D : Int32) (M : Int32) : Nat → Nat → Option Nat → Option Nat → (Int32)
  | 0, j9, bh, bf =>
    oE bh (
      102
      ) (fun k2 =>
      oE bf (
        102
        ) (fun k4 =>
        if f_r_setup aSu mc (aWk k4) (aWk k2) < (aSt k2) - M then 102 else 115
        )
      )
  | k9 + 1, j9, bh, bf =>
    if f_r_stands aDy aMo aSta j9 mc D then
      if f_r_in M (aSt j9) ((f_r_endOf aLe aSt j9) - 1) then
        98
      else
        if M < aSt j9 then
          oE bh (
            r_minute_L9 aDy aLe aMo aSt aSta aSu aWk mc D M k9 (j9 + 1) (some j9) bf
            ) (fun k11 =>
            if aSt j9 < aSt k11 then r_minute_L9 aDy aLe aMo aSt aSta aSu aWk mc D M k9 (j9 + 1) (some j9) bf else r_minute_L9 aDy aLe aMo aSt aSta aSu aWk mc D M k9 (j9 + 1) (some k11) bf
            )
        else
          oE bf (
            r_minute_L9 aDy aLe aMo aSt aSta aSu aWk mc D M k9 (j9 + 1) bh (some j9)
            ) (fun k14 =>
            if aSt k14 < aSt j9 then r_minute_L9 aDy aLe aMo aSt aSta aSu aWk mc D M k9 (j9 + 1) bh (some j9) else r_minute_L9 aDy aLe aMo aSt aSta aSu aWk mc D M k9 (j9 + 1) bh (some k14)
            )
    else
      r_minute_L9 aDy aLe aMo aSt aSta aSu aWk mc D M k9 (j9 + 1) bh bf
def f_r_minute (aDy : Nat → Int32) (aEnt : Nat) (aLe : Nat → Int32) (aMo : Nat → Nat) (aSt : Nat → Int32) (aSta : Nat → Int32) (aSu : Nat → Int32) (aWk : Nat → Int32) (mc : Nat) (D M : Int32) : Int32 :=
  r_minute_L9 aDy aLe aMo aSt aSta aSu aWk mc D M aEnt 0 none none
theorem s_r_minute {d : Nat} {W : WD} {aMk : Nat → Nat} {aSu : Nat → Int32} {aMac : Nat} {aMem : Nat} {aTk : Nat → Nat → Int32} {aPaid : Nat → Int64} {aNd : Nat → Nat → Bool} {aDay : Int32} {aOw : Nat → Nat} {aMo : Nat → Nat} {aDy : Nat → Int32} {aSt : Nat → Int32} {aLe : Nat → Int32} {aWk : Nat → Int32} {aSta : Nat → Int32} {aDue : Nat → Int32} {aCm : Nat → Nat} {aCb : Nat → Nat → Nat} {aCl : Nat → Nat → Int32} {aEnt : Nat} {aMt : Nat → Nat} {aBl : Nat → Int32} {aBar : Nat} {aPr : Nat → Int32} {aLs : Nat → Nat → Int32} {aLnum : Nat → Nat → Int32} {aLm : Nat → Nat} {aSh : Nat → Nat → Int32} {aBrk : Nat} {aThr : Int32} {C : CD} {mc : Nat} {D : Int32} {M : Int32} (hW : WfR aMac aMem aEnt aBar aBrk aOw aMo aMk aCm aCb aMt aLm) (hm : mc < 6) : Cal (d + 2) 143 [vR 9 0, vI (nI mc), vI D, vI M] (enc C (mkR aMk aSu aMac aMem aTk aPaid aNd aDay aOw aMo aDy aSt aLe aWk aSta aDue aCm aCb aCl aEnt aMt aBl aBar aPr aLs aLnum aLm aSh aBrk aThr) W) (.inl (some (vI (f_r_minute aDy aEnt aLe aMo aSt aSta aSu aWk mc D M)))) (enc C (mkR aMk aSu aMac aMem aTk aPaid aNd aDay aOw aMo aDy aSt aLe aWk aSta aDue aCm aCb aCl aEnt aMt aBl aBar aPr aLs aLnum aLm aSh aBrk aThr) W) := by
  obtain ⟨wMac, wMem, wEnt, wBar, wBrk, wOw, wMo, wMk, wCm, wCb, wMt, wLm⟩ := id hW
  refine Cal.mk (n := 7) rfl (Nat.le_of_ble_eq_true rfl) rfl ?_
  unfold f_r_minute
  refine Ev.ps 6 rfl ?_
  have L9 : ∀ (k9 j9 : Nat) (bh : Option Nat) (bf : Option Nat), j9 + k9 = aEnt → (∀ k, bh = some k → k < aEnt) → (∀ k, bf = some k → k < aEnt) → Ev (d + 2) (143, 9, [some (vR 9 0), some (vI (nI mc)), some (vI D), some (vI M), some (vI (oI bh)), some (vI (oI bf)), some (vI (nI j9))], []) (enc C (mkR aMk aSu aMac aMem aTk aPaid aNd aDay aOw aMo aDy aSt aLe aWk aSta aDue aCm aCb aCl aEnt aMt aBl aBar aPr aLs aLnum aLm aSh aBrk aThr) W) ((.inl (some (vI (r_minute_L9 aDy aLe aMo aSt aSta aSu aWk mc D M k9 j9 bh bf)))), enc C (mkR aMk aSu aMac aMem aTk aPaid aNd aDay aOw aMo aDy aSt aLe aWk aSta aDue aCm aCb aCl aEnt aMt aBl aBar aPr aLs aLnum aLm aSh aBrk aThr) W) := by
    intro k9
    induction k9 with
    | zero =>
      intro j9 bh bf hj9 hbh hbf
      rw [r_minute_L9]
      refine Ev.ps 2 rfl ?_
      refine Ev.getf (v := vI (nI aEnt)) (by rfl) (by rfl) (by rfl) (rd9) rfl ?_
      refine Ev.igeN (a := j9) (b := aEnt) (by omega) (by omega) (by rfl) (by rfl) (fun (c1 : j9 < aEnt) => ?_) (fun (c1 : ¬ j9 < aEnt) => ?_)
      · exfalso; omega
      · refine Ev.ps 2 rfl ?_
        cases bh with
        | none =>
          dsimp only [oE]
          refine Ev.icmp (by rfl) (by rfl) (fun _ => ?_) (fun z => by exact absurd z (by decide))
          refine Ev.ps 3 rfl ?_
          refine Ev.ifi (by rfl) (by rfl) (fun _ => ?_) (fun z => by exact absurd z (by decide))
          refine Ev.ps 1 rfl ?_
          exact Ev.re rfl rfl rfl rfl rfl
        | some k2 =>
          dsimp only [oE]
          refine Ev.icmp (by rfl) (by rfl) (fun z => by exact absurd (of_decide_eq_true z) (nI_nm1 (by have := hbh _ rfl; omega))) (fun _ => ?_)
          refine Ev.ps 2 rfl ?_
          cases bf with
          | none =>
            dsimp only [oE]
            refine Ev.icmp (by rfl) (by rfl) (fun _ => ?_) (fun z => by exact absurd z (by decide))
            refine Ev.ps 3 rfl ?_
            refine Ev.ifi (by rfl) (by rfl) (fun _ => ?_) (fun z => by exact absurd z (by decide))
            refine Ev.ps 1 rfl ?_
            exact Ev.re rfl rfl rfl rfl rfl
          | some k4 =>
            dsimp only [oE]
            refine Ev.icmp (by rfl) (by rfl) (fun z => by exact absurd (of_decide_eq_true z) (nI_nm1 (by have := hbf _ rfl; omega))) (fun _ => ?_)
            refine Ev.ps 1 rfl ?_
            refine Ev.getf (v := vR 35 0) (by rfl) (by rfl) (by rfl) (rd9) rfl ?_
            refine Ev.ps 1 rfl ?_
            refine Ev.aiI (k := k2) (v := vI (aSt k2)) (by rfl) (by decide) (rd35) (by omega) (by have := hbh _ rfl; omega) rfl ?_
            refine Ev.ps 5 rfl ?_
            refine Ev.getf (v := vR 37 0) (by rfl) (by rfl) (by rfl) (rd9) rfl ?_
            refine Ev.ps 1 rfl ?_
            refine Ev.aiC (k := k4) (v := vI (aWk k4)) (by rfl) (by decide) (rd37) (by omega) (by have := hbf _ rfl; omega) rfl ?_
            refine Ev.ps 1 rfl ?_
            refine Ev.getf (v := vR 37 0) (by rfl) (by rfl) (by rfl) (rd9) rfl ?_
            refine Ev.ps 1 rfl ?_
            refine Ev.aiC (k := k2) (v := vI (aWk k2)) (by rfl) (by decide) (rd37) (by omega) (by have := hbh _ rfl; omega) rfl ?_
            refine Ev.vir (as := [vI (nI mc), vI (aWk k4), vI (aWk k2)]) (rest := [vI ((aSt k2) - M)]) (by rfl) (by rfl) (by rfl) (by rfl) rfl (Nat.le_of_ble_eq_true rfl) (by rfl) (by rw [rd9]; rfl) (s_r_setup (by omega)) ?_
            refine Ev.igt (by rfl) (by rfl) (fun (c6 : f_r_setup aSu mc (aWk k4) (aWk k2) < (aSt k2) - M) => ?_) (fun (c6 : ¬ f_r_setup aSu mc (aWk k4) (aWk k2) < (aSt k2) - M) => ?_)
            · rw [if_pos c6]
              refine Ev.ps 3 rfl ?_
              refine Ev.ifi (by rfl) (by rfl) (fun _ => ?_) (fun z => by exact absurd z (by decide))
              refine Ev.ps 1 rfl ?_
              exact Ev.re rfl rfl rfl rfl rfl
            · rw [if_neg c6]
              refine Ev.ps 4 rfl ?_
              refine Ev.ifi (by rfl) (by rfl) (fun z => by exact absurd z (by decide)) (fun _ => ?_)
              refine Ev.ps 2 rfl ?_
              exact Ev.re rfl rfl rfl rfl rfl
    | succ k9 ih9 =>
      intro j9 bh bf hj9 hbh hbf
      rw [r_minute_L9]
      refine Ev.ps 2 rfl ?_
      refine Ev.getf (v := vI (nI aEnt)) (by rfl) (by rfl) (by rfl) (rd9) rfl ?_
      refine Ev.igeN (a := j9) (b := aEnt) (by omega) (by omega) (by rfl) (by rfl) (fun (c7 : j9 < aEnt) => ?_) (fun (c7 : ¬ j9 < aEnt) => ?_)
      · refine Ev.ps 4 rfl ?_
        refine Ev.vir (as := [vI (nI j9), vI (nI mc), vI D]) (rest := []) (by rfl) (by rfl) (by rfl) (by rfl) rfl (Nat.le_of_ble_eq_true rfl) (by rfl) (by rw [rd9]; rfl) (s_r_stands hW (by omega) (by omega)) ?_
        refine Ev.ifbe (by rfl) (by rfl) (fun c8 => ?_) (fun c8 => ?_)
        · rw [if_pos c8]
          refine Ev.ps 2 rfl ?_
          refine Ev.getf (v := vR 35 0) (by rfl) (by rfl) (by rfl) (rd9) rfl ?_
          refine Ev.ps 1 rfl ?_
          refine Ev.aiI (k := j9) (v := vI (aSt j9)) (by rfl) (by decide) (rd35) (by omega) (by omega) rfl ?_
          refine Ev.ps 2 rfl ?_
          refine Ev.vir (as := [vI (nI j9)]) (rest := [vI (aSt j9), vI M]) (by rfl) (by rfl) (by rfl) (by rfl) rfl (Nat.le_of_ble_eq_true rfl) (by rfl) (by rw [rd9]; rfl) (s_r_endOf (by omega)) ?_
          refine Ev.ps 2 rfl ?_
          refine Ev.sta (as := [vI M, vI (aSt j9), vI ((f_r_endOf aLe aSt j9) - 1)]) (rest := []) (by rfl) (by rfl) (by rfl) (by rfl) rfl (Nat.le_of_ble_eq_true rfl) (s_r_in ) ?_
          refine Ev.ifbe (by rfl) (by rfl) (fun c9 => ?_) (fun c9 => ?_)
          · rw [if_pos c9]
            refine Ev.ps 1 rfl ?_
            exact Ev.re rfl rfl rfl rfl rfl
          · rw [if_neg c9]
            refine Ev.ps 1 rfl ?_
            refine Ev.getf (v := vR 35 0) (by rfl) (by rfl) (by rfl) (rd9) rfl ?_
            refine Ev.ps 1 rfl ?_
            refine Ev.aiI (k := j9) (v := vI (aSt j9)) (by rfl) (by decide) (rd35) (by omega) (by omega) rfl ?_
            refine Ev.ps 1 rfl ?_
            refine Ev.ile (by rfl) (by rfl) (fun (c10 : M < aSt j9) => ?_) (fun (c10 : ¬ M < aSt j9) => ?_)
            · rw [if_pos c10]
              refine Ev.ps 2 rfl ?_
              cases bh with
              | none =>
                dsimp only [oE]
                refine Ev.icmp (by rfl) (by rfl) (fun _ => ?_) (fun z => by exact absurd z (by decide))
                refine Ev.ps 6 rfl ?_
                have h9 := ih9 (j9 + 1) (some j9) bf (by show j9 + 1 + k9 = aEnt; omega) (by intro k9 z9; first | exact hbh k9 z9 | (cases z9; omega)) (by intro k9 z9; first | exact hbf k9 z9 | (cases z9; omega))
                rw [← nI_1] at h9
                exact h9
              | some k11 =>
                dsimp only [oE]
                refine Ev.icmp (by rfl) (by rfl) (fun z => by exact absurd (of_decide_eq_true z) (nI_nm1 (by have := hbh _ rfl; omega))) (fun _ => ?_)
                refine Ev.ps 1 rfl ?_
                refine Ev.getf (v := vR 35 0) (by rfl) (by rfl) (by rfl) (rd9) rfl ?_
                refine Ev.ps 1 rfl ?_
                refine Ev.aiI (k := j9) (v := vI (aSt j9)) (by rfl) (by decide) (rd35) (by omega) (by omega) rfl ?_
                refine Ev.ps 1 rfl ?_
                refine Ev.getf (v := vR 35 0) (by rfl) (by rfl) (by rfl) (rd9) rfl ?_
                refine Ev.ps 1 rfl ?_
                refine Ev.aiI (k := k11) (v := vI (aSt k11)) (by rfl) (by decide) (rd35) (by omega) (by have := hbh _ rfl; omega) rfl ?_
                refine Ev.ige (by rfl) (by rfl) (fun (c13 : aSt j9 < aSt k11) => ?_) (fun (c13 : ¬ aSt j9 < aSt k11) => ?_)
                · rw [if_pos c13]
                  refine Ev.ps 6 rfl ?_
                  have h9 := ih9 (j9 + 1) (some j9) bf (by show j9 + 1 + k9 = aEnt; omega) (by intro k9 z9; first | exact hbh k9 z9 | (cases z9; omega)) (by intro k9 z9; first | exact hbf k9 z9 | (cases z9; omega))
                  rw [← nI_1] at h9
                  exact h9
                · rw [if_neg c13]
                  refine Ev.ps 5 rfl ?_
                  have h9 := ih9 (j9 + 1) (some k11) bf (by show j9 + 1 + k9 = aEnt; omega) (by intro k9 z9; first | exact hbh k9 z9 | (cases z9; omega)) (by intro k9 z9; first | exact hbf k9 z9 | (cases z9; omega))
                  rw [← nI_1] at h9
                  exact h9
            · rw [if_neg c10]
              refine Ev.ps 2 rfl ?_
              cases bf with
              | none =>
                dsimp only [oE]
                refine Ev.icmp (by rfl) (by rfl) (fun _ => ?_) (fun z => by exact absurd z (by decide))
                refine Ev.ps 5 rfl ?_
                have h9 := ih9 (j9 + 1) bh (some j9) (by show j9 + 1 + k9 = aEnt; omega) (by intro k9 z9; first | exact hbh k9 z9 | (cases z9; omega)) (by intro k9 z9; first | exact hbf k9 z9 | (cases z9; omega))
                rw [← nI_1] at h9
                exact h9
              | some k14 =>
                dsimp only [oE]
                refine Ev.icmp (by rfl) (by rfl) (fun z => by exact absurd (of_decide_eq_true z) (nI_nm1 (by have := hbf _ rfl; omega))) (fun _ => ?_)
                refine Ev.ps 1 rfl ?_
                refine Ev.getf (v := vR 35 0) (by rfl) (by rfl) (by rfl) (rd9) rfl ?_
                refine Ev.ps 1 rfl ?_
                refine Ev.aiI (k := j9) (v := vI (aSt j9)) (by rfl) (by decide) (rd35) (by omega) (by omega) rfl ?_
                refine Ev.ps 1 rfl ?_
                refine Ev.getf (v := vR 35 0) (by rfl) (by rfl) (by rfl) (rd9) rfl ?_
                refine Ev.ps 1 rfl ?_
                refine Ev.aiI (k := k14) (v := vI (aSt k14)) (by rfl) (by decide) (rd35) (by omega) (by have := hbf _ rfl; omega) rfl ?_
                refine Ev.ile (by rfl) (by rfl) (fun (c16 : aSt k14 < aSt j9) => ?_) (fun (c16 : ¬ aSt k14 < aSt j9) => ?_)
                · rw [if_pos c16]
                  refine Ev.ps 5 rfl ?_
                  have h9 := ih9 (j9 + 1) bh (some j9) (by show j9 + 1 + k9 = aEnt; omega) (by intro k9 z9; first | exact hbh k9 z9 | (cases z9; omega)) (by intro k9 z9; first | exact hbf k9 z9 | (cases z9; omega))
                  rw [← nI_1] at h9
                  exact h9
                · rw [if_neg c16]
                  refine Ev.ps 4 rfl ?_
                  have h9 := ih9 (j9 + 1) bh (some k14) (by show j9 + 1 + k9 = aEnt; omega) (by intro k9 z9; first | exact hbh k9 z9 | (cases z9; omega)) (by intro k9 z9; first | exact hbf k9 z9 | (cases z9; omega))
                  rw [← nI_1] at h9
                  exact h9
        · rw [if_neg c8]
          refine Ev.ps 2 rfl ?_
          have h9 := ih9 (j9 + 1) bh bf (by show j9 + 1 + k9 = aEnt; omega) (by intro k9 z9; first | exact hbh k9 z9 | (cases z9; omega)) (by intro k9 z9; first | exact hbf k9 z9 | (cases z9; omega))
          rw [← nI_1] at h9
          exact h9
      · exfalso; omega
  exact L9 aEnt 0 none none (by show 0 + aEnt = aEnt; omega) (fun _ z => nomatch z) (fun _ z => nomatch z)
def r_minutes_L6 (aDy : Nat → Int32) (aEnt : Nat) (aLe : Nat → Int32) (aMo : Nat → Nat) (aSt : Nat → Int32) (aSta : Nat → Int32) (aSu : Nat → Int32) (aWk : Nat → Int32) (mc : Nat) (D : Int32) (w : Int32) : Nat → Nat → Int32 → (Int32)
  | 0, j6, sum =>
    sum
  | k6 + 1, j6, sum =>
    if f_r_minute aDy aEnt aLe aMo aSt aSta aSu aWk mc D (nI j6) = w then r_minutes_L6 aDy aEnt aLe aMo aSt aSta aSu aWk mc D w k6 (j6 + 1) (sum + 1) else r_minutes_L6 aDy aEnt aLe aMo aSt aSta aSu aWk mc D w k6 (j6 + 1) (sum + 0)
def f_r_minutes (aDy : Nat → Int32) (aEnt : Nat) (aLe : Nat → Int32) (aMo : Nat → Nat) (aSt : Nat → Int32) (aSta : Nat → Int32) (aSu : Nat → Int32) (aWk : Nat → Int32) (mc : Nat) (D w : Int32) : Int32 :=
  r_minutes_L6 aDy aEnt aLe aMo aSt aSta aSu aWk mc D w 480 0 0
theorem s_r_minutes {d : Nat} {W : WD} {aMk : Nat → Nat} {aSu : Nat → Int32} {aMac : Nat} {aMem : Nat} {aTk : Nat → Nat → Int32} {aPaid : Nat → Int64} {aNd : Nat → Nat → Bool} {aDay : Int32} {aOw : Nat → Nat} {aMo : Nat → Nat} {aDy : Nat → Int32} {aSt : Nat → Int32} {aLe : Nat → Int32} {aWk : Nat → Int32} {aSta : Nat → Int32} {aDue : Nat → Int32} {aCm : Nat → Nat} {aCb : Nat → Nat → Nat} {aCl : Nat → Nat → Int32} {aEnt : Nat} {aMt : Nat → Nat} {aBl : Nat → Int32} {aBar : Nat} {aPr : Nat → Int32} {aLs : Nat → Nat → Int32} {aLnum : Nat → Nat → Int32} {aLm : Nat → Nat} {aSh : Nat → Nat → Int32} {aBrk : Nat} {aThr : Int32} {C : CD} {mc : Nat} {D : Int32} {w : Int32} (hW : WfR aMac aMem aEnt aBar aBrk aOw aMo aMk aCm aCb aMt aLm) (hm : mc < 6) : Cal (d + 3) 146 [vR 9 0, vI (nI mc), vI D, vI w] (enc C (mkR aMk aSu aMac aMem aTk aPaid aNd aDay aOw aMo aDy aSt aLe aWk aSta aDue aCm aCb aCl aEnt aMt aBl aBar aPr aLs aLnum aLm aSh aBrk aThr) W) (.inl (some (vI (f_r_minutes aDy aEnt aLe aMo aSt aSta aSu aWk mc D w)))) (enc C (mkR aMk aSu aMac aMem aTk aPaid aNd aDay aOw aMo aDy aSt aLe aWk aSta aDue aCm aCb aCl aEnt aMt aBl aBar aPr aLs aLnum aLm aSh aBrk aThr) W) := by
  obtain ⟨wMac, wMem, wEnt, wBar, wBrk, wOw, wMo, wMk, wCm, wCb, wMt, wLm⟩ := id hW
  refine Cal.mk (n := 6) rfl (Nat.le_of_ble_eq_true rfl) rfl ?_
  unfold f_r_minutes
  refine Ev.ps 4 rfl ?_
  have L6 : ∀ (k6 j6 : Nat) (sum : Int32), j6 + k6 = 480 → Ev (d + 3) (146, 6, [some (vR 9 0), some (vI (nI mc)), some (vI D), some (vI w), some (vI sum), some (vI (nI j6))], []) (enc C (mkR aMk aSu aMac aMem aTk aPaid aNd aDay aOw aMo aDy aSt aLe aWk aSta aDue aCm aCb aCl aEnt aMt aBl aBar aPr aLs aLnum aLm aSh aBrk aThr) W) ((.inl (some (vI (r_minutes_L6 aDy aEnt aLe aMo aSt aSta aSu aWk mc D w k6 j6 sum)))), enc C (mkR aMk aSu aMac aMem aTk aPaid aNd aDay aOw aMo aDy aSt aLe aWk aSta aDue aCm aCb aCl aEnt aMt aBl aBar aPr aLs aLnum aLm aSh aBrk aThr) W) := by
    intro k6
    induction k6 with
    | zero =>
      intro j6 sum hj6
      rw [r_minutes_L6]
      refine Ev.ps 2 rfl ?_
      refine Ev.igeN (a := j6) (b := 480) (by omega) (by omega) (by rfl) (by rfl) (fun (c1 : j6 < 480) => ?_) (fun (c1 : ¬ j6 < 480) => ?_)
      · exfalso; omega
      · refine Ev.ps 1 rfl ?_
        exact Ev.re rfl rfl rfl rfl rfl
    | succ k6 ih6 =>
      intro j6 sum hj6
      rw [r_minutes_L6]
      refine Ev.ps 2 rfl ?_
      refine Ev.igeN (a := j6) (b := 480) (by omega) (by omega) (by rfl) (by rfl) (fun (c2 : j6 < 480) => ?_) (fun (c2 : ¬ j6 < 480) => ?_)
      · refine Ev.ps 5 rfl ?_
        refine Ev.vir (as := [vI (nI mc), vI D, vI (nI j6)]) (rest := [vI sum]) (by rfl) (by rfl) (by rfl) (by rfl) rfl (Nat.le_of_ble_eq_true rfl) (by rfl) (by rw [rd9]; rfl) (s_r_minute hW (by omega)) ?_
        refine Ev.ps 1 rfl ?_
        refine Ev.ine (by rfl) (by rfl) (fun (c3 : f_r_minute aDy aEnt aLe aMo aSt aSta aSu aWk mc D (nI j6) = w) => ?_) (fun (c3 : ¬ f_r_minute aDy aEnt aLe aMo aSt aSta aSu aWk mc D (nI j6) = w) => ?_)
        · rw [if_pos c3]
          refine Ev.ps 6 rfl ?_
          have h9 := ih6 (j6 + 1) (sum + 1) (by show j6 + 1 + k6 = 480; omega)
          rw [← nI_1] at h9
          exact h9
        · rw [if_neg c3]
          refine Ev.ps 5 rfl ?_
          have h9 := ih6 (j6 + 1) (sum + 0) (by show j6 + 1 + k6 = 480; omega)
          rw [← nI_1] at h9
          exact h9
      · exfalso; omega
  exact L6 480 0 0 (by show 0 + 480 = 480; omega)
def r_used_L5 (aDy : Nat → Int32) (aLe : Nat → Int32) (aMo : Nat → Nat) (aSta : Nat → Int32) (mc : Nat) (D : Int32) : Nat → Nat → Int32 → (Int32)
  | 0, j5, sum =>
    sum
  | k5 + 1, j5, sum =>
    if f_r_stands aDy aMo aSta j5 mc D then r_used_L5 aDy aLe aMo aSta mc D k5 (j5 + 1) (sum + (aLe j5)) else r_used_L5 aDy aLe aMo aSta mc D k5 (j5 + 1) (sum + 0)
def f_r_used (aDy : Nat → Int32) (aEnt : Nat) (aLe : Nat → Int32) (aMo : Nat → Nat) (aSta : Nat → Int32) (mc : Nat) (D : Int32) : Int32 :=
  r_used_L5 aDy aLe aMo aSta mc D aEnt 0 0
theorem s_r_used {d : Nat} {W : WD} {aMk : Nat → Nat} {aSu : Nat → Int32} {aMac : Nat} {aMem : Nat} {aTk : Nat → Nat → Int32} {aPaid : Nat → Int64} {aNd : Nat → Nat → Bool} {aDay : Int32} {aOw : Nat → Nat} {aMo : Nat → Nat} {aDy : Nat → Int32} {aSt : Nat → Int32} {aLe : Nat → Int32} {aWk : Nat → Int32} {aSta : Nat → Int32} {aDue : Nat → Int32} {aCm : Nat → Nat} {aCb : Nat → Nat → Nat} {aCl : Nat → Nat → Int32} {aEnt : Nat} {aMt : Nat → Nat} {aBl : Nat → Int32} {aBar : Nat} {aPr : Nat → Int32} {aLs : Nat → Nat → Int32} {aLnum : Nat → Nat → Int32} {aLm : Nat → Nat} {aSh : Nat → Nat → Int32} {aBrk : Nat} {aThr : Int32} {C : CD} {mc : Nat} {D : Int32} (hW : WfR aMac aMem aEnt aBar aBrk aOw aMo aMk aCm aCb aMt aLm) (hm : mc < 6) : Cal (d + 1) 147 [vR 9 0, vI (nI mc), vI D] (enc C (mkR aMk aSu aMac aMem aTk aPaid aNd aDay aOw aMo aDy aSt aLe aWk aSta aDue aCm aCb aCl aEnt aMt aBl aBar aPr aLs aLnum aLm aSh aBrk aThr) W) (.inl (some (vI (f_r_used aDy aEnt aLe aMo aSta mc D)))) (enc C (mkR aMk aSu aMac aMem aTk aPaid aNd aDay aOw aMo aDy aSt aLe aWk aSta aDue aCm aCb aCl aEnt aMt aBl aBar aPr aLs aLnum aLm aSh aBrk aThr) W) := by
  obtain ⟨wMac, wMem, wEnt, wBar, wBrk, wOw, wMo, wMk, wCm, wCb, wMt, wLm⟩ := id hW
  refine Cal.mk (n := 5) rfl (Nat.le_of_ble_eq_true rfl) rfl ?_
  unfold f_r_used
  refine Ev.ps 4 rfl ?_
  have L5 : ∀ (k5 j5 : Nat) (sum : Int32), j5 + k5 = aEnt → Ev (d + 1) (147, 5, [some (vR 9 0), some (vI (nI mc)), some (vI D), some (vI sum), some (vI (nI j5))], []) (enc C (mkR aMk aSu aMac aMem aTk aPaid aNd aDay aOw aMo aDy aSt aLe aWk aSta aDue aCm aCb aCl aEnt aMt aBl aBar aPr aLs aLnum aLm aSh aBrk aThr) W) ((.inl (some (vI (r_used_L5 aDy aLe aMo aSta mc D k5 j5 sum)))), enc C (mkR aMk aSu aMac aMem aTk aPaid aNd aDay aOw aMo aDy aSt aLe aWk aSta aDue aCm aCb aCl aEnt aMt aBl aBar aPr aLs aLnum aLm aSh aBrk aThr) W) := by
    intro k5
    induction k5 with
    | zero =>
      intro j5 sum hj5
      rw [r_used_L5]
      refine Ev.ps 2 rfl ?_
      refine Ev.getf (v := vI (nI aEnt)) (by rfl) (by rfl) (by rfl) (rd9) rfl ?_
      refine Ev.igeN (a := j5) (b := aEnt) (by omega) (by omega) (by rfl) (by rfl) (fun (c1 : j5 < aEnt) => ?_) (fun (c1 : ¬ j5 < aEnt) => ?_)
      · exfalso; omega
      · refine Ev.ps 1 rfl ?_
        exact Ev.re rfl rfl rfl rfl rfl
    | succ k5 ih5 =>
      intro j5 sum hj5
      rw [r_used_L5]
      refine Ev.ps 2 rfl ?_
      refine Ev.getf (v := vI (nI aEnt)) (by rfl) (by rfl) (by rfl) (rd9) rfl ?_
      refine Ev.igeN (a := j5) (b := aEnt) (by omega) (by omega) (by rfl) (by rfl) (fun (c2 : j5 < aEnt) => ?_) (fun (c2 : ¬ j5 < aEnt) => ?_)
      · refine Ev.ps 5 rfl ?_
        refine Ev.vir (as := [vI (nI j5), vI (nI mc), vI D]) (rest := [vI sum]) (by rfl) (by rfl) (by rfl) (by rfl) rfl (Nat.le_of_ble_eq_true rfl) (by rfl) (by rw [rd9]; rfl) (s_r_stands hW (by omega) (by omega)) ?_
        refine Ev.ifbe (by rfl) (by rfl) (fun c3 => ?_) (fun c3 => ?_)
        · rw [if_pos c3]
          refine Ev.ps 1 rfl ?_
          refine Ev.getf (v := vR 36 0) (by rfl) (by rfl) (by rfl) (rd9) rfl ?_
          refine Ev.ps 1 rfl ?_
          refine Ev.aiI (k := j5) (v := vI (aLe j5)) (by rfl) (by decide) (rd36) (by omega) (by omega) rfl ?_
          refine Ev.ps 5 rfl ?_
          have h9 := ih5 (j5 + 1) (sum + (aLe j5)) (by show j5 + 1 + k5 = aEnt; omega)
          rw [← nI_1] at h9
          exact h9
        · rw [if_neg c3]
          refine Ev.ps 5 rfl ?_
          have h9 := ih5 (j5 + 1) (sum + 0) (by show j5 + 1 + k5 = aEnt; omega)
          rw [← nI_1] at h9
          exact h9
      · exfalso; omega
  exact L5 aEnt 0 0 (by show 0 + aEnt = aEnt; omega)
def f_r_isWork  (w : Int32) : Bool :=
  if w = 97 then true else if w = 98 then true else if w = 99 then true else false
theorem s_r_isWork {d : Nat} {W : WD} {aMk : Nat → Nat} {aSu : Nat → Int32} {aMac : Nat} {aMem : Nat} {aTk : Nat → Nat → Int32} {aPaid : Nat → Int64} {aNd : Nat → Nat → Bool} {aDay : Int32} {aOw : Nat → Nat} {aMo : Nat → Nat} {aDy : Nat → Int32} {aSt : Nat → Int32} {aLe : Nat → Int32} {aWk : Nat → Int32} {aSta : Nat → Int32} {aDue : Nat → Int32} {aCm : Nat → Nat} {aCb : Nat → Nat → Nat} {aCl : Nat → Nat → Int32} {aEnt : Nat} {aMt : Nat → Nat} {aBl : Nat → Int32} {aBar : Nat} {aPr : Nat → Int32} {aLs : Nat → Nat → Int32} {aLnum : Nat → Nat → Int32} {aLm : Nat → Nat} {aSh : Nat → Nat → Int32} {aBrk : Nat} {aThr : Int32} {C : CD} {w : Int32}  : Cal (d + 0) 132 [vI w] (enc C (mkR aMk aSu aMac aMem aTk aPaid aNd aDay aOw aMo aDy aSt aLe aWk aSta aDue aCm aCb aCl aEnt aMt aBl aBar aPr aLs aLnum aLm aSh aBrk aThr) W) (.inl (some (vI (bI (f_r_isWork  w))))) (enc C (mkR aMk aSu aMac aMem aTk aPaid aNd aDay aOw aMo aDy aSt aLe aWk aSta aDue aCm aCb aCl aEnt aMt aBl aBar aPr aLs aLnum aLm aSh aBrk aThr) W) := by
  refine Cal.mk (n := 1) rfl (Nat.le_of_ble_eq_true rfl) rfl ?_
  unfold f_r_isWork
  refine Ev.ps 2 rfl ?_
  refine Ev.ieq (by rfl) (by rfl) (fun (c1 : w = 97) => ?_) (fun (c1 : ¬ w = 97) => ?_)
  · rw [if_pos c1]
    refine Ev.ps 2 rfl ?_
    exact Ev.re rfl rfl rfl rfl rfl
  · rw [if_neg c1]
    refine Ev.ps 2 rfl ?_
    refine Ev.ieq (by rfl) (by rfl) (fun (c2 : w = 98) => ?_) (fun (c2 : ¬ w = 98) => ?_)
    · rw [if_pos c2]
      refine Ev.ps 2 rfl ?_
      exact Ev.re rfl rfl rfl rfl rfl
    · rw [if_neg c2]
      refine Ev.ps 2 rfl ?_
      refine Ev.ine (by rfl) (by rfl) (fun (c3 : w = 99) => ?_) (fun (c3 : ¬ w = 99) => ?_)
      · rw [if_pos c3]
        refine Ev.ps 2 rfl ?_
        exact Ev.re rfl rfl rfl rfl rfl
      · rw [if_neg c3]
        refine Ev.ps 1 rfl ?_
        exact Ev.re rfl rfl rfl rfl rfl
