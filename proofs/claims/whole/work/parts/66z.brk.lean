/-! the reference: breakDown (written by gref4.py) -/
def r_breakDown_L64 (aDay : Int32) (aDy : Nat → Int32) (aLe : Nat → Int32) (aMo : Nat → Nat) (aOw : Nat → Nat) (aSta : Nat → Int32) (k_p0 : Nat) (X : Int32) : Nat → Nat → Int32 → (Nat → Int32) → (Int32 × (Nat → Int32))
  | 0, j64, tot, A6 =>
    (tot, A6)
  | k64 + 1, j64, tot, A6 =>
    if aSta j64 = 100 then
      if aMo j64 = k_p0 then
        if f_r_in (aDy j64) (aDay - 7) (aDay - 1) then
          r_breakDown_L64 aDay aDy aLe aMo aOw aSta k_p0 X k64 (j64 + 1) (tot + (aLe j64)) (fup A6 (aOw j64) ((A6 (aOw j64)) + (aLe j64)))
        else
          r_breakDown_L64 aDay aDy aLe aMo aOw aSta k_p0 X k64 (j64 + 1) tot A6
      else
        r_breakDown_L64 aDay aDy aLe aMo aOw aSta k_p0 X k64 (j64 + 1) tot A6
    else
      r_breakDown_L64 aDay aDy aLe aMo aOw aSta k_p0 X k64 (j64 + 1) tot A6
def r_breakDown_L194 (aBrk : Nat) (aDay : Int32) (aDy : Nat → Int32) (aEnt : Nat) (aLe : Nat → Int32) (aMo : Nat → Nat) (aOw : Nat → Nat) (aSta : Nat → Int32) (k_p0 : Nat) (X : Int32) : Nat → Nat → Int32 → (Nat → Int64) → (Nat → Nat → Int32) → (Int32 × (Nat → Int64) × (Nat → Nat → Int32))
  | 0, j194, lf, A7, aSh_194 =>
    (lf, A7, aSh_194)
  | k194 + 1, j194, lf, A7, aSh_194 =>
    r_breakDown_L194 aBrk aDay aDy aEnt aLe aMo aOw aSta k_p0 X k194 (j194 + 1) (lf - ((fup aSh_194 aBrk (fup (aSh_194 aBrk) j194 (((X.toInt64 * ((((r_breakDown_L64 aDay aDy aLe aMo aOw aSta k_p0 X aEnt 0 0 (fun _ => 0)).2) j194).toInt64)) / (((r_breakDown_L64 aDay aDy aLe aMo aOw aSta k_p0 X aEnt 0 0 (fun _ => 0)).1).toInt64)).toInt32))) aBrk j194)) (fup A7 j194 ((X.toInt64 * ((((r_breakDown_L64 aDay aDy aLe aMo aOw aSta k_p0 X aEnt 0 0 (fun _ => 0)).2) j194).toInt64)) - (X.toInt64 * ((((r_breakDown_L64 aDay aDy aLe aMo aOw aSta k_p0 X aEnt 0 0 (fun _ => 0)).2) j194).toInt64)) / (((r_breakDown_L64 aDay aDy aLe aMo aOw aSta k_p0 X aEnt 0 0 (fun _ => 0)).1).toInt64) * (((r_breakDown_L64 aDay aDy aLe aMo aOw aSta k_p0 X aEnt 0 0 (fun _ => 0)).1).toInt64))) (fup aSh_194 aBrk (fup (aSh_194 aBrk) j194 (((X.toInt64 * ((((r_breakDown_L64 aDay aDy aLe aMo aOw aSta k_p0 X aEnt 0 0 (fun _ => 0)).2) j194).toInt64)) / (((r_breakDown_L64 aDay aDy aLe aMo aOw aSta k_p0 X aEnt 0 0 (fun _ => 0)).1).toInt64)).toInt32)))
def r_breakDown_L275 (aMem : Nat) (k_p0 : Nat) (X : Int32) (A7 : Nat → Int64) : Nat → Nat → Nat → (Nat)
  | 0, j275, best =>
    best
  | k275 + 1, j275, best =>
    if j275 < aMem then
      if 0 < lg_cmp (A7 j275) (A7 best) then r_breakDown_L275 aMem k_p0 X A7 k275 (j275 + 1) j275 else r_breakDown_L275 aMem k_p0 X A7 k275 (j275 + 1) best
    else
      best
def r_breakDown_L264 (aBrk : Nat) (aMem : Nat) (k_p0 : Nat) (X : Int32) : Nat → Int32 → (Nat → Int64) → (Nat → Nat → Int32) → (Int32 × (Nat → Int64) × (Nat → Nat → Int32))
  | 0, lf, A7, aSh_264 =>
    (lf, A7, aSh_264)
  | k264 + 1, lf, A7, aSh_264 =>
    if 0 < lf then
      r_breakDown_L264 aBrk aMem k_p0 X k264 (lf + (-1)) (fup A7 (r_breakDown_L275 aMem k_p0 X A7 (aMem - 1) 1 0) (-1)) (fup aSh_264 aBrk (fup (aSh_264 aBrk) (r_breakDown_L275 aMem k_p0 X A7 (aMem - 1) 1 0) ((aSh_264 aBrk (r_breakDown_L275 aMem k_p0 X A7 (aMem - 1) 1 0)) + 1)))
    else
      (lf, A7, aSh_264)
def f_r_breakDown (aBrk : Nat) (aDay : Int32) (aDy : Nat → Int32) (aEnt : Nat) (aLe : Nat → Int32) (aMac : Nat) (aMem : Nat) (aMo : Nat → Nat) (aOw : Nat → Nat) (aSh : Nat → Nat → Int32) (aSta : Nat → Int32) (zG6 : List Ob) (zG7 : List Ob) (zc : Nat) (zn : Nat) (p0 X : Int32) : Int32 × (Nat → Nat → Int32) × Nat × Int32 × List Ob × List Ob × Nat × Nat :=
  if f_r_isMachine aMac p0 then
    if f_r_in X 1 100000 then
      if aBrk = 20 then
        (0, aSh, aBrk, 3, zG6, zG7, zc, zn)
      else
        if (r_breakDown_L64 aDay aDy aLe aMo aOw aSta (nP p0) X aEnt 0 0 (fun _ => 0)).1 = 0 then
          (0, aSh, aBrk + 1, 0, zG6 ++ [pl 10 (fun k => vI (((r_breakDown_L64 aDay aDy aLe aMo aOw aSta (nP p0) X aEnt 0 0 (fun _ => 0)).2) k))], zG7, zc + 1, zn + 10)
        else
          ((r_breakDown_L64 aDay aDy aLe aMo aOw aSta (nP p0) X aEnt 0 0 (fun _ => 0)).1, (r_breakDown_L264 aBrk aMem (nP p0) X (((r_breakDown_L194 aBrk aDay aDy aEnt aLe aMo aOw aSta (nP p0) X aMem 0 X (fun _ => 0) aSh).1).toInt.toNat) ((r_breakDown_L194 aBrk aDay aDy aEnt aLe aMo aOw aSta (nP p0) X aMem 0 X (fun _ => 0) aSh).1) ((r_breakDown_L194 aBrk aDay aDy aEnt aLe aMo aOw aSta (nP p0) X aMem 0 X (fun _ => 0) aSh).2.1) ((r_breakDown_L194 aBrk aDay aDy aEnt aLe aMo aOw aSta (nP p0) X aMem 0 X (fun _ => 0) aSh).2.2)).2.2, aBrk + 1, 0, zG6 ++ [pl 10 (fun k => vI (((r_breakDown_L64 aDay aDy aLe aMo aOw aSta (nP p0) X aEnt 0 0 (fun _ => 0)).2) k))], zG7 ++ [pl 10 (fun k => vL (((r_breakDown_L264 aBrk aMem (nP p0) X (((r_breakDown_L194 aBrk aDay aDy aEnt aLe aMo aOw aSta (nP p0) X aMem 0 X (fun _ => 0) aSh).1).toInt.toNat) ((r_breakDown_L194 aBrk aDay aDy aEnt aLe aMo aOw aSta (nP p0) X aMem 0 X (fun _ => 0) aSh).1) ((r_breakDown_L194 aBrk aDay aDy aEnt aLe aMo aOw aSta (nP p0) X aMem 0 X (fun _ => 0) aSh).2.1) ((r_breakDown_L194 aBrk aDay aDy aEnt aLe aMo aOw aSta (nP p0) X aMem 0 X (fun _ => 0) aSh).2.2)).2.1) k))], zc + 1 + 1, zn + 10 + 10)
    else
      (0, aSh, aBrk, 2, zG6, zG7, zc, zn)
  else
    (0, aSh, aBrk, 1, zG6, zG7, zc, zn)
theorem s_r_breakDown {d : Nat} {zO : Int64} {zD : UInt64} {zX : Nat} {zL : Nat} {zXs : Nat → Int32} {zG5 : List Ob} {zG6 : List Ob} {zG7 : List Ob} {zc : Nat} {zn : Nat} {aMk : Nat → Nat} {aSu : Nat → Int32} {aMac : Nat} {aMem : Nat} {aTk : Nat → Nat → Int32} {aPaid : Nat → Int64} {aNd : Nat → Nat → Bool} {aDay : Int32} {aOw : Nat → Nat} {aMo : Nat → Nat} {aDy : Nat → Int32} {aSt : Nat → Int32} {aLe : Nat → Int32} {aWk : Nat → Int32} {aSta : Nat → Int32} {aDue : Nat → Int32} {aCm : Nat → Nat} {aCb : Nat → Nat → Nat} {aCl : Nat → Nat → Int32} {aEnt : Nat} {aMt : Nat → Nat} {aBl : Nat → Int32} {aBar : Nat} {aPr : Nat → Int32} {aLs : Nat → Nat → Int32} {aLnum : Nat → Nat → Int32} {aLm : Nat → Nat} {aSh : Nat → Nat → Int32} {aBrk : Nat} {aThr : Int32} {C : CD} {p0 : Int32} {X : Int32} (hW : WfR aMac aMem aEnt aBar aBrk aOw aMo aMk aCm aCb aMt aLm) : Cal (d + 2) 168 [vR 9 0, vI p0, vI X] (enc C (mkR aMk aSu aMac aMem aTk aPaid aNd aDay aOw aMo aDy aSt aLe aWk aSta aDue aCm aCb aCl aEnt aMt aBl aBar aPr aLs aLnum aLm aSh aBrk aThr) (mkW zO zD zX zL zXs zG5 zG6 zG7 zc zn)) (.inl (some (vI ((f_r_breakDown aBrk aDay aDy aEnt aLe aMac aMem aMo aOw aSh aSta zG6 zG7 zc zn p0 X).1)))) (enc C (mkR aMk aSu aMac aMem aTk aPaid aNd aDay aOw aMo aDy aSt aLe aWk aSta aDue aCm aCb aCl aEnt aMt aBl aBar aPr aLs aLnum aLm ((f_r_breakDown aBrk aDay aDy aEnt aLe aMac aMem aMo aOw aSh aSta zG6 zG7 zc zn p0 X).2.1) ((f_r_breakDown aBrk aDay aDy aEnt aLe aMac aMem aMo aOw aSh aSta zG6 zG7 zc zn p0 X).2.2.1) ((f_r_breakDown aBrk aDay aDy aEnt aLe aMac aMem aMo aOw aSh aSta zG6 zG7 zc zn p0 X).2.2.2.1)) (mkW zO zD zX zL zXs zG5 ((f_r_breakDown aBrk aDay aDy aEnt aLe aMac aMem aMo aOw aSh aSta zG6 zG7 zc zn p0 X).2.2.2.2.1) ((f_r_breakDown aBrk aDay aDy aEnt aLe aMac aMem aMo aOw aSh aSta zG6 zG7 zc zn p0 X).2.2.2.2.2.1) ((f_r_breakDown aBrk aDay aDy aEnt aLe aMac aMem aMo aOw aSh aSta zG6 zG7 zc zn p0 X).2.2.2.2.2.2.1) ((f_r_breakDown aBrk aDay aDy aEnt aLe aMac aMem aMo aOw aSh aSta zG6 zG7 zc zn p0 X).2.2.2.2.2.2.2))) := by
  obtain ⟨wMac, wMem, wEnt, wBar, wBrk, wOw, wMo, wMk, wCm, wCb, wMt, wLm⟩ := id hW
  refine Cal.mk (n := 10) rfl (Nat.le_of_ble_eq_true rfl) rfl ?_
  unfold f_r_breakDown
  refine Ev.ps 3 rfl ?_
  refine Ev.vir (as := [vI p0]) (rest := [vR 9 0]) (by rfl) (by rfl) (by rfl) (by rfl) rfl (Nat.le_of_ble_eq_true rfl) (by rfl) (by rw [rd9]; rfl) (s_r_isMachine ) ?_
  refine Ev.ifbn (by rfl) (by rfl) (fun c1 => ?_) (fun c1 => ?_)
  · rw [if_pos c1]
    have q_p0 := isMachine_nat wMac c1
    generalize nP p0 = k_p0 at q_p0 ⊢
    obtain ⟨rfl, hk_p0⟩ := q_p0
    refine Ev.ps 2 rfl ?_
    refine Ev.lcI (v := 100000) (by rfl) (by rfl) ?_
    refine Ev.sta (as := [vI X, vI 1, vI 100000]) (rest := [vR 9 0]) (by rfl) (by rfl) (by rfl) (by rfl) rfl (Nat.le_of_ble_eq_true rfl) (s_r_in ) ?_
    refine Ev.ifbn (by rfl) (by rfl) (fun c2 => ?_) (fun c2 => ?_)
    · rw [if_pos c2]
      refine Ev.ps 1 rfl ?_
      refine Ev.getf (v := vI (nI aBrk)) (by rfl) (by rfl) (by rfl) (rd9) rfl ?_
      refine Ev.ps 1 rfl ?_
      refine Ev.ineN (a := aBrk) (b := 20) (by omega) (by omega) (by rfl) (by rfl) (fun (c3 : aBrk = 20) => ?_) (fun (c3 : ¬ aBrk = 20) => ?_)
      · rw [if_pos c3]
        refine Ev.ps 2 rfl ?_
        refine Ev.pf (by rfl) (by rfl) (by rfl) (Nat.le_of_ble_eq_true rfl) rfl (Or.inl (by rfl)) (rd9) (show _ = enc C (mkR aMk aSu aMac aMem aTk aPaid aNd aDay aOw aMo aDy aSt aLe aWk aSta aDue aCm aCb aCl aEnt aMt aBl aBar aPr aLs aLnum aLm aSh aBrk 3) (mkW zO zD zX zL zXs zG5 zG6 zG7 zc zn) from wr9_Thr (v := 3)) ?_
        refine Ev.ps 1 rfl ?_
        refine Ev.getf (v := vI 3) (by rfl) (by rfl) (by rfl) (rd9) rfl ?_
        refine Ev.ifi (by rfl) (by rfl) (fun z => by exact absurd z (by decide)) (fun _ => ?_)
        refine Ev.ps 1 rfl ?_
        exact Ev.re rfl rfl rfl rfl rfl
      · rw [if_neg c3]
        refine Ev.ps 1 rfl ?_
        refine Ev.pf (by rfl) (by rfl) (by rfl) (Nat.le_of_ble_eq_true rfl) rfl (Or.inl (by rfl)) (rd9) (show _ = enc C (mkR aMk aSu aMac aMem aTk aPaid aNd aDay aOw aMo aDy aSt aLe aWk aSta aDue aCm aCb aCl aEnt aMt aBl aBar aPr aLs aLnum aLm aSh aBrk 0) (mkW zO zD zX zL zXs zG5 zG6 zG7 zc zn) from wr9_Thr (v := 0)) ?_
        refine Ev.ps 1 rfl ?_
        refine Ev.getf (v := vI 0) (by rfl) (by rfl) (by rfl) (rd9) rfl ?_
        refine Ev.ifi (by rfl) (by rfl) (fun _ => ?_) (fun z => by exact absurd z (by decide))
        refine Ev.ps 1 rfl ?_
        refine Ev.na (N := 10) (by rfl) (by rfl) ⟨by rfl, by decide, by rfl⟩ (by omega) rfl (nw56) ?_
        refine Ev.ps 5 rfl ?_
        have L64 : ∀ {x : Re × Hp}, ∀ (k64 j64 : Nat) (tot : Int32) (A6 : Nat → Int32), j64 + k64 = aEnt → (∀ (e64_5 : Option MV), Da e64_5 → Ev (d + 2) (168, 159, [some (vR 9 0), some (vI (nI k_p0)), some (vI X), some (vR 56 ((zG6).length)), some (vI ((r_breakDown_L64 aDay aDy aLe aMo aOw aSta k_p0 X k64 j64 tot A6).1)), e64_5, none, none, none, none], []) (enc C (mkR aMk aSu aMac aMem aTk aPaid aNd aDay aOw aMo aDy aSt aLe aWk aSta aDue aCm aCb aCl aEnt aMt aBl aBar aPr aLs aLnum aLm aSh aBrk 0) (mkW zO zD zX zL zXs zG5 (zG6 ++ [pl 10 (fun k => vI (((r_breakDown_L64 aDay aDy aLe aMo aOw aSta k_p0 X k64 j64 tot A6).2) k))]) zG7 (zc + 1) (zn + 10))) x) → Ev (d + 2) (168, 64, [some (vR 9 0), some (vI (nI k_p0)), some (vI X), some (vR 56 ((zG6).length)), some (vI tot), some (vI (nI j64)), none, none, none, none], []) (enc C (mkR aMk aSu aMac aMem aTk aPaid aNd aDay aOw aMo aDy aSt aLe aWk aSta aDue aCm aCb aCl aEnt aMt aBl aBar aPr aLs aLnum aLm aSh aBrk 0) (mkW zO zD zX zL zXs zG5 (zG6 ++ [pl 10 (fun k => vI (A6 k))]) zG7 (zc + 1) (zn + 10))) x := by
          intro x k64
          induction k64 with
          | zero =>
            intro j64 tot A6 hj64 K64
            rw [r_breakDown_L64] at K64
            refine Ev.ps 2 rfl ?_
            refine Ev.getf (v := vI (nI aEnt)) (by rfl) (by rfl) (by rfl) (rd9) rfl ?_
            refine Ev.igeN (a := j64) (b := aEnt) (by omega) (by omega) (by rfl) (by rfl) (fun (c4 : j64 < aEnt) => ?_) (fun (c4 : ¬ j64 < aEnt) => ?_)
            · exfalso; omega
            · exact K64 _ Da.i
          | succ k64 ih64 =>
            intro j64 tot A6 hj64 K64
            rw [r_breakDown_L64] at K64
            refine Ev.ps 2 rfl ?_
            refine Ev.getf (v := vI (nI aEnt)) (by rfl) (by rfl) (by rfl) (rd9) rfl ?_
            refine Ev.igeN (a := j64) (b := aEnt) (by omega) (by omega) (by rfl) (by rfl) (fun (c5 : j64 < aEnt) => ?_) (fun (c5 : ¬ j64 < aEnt) => ?_)
            · refine Ev.ps 1 rfl ?_
              refine Ev.getf (v := vR 38 0) (by rfl) (by rfl) (by rfl) (rd9) rfl ?_
              refine Ev.ps 1 rfl ?_
              refine Ev.aiC (k := j64) (v := vI (aSta j64)) (by rfl) (by decide) (rd38) (by omega) (by omega) rfl ?_
              refine Ev.ps 1 rfl ?_
              refine Ev.ine (by rfl) (by rfl) (fun (c6 : aSta j64 = 100) => ?_) (fun (c6 : ¬ aSta j64 = 100) => ?_)
              · rw [if_pos c6] at K64
                refine Ev.ps 1 rfl ?_
                refine Ev.getf (v := vR 33 0) (by rfl) (by rfl) (by rfl) (rd9) rfl ?_
                refine Ev.ps 1 rfl ?_
                refine Ev.aiI (k := j64) (v := vI (nI (aMo j64))) (by rfl) (by decide) (rd33) (by omega) (by omega) rfl ?_
                refine Ev.ps 1 rfl ?_
                refine Ev.ineN (a := (aMo j64)) (b := k_p0) (by have := wMo j64; omega) (by have := hk_p0; omega) (by rfl) (by rfl) (fun (c7 : aMo j64 = k_p0) => ?_) (fun (c7 : ¬ aMo j64 = k_p0) => ?_)
                · rw [if_pos c7] at K64
                  refine Ev.ps 1 rfl ?_
                  refine Ev.getf (v := vR 34 0) (by rfl) (by rfl) (by rfl) (rd9) rfl ?_
                  refine Ev.ps 1 rfl ?_
                  refine Ev.aiI (k := j64) (v := vI (aDy j64)) (by rfl) (by decide) (rd34) (by omega) (by omega) rfl ?_
                  refine Ev.ps 1 rfl ?_
                  refine Ev.getf (v := vI aDay) (by rfl) (by rfl) (by rfl) (rd9) rfl ?_
                  refine Ev.ps 3 rfl ?_
                  refine Ev.getf (v := vI aDay) (by rfl) (by rfl) (by rfl) (rd9) rfl ?_
                  refine Ev.ps 2 rfl ?_
                  refine Ev.sta (as := [vI (aDy j64), vI (aDay - 7), vI (aDay - 1)]) (rest := []) (by rfl) (by rfl) (by rfl) (by rfl) rfl (Nat.le_of_ble_eq_true rfl) (s_r_in ) ?_
                  refine Ev.ifbe (by rfl) (by rfl) (fun c8 => ?_) (fun c8 => ?_)
                  · rw [if_pos c8] at K64
                    refine Ev.ps 2 rfl ?_
                    refine Ev.getf (v := vR 32 0) (by rfl) (by rfl) (by rfl) (rd9) rfl ?_
                    refine Ev.ps 1 rfl ?_
                    refine Ev.aiI (k := j64) (v := vI (nI (aOw j64))) (by rfl) (by decide) (rd32) (by omega) (by omega) rfl ?_
                    refine Ev.ps 1 rfl ?_
                    refine Ev.aiI (k := (aOw j64)) (v := vI (A6 (aOw j64))) (by rfl) (by decide) (rd56) (by omega) (by have := wOw j64; omega) rfl ?_
                    refine Ev.ps 1 rfl ?_
                    refine Ev.getf (v := vR 36 0) (by rfl) (by rfl) (by rfl) (rd9) rfl ?_
                    refine Ev.ps 1 rfl ?_
                    refine Ev.aiI (k := j64) (v := vI (aLe j64)) (by rfl) (by decide) (rd36) (by omega) (by omega) rfl ?_
                    refine Ev.ps 1 rfl ?_
                    refine Ev.asI (k := (aOw j64)) (by rfl) (by rfl) (rd56) (by omega) (by have := wOw j64; omega) ((congrArg (hput _ _ _) (pl_setI (f := A6) (F := fun _ v => vI v) (v := ((A6 (aOw j64)) + (aLe j64))))).trans wr56) ?_
                    refine Ev.ps 2 rfl ?_
                    refine Ev.getf (v := vR 36 0) (by rfl) (by rfl) (by rfl) (rd9) rfl ?_
                    refine Ev.ps 1 rfl ?_
                    refine Ev.aiI (k := j64) (v := vI (aLe j64)) (by rfl) (by decide) (rd36) (by omega) (by omega) rfl ?_
                    refine Ev.ps 4 rfl ?_
                    have h9 := ih64 (j64 + 1) (tot + (aLe j64)) (fup A6 (aOw j64) ((A6 (aOw j64)) + (aLe j64))) (by show j64 + 1 + k64 = aEnt; omega) K64
                    rw [← nI_1] at h9
                    exact h9
                  · rw [if_neg c8] at K64
                    refine Ev.ps 2 rfl ?_
                    have h9 := ih64 (j64 + 1) tot A6 (by show j64 + 1 + k64 = aEnt; omega) K64
                    rw [← nI_1] at h9
                    exact h9
                · rw [if_neg c7] at K64
                  refine Ev.ps 2 rfl ?_
                  have h9 := ih64 (j64 + 1) tot A6 (by show j64 + 1 + k64 = aEnt; omega) K64
                  rw [← nI_1] at h9
                  exact h9
              · rw [if_neg c6] at K64
                refine Ev.ps 2 rfl ?_
                have h9 := ih64 (j64 + 1) tot A6 (by show j64 + 1 + k64 = aEnt; omega) K64
                rw [← nI_1] at h9
                exact h9
            · exfalso; omega
        refine L64 aEnt 0 0 (fun _ => 0) (by show 0 + aEnt = aEnt; omega) ?_
        intro e64_5 he64_5
        refine Ev.ps 1 rfl ?_
        refine Ev.getf (v := vI (nI aBrk)) (by rfl) (by rfl) (by rfl) (rd9) rfl ?_
        refine Ev.ps 3 rfl ?_
        refine Ev.getf (v := vI (nI aBrk)) (by rfl) (by rfl) (by rfl) (rd9) rfl ?_
        refine Ev.ps 2 rfl ?_
        refine Ev.st1 (b := nI (aBrk + 1)) (nI_1 aBrk) ?_
        refine Ev.pf (by rfl) (by rfl) (by rfl) (Nat.le_of_ble_eq_true rfl) rfl (Or.inl (by rfl)) (rd9) (show _ = enc C (mkR aMk aSu aMac aMem aTk aPaid aNd aDay aOw aMo aDy aSt aLe aWk aSta aDue aCm aCb aCl aEnt aMt aBl aBar aPr aLs aLnum aLm aSh (aBrk + 1) 0) (mkW zO zD zX zL zXs zG5 (zG6 ++ [pl 10 (fun k => vI (((r_breakDown_L64 aDay aDy aLe aMo aOw aSta k_p0 X aEnt 0 0 (fun _ => 0)).2) k))]) zG7 (zc + 1) (zn + 10)) from wr9_Brk (v := aBrk + 1)) ?_
        refine Ev.ps 1 rfl ?_
        refine Ev.zne (by rfl) (by rfl) (fun (c9 : (r_breakDown_L64 aDay aDy aLe aMo aOw aSta k_p0 X aEnt 0 0 (fun _ => 0)).1 = 0) => ?_) (fun (c9 : ¬ (r_breakDown_L64 aDay aDy aLe aMo aOw aSta k_p0 X aEnt 0 0 (fun _ => 0)).1 = 0) => ?_)
        · rw [if_pos c9]
          refine Ev.ps 1 rfl ?_
          exact Ev.re rfl rfl rfl rfl rfl
        · rw [if_neg c9]
          refine Ev.ps 1 rfl ?_
          refine Ev.na (N := 10) (by rfl) (by rfl) ⟨by rfl, by decide, by rfl⟩ (by omega) rfl (nw57) ?_
          refine Ev.ps 5 rfl ?_
          have L194 : ∀ {x : Re × Hp}, ∀ (k194 j194 : Nat) (lf : Int32) (A7 : Nat → Int64) (aSh_194 : Nat → Nat → Int32), j194 + k194 = aMem → (∀ (e194_8 : Option MV), Da e194_8 → Ev (d + 2) (168, 264, [some (vR 9 0), some (vI (nI k_p0)), some (vI X), some (vR 56 ((zG6).length)), some (vI ((r_breakDown_L64 aDay aDy aLe aMo aOw aSta k_p0 X aEnt 0 0 (fun _ => 0)).1)), some (vI (nI aBrk)), some (vR 57 ((zG7).length)), some (vI ((r_breakDown_L194 aBrk aDay aDy aEnt aLe aMo aOw aSta k_p0 X k194 j194 lf A7 aSh_194).1)), e194_8, none], []) (enc C (mkR aMk aSu aMac aMem aTk aPaid aNd aDay aOw aMo aDy aSt aLe aWk aSta aDue aCm aCb aCl aEnt aMt aBl aBar aPr aLs aLnum aLm ((r_breakDown_L194 aBrk aDay aDy aEnt aLe aMo aOw aSta k_p0 X k194 j194 lf A7 aSh_194).2.2) (aBrk + 1) 0) (mkW zO zD zX zL zXs zG5 (zG6 ++ [pl 10 (fun k => vI (((r_breakDown_L64 aDay aDy aLe aMo aOw aSta k_p0 X aEnt 0 0 (fun _ => 0)).2) k))]) (zG7 ++ [pl 10 (fun k => vL (((r_breakDown_L194 aBrk aDay aDy aEnt aLe aMo aOw aSta k_p0 X k194 j194 lf A7 aSh_194).2.1) k))]) (zc + 1 + 1) (zn + 10 + 10))) x) → Ev (d + 2) (168, 194, [some (vR 9 0), some (vI (nI k_p0)), some (vI X), some (vR 56 ((zG6).length)), some (vI ((r_breakDown_L64 aDay aDy aLe aMo aOw aSta k_p0 X aEnt 0 0 (fun _ => 0)).1)), some (vI (nI aBrk)), some (vR 57 ((zG7).length)), some (vI lf), some (vI (nI j194)), none], []) (enc C (mkR aMk aSu aMac aMem aTk aPaid aNd aDay aOw aMo aDy aSt aLe aWk aSta aDue aCm aCb aCl aEnt aMt aBl aBar aPr aLs aLnum aLm aSh_194 (aBrk + 1) 0) (mkW zO zD zX zL zXs zG5 (zG6 ++ [pl 10 (fun k => vI (((r_breakDown_L64 aDay aDy aLe aMo aOw aSta k_p0 X aEnt 0 0 (fun _ => 0)).2) k))]) (zG7 ++ [pl 10 (fun k => vL (A7 k))]) (zc + 1 + 1) (zn + 10 + 10))) x := by
            intro x k194
            induction k194 with
            | zero =>
              intro j194 lf A7 aSh_194 hj194 K194
              rw [r_breakDown_L194] at K194
              refine Ev.ps 2 rfl ?_
              refine Ev.getf (v := vI (nI aMem)) (by rfl) (by rfl) (by rfl) (rd9) rfl ?_
              refine Ev.igeN (a := j194) (b := aMem) (by omega) (by omega) (by rfl) (by rfl) (fun (c10 : j194 < aMem) => ?_) (fun (c10 : ¬ j194 < aMem) => ?_)
              · exfalso; omega
              · exact K194 _ Da.i
            | succ k194 ih194 =>
              intro j194 lf A7 aSh_194 hj194 K194
              rw [r_breakDown_L194] at K194
              refine Ev.ps 2 rfl ?_
              refine Ev.getf (v := vI (nI aMem)) (by rfl) (by rfl) (by rfl) (rd9) rfl ?_
              refine Ev.igeN (a := j194) (b := aMem) (by omega) (by omega) (by rfl) (by rfl) (fun (c11 : j194 < aMem) => ?_) (fun (c11 : ¬ j194 < aMem) => ?_)
              · refine Ev.ps 1 rfl ?_
                refine Ev.getf (v := vR 53 0) (by rfl) (by rfl) (by rfl) (rd9) rfl ?_
                refine Ev.ps 1 rfl ?_
                refine Ev.aiA (k := aBrk) (v := vR 54 aBrk) (by rfl) (by decide) (rd53) (by omega) (by omega) rfl ?_
                refine Ev.ps 5 rfl ?_
                refine Ev.aiI (k := j194) (v := vI (((r_breakDown_L64 aDay aDy aLe aMo aOw aSta k_p0 X aEnt 0 0 (fun _ => 0)).2) j194)) (by rfl) (by decide) (rd56) (by omega) (by omega) rfl ?_
                refine Ev.ps 4 rfl ?_
                refine Ev.p (by rfl) (by dsimp only [pin, p2l]; rw [if_pos rfl, if_neg (toI64_nz (by assumption))]; rfl) ?_
                refine Ev.ps 1 rfl ?_
                refine Ev.asI (k := j194) (by rfl) (by rfl) (rd54 (by omega)) (by omega) (by omega) (show _ = enc C (mkR aMk aSu aMac aMem aTk aPaid aNd aDay aOw aMo aDy aSt aLe aWk aSta aDue aCm aCb aCl aEnt aMt aBl aBar aPr aLs aLnum aLm (fup aSh_194 aBrk (fup (aSh_194 aBrk) j194 (((X.toInt64 * ((((r_breakDown_L64 aDay aDy aLe aMo aOw aSta k_p0 X aEnt 0 0 (fun _ => 0)).2) j194).toInt64)) / (((r_breakDown_L64 aDay aDy aLe aMo aOw aSta k_p0 X aEnt 0 0 (fun _ => 0)).1).toInt64)).toInt32))) (aBrk + 1) 0) (mkW zO zD zX zL zXs zG5 (zG6 ++ [pl 10 (fun k => vI (((r_breakDown_L64 aDay aDy aLe aMo aOw aSta k_p0 X aEnt 0 0 (fun _ => 0)).2) k))]) (zG7 ++ [pl 10 (fun k => vL (A7 k))]) (zc + 1 + 1) (zn + 10 + 10)) from wr54 (j := aBrk) (i := j194) (v := ((X.toInt64 * ((((r_breakDown_L64 aDay aDy aLe aMo aOw aSta k_p0 X aEnt 0 0 (fun _ => 0)).2) j194).toInt64)) / (((r_breakDown_L64 aDay aDy aLe aMo aOw aSta k_p0 X aEnt 0 0 (fun _ => 0)).1).toInt64)).toInt32)) ?_
                refine Ev.ps 6 rfl ?_
                refine Ev.aiI (k := j194) (v := vI (((r_breakDown_L64 aDay aDy aLe aMo aOw aSta k_p0 X aEnt 0 0 (fun _ => 0)).2) j194)) (by rfl) (by decide) (rd56) (by omega) (by omega) rfl ?_
                refine Ev.ps 4 rfl ?_
                refine Ev.p (by rfl) (by dsimp only [pin, p2l]; rw [if_pos rfl, if_neg (toI64_nz (by assumption))]; rfl) ?_
                refine Ev.asJ (k := j194) (by rfl) (by rfl) (rd57) (by omega) (by omega) ((congrArg (hput _ _ _) (pl_setI (f := A7) (F := fun _ v => vL v) (v := ((X.toInt64 * ((((r_breakDown_L64 aDay aDy aLe aMo aOw aSta k_p0 X aEnt 0 0 (fun _ => 0)).2) j194).toInt64)) - (X.toInt64 * ((((r_breakDown_L64 aDay aDy aLe aMo aOw aSta k_p0 X aEnt 0 0 (fun _ => 0)).2) j194).toInt64)) / (((r_breakDown_L64 aDay aDy aLe aMo aOw aSta k_p0 X aEnt 0 0 (fun _ => 0)).1).toInt64) * (((r_breakDown_L64 aDay aDy aLe aMo aOw aSta k_p0 X aEnt 0 0 (fun _ => 0)).1).toInt64))))).trans wr57) ?_
                refine Ev.ps 2 rfl ?_
                refine Ev.getf (v := vR 53 0) (by rfl) (by rfl) (by rfl) (rd9) rfl ?_
                refine Ev.ps 1 rfl ?_
                refine Ev.aiA (k := aBrk) (v := vR 54 aBrk) (by rfl) (by decide) (rd53) (by omega) (by omega) rfl ?_
                refine Ev.ps 1 rfl ?_
                refine Ev.aiI (k := j194) (v := vI ((fup aSh_194 aBrk (fup (aSh_194 aBrk) j194 (((X.toInt64 * ((((r_breakDown_L64 aDay aDy aLe aMo aOw aSta k_p0 X aEnt 0 0 (fun _ => 0)).2) j194).toInt64)) / (((r_breakDown_L64 aDay aDy aLe aMo aOw aSta k_p0 X aEnt 0 0 (fun _ => 0)).1).toInt64)).toInt32))) aBrk j194)) (by rfl) (by decide) (rd54 (by omega)) (by omega) (by omega) rfl ?_
                refine Ev.ps 4 rfl ?_
                have h9 := ih194 (j194 + 1) (lf - ((fup aSh_194 aBrk (fup (aSh_194 aBrk) j194 (((X.toInt64 * ((((r_breakDown_L64 aDay aDy aLe aMo aOw aSta k_p0 X aEnt 0 0 (fun _ => 0)).2) j194).toInt64)) / (((r_breakDown_L64 aDay aDy aLe aMo aOw aSta k_p0 X aEnt 0 0 (fun _ => 0)).1).toInt64)).toInt32))) aBrk j194)) (fup A7 j194 ((X.toInt64 * ((((r_breakDown_L64 aDay aDy aLe aMo aOw aSta k_p0 X aEnt 0 0 (fun _ => 0)).2) j194).toInt64)) - (X.toInt64 * ((((r_breakDown_L64 aDay aDy aLe aMo aOw aSta k_p0 X aEnt 0 0 (fun _ => 0)).2) j194).toInt64)) / (((r_breakDown_L64 aDay aDy aLe aMo aOw aSta k_p0 X aEnt 0 0 (fun _ => 0)).1).toInt64) * (((r_breakDown_L64 aDay aDy aLe aMo aOw aSta k_p0 X aEnt 0 0 (fun _ => 0)).1).toInt64))) (fup aSh_194 aBrk (fup (aSh_194 aBrk) j194 (((X.toInt64 * ((((r_breakDown_L64 aDay aDy aLe aMo aOw aSta k_p0 X aEnt 0 0 (fun _ => 0)).2) j194).toInt64)) / (((r_breakDown_L64 aDay aDy aLe aMo aOw aSta k_p0 X aEnt 0 0 (fun _ => 0)).1).toInt64)).toInt32))) (by show j194 + 1 + k194 = aMem; omega) K194
                rw [← nI_1] at h9
                exact h9
              · exfalso; omega
          refine L194 aMem 0 X (fun _ => 0) aSh (by show 0 + aMem = aMem; omega) ?_
          intro e194_8 he194_8
          have L264 : ∀ {x : Re × Hp}, ∀ (k264 : Nat) (lf : Int32) (A7 : Nat → Int64) (aSh_264 : Nat → Nat → Int32) (o264_8 : Option MV) (o264_9 : Option MV), lf.toInt.toNat ≤ k264 → Da o264_8 → Da o264_9 → (∀ (e264_8 : Option MV) (e264_9 : Option MV), Da e264_8 → Da e264_9 → Ev (d + 2) (168, 341, [some (vR 9 0), some (vI (nI k_p0)), some (vI X), some (vR 56 ((zG6).length)), some (vI ((r_breakDown_L64 aDay aDy aLe aMo aOw aSta k_p0 X aEnt 0 0 (fun _ => 0)).1)), some (vI (nI aBrk)), some (vR 57 ((zG7).length)), some (vI ((r_breakDown_L264 aBrk aMem k_p0 X k264 lf A7 aSh_264).1)), e264_8, e264_9], []) (enc C (mkR aMk aSu aMac aMem aTk aPaid aNd aDay aOw aMo aDy aSt aLe aWk aSta aDue aCm aCb aCl aEnt aMt aBl aBar aPr aLs aLnum aLm ((r_breakDown_L264 aBrk aMem k_p0 X k264 lf A7 aSh_264).2.2) (aBrk + 1) 0) (mkW zO zD zX zL zXs zG5 (zG6 ++ [pl 10 (fun k => vI (((r_breakDown_L64 aDay aDy aLe aMo aOw aSta k_p0 X aEnt 0 0 (fun _ => 0)).2) k))]) (zG7 ++ [pl 10 (fun k => vL (((r_breakDown_L264 aBrk aMem k_p0 X k264 lf A7 aSh_264).2.1) k))]) (zc + 1 + 1) (zn + 10 + 10))) x) → Ev (d + 2) (168, 264, [some (vR 9 0), some (vI (nI k_p0)), some (vI X), some (vR 56 ((zG6).length)), some (vI ((r_breakDown_L64 aDay aDy aLe aMo aOw aSta k_p0 X aEnt 0 0 (fun _ => 0)).1)), some (vI (nI aBrk)), some (vR 57 ((zG7).length)), some (vI lf), o264_8, o264_9], []) (enc C (mkR aMk aSu aMac aMem aTk aPaid aNd aDay aOw aMo aDy aSt aLe aWk aSta aDue aCm aCb aCl aEnt aMt aBl aBar aPr aLs aLnum aLm aSh_264 (aBrk + 1) 0) (mkW zO zD zX zL zXs zG5 (zG6 ++ [pl 10 (fun k => vI (((r_breakDown_L64 aDay aDy aLe aMo aOw aSta k_p0 X aEnt 0 0 (fun _ => 0)).2) k))]) (zG7 ++ [pl 10 (fun k => vL (A7 k))]) (zc + 1 + 1) (zn + 10 + 10))) x := by
            intro x k264
            induction k264 with
            | zero =>
              intro lf A7 aSh_264 o264_8 o264_9 hj264 ho264_8 ho264_9 K264
              rw [r_breakDown_L264] at K264
              refine Ev.ps 1 rfl ?_
              refine Ev.zle (by rfl) (by rfl) (fun (c12 : 0 < lf) => ?_) (fun (c12 : ¬ 0 < lf) => ?_)
              · exact absurd (pos_toNat (by assumption)) (by omega)
              · exact K264 _ _ ho264_8 ho264_9
            | succ k264 ih264 =>
              intro lf A7 aSh_264 o264_8 o264_9 hj264 ho264_8 ho264_9 K264
              rw [r_breakDown_L264] at K264
              refine Ev.ps 1 rfl ?_
              refine Ev.zle (by rfl) (by rfl) (fun (c13 : 0 < lf) => ?_) (fun (c13 : ¬ 0 < lf) => ?_)
              · rw [if_pos c13] at K264
                refine Ev.ps 4 rfl ?_
                have L275 : ∀ {x : Re × Hp}, ∀ (k275 j275 : Nat) (best : Nat), aMem - j275 ≤ k275 → best < 10 → j275 ≤ 11 → (∀ (e275_9 : Option MV), Da e275_9 → (r_breakDown_L275 aMem k_p0 X A7 k275 j275 best) < 10 → Ev (d + 2) (168, 313, [some (vR 9 0), some (vI (nI k_p0)), some (vI X), some (vR 56 ((zG6).length)), some (vI ((r_breakDown_L64 aDay aDy aLe aMo aOw aSta k_p0 X aEnt 0 0 (fun _ => 0)).1)), some (vI (nI aBrk)), some (vR 57 ((zG7).length)), some (vI lf), some (vI (nI (r_breakDown_L275 aMem k_p0 X A7 k275 j275 best))), e275_9], []) (enc C (mkR aMk aSu aMac aMem aTk aPaid aNd aDay aOw aMo aDy aSt aLe aWk aSta aDue aCm aCb aCl aEnt aMt aBl aBar aPr aLs aLnum aLm aSh_264 (aBrk + 1) 0) (mkW zO zD zX zL zXs zG5 (zG6 ++ [pl 10 (fun k => vI (((r_breakDown_L64 aDay aDy aLe aMo aOw aSta k_p0 X aEnt 0 0 (fun _ => 0)).2) k))]) (zG7 ++ [pl 10 (fun k => vL (A7 k))]) (zc + 1 + 1) (zn + 10 + 10))) x) → Ev (d + 2) (168, 275, [some (vR 9 0), some (vI (nI k_p0)), some (vI X), some (vR 56 ((zG6).length)), some (vI ((r_breakDown_L64 aDay aDy aLe aMo aOw aSta k_p0 X aEnt 0 0 (fun _ => 0)).1)), some (vI (nI aBrk)), some (vR 57 ((zG7).length)), some (vI lf), some (vI (nI best)), some (vI (nI j275))], []) (enc C (mkR aMk aSu aMac aMem aTk aPaid aNd aDay aOw aMo aDy aSt aLe aWk aSta aDue aCm aCb aCl aEnt aMt aBl aBar aPr aLs aLnum aLm aSh_264 (aBrk + 1) 0) (mkW zO zD zX zL zXs zG5 (zG6 ++ [pl 10 (fun k => vI (((r_breakDown_L64 aDay aDy aLe aMo aOw aSta k_p0 X aEnt 0 0 (fun _ => 0)).2) k))]) (zG7 ++ [pl 10 (fun k => vL (A7 k))]) (zc + 1 + 1) (zn + 10 + 10))) x := by
                  intro x k275
                  induction k275 with
                  | zero =>
                    intro j275 best hj275 hbest hj9 K275
                    rw [r_breakDown_L275] at K275
                    refine Ev.ps 2 rfl ?_
                    refine Ev.getf (v := vI (nI aMem)) (by rfl) (by rfl) (by rfl) (rd9) rfl ?_
                    refine Ev.igeN (a := j275) (b := aMem) (by omega) (by omega) (by rfl) (by rfl) (fun (c14 : j275 < aMem) => ?_) (fun (c14 : ¬ j275 < aMem) => ?_)
                    · exfalso; omega
                    · exact K275 _ Da.i hbest
                  | succ k275 ih275 =>
                    intro j275 best hj275 hbest hj9 K275
                    rw [r_breakDown_L275] at K275
                    refine Ev.ps 2 rfl ?_
                    refine Ev.getf (v := vI (nI aMem)) (by rfl) (by rfl) (by rfl) (rd9) rfl ?_
                    refine Ev.igeN (a := j275) (b := aMem) (by omega) (by omega) (by rfl) (by rfl) (fun (c15 : j275 < aMem) => ?_) (fun (c15 : ¬ j275 < aMem) => ?_)
                    · rw [if_pos c15] at K275
                      refine Ev.ps 2 rfl ?_
                      refine Ev.aiJ (k := j275) (v := vL (A7 j275)) (by rfl) (by decide) (rd57) (by omega) (by omega) rfl ?_
                      refine Ev.ps 2 rfl ?_
                      refine Ev.aiJ (k := best) (v := vL (A7 best)) (by rfl) (by decide) (rd57) (by omega) (by have := hbest; omega) rfl ?_
                      refine Ev.ps 1 rfl ?_
                      refine Ev.zle (by rfl) (by rfl) (fun (c16 : 0 < lg_cmp (A7 j275) (A7 best)) => ?_) (fun (c16 : ¬ 0 < lg_cmp (A7 j275) (A7 best)) => ?_)
                      · rw [if_pos c16] at K275
                        refine Ev.ps 5 rfl ?_
                        have h9 := ih275 (j275 + 1) j275 (by omega) (by omega) (by omega) K275
                        rw [← nI_1] at h9
                        exact h9
                      · rw [if_neg c16] at K275
                        refine Ev.ps 4 rfl ?_
                        have h9 := ih275 (j275 + 1) best (by omega) (by omega) (by omega) K275
                        rw [← nI_1] at h9
                        exact h9
                    · rw [if_neg c15] at K275
                      exact K275 _ Da.i hbest
                refine L275 (aMem - 1) 1 0 (Nat.le_refl _) (by decide) (by decide) ?_
                intro e275_9 he275_9 hbestx
                have hbest := hbestx
                refine Ev.ps 1 rfl ?_
                refine Ev.getf (v := vR 53 0) (by rfl) (by rfl) (by rfl) (rd9) rfl ?_
                refine Ev.ps 1 rfl ?_
                refine Ev.aiA (k := aBrk) (v := vR 54 aBrk) (by rfl) (by decide) (rd53) (by omega) (by omega) rfl ?_
                refine Ev.ps 2 rfl ?_
                refine Ev.aiI (k := (r_breakDown_L275 aMem k_p0 X A7 (aMem - 1) 1 0)) (v := vI (aSh_264 aBrk (r_breakDown_L275 aMem k_p0 X A7 (aMem - 1) 1 0))) (by rfl) (by decide) (rd54 (by omega)) (by omega) (by have := hbest; omega) rfl ?_
                refine Ev.ps 2 rfl ?_
                refine Ev.asI (k := (r_breakDown_L275 aMem k_p0 X A7 (aMem - 1) 1 0)) (by rfl) (by rfl) (rd54 (by omega)) (by omega) (by have := hbest; omega) (show _ = enc C (mkR aMk aSu aMac aMem aTk aPaid aNd aDay aOw aMo aDy aSt aLe aWk aSta aDue aCm aCb aCl aEnt aMt aBl aBar aPr aLs aLnum aLm (fup aSh_264 aBrk (fup (aSh_264 aBrk) (r_breakDown_L275 aMem k_p0 X A7 (aMem - 1) 1 0) ((aSh_264 aBrk (r_breakDown_L275 aMem k_p0 X A7 (aMem - 1) 1 0)) + 1))) (aBrk + 1) 0) (mkW zO zD zX zL zXs zG5 (zG6 ++ [pl 10 (fun k => vI (((r_breakDown_L64 aDay aDy aLe aMo aOw aSta k_p0 X aEnt 0 0 (fun _ => 0)).2) k))]) (zG7 ++ [pl 10 (fun k => vL (A7 k))]) (zc + 1 + 1) (zn + 10 + 10)) from wr54 (j := aBrk) (i := (r_breakDown_L275 aMem k_p0 X A7 (aMem - 1) 1 0)) (v := (aSh_264 aBrk (r_breakDown_L275 aMem k_p0 X A7 (aMem - 1) 1 0)) + 1)) ?_
                refine Ev.ps 2 rfl ?_
                refine Ev.lcJ (v := (-1)) (by rfl) (by rfl) ?_
                refine Ev.asJ (k := (r_breakDown_L275 aMem k_p0 X A7 (aMem - 1) 1 0)) (by rfl) (by rfl) (rd57) (by omega) (by have := hbest; omega) ((congrArg (hput _ _ _) (pl_setI (f := A7) (F := fun _ v => vL v) (v := (-1)))).trans wr57) ?_
                refine Ev.ps 2 rfl ?_
                have h9 := ih264  (lf + (-1)) (fup A7 (r_breakDown_L275 aMem k_p0 X A7 (aMem - 1) 1 0) (-1)) (fup aSh_264 aBrk (fup (aSh_264 aBrk) (r_breakDown_L275 aMem k_p0 X A7 (aMem - 1) 1 0) ((aSh_264 aBrk (r_breakDown_L275 aMem k_p0 X A7 (aMem - 1) 1 0)) + 1))) (some (vI (nI (r_breakDown_L275 aMem k_p0 X A7 (aMem - 1) 1 0)))) e275_9 (by have hq := dec_toNat (x := lf) (by assumption); omega) Da.i he275_9 K264
                exact h9
              · rw [if_neg c13] at K264
                exact K264 _ _ ho264_8 ho264_9
          refine L264 (((r_breakDown_L194 aBrk aDay aDy aEnt aLe aMo aOw aSta k_p0 X aMem 0 X (fun _ => 0) aSh).1).toInt.toNat) ((r_breakDown_L194 aBrk aDay aDy aEnt aLe aMo aOw aSta k_p0 X aMem 0 X (fun _ => 0) aSh).1) ((r_breakDown_L194 aBrk aDay aDy aEnt aLe aMo aOw aSta k_p0 X aMem 0 X (fun _ => 0) aSh).2.1) ((r_breakDown_L194 aBrk aDay aDy aEnt aLe aMo aOw aSta k_p0 X aMem 0 X (fun _ => 0) aSh).2.2) e194_8 none (Nat.le_refl _) he194_8 Da.n ?_
          intro e264_8 e264_9 he264_8 he264_9
          refine Ev.ps 1 rfl ?_
          exact Ev.re rfl rfl rfl rfl rfl
    · rw [if_neg c2]
      refine Ev.ps 2 rfl ?_
      refine Ev.pf (by rfl) (by rfl) (by rfl) (Nat.le_of_ble_eq_true rfl) rfl (Or.inl (by rfl)) (rd9) (show _ = enc C (mkR aMk aSu aMac aMem aTk aPaid aNd aDay aOw aMo aDy aSt aLe aWk aSta aDue aCm aCb aCl aEnt aMt aBl aBar aPr aLs aLnum aLm aSh aBrk 2) (mkW zO zD zX zL zXs zG5 zG6 zG7 zc zn) from wr9_Thr (v := 2)) ?_
      refine Ev.ps 1 rfl ?_
      refine Ev.getf (v := vI 2) (by rfl) (by rfl) (by rfl) (rd9) rfl ?_
      refine Ev.ifi (by rfl) (by rfl) (fun z => by exact absurd z (by decide)) (fun _ => ?_)
      refine Ev.ps 1 rfl ?_
      exact Ev.re rfl rfl rfl rfl rfl
  · rw [if_neg c1]
    refine Ev.ps 2 rfl ?_
    refine Ev.pf (by rfl) (by rfl) (by rfl) (Nat.le_of_ble_eq_true rfl) rfl (Or.inl (by rfl)) (rd9) (show _ = enc C (mkR aMk aSu aMac aMem aTk aPaid aNd aDay aOw aMo aDy aSt aLe aWk aSta aDue aCm aCb aCl aEnt aMt aBl aBar aPr aLs aLnum aLm aSh aBrk 1) (mkW zO zD zX zL zXs zG5 zG6 zG7 zc zn) from wr9_Thr (v := 1)) ?_
    refine Ev.ps 1 rfl ?_
    refine Ev.getf (v := vI 1) (by rfl) (by rfl) (by rfl) (rd9) rfl ?_
    refine Ev.ifi (by rfl) (by rfl) (fun z => by exact absurd z (by decide)) (fun _ => ?_)
    refine Ev.ps 1 rfl ?_
    exact Ev.re rfl rfl rfl rfl rfl
