/-! the reference: calls (written by gref3.py) -/
theorem s_r_thrown {d : Nat} {t : Int32} {W : WD} {C : CD} {R : RD} : Cal d 109 [vR 9 0] (enc C (urThr R t) W) (.inl (some (vI t))) (enc C (urThr R t) W) := by
  refine Cal.mk (n := 1) rfl (Nat.le_of_ble_eq_true rfl) rfl ?_
  refine Ev.ps 1 rfl ?_
  refine Ev.getf (v := vI t) (by rfl) (by rfl) (by rfl) (g9) rfl ?_
  exact Ev.re rfl rfl rfl rfl rfl
theorem s_r_raises {d : Nat} {t v : Int32} {W : WD} {C : CD} {R : RD} : Cal d 110 [vR 9 0, vI v] (enc C (urThr R t) W) (.inl (some (vI 0))) (enc C (urThr R v) W) := by
  refine Cal.mk (n := 2) rfl (Nat.le_of_ble_eq_true rfl) rfl ?_
  refine Ev.ps 2 rfl ?_
  refine Ev.pf (by rfl) (by rfl) (by rfl) (Nat.le_of_ble_eq_true rfl) rfl (Or.inl (by rfl)) (g9) (w9_Thr (v := v)) ?_
  refine Ev.ps 1 rfl ?_
  exact Ev.re rfl rfl rfl rfl rfl
def costW (W : WD) (A : Nat → Int32) : WD := uwG5 (cstW W 1 6) (wG5 W ++ [pl 6 (fun k => vI (A k))])
def r_cost_L18 (R : RD) (kd : Nat) (M : Int32) : Nat → Int32 → (Nat → Int32) → Int32 × (Nat → Int32)
  | 0, n, A5 =>
    (n, A5)
  | k18 + 1, n, A5 =>
    if nI k18 < 0 then
      (n, A5)
    else
      if rLs R kd k18 = 100 then
        r_cost_L18 R kd M k18 (n + (if 0 < (n - (rLnum R kd k18)) then (n - (rLnum R kd k18)) else 0)) (fup A5 k18 (n + (if 0 < (n - (rLnum R kd k18)) then (n - (rLnum R kd k18)) else 0)))
      else
        r_cost_L18 R kd M k18 (n + 0) (fup A5 k18 (n + 0))
def r_cost_L89 (R : RD) (kd : Nat) (M : Int32) : Nat → Nat → Int32 → Int32 × (Nat → Int32)
  | 0, j89, am =>
    (am, ((r_cost_L18 R kd M (rLm R kd) M (fun _ => 0)).2))
  | k89 + 1, j89, am =>
    if rLs R kd j89 = 102 then
      r_cost_L89 R kd M k89 (j89 + 1) (am + (rLnum R kd j89))
    else
      if rLs R kd j89 = 99 then
        r_cost_L89 R kd M k89 (j89 + 1) (if (rLnum R kd j89) < am then (rLnum R kd j89) else am)
      else
        if rLs R kd j89 = 112 then r_cost_L89 R kd M k89 (j89 + 1) (am - ((am * (rLnum R kd j89)) / 100)) else r_cost_L89 R kd M k89 (j89 + 1) am
def f_r_cost (R : RD) (kd : Nat) (M : Int32) : Int32 × (Nat → Int32) :=
  r_cost_L89 R kd M (rLm R kd - 1) 1 ((rLnum R kd 0) * (((r_cost_L18 R kd M (rLm R kd) M (fun _ => 0)).2) 0))
theorem s_r_cost {d : Nat} {t : Int32} {W : WD} {C : CD} {R : RD} {kd : Nat} {M : Int32} (hW : WfR R) (hkd : kd < 4) : Cal (d + 0) 160 [vR 9 0, vI (nI kd), vI M] (enc C (urThr R t) W) (.inl (some (vI ((f_r_cost R kd M).1)))) (enc C (urThr R t) (costW W ((f_r_cost R kd M).2))) := by
  obtain ⟨wMac, wMem, wEnt, wBar, wBrk, wOw, wMo, wMk, wCm, wCb, wMt, wLm⟩ := id hW
  have wl := wLm kd
  refine Cal.mk (n := 9) rfl (Nat.le_of_ble_eq_true rfl) rfl ?_
  unfold f_r_cost
  refine Ev.ps 3 rfl ?_
  refine Ev.na (N := 6) (by rfl) (by rfl) ⟨by rfl, by decide, by rfl⟩ (by omega) rfl (nG5) ?_
  refine Ev.ps 2 rfl ?_
  refine Ev.getf (v := vR 52 0) (by rfl) (by rfl) (by rfl) (g9) rfl ?_
  refine Ev.ps 1 rfl ?_
  refine Ev.aiI (k := kd) (v := vI (nI (rLm R kd))) (by rfl) (by decide) (g52) (by omega) (by omega) rfl ?_
  refine Ev.ps 3 rfl ?_
  have L18 : ∀ {x : Re × Hp}, ∀ (k18 : Nat) (n : Int32) (A5 : Nat → Int32), k18 ≤ rLm R kd → (∀ (e18_5 : Option MV), Da e18_5 → Ev (d + 0) (160, 71, [some (vR 9 0), some (vI (nI kd)), some (vI M), some (vI ((r_cost_L18 R kd M k18 n A5).1)), some (vR 55 ((wG5 W).length)), e18_5, none, none, none], []) (enc C (urThr R t) (uwG5 (cstW W 1 6) (wG5 W ++ [pl 6 (fun k => vI (((r_cost_L18 R kd M k18 n A5).2) k))]))) x) → Ev (d + 0) (160, 18, [some (vR 9 0), some (vI (nI kd)), some (vI M), some (vI n), some (vR 55 ((wG5 W).length)), some (vI (nI k18 - 1)), none, none, none], []) (enc C (urThr R t) (uwG5 (cstW W 1 6) (wG5 W ++ [pl 6 (fun k => vI (A5 k))]))) x := by
    intro x k18
    induction k18 with
    | zero =>
      intro n A5 hj18 K18
      rw [show (nI 0 - 1 : Int32) = -1 from rfl]
      rw [r_cost_L18] at K18
      refine Ev.ps 1 rfl ?_
      refine Ev.ifi (by rfl) (by rfl) (fun _ => ?_) (fun z => by exact absurd z (by decide))
      exact K18 _ Da.i
    | succ k18 ih18 =>
      intro n A5 hj18 K18
      rw [nI_pred]
      rw [r_cost_L18] at K18
      refine Ev.ps 1 rfl ?_
      refine Ev.zlt (by rfl) (by rfl) (fun (c1 : nI k18 < 0) => ?_) (fun (c1 : ¬ nI k18 < 0) => ?_)
      · rw [if_pos c1] at K18
        exact K18 _ Da.i
      · rw [if_neg c1] at K18
        refine Ev.ps 2 rfl ?_
        refine Ev.getf (v := vR 48 0) (by rfl) (by rfl) (by rfl) (g9) rfl ?_
        refine Ev.ps 1 rfl ?_
        refine Ev.aiA (k := kd) (v := vR 49 kd) (by rfl) (by decide) (g48) (by omega) (by omega) rfl ?_
        refine Ev.ps 1 rfl ?_
        refine Ev.aiC (k := k18) (v := vI (rLs R kd k18)) (by rfl) (by decide) (g49 (by omega)) (by omega) (by omega) rfl ?_
        refine Ev.ps 1 rfl ?_
        refine Ev.ine (by rfl) (by rfl) (fun (c2 : rLs R kd k18 = 100) => ?_) (fun (c2 : ¬ rLs R kd k18 = 100) => ?_)
        · rw [if_pos c2] at K18
          refine Ev.ps 3 rfl ?_
          refine Ev.getf (v := vR 50 0) (by rfl) (by rfl) (by rfl) (g9) rfl ?_
          refine Ev.ps 1 rfl ?_
          refine Ev.aiA (k := kd) (v := vR 51 kd) (by rfl) (by decide) (g50) (by omega) (by omega) rfl ?_
          refine Ev.ps 1 rfl ?_
          refine Ev.aiI (k := k18) (v := vI (rLnum R kd k18)) (by rfl) (by decide) (g51 (by omega)) (by omega) (by omega) rfl ?_
          refine Ev.ps 1 rfl ?_
          refine Ev.mx (by rfl) (by rfl) (Nat.le_of_ble_eq_true rfl) ?_
          refine Ev.ps 6 rfl ?_
          refine Ev.asI (k := k18) (by rfl) (by rfl) (gG5 rfl) (by omega) (by omega) ((congrArg (hput _ _ _) (pl_setI (f := A5) (F := fun _ v => vI v) (v := (n + (if 0 < (n - (rLnum R kd k18)) then (n - (rLnum R kd k18)) else 0))))).trans (wG5' rfl (W' := (uwG5 (cstW W 1 6) (wG5 W ++ [pl 6 (fun k => vI ((fup A5 k18 (n + (if 0 < (n - (rLnum R kd k18)) then (n - (rLnum R kd k18)) else 0))) k))]))) rfl)) ?_
          refine Ev.ps 2 rfl ?_
          have h9 := ih18  (n + (if 0 < (n - (rLnum R kd k18)) then (n - (rLnum R kd k18)) else 0)) (fup A5 k18 (n + (if 0 < (n - (rLnum R kd k18)) then (n - (rLnum R kd k18)) else 0))) (by omega) K18
          rw [nI_sm1] at h9
          exact h9
        · rw [if_neg c2] at K18
          refine Ev.ps 6 rfl ?_
          refine Ev.asI (k := k18) (by rfl) (by rfl) (gG5 rfl) (by omega) (by omega) ((congrArg (hput _ _ _) (pl_setI (f := A5) (F := fun _ v => vI v) (v := (n + 0)))).trans (wG5' rfl (W' := (uwG5 (cstW W 1 6) (wG5 W ++ [pl 6 (fun k => vI ((fup A5 k18 (n + 0)) k))]))) rfl)) ?_
          refine Ev.ps 2 rfl ?_
          have h9 := ih18  (n + 0) (fup A5 k18 (n + 0)) (by omega) K18
          rw [nI_sm1] at h9
          exact h9
  refine L18 (rLm R kd) M (fun _ => 0) (Nat.le_refl _) ?_
  intro e18_5 he18_5
  refine Ev.ps 1 rfl ?_
  refine Ev.getf (v := vR 50 0) (by rfl) (by rfl) (by rfl) (g9) rfl ?_
  refine Ev.ps 1 rfl ?_
  refine Ev.aiA (k := kd) (v := vR 51 kd) (by rfl) (by decide) (g50) (by omega) (by omega) rfl ?_
  refine Ev.ps 1 rfl ?_
  refine Ev.aiI (k := 0) (v := vI (rLnum R kd 0)) (by rfl) (by decide) (g51 (by omega)) (by omega) (by omega) rfl ?_
  refine Ev.ps 2 rfl ?_
  refine Ev.aiI (k := 0) (v := vI (((r_cost_L18 R kd M (rLm R kd) M (fun _ => 0)).2) 0)) (by rfl) (by decide) (gG5 rfl) (by omega) (by omega) rfl ?_
  refine Ev.ps 4 rfl ?_
  have L89 : ∀ (k89 j89 : Nat) (am : Int32) (o89_7 : Option MV) (o89_8 : Option MV), j89 + k89 = rLm R kd → Da o89_7 → Da o89_8 → Ev (d + 0) (160, 89, [some (vR 9 0), some (vI (nI kd)), some (vI M), some (vI ((r_cost_L18 R kd M (rLm R kd) M (fun _ => 0)).1)), some (vR 55 ((wG5 W).length)), some (vI am), some (vI (nI j89)), o89_7, o89_8], []) (enc C (urThr R t) (uwG5 (cstW W 1 6) (wG5 W ++ [pl 6 (fun k => vI (((r_cost_L18 R kd M (rLm R kd) M (fun _ => 0)).2) k))]))) ((.inl (some (vI ((r_cost_L89 R kd M k89 j89 am).1)))), enc C (urThr R t) (costW W ((r_cost_L89 R kd M k89 j89 am).2))) := by
    intro k89
    induction k89 with
    | zero =>
      intro j89 am o89_7 o89_8 hj89 ho89_7 ho89_8
      rw [r_cost_L89]
      refine Ev.ps 2 rfl ?_
      refine Ev.getf (v := vR 52 0) (by rfl) (by rfl) (by rfl) (g9) rfl ?_
      refine Ev.ps 1 rfl ?_
      refine Ev.aiI (k := kd) (v := vI (nI (rLm R kd))) (by rfl) (by decide) (g52) (by omega) (by omega) rfl ?_
      refine Ev.igeN (a := j89) (b := (rLm R kd)) (by omega) (by have := wLm kd; omega) (by rfl) (by rfl) (fun (c3 : j89 < rLm R kd) => ?_) (fun (c3 : ¬ j89 < rLm R kd) => ?_)
      · exfalso; omega
      · refine Ev.ps 1 rfl ?_
        exact Ev.re rfl rfl rfl rfl rfl
    | succ k89 ih89 =>
      intro j89 am o89_7 o89_8 hj89 ho89_7 ho89_8
      rw [r_cost_L89]
      refine Ev.ps 2 rfl ?_
      refine Ev.getf (v := vR 52 0) (by rfl) (by rfl) (by rfl) (g9) rfl ?_
      refine Ev.ps 1 rfl ?_
      refine Ev.aiI (k := kd) (v := vI (nI (rLm R kd))) (by rfl) (by decide) (g52) (by omega) (by omega) rfl ?_
      refine Ev.igeN (a := j89) (b := (rLm R kd)) (by omega) (by have := wLm kd; omega) (by rfl) (by rfl) (fun (c4 : j89 < rLm R kd) => ?_) (fun (c4 : ¬ j89 < rLm R kd) => ?_)
      · refine Ev.ps 1 rfl ?_
        refine Ev.getf (v := vR 48 0) (by rfl) (by rfl) (by rfl) (g9) rfl ?_
        refine Ev.ps 1 rfl ?_
        refine Ev.aiA (k := kd) (v := vR 49 kd) (by rfl) (by decide) (g48) (by omega) (by omega) rfl ?_
        refine Ev.ps 1 rfl ?_
        refine Ev.aiC (k := j89) (v := vI (rLs R kd j89)) (by rfl) (by decide) (g49 (by omega)) (by omega) (by omega) rfl ?_
        refine Ev.ps 2 rfl ?_
        refine Ev.getf (v := vR 50 0) (by rfl) (by rfl) (by rfl) (g9) rfl ?_
        refine Ev.ps 1 rfl ?_
        refine Ev.aiA (k := kd) (v := vR 51 kd) (by rfl) (by decide) (g50) (by omega) (by omega) rfl ?_
        refine Ev.ps 1 rfl ?_
        refine Ev.aiI (k := j89) (v := vI (rLnum R kd j89)) (by rfl) (by decide) (g51 (by omega)) (by omega) (by omega) rfl ?_
        refine Ev.ps 3 rfl ?_
        refine Ev.ine (by rfl) (by rfl) (fun (c5 : rLs R kd j89 = 102) => ?_) (fun (c5 : ¬ rLs R kd j89 = 102) => ?_)
        · rw [if_pos c5]
          refine Ev.ps 7 rfl ?_
          have h9 := ih89 (j89 + 1) (am + (rLnum R kd j89)) (some (vI (rLs R kd j89))) (some (vI (rLnum R kd j89))) (by show j89 + 1 + k89 = rLm R kd; omega) Da.i Da.i
          rw [← nI_1] at h9
          exact h9
        · rw [if_neg c5]
          refine Ev.ps 2 rfl ?_
          refine Ev.ine (by rfl) (by rfl) (fun (c6 : rLs R kd j89 = 99) => ?_) (fun (c6 : ¬ rLs R kd j89 = 99) => ?_)
          · rw [if_pos c6]
            refine Ev.ps 2 rfl ?_
            refine Ev.mn (by rfl) (by rfl) (Nat.le_of_ble_eq_true rfl) ?_
            refine Ev.ps 4 rfl ?_
            have h9 := ih89 (j89 + 1) (if (rLnum R kd j89) < am then (rLnum R kd j89) else am) (some (vI (rLs R kd j89))) (some (vI (rLnum R kd j89))) (by show j89 + 1 + k89 = rLm R kd; omega) Da.i Da.i
            rw [← nI_1] at h9
            exact h9
          · rw [if_neg c6]
            refine Ev.ps 2 rfl ?_
            refine Ev.ine (by rfl) (by rfl) (fun (c7 : rLs R kd j89 = 112) => ?_) (fun (c7 : ¬ rLs R kd j89 = 112) => ?_)
            · rw [if_pos c7]
              refine Ev.ps 11 rfl ?_
              have h9 := ih89 (j89 + 1) (am - ((am * (rLnum R kd j89)) / 100)) (some (vI (rLs R kd j89))) (some (vI (rLnum R kd j89))) (by show j89 + 1 + k89 = rLm R kd; omega) Da.i Da.i
              rw [← nI_1] at h9
              exact h9
            · rw [if_neg c7]
              refine Ev.ps 4 rfl ?_
              have h9 := ih89 (j89 + 1) am (some (vI (rLs R kd j89))) (some (vI (rLnum R kd j89))) (by show j89 + 1 + k89 = rLm R kd; omega) Da.i Da.i
              rw [← nI_1] at h9
              exact h9
      · exfalso; omega
  exact L89 (rLm R kd - 1) 1 ((rLnum R kd 0) * (((r_cost_L18 R kd M (rLm R kd) M (fun _ => 0)).2) 0)) none none (by show 1 + (rLm R kd - 1) = rLm R kd; omega) Da.n Da.n
def r_gives_L2 (R : RD) : Nat → Nat → RD → RD
  | 0, j2, Rl2 =>
    Rl2
  | k2 + 1, j2, Rl2 =>
    if j2 < rEnt Rl2 then
      if rSta Rl2 j2 = 119 then
        if f_r_letter Rl2 (rOw Rl2 j2) (rMo Rl2 j2) (rDy Rl2 j2) (rSt Rl2 j2) (rLe Rl2 j2) (rWk Rl2 j2) = 111 then r_gives_L2 R k2 0 (urSta Rl2 (fup (rSta Rl2) j2 98)) else r_gives_L2 R k2 (j2 + 1) Rl2
      else
        r_gives_L2 R k2 (j2 + 1) Rl2
    else
      Rl2
def f_r_gives (R : RD) : RD :=
  r_gives_L2 R (wcnt (rSta R) (rEnt R) * 200 + rEnt R) 0 R
theorem s_r_gives {d : Nat} {t : Int32} {W : WD} {C : CD} {R : RD} (hW : WfR R) (hA : Acy (rNd R)) : Cal (d + 8) 131 [vR 9 0] (enc C (urThr R t) W) (.inl none) (enc C (urThr (f_r_gives R) t) W) := by
  obtain ⟨wMac, wMem, wEnt, wBar, wBrk, wOw, wMo, wMk, wCm, wCb, wMt, wLm⟩ := id hW
  refine Cal.mk (n := 2) rfl (Nat.le_of_ble_eq_true rfl) rfl ?_
  unfold f_r_gives
  refine Ev.ps 2 rfl ?_
  have L2 : ∀ (k2 j2 : Nat) (Rl2 : RD), wcnt (rSta Rl2) (rEnt Rl2) * 200 + (rEnt Rl2 - j2) ≤ k2 → WfR Rl2 → Acy (rNd Rl2) → j2 ≤ rEnt Rl2 → Ev (d + 8) (131, 2, [some (vR 9 0), some (vI (nI j2))], []) (enc C (urThr Rl2 t) W) ((.inl none), enc C (urThr (r_gives_L2 R k2 j2 Rl2) t) W) := by
    intro k2
    induction k2 with
    | zero =>
      intro j2 Rl2 hj2 hW hA hle
      obtain ⟨wMac, wMem, wEnt, wBar, wBrk, wOw, wMo, wMk, wCm, wCb, wMt, wLm⟩ := id hW
      rw [r_gives_L2]
      refine Ev.ps 2 rfl ?_
      refine Ev.getf (v := vI (nI (rEnt Rl2))) (by rfl) (by rfl) (by rfl) (g9) rfl ?_
      refine Ev.igeN (a := j2) (b := (rEnt Rl2)) (by omega) (by omega) (by rfl) (by rfl) (fun (c1 : j2 < rEnt Rl2) => ?_) (fun (c1 : ¬ j2 < rEnt Rl2) => ?_)
      · exfalso; omega
      · exact Ev.re rfl rfl rfl rfl rfl
    | succ k2 ih2 =>
      intro j2 Rl2 hj2 hW hA hle
      obtain ⟨wMac, wMem, wEnt, wBar, wBrk, wOw, wMo, wMk, wCm, wCb, wMt, wLm⟩ := id hW
      rw [r_gives_L2]
      refine Ev.ps 2 rfl ?_
      refine Ev.getf (v := vI (nI (rEnt Rl2))) (by rfl) (by rfl) (by rfl) (g9) rfl ?_
      refine Ev.igeN (a := j2) (b := (rEnt Rl2)) (by omega) (by omega) (by rfl) (by rfl) (fun (c2 : j2 < rEnt Rl2) => ?_) (fun (c2 : ¬ j2 < rEnt Rl2) => ?_)
      · rw [if_pos c2]
        refine Ev.ps 1 rfl ?_
        refine Ev.getf (v := vR 38 0) (by rfl) (by rfl) (by rfl) (g9) rfl ?_
        refine Ev.ps 1 rfl ?_
        refine Ev.aiC (k := j2) (v := vI (rSta Rl2 j2)) (by rfl) (by decide) (g38) (by omega) (by omega) rfl ?_
        refine Ev.ps 1 rfl ?_
        refine Ev.ine (by rfl) (by rfl) (fun (c3 : rSta Rl2 j2 = 119) => ?_) (fun (c3 : ¬ rSta Rl2 j2 = 119) => ?_)
        · rw [if_pos c3]
          refine Ev.ps 2 rfl ?_
          refine Ev.getf (v := vR 32 0) (by rfl) (by rfl) (by rfl) (g9) rfl ?_
          refine Ev.ps 1 rfl ?_
          refine Ev.aiI (k := j2) (v := vI (nI (rOw Rl2 j2))) (by rfl) (by decide) (g32) (by omega) (by omega) rfl ?_
          refine Ev.ps 1 rfl ?_
          refine Ev.getf (v := vR 33 0) (by rfl) (by rfl) (by rfl) (g9) rfl ?_
          refine Ev.ps 1 rfl ?_
          refine Ev.aiI (k := j2) (v := vI (nI (rMo Rl2 j2))) (by rfl) (by decide) (g33) (by omega) (by omega) rfl ?_
          refine Ev.ps 1 rfl ?_
          refine Ev.getf (v := vR 34 0) (by rfl) (by rfl) (by rfl) (g9) rfl ?_
          refine Ev.ps 1 rfl ?_
          refine Ev.aiI (k := j2) (v := vI (rDy Rl2 j2)) (by rfl) (by decide) (g34) (by omega) (by omega) rfl ?_
          refine Ev.ps 1 rfl ?_
          refine Ev.getf (v := vR 35 0) (by rfl) (by rfl) (by rfl) (g9) rfl ?_
          refine Ev.ps 1 rfl ?_
          refine Ev.aiI (k := j2) (v := vI (rSt Rl2 j2)) (by rfl) (by decide) (g35) (by omega) (by omega) rfl ?_
          refine Ev.ps 1 rfl ?_
          refine Ev.getf (v := vR 36 0) (by rfl) (by rfl) (by rfl) (g9) rfl ?_
          refine Ev.ps 1 rfl ?_
          refine Ev.aiI (k := j2) (v := vI (rLe Rl2 j2)) (by rfl) (by decide) (g36) (by omega) (by omega) rfl ?_
          refine Ev.ps 1 rfl ?_
          refine Ev.getf (v := vR 37 0) (by rfl) (by rfl) (by rfl) (g9) rfl ?_
          refine Ev.ps 1 rfl ?_
          refine Ev.aiC (k := j2) (v := vI (rWk Rl2 j2)) (by rfl) (by decide) (g37) (by omega) (by omega) rfl ?_
          refine Ev.vir (as := [vI (nI (rOw Rl2 j2)), vI (nI (rMo Rl2 j2)), vI (rDy Rl2 j2), vI (rSt Rl2 j2), vI (rLe Rl2 j2), vI (rWk Rl2 j2)]) (rest := []) (by rfl) (by rfl) (by rfl) (by rfl) rfl (Nat.le_of_ble_eq_true rfl) (by rfl) (by rw [g9]; rfl) (s_r_letter hW hA (by have := wOw j2; omega) (by have := wMo j2; omega)) ?_
          refine Ev.ps 1 rfl ?_
          refine Ev.ine (by rfl) (by rfl) (fun (c4 : f_r_letter Rl2 (rOw Rl2 j2) (rMo Rl2 j2) (rDy Rl2 j2) (rSt Rl2 j2) (rLe Rl2 j2) (rWk Rl2 j2) = 111) => ?_) (fun (c4 : ¬ f_r_letter Rl2 (rOw Rl2 j2) (rMo Rl2 j2) (rDy Rl2 j2) (rSt Rl2 j2) (rLe Rl2 j2) (rWk Rl2 j2) = 111) => ?_)
          · rw [if_pos c4]
            refine Ev.ps 1 rfl ?_
            refine Ev.getf (v := vR 38 0) (by rfl) (by rfl) (by rfl) (g9) rfl ?_
            refine Ev.ps 2 rfl ?_
            refine Ev.asC (k := j2) (by rfl) (by rfl) (by unfold chr; decide) (g38) (by omega) (by omega) (w38 (i := j2) (v := 98)) ?_
            refine Ev.ps 3 rfl ?_
            have h9 := ih2 0 (urSta Rl2 (fup (rSta Rl2) j2 98)) (by have hq := wcnt_dec (v := 98) (show rSta Rl2 j2 = 119 by assumption) (by decide) (rEnt Rl2) (by omega); show wcnt (fup (rSta Rl2) j2 98) (rEnt Rl2) * 200 + (rEnt Rl2 - 0) ≤ k2; omega) hW hA (by show _ ≤ rEnt Rl2; omega)
            exact h9
          · rw [if_neg c4]
            refine Ev.ps 2 rfl ?_
            have h9 := ih2 (j2 + 1) Rl2 (by show wcnt (rSta Rl2) (rEnt Rl2) * 200 + (rEnt Rl2 - (j2 + 1)) ≤ k2; omega) hW hA (by show _ ≤ rEnt Rl2; omega)
            rw [← nI_1] at h9
            exact h9
        · rw [if_neg c3]
          refine Ev.ps 2 rfl ?_
          have h9 := ih2 (j2 + 1) Rl2 (by show wcnt (rSta Rl2) (rEnt Rl2) * 200 + (rEnt Rl2 - (j2 + 1)) ≤ k2; omega) hW hA (by show _ ≤ rEnt Rl2; omega)
          rw [← nI_1] at h9
          exact h9
      · rw [if_neg c2]
        exact Ev.re rfl rfl rfl rfl rfl
  exact L2 (wcnt (rSta R) (rEnt R) * 200 + rEnt R) 0 R (by show wcnt (rSta R) (rEnt R) * 200 + (rEnt R - 0) ≤ wcnt (rSta R) (rEnt R) * 200 + rEnt R; omega) hW hA (Nat.zero_le _)
