/-! the class: split (written by gcls11.py) -/
theorem pos_ne {x : Int32} (h : 0 < x) : ¬ x = 0 := fun e => by
  rw [e] at h
  exact absurd h (by decide)
theorem greatL_lt {N : Nat} {A4 : Nat → Int32} : ∀ (k j : Nat) (best : Option Nat), j + k = N → (∀ b, best = some b → b < N) → ∀ b, c_greatest_L4 N A4 k j best = some b → b < N := by
  intro k
  induction k with
  | zero =>
    intro j best hj hb b h
    rw [c_greatest_L4] at h
    exact hb b h
  | succ k ih =>
    intro j best hj hb b h
    rw [c_greatest_L4] at h
    have hs : ∀ b, (some j : Option Nat) = some b → b < N := fun b z => by cases z; omega
    cases best with
    | none =>
      dsimp only [oE] at h
      repeat' split at h
      all_goals first | exact ih (j + 1) _ (by omega) hs b h | exact ih (j + 1) _ (by omega) hb b h
    | some a =>
      dsimp only [oE] at h
      repeat' split at h
      all_goals first | exact ih (j + 1) _ (by omega) hs b h | exact ih (j + 1) _ (by omega) hb b h
theorem great_lt {N : Nat} {A4 : Nat → Int32} {b : Nat} (h : f_c_greatest N A4 = some b) : b < N := greatL_lt N 0 none (by omega) (fun _ z => nomatch z) b h
theorem left_lt {x : Int32} {j : Nat} (hj : j < 2 ^ 31) (h : nI j < x) : j < x.toInt.toNat := by
  rw [Int32.lt_iff_toInt_lt, nI_toInt hj] at h
  omega
theorem toNat_31 {x : Int32} : x.toInt.toNat < 2 ^ 31 := by
  have := Int32.toInt_lt x
  omega
def c_split_L23  (c : Int32) (t : Int32) (N : Nat) (A2 : Nat → Int32) : Nat → Nat → Int32 → (Nat → Int32) → (Nat → Int32) → (Int32 × (Nat → Int32) × (Nat → Int32))
  | 0, j23, lf, A3, A4 =>
    (lf, A3, A4)
  | k23 + 1, j23, lf, A3, A4 =>
    c_split_L23  c t N A2 k23 (j23 + 1) (lf - ((fup A3 j23 (((c.toInt64 * ((A2 j23).toInt64)) / t.toInt64).toInt32)) j23)) (fup A3 j23 (((c.toInt64 * ((A2 j23).toInt64)) / t.toInt64).toInt32)) (fup A4 j23 (((c.toInt64 * ((A2 j23).toInt64)) - (c.toInt64 * ((A2 j23).toInt64)) / t.toInt64 * t.toInt64).toInt32))
def c_split_L79  (c : Int32) (t : Int32) (N : Nat) (A2 : Nat → Int32) : Nat → Nat → (Nat → Int32) → (Nat → Int32) → ((Nat → Int32) × (Nat → Int32))
  | 0, j79, A3, A4 =>
    (A3, A4)
  | k79 + 1, j79, A3, A4 =>
    if nI j79 < (c_split_L23  c t N A2 N 0 c (fun _ => 0) (fun _ => 0)).1 then
      oE (f_c_greatest N A4) (
        c_split_L79  c t N A2 k79 (j79 + 1) A3 A4
        ) (fun kk7 =>
        c_split_L79  c t N A2 k79 (j79 + 1) (fup A3 kk7 ((A3 kk7) + 1)) (fup A4 kk7 (-1))
        )
    else
      (A3, A4)
def f_c_split (qG4 : List Ob) (zc : Nat) (zn : Nat) (c t : Int32) (N : Nat) (A2 : Nat → Int32) : List Ob × List Ob × Nat × Nat :=
  if 0 < t then
    (qG4 ++ [pl N (fun k => vI (((c_split_L79  c t N A2 (((c_split_L23  c t N A2 N 0 c (fun _ => 0) (fun _ => 0)).1).toInt.toNat - 0) 0 ((c_split_L23  c t N A2 N 0 c (fun _ => 0) (fun _ => 0)).2.1) ((c_split_L23  c t N A2 N 0 c (fun _ => 0) (fun _ => 0)).2.2)).2) k))], [pl N (fun k => vI (((c_split_L79  c t N A2 (((c_split_L23  c t N A2 N 0 c (fun _ => 0) (fun _ => 0)).1).toInt.toNat - 0) 0 ((c_split_L23  c t N A2 N 0 c (fun _ => 0) (fun _ => 0)).2.1) ((c_split_L23  c t N A2 N 0 c (fun _ => 0) (fun _ => 0)).2.2)).1) k))], zc + 1 + 1, zn + N + N)
  else
    (qG4, [pl N (fun k => vI ((fun _ => 0) k))], zc + 1, zn + N)
theorem s_c_split {d : Nat} {zO : Int64} {zD : UInt64} {zX : Nat} {zL : Nat} {zXs : Nat → Int32} {zG5 : List Ob} {zG6 : List Ob} {zG7 : List Ob} {zc : Nat} {zn : Nat} {R : RD} {qNb : Nat → Int32} {qTf : Nat → Nat} {qLn : Nat} {qLy : Nat → Ly} {qMn : Nat} {qMk : Nat → Nat} {qMs : Nat → Int32} {qMh : Nat → List Nat} {qPn : Nat} {qPl : Nat → Nat → Int32} {qPo : Nat → Int32} {qPp : Nat → Int32} {qEn : Nat} {qEm : Nat → Nat} {qEc : Nat → Nat} {qEd : Nat → Int32} {qEs : Nat → Int32} {qEl : Nat → Int32} {qEe : Nat → Int32} {qEw : Nat → Int32} {qSt : Nat → Int32} {qDu : Nat → Int32} {qCu : Nat → List Nat} {qCn : Nat} {qCb : Nat → Nat} {qCl : Nat → Int32} {qBn : Nat} {qBm : Nat → Nat} {qBl : Nat → Int32} {qBf : Nat → Int32} {qKn : Nat} {qKl : Nat → Nat} {qKs : Nat → Nat → Int32} {qPr : Nat → Int32} {qDay : Int32} {qG2 : List Ob} {qG4 : List Ob} {qX1 : List Ob} {qX3 : List Ob} {c : Int32} {t : Int32} {N : Nat} {A2 : Nat → Int32} {g : List Ob} (hW : WfC qMn qPn qEn qBn qKn qCn qLn qMk qEm qEc qCb qBm qTf qKl qMh qCu qLy) (hN : N ≤ 10) : Cal (d + 1) 100 [vI c, vR 22 g.length, vI t] (enc (mkC qNb qTf qLn qLy qMn qMk qMs qMh qPn qPl qPo qPp qEn qEm qEc qEd qEs qEl qEe qEw qSt qDu qCu qCn qCb qCl qBn qBm qBl qBf qKn qKl qKs qPr qDay (g ++ [pl N (fun k => vI (A2 k))]) qG4 qX1 ([])) R (mkW zO zD zX zL zXs zG5 zG6 zG7 zc zn)) (.inl (some (vR 23 qKn))) (enc (mkC qNb qTf qLn qLy qMn qMk qMs qMh qPn qPl qPo qPp qEn qEm qEc qEd qEs qEl qEe qEw qSt qDu qCu qCn qCb qCl qBn qBm qBl qBf qKn qKl qKs qPr qDay (g ++ [pl N (fun k => vI (A2 k))]) ((f_c_split qG4 zc zn c t N A2).1) qX1 ((f_c_split qG4 zc zn c t N A2).2.1)) R (mkW zO zD zX zL zXs zG5 zG6 zG7 ((f_c_split qG4 zc zn c t N A2).2.2.1) ((f_c_split qG4 zc zn c t N A2).2.2.2))) := by
  obtain ⟨wMn, wPn, wEn, wBn, wKn, wMk, wEm, wEc, wCb, wBm, wTf, wKl, wMh, wMl, wCu, wCl, wLy⟩ := id hW
  refine Cal.mk (n := 9) rfl (Nat.le_of_ble_eq_true rfl) rfl ?_
  unfold f_c_split
  refine Ev.ps 1 rfl ?_
  refine Ev.arl (N := N) (by rfl) (by decide) (rd22) pl_len ?_
  refine Ev.na (N := N) (s := 23) (i := qKn) (by rfl) (by rfl) ⟨by rfl, by decide, by rfl⟩ (by have := hN; omega) (show (pl qKn _ ++ []).length = qKn by rw [List.append_nil, pl_len]) (nx23) ?_
  refine Ev.ps 2 rfl ?_
  refine Ev.zgt (by rfl) (by rfl) (fun (c1 : 0 < t) => ?_) (fun (c1 : ¬ 0 < t) => ?_)
  · rw [if_pos c1]
    refine Ev.ps 1 rfl ?_
    refine Ev.arl (N := N) (by rfl) (by decide) (rd22) pl_len ?_
    refine Ev.na (N := N) (by rfl) (by rfl) ⟨by rfl, by decide, by rfl⟩ (by have := hN; omega) rfl (nw24) ?_
    refine Ev.ps 5 rfl ?_
    have L23 : ∀ {x : Re × Hp}, ∀ (k23 j23 : Nat) (lf : Int32) (A3 : Nat → Int32) (A4 : Nat → Int32) (o23_7 : Option MV), j23 + k23 = N → True → (∀ (e23_7 : Option MV) (e23_6 : Option MV), True → Da e23_6 → Ev (d + 1) (100, 76, [some (vI c), some (vR 22 g.length), some (vI t), some (vR 23 qKn), some (vR 24 ((qG4).length)), some (vI ((c_split_L23  c t N A2 k23 j23 lf A3 A4).1)), e23_6, e23_7, none], []) (enc (mkC qNb qTf qLn qLy qMn qMk qMs qMh qPn qPl qPo qPp qEn qEm qEc qEd qEs qEl qEe qEw qSt qDu qCu qCn qCb qCl qBn qBm qBl qBf qKn qKl qKs qPr qDay (g ++ [pl N (fun k => vI (A2 k))]) (qG4 ++ [pl N (fun k => vI (((c_split_L23  c t N A2 k23 j23 lf A3 A4).2.2) k))]) qX1 ([pl N (fun k => vI (((c_split_L23  c t N A2 k23 j23 lf A3 A4).2.1) k))])) R (mkW zO zD zX zL zXs zG5 zG6 zG7 (zc + 1 + 1) (zn + N + N))) x) → Ev (d + 1) (100, 23, [some (vI c), some (vR 22 g.length), some (vI t), some (vR 23 qKn), some (vR 24 ((qG4).length)), some (vI lf), some (vI (nI j23)), o23_7, none], []) (enc (mkC qNb qTf qLn qLy qMn qMk qMs qMh qPn qPl qPo qPp qEn qEm qEc qEd qEs qEl qEe qEw qSt qDu qCu qCn qCb qCl qBn qBm qBl qBf qKn qKl qKs qPr qDay (g ++ [pl N (fun k => vI (A2 k))]) (qG4 ++ [pl N (fun k => vI (A4 k))]) qX1 ([pl N (fun k => vI (A3 k))])) R (mkW zO zD zX zL zXs zG5 zG6 zG7 (zc + 1 + 1) (zn + N + N))) x := by
      intro x k23
      induction k23 with
      | zero =>
        intro j23 lf A3 A4 o23_7 hj23 ho23_7 K23
        rw [c_split_L23] at K23
        refine Ev.ps 2 rfl ?_
        refine Ev.arl (N := N) (by rfl) (by decide) (rd22) pl_len ?_
        refine Ev.igeN (a := j23) (b := N) (by omega) (by have := hN; omega) (by rfl) (by rfl) (fun (c2 : j23 < N) => ?_) (fun (c2 : ¬ j23 < N) => ?_)
        · exfalso; omega
        · exact K23 _ _ trivial Da.i
      | succ k23 ih23 =>
        intro j23 lf A3 A4 o23_7 hj23 ho23_7 K23
        rw [c_split_L23] at K23
        refine Ev.ps 2 rfl ?_
        refine Ev.arl (N := N) (by rfl) (by decide) (rd22) pl_len ?_
        refine Ev.igeN (a := j23) (b := N) (by omega) (by have := hN; omega) (by rfl) (by rfl) (fun (c3 : j23 < N) => ?_) (fun (c3 : ¬ j23 < N) => ?_)
        · refine Ev.ps 4 rfl ?_
          refine Ev.aiI (k := j23) (v := vI (A2 j23)) (by rfl) (by decide) (rd22) (by have := hN; omega) (by omega) rfl ?_
          refine Ev.ps 8 rfl ?_
          refine Ev.p (by rfl) (by dsimp only [pin, p2l]; rw [if_pos rfl, if_neg (toI64_nz (pos_ne (by assumption)))]; rfl) ?_
          refine Ev.ps 1 rfl ?_
          refine Ev.asI (k := j23) (by rfl) (by rfl) (rx23) (by have := hN; omega) (by omega) ((congrArg (hput _ _ _) (pl_setI (f := A3) (F := fun _ v => vI v) (v := (((c.toInt64 * ((A2 j23).toInt64)) / t.toInt64).toInt32)))).trans wx23) ?_
          refine Ev.ps 5 rfl ?_
          refine Ev.p (by rfl) (by dsimp only [pin, p2l]; rw [if_pos rfl, if_neg (toI64_nz (pos_ne (by assumption)))]; rfl) ?_
          refine Ev.ps 1 rfl ?_
          refine Ev.asI (k := j23) (by rfl) (by rfl) (rd24) (by have := hN; omega) (by omega) ((congrArg (hput _ _ _) (pl_setI (f := A4) (F := fun _ v => vI v) (v := (((c.toInt64 * ((A2 j23).toInt64)) - (c.toInt64 * ((A2 j23).toInt64)) / t.toInt64 * t.toInt64).toInt32)))).trans wr24) ?_
          refine Ev.ps 3 rfl ?_
          refine Ev.aiI (k := j23) (v := vI ((fup A3 j23 (((c.toInt64 * ((A2 j23).toInt64)) / t.toInt64).toInt32)) j23)) (by rfl) (by decide) (rx23) (by have := hN; omega) (by omega) rfl ?_
          refine Ev.ps 4 rfl ?_
          have h9 := ih23 (j23 + 1) (lf - ((fup A3 j23 (((c.toInt64 * ((A2 j23).toInt64)) / t.toInt64).toInt32)) j23)) (fup A3 j23 (((c.toInt64 * ((A2 j23).toInt64)) / t.toInt64).toInt32)) (fup A4 j23 (((c.toInt64 * ((A2 j23).toInt64)) - (c.toInt64 * ((A2 j23).toInt64)) / t.toInt64 * t.toInt64).toInt32)) (some (vL (c.toInt64 * ((A2 j23).toInt64)))) (by show j23 + 1 + k23 = N; omega) trivial K23
          rw [← nI_1] at h9
          exact h9
        · exfalso; omega
    refine L23 N 0 c (fun _ => 0) (fun _ => 0) none (by show 0 + N = N; omega) trivial ?_
    intro e23_7 e23_6 he23_7 he23_6
    refine Ev.ps 2 rfl ?_
    have L79 : ∀ {x : Re × Hp}, ∀ (k79 j79 : Nat) (A3 : Nat → Int32) (A4 : Nat → Int32) (o79_7 : Option MV), ((c_split_L23  c t N A2 N 0 c (fun _ => 0) (fun _ => 0)).1).toInt.toNat - j79 ≤ k79 → True → j79 ≤ ((c_split_L23  c t N A2 N 0 c (fun _ => 0) (fun _ => 0)).1).toInt.toNat → (∀ (e79_7 : Option MV) (e79_6 : Option MV), True → Da e79_6 → Ev (d + 1) (100, 125, [some (vI c), some (vR 22 g.length), some (vI t), some (vR 23 qKn), some (vR 24 ((qG4).length)), some (vI ((c_split_L23  c t N A2 N 0 c (fun _ => 0) (fun _ => 0)).1)), e79_6, e79_7, none], []) (enc (mkC qNb qTf qLn qLy qMn qMk qMs qMh qPn qPl qPo qPp qEn qEm qEc qEd qEs qEl qEe qEw qSt qDu qCu qCn qCb qCl qBn qBm qBl qBf qKn qKl qKs qPr qDay (g ++ [pl N (fun k => vI (A2 k))]) (qG4 ++ [pl N (fun k => vI (((c_split_L79  c t N A2 k79 j79 A3 A4).2) k))]) qX1 ([pl N (fun k => vI (((c_split_L79  c t N A2 k79 j79 A3 A4).1) k))])) R (mkW zO zD zX zL zXs zG5 zG6 zG7 (zc + 1 + 1) (zn + N + N))) x) → Ev (d + 1) (100, 79, [some (vI c), some (vR 22 g.length), some (vI t), some (vR 23 qKn), some (vR 24 ((qG4).length)), some (vI ((c_split_L23  c t N A2 N 0 c (fun _ => 0) (fun _ => 0)).1)), some (vI (nI j79)), o79_7, none], []) (enc (mkC qNb qTf qLn qLy qMn qMk qMs qMh qPn qPl qPo qPp qEn qEm qEc qEd qEs qEl qEe qEw qSt qDu qCu qCn qCb qCl qBn qBm qBl qBf qKn qKl qKs qPr qDay (g ++ [pl N (fun k => vI (A2 k))]) (qG4 ++ [pl N (fun k => vI (A4 k))]) qX1 ([pl N (fun k => vI (A3 k))])) R (mkW zO zD zX zL zXs zG5 zG6 zG7 (zc + 1 + 1) (zn + N + N))) x := by
      intro x k79
      induction k79 with
      | zero =>
        intro j79 A3 A4 o79_7 hj79 ho79_7 hjl K79
        rw [c_split_L79] at K79
        refine Ev.ps 2 rfl ?_
        refine Ev.ige (by rfl) (by rfl) (fun (c4 : nI j79 < (c_split_L23  c t N A2 N 0 c (fun _ => 0) (fun _ => 0)).1) => ?_) (fun (c4 : ¬ nI j79 < (c_split_L23  c t N A2 N 0 c (fun _ => 0) (fun _ => 0)).1) => ?_)
        · have hq := left_lt (x := (c_split_L23  c t N A2 N 0 c (fun _ => 0) (fun _ => 0)).1) (j := j79) (by have := toNat_31 (x := (c_split_L23  c t N A2 N 0 c (fun _ => 0) (fun _ => 0)).1); omega) (by assumption); exfalso; omega
        · exact K79 _ _ trivial Da.i
      | succ k79 ih79 =>
        intro j79 A3 A4 o79_7 hj79 ho79_7 hjl K79
        rw [c_split_L79] at K79
        refine Ev.ps 2 rfl ?_
        refine Ev.ige (by rfl) (by rfl) (fun (c5 : nI j79 < (c_split_L23  c t N A2 N 0 c (fun _ => 0) (fun _ => 0)).1) => ?_) (fun (c5 : ¬ nI j79 < (c_split_L23  c t N A2 N 0 c (fun _ => 0) (fun _ => 0)).1) => ?_)
        · rw [if_pos c5] at K79
          refine Ev.ps 1 rfl ?_
          refine Ev.sta (as := [vR 24 ((qG4).length)]) (rest := []) (by rfl) (by rfl) (by rfl) (by rfl) rfl (Nat.le_of_ble_eq_true rfl) (s_c_greatest (qG4 := []) hW hN) ?_
          refine Ev.ps 2 rfl ?_
          generalize hg6 : f_c_greatest N A4 = g6 at K79 ⊢
          cases g6 with
          | none =>
            dsimp only [oE] at K79
            refine Ev.ifi (by rfl) (by rfl) (fun _ => ?_) (fun z => by exact absurd z (by decide))
            refine Ev.ps 2 rfl ?_
            have h9 := ih79 (j79 + 1) A3 A4 (some (vI (-1))) (by omega) trivial (by have hq := left_lt (x := (c_split_L23  c t N A2 N 0 c (fun _ => 0) (fun _ => 0)).1) (j := j79) (by have := toNat_31 (x := (c_split_L23  c t N A2 N 0 c (fun _ => 0) (fun _ => 0)).1); omega) (by assumption); omega) K79
            rw [← nI_1] at h9
            exact h9
          | some kk7 =>
            dsimp only [oE] at K79
            refine Ev.zlt (by rfl) (by rfl) (fun z => absurd z (nI_pos (by have := (great_lt hg6); omega))) (fun _ => ?_)
            refine Ev.ps 2 rfl ?_
            refine Ev.arl (N := N) (by rfl) (by decide) (rx23) pl_len ?_
            refine Ev.igeN (a := kk7) (b := N) (by have := (great_lt hg6); omega) (by have := hN; omega) (by rfl) (by rfl) (fun (c8 : kk7 < N) => ?_) (fun (c8 : ¬ kk7 < N) => ?_)
            · refine Ev.ps 3 rfl ?_
              refine Ev.aiI (k := kk7) (v := vI (A3 kk7)) (by rfl) (by decide) (rx23) (by have := hN; omega) (by have := (great_lt hg6); omega) rfl ?_
              refine Ev.ps 2 rfl ?_
              refine Ev.asI (k := kk7) (by rfl) (by rfl) (rx23) (by have := hN; omega) (by have := (great_lt hg6); omega) ((congrArg (hput _ _ _) (pl_setI (f := A3) (F := fun _ v => vI v) (v := ((A3 kk7) + 1)))).trans wx23) ?_
              refine Ev.ps 3 rfl ?_
              refine Ev.asI (k := kk7) (by rfl) (by rfl) (rd24) (by have := hN; omega) (by have := (great_lt hg6); omega) ((congrArg (hput _ _ _) (pl_setI (f := A4) (F := fun _ v => vI v) (v := (-1)))).trans wr24) ?_
              refine Ev.ps 2 rfl ?_
              have h9 := ih79 (j79 + 1) (fup A3 kk7 ((A3 kk7) + 1)) (fup A4 kk7 (-1)) (some (vI (nI kk7))) (by omega) trivial (by have hq := left_lt (x := (c_split_L23  c t N A2 N 0 c (fun _ => 0) (fun _ => 0)).1) (j := j79) (by have := toNat_31 (x := (c_split_L23  c t N A2 N 0 c (fun _ => 0) (fun _ => 0)).1); omega) (by assumption); omega) K79
              rw [← nI_1] at h9
              exact h9
            · exact absurd (great_lt (by assumption)) (by assumption)
        · rw [if_neg c5] at K79
          exact K79 _ _ trivial Da.i
    refine L79 (((c_split_L23  c t N A2 N 0 c (fun _ => 0) (fun _ => 0)).1).toInt.toNat - 0) 0 ((c_split_L23  c t N A2 N 0 c (fun _ => 0) (fun _ => 0)).2.1) ((c_split_L23  c t N A2 N 0 c (fun _ => 0) (fun _ => 0)).2.2) e23_7 (Nat.le_refl _) trivial (Nat.zero_le _) ?_
    intro e79_7 e79_6 he79_7 he79_6
    refine Ev.ps 1 rfl ?_
    exact Ev.re rfl rfl rfl rfl rfl
  · rw [if_neg c1]
    refine Ev.ps 1 rfl ?_
    exact Ev.re rfl rfl rfl rfl rfl
