/-! the house is sound (statements by gen98h.py) -/
section SO
variable {nb : Nat → Int32} {tf : Nat → Nat} {ln : Nat} {ly : Nat → Ly} {mac : Nat} {mk : Nat → Nat} {su : Nat → Int32} {mh : Nat → List Nat} {mem : Nat} {tk : Nat → Nat → Int32} {po : Nat → Int32} {pp : Nat → Int32} {n : Nat} {ow : Nat → Nat} {mo : Nat → Nat} {dy : Nat → Int32} {st : Nat → Int32} {le : Nat → Int32} {wk : Nat → Int32} {sta : Nat → Int32} {du : Nat → Int32} {cu : Nat → List Nat} {cn : Nat} {qcb : Nat → Nat} {qcl : Nat → Int32} {bar : Nat} {mt : Nat → Nat} {bl : Nat → Int32} {bf : Nat → Int32} {brk : Nat} {kl : Nat → Nat} {ks : Nat → Nat → Int32} {day : Int32} {paid : Nat → Int64} {nd : Nat → Nat → Bool} {cm : Nat → Nat} {cb : Nat → Nat → Nat} {cl : Nat → Nat → Int32} {Ls : Nat → Nat → Int32} {Lnum : Nat → Nat → Int32} {lm : Nat → Nat} {sh : Nat → Nat → Int32} {pr : Nat → Int32} {G2 : List Ob} {G4 : List Ob} {thr : Int32} {x : Int32}
theorem clash_no (hE : EOk n dy st le) (hU : SuOk su) (hSep : Sep n mo dy st le wk sta su) (hM : MemSep n ow dy st le sta) {i e : Nat} (he : e < n) (hs : sta e = 98) : ∀ k j, e < j → j + k ≤ n → c_clashes_L4 mo dy (fun e => st e + le e) ow st sta i e k j = false
  | 0, j, _, _ => rfl
  | k + 1, j, h1, h2 => by
    have ih := clash_no hE hU hSep hM (i := i) he hs k (j + 1) (by omega) (by omega)
    have hj : j < n := by omega
    obtain ⟨-, -, g3, g4, g5⟩ := hE e he
    obtain ⟨-, -, k3, k4, k5⟩ := hE j hj
    have ho : ∀ (z : sta j = 98), ow j = ow e ∨ mo j = mo e → f_c_overlaps dy (fun e => st e + le e) st j (dy e) (st e) (st e + le e) = false := fun z hh => by
      unfold f_c_overlaps
      by_cases c1 : dy j = dy e
      · have key : (st e).toInt + (le e).toInt ≤ (st j).toInt ∨ (st j).toInt + (le j).toInt ≤ (st e).toInt := by
          rcases hh with hh | hh
          · exact hM e j he hj (by omega) hs z hh.symm c1.symm
          · have s1 := suI_nn (a := wk e) (b := wk j) (hU (mo e)).1
            have s2 := suI_nn (a := wk j) (b := wk e) (hU (mo e)).1
            have q := hSep e j he hj (by omega) (Or.inl hs) (Or.inl z) hh.symm c1.symm
            unfold Bef at q
            rcases q with q | q
            · exact Or.inl (by omega)
            · exact Or.inr (by omega)
        rw [if_pos c1]
        by_cases c2 : st j < st e + le e
        · rw [if_pos c2, if_neg (fun z2 => by
            rw [i_lt, endq_I hE he] at c2
            have z3 : st e < st j + le j := z2
            rw [i_lt, endq_I hE hj] at z3
            omega)]
        · rw [if_neg c2]
      · rw [if_neg c1]
    rw [c_clashes_L4]
    by_cases c1 : ow j = ow e
    · rw [if_pos c1]
      by_cases c2 : sta j = 98
      · rw [if_pos c2, ho c2 (Or.inl c1), if_neg (by decide), ih]
      · rw [if_neg c2, ih]
    · rw [if_neg c1]
      by_cases c3 : mo j = mo e
      · rw [if_pos c3]
        by_cases c2 : sta j = 98
        · rw [if_pos c2, ho c2 (Or.inr c3), if_neg (by decide), ih]
        · rw [if_neg c2, ih]
      · rw [if_neg c3, ih]
theorem ent_sound (hN : NeedOk nb nd) (hT : TakOk tk) (hk : ∀ m, mk m < 4) (hEI : EI n ow mo mk dy st le wk su nd tk day mh sta) (hNW : NoneW n ow mo mk dy st le wk sta su nd tk) : ∀ k j, j + k = n → c_entSound_L2 mo dy (fun e => st e + le e) le ow n st wk mh mk su nb tk sta k j = true
  | 0, j, _ => rfl
  | k + 1, j, h => by
    have ih := ent_sound hN hT hk hEI hNW k (j + 1) (by omega)
    have hj : j < n := by omega
    obtain ⟨hE, hU, hSep, hH, hM, hD, hLv⟩ := id hEI
    obtain ⟨g1, g2, g3, g4, g5⟩ := hE j hj
    rw [c_entSound_L2]
    by_cases c1 : sta j = 119
    · have hcb : ¬ f_c_canBe mo dy (fun e => st e + le e) le ow n st wk mh mk su nb tk sta j = true := fun z => by
        unfold f_c_canBe at z
        rw [letter_eq hN hT hE hSep hU hH (hk _) g1 (by omega) (ei_done hEI hj (Or.inl c1)) g3 g4 g5] at z
        by_cases c2 : f_r_letter dy n le mk mo nd ow st sta su tk wk (ow j) (mo j) (dy j) (st j) (le j) (wk j) = 111
        · exact hNW j hj c1 ((letter_o hE hSep hU g3 g4 g5).mp c2)
        · rw [if_neg c2] at z
          exact absurd z (by decide)
      rw [if_pos c1, if_neg hcb, if_neg (by rw [c1]; decide), ih]
    · rw [if_neg c1]
      by_cases c2 : sta j = 98
      · have hl : f_c_hasInd mo dy ow mk nb tk j = true := (f_live_eq hN hT g1 (by omega) (hk _)).trans (hLv j hj c2)
        have hc : f_c_clashes mo dy (fun e => st e + le e) ow n st sta j j = false := clash_no hE hU hSep hM hj c2 _ _ (by omega) (by omega)
        rw [if_pos c2, if_pos hl, hc, if_neg (by decide), ih]
      · rw [if_neg c2, ih]
theorem bars_agree (hC : CutOk n sta cu qcb qcl cm cb cl) (hF : ∀ b, b < bar → bf b = f_r_free bl cb cl cm n sta b) : ∀ k j, j + k ≤ bar → c_barsAgree_L2 bf bl qcb qcl cu n k j = true
  | 0, j, _ => rfl
  | k + 1, j, h => by rw [c_barsAgree_L2, if_pos (by rw [left_eq hC, hF j (by omega)]), bars_agree hC hF k (j + 1) (by omega)]
theorem min_day (hE : EOk n dy st le) (hU : SuOk su) (hSep : Sep n mo dy st le wk sta su) (hH : Held n mo dy st sta mh) {j : Nat} : ∀ k D, c_minAgree_L30 day mo dy (fun e => st e + le e) le ow st wk mh su sta j k D true = true
  | 0, D => rfl
  | k + 1, D => by
    rw [c_minAgree_L30]
    split
    · rfl
    · rw [if_pos (by rw [c_lengths_eq hE hH, c_count_eq hE hSep hU hH]), min_day hE hU hSep hH k (D + 1)]
theorem min_agree (hE : EOk n dy st le) (hU : SuOk su) (hSep : Sep n mo dy st le wk sta su) (hH : Held n mo dy st sta mh) : ∀ k j, c_minAgree_L2 day mo dy (fun e => st e + le e) le ow st wk mh su sta k j = true
  | 0, j => rfl
  | k + 1, j => by rw [c_minAgree_L2, min_agree hE hU hSep hH k (j + 1), min_day hE hU hSep hH]
end SO
theorem core_isSound {nb : Nat → Int32} {tf : Nat → Nat} {ln : Nat} {ly : Nat → Ly} {mac : Nat} {mk : Nat → Nat} {su : Nat → Int32} {mh : Nat → List Nat} {mem : Nat} {tk : Nat → Nat → Int32} {po : Nat → Int32} {pp : Nat → Int32} {n : Nat} {ow : Nat → Nat} {mo : Nat → Nat} {dy : Nat → Int32} {st : Nat → Int32} {le : Nat → Int32} {wk : Nat → Int32} {sta : Nat → Int32} {du : Nat → Int32} {cu : Nat → List Nat} {cn : Nat} {qcb : Nat → Nat} {qcl : Nat → Int32} {bar : Nat} {mt : Nat → Nat} {bl : Nat → Int32} {bf : Nat → Int32} {brk : Nat} {kl : Nat → Nat} {ks : Nat → Nat → Int32} {day : Int32} {paid : Nat → Int64} {nd : Nat → Nat → Bool} {cm : Nat → Nat} {cb : Nat → Nat → Nat} {cl : Nat → Nat → Int32} {Ls : Nat → Nat → Int32} {Lnum : Nat → Nat → Int32} {lm : Nat → Nat} {sh : Nat → Nat → Int32} {pr : Nat → Int32} {G2 : List Ob} {G4 : List Ob} {thr : Int32} {zc zn : Nat} (h : InvP nb tf ln ly mac mk su mh mem tk po pp n ow mo dy st le wk sta du cu cn qcb qcl bar mt bl bf brk kl ks day paid nd cm cb cl Ls Lnum lm sh) : CoreX (((.inl (some (vI (bI (f_c_isSound bf bl bar qcb qcl cu day du mo dy (fun e => st e + le e) le ow n st wk kl brk ks mh mk mac su nb tk mem po pp sta))))) : Re) = (.inl (some (vI (bI f_r_isSound.1))))) (mkC nb tf ln ly mac mk su mh mem tk po pp n ow mo dy st le (fun e => st e + le e) wk sta du cu cn qcb qcl bar mt bl bf brk kl ks pr day G2 G4 ([]) ([])) (mkR mk su mac mem tk paid nd day ow mo dy st le wk sta du cm cb cl n mt bl bar pr Ls Lnum lm sh brk f_r_isSound.2) (wcnt sta n) zc zc zn zn := by
  obtain ⟨hWC, hWR, hA, hN, hT, hTD, hTz, hd, hEI, hNW, hSt, hC, hCz, hF, hTar, hDebt, hSh, hPay, hDZ, hKl⟩ := id h
  obtain ⟨hE, hU, hSep, hH, hM, hD, hLv⟩ := id hEI
  obtain ⟨wMac, wMem, wEnt, wBar, wBrk, wOw, wMo, wMk, wCm, wCb, wMt, wLm⟩ := id hWR
  have hs : f_c_isSound bf bl bar qcb qcl cu day du mo dy (fun e => st e + le e) le ow n st wk kl brk ks mh mk mac su nb tk mem po pp sta = true := by
    unfold f_c_isSound f_c_entSound f_c_barsAgree f_c_debtsAgree f_c_minAgree
    rw [ent_sound hN hT wMk hEI hNW n 0 (by omega), bars_agree hC hF bar 0 (by omega), debts_agree hDebt hSh wMem mem 0 (by omega), min_agree hE hU hSep hH mac 0]
    rfl
  rw [hs]
  exact core_o h rfl
