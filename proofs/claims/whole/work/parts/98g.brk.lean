/-! breakages (statements by gen98g.py) -/
theorem sN_mul {c : Nat} {f : Nat → Nat} : ∀ k j, sN (fun q => c * f q) k j = c * sN f k j
  | 0, _ => rfl
  | k + 1, j => by rw [sN, sN, sN_mul k (j + 1), Nat.mul_add]
/-- quotients and rests: what is left is at most one each -/
theorem left_le {x T N : Nat} {m : Nat → Nat} (hT : 0 < T) (hs : sN m N 0 = T) : sN (fun q => x * m q / T) N 0 ≤ x ∧ x - sN (fun q => x * m q / T) N 0 ≤ N := by
  have h1 : x * T = T * sN (fun q => x * m q / T) N 0 + sN (fun q => x * m q % T) N 0 := by
    rw [← hs, ← sN_mul, hs, ← sN_mul, ← sN_add]
    exact sN_congr N 0 (fun q _ _ => (Nat.div_add_mod _ _).symm)
  have h2 : sN (fun q => x * m q % T) N 0 ≤ T * N := sN_le N 0 (fun q _ _ => Nat.le_of_lt (Nat.mod_lt _ hT))
  generalize sN (fun q => x * m q / T) N 0 = D at *
  generalize sN (fun q => x * m q % T) N 0 = R at *
  have h3 : T * D ≤ T * x := by rw [Nat.mul_comm T x]; omega
  have h4 := Nat.le_of_mul_le_mul_left h3 hT
  refine ⟨h4, Nat.le_of_mul_le_mul_left (show T * (x - D) ≤ T * N from ?_) hT⟩
  rw [Nat.mul_sub, Nat.mul_comm T x]
  omega
section BD
variable {nb : Nat → Int32} {tf : Nat → Nat} {ln : Nat} {ly : Nat → Ly} {mac : Nat} {mk : Nat → Nat} {su : Nat → Int32} {mh : Nat → List Nat} {mem : Nat} {tk : Nat → Nat → Int32} {po : Nat → Int32} {pp : Nat → Int32} {n : Nat} {ow : Nat → Nat} {mo : Nat → Nat} {dy : Nat → Int32} {st : Nat → Int32} {le : Nat → Int32} {wk : Nat → Int32} {sta : Nat → Int32} {du : Nat → Int32} {cu : Nat → List Nat} {cn : Nat} {qcb : Nat → Nat} {qcl : Nat → Int32} {bar : Nat} {mt : Nat → Nat} {bl : Nat → Int32} {bf : Nat → Int32} {brk : Nat} {kl : Nat → Nat} {ks : Nat → Nat → Int32} {day : Int32} {paid : Nat → Int64} {nd : Nat → Nat → Bool} {cm : Nat → Nat} {cb : Nat → Nat → Nat} {cl : Nat → Nat → Int32} {Ls : Nat → Nat → Int32} {Lnum : Nat → Nat → Int32} {lm : Nat → Nat} {sh : Nat → Nat → Int32} {pr : Nat → Int32} {G2 : List Ob} {G4 : List Ob} {thr : Int32} {x : Int32}
theorem l113_s {zc zn k_p0 : Nat} {X : Int32} {SP : Nat → Int32} (hSP : splitA X ((c_breakDown_L43 day mo dy le ow n sta k_p0 X mem 0 0 (fun _ => 0)).1) mem ((c_breakDown_L43 day mo dy le ow n sta k_p0 X mem 0 0 (fun _ => 0)).2) = SP) : ∀ k j po, ∃ po', c_breakDown_L113 day mo dy le ow n G2 G4 kl brk ks mem sta zc zn k_p0 X k j po = c_breakDown_L113 day mo dy le ow n G2 G4 kl brk ks mem sta zc zn k_p0 X 0 0 po' ∧ ∀ q, po' q = if j ≤ q ∧ q < j + k then po q + f_c_share (fup kl brk mem) (fup ks brk SP) brk (nI q) else po q
  | 0, j, po => ⟨po, rfl, fun q => by rw [if_neg (by omega)]⟩
  | k + 1, j, po => by
    rw [c_breakDown_L113, hSP]
    obtain ⟨po', h1, h2⟩ := l113_s hSP k (j + 1) (fup po j (po j + f_c_share (fup kl brk mem) (fup ks brk SP) brk (nI j)))
    refine ⟨po', h1, fun q => ?_⟩
    rw [h2]
    by_cases c : j + 1 ≤ q ∧ q < j + 1 + k
    · rw [if_pos c, if_pos (by omega), fup_ne (by omega)]
    · rw [if_neg c]
      by_cases e : q = j
      · subst e
        rw [fup_same, if_pos (by omega)]
      · rw [fup_ne e, if_neg (by omega)]
theorem brk_inv {SP : Nat → Int32} {sh' : Nat → Nat → Int32} {po' : Nat → Int32} (hSh : ShOk brk kl ks sh) (hDb : DebtOk mem n brk ow du po sh) (hm : mem ≤ 10) (h1 : ∀ b, b ≠ brk → sh' b = sh b) (h2 : ∀ i, i < mem → sh' brk i = SP i) (h3 : ∀ i, mem ≤ i → sh' brk i = 0) (h4 : ∀ q, po' q = if 0 ≤ q ∧ q < 0 + mem then po q + f_c_share (fup kl brk mem) (fup ks brk SP) brk (nI q) else po q) : ShOk (brk + 1) (fup kl brk mem) (fup ks brk SP) sh' ∧ DebtOk mem n (brk + 1) ow du po' sh' := by
  have hs : ∀ q, q < 10 → f_c_share (fup kl brk mem) (fup ks brk SP) brk (nI q) = sh' brk q := fun q hq => by
    unfold f_c_share
    rw [fup_same, fup_same, if_neg (nI_pos (by omega)), nP_nI (by omega)]
    by_cases c : q < mem
    · rw [if_pos ((nI_ltI (by omega) (by omega)).mpr c), h2 q c]
    · rw [if_neg (fun z => c ((nI_ltI (by omega) (by omega)).mp z)), h3 q (by omega)]
  refine ⟨⟨fun b hb q hq => ?_, fun b hb q => ?_⟩, fun q hq => ?_⟩
  · by_cases e : b = brk
    · subst e
      exact hs q hq
    · rw [h1 b e, ← hSh.1 b (by omega) q hq]
      unfold f_c_share
      rw [fup_ne e, fup_ne e]
  · rw [h1 b (by omega)]
    exact hSh.2 b (by omega) q
  · rw [h4, if_pos (by omega), hs q (by omega), hDb q hq]
    unfold shS
    rw [sI_app, Nat.zero_add, sI_congr (f := fun b => sh' b q) (g := fun b => sh b q) brk 0 (fun b _ hb => by rw [h1 b (by omega)])]
    grind
end BD
theorem core_breakDown {nb : Nat → Int32} {tf : Nat → Nat} {ln : Nat} {ly : Nat → Ly} {mac : Nat} {mk : Nat → Nat} {su : Nat → Int32} {mh : Nat → List Nat} {mem : Nat} {tk : Nat → Nat → Int32} {po : Nat → Int32} {pp : Nat → Int32} {n : Nat} {ow : Nat → Nat} {mo : Nat → Nat} {dy : Nat → Int32} {st : Nat → Int32} {le : Nat → Int32} {wk : Nat → Int32} {sta : Nat → Int32} {du : Nat → Int32} {cu : Nat → List Nat} {cn : Nat} {qcb : Nat → Nat} {qcl : Nat → Int32} {bar : Nat} {mt : Nat → Nat} {bl : Nat → Int32} {bf : Nat → Int32} {brk : Nat} {kl : Nat → Nat} {ks : Nat → Nat → Int32} {day : Int32} {paid : Nat → Int64} {nd : Nat → Nat → Bool} {cm : Nat → Nat} {cb : Nat → Nat → Nat} {cl : Nat → Nat → Int32} {Ls : Nat → Nat → Int32} {Lnum : Nat → Nat → Int32} {lm : Nat → Nat} {sh : Nat → Nat → Int32} {pr : Nat → Int32} {G2 : List Ob} {G4 : List Ob} {thr : Int32} {zG6 : List Ob} {zG7 : List Ob} {rc rn : Nat} {zc zn : Nat} {p0 X : Int32} (h : InvP nb tf ln ly mac mk su mh mem tk po pp n ow mo dy st le wk sta du cu cn qcb qcl bar mt bl bf brk kl ks day paid nd cm cb cl Ls Lnum lm sh) : CoreX (AgI [(0, 1), (1, 2), (5, 3)] ((f_c_breakDown day mo dy le ow n G2 G4 kl brk ks mac mem po sta zc zn p0 X).1) ((f_r_breakDown brk day dy n le mac mem mo ow sh sta zG6 zG7 rc rn p0 X).2.2.2.1) ((f_r_breakDown brk day dy n le mac mem mo ow sh sta zG6 zG7 rc rn p0 X).1)) (mkC nb tf ln ly mac mk su mh mem tk ((f_c_breakDown day mo dy le ow n G2 G4 kl brk ks mac mem po sta zc zn p0 X).2.1) pp n ow mo dy st le (fun e => st e + le e) wk sta du cu cn qcb qcl bar mt bl bf ((f_c_breakDown day mo dy le ow n G2 G4 kl brk ks mac mem po sta zc zn p0 X).2.2.1) ((f_c_breakDown day mo dy le ow n G2 G4 kl brk ks mac mem po sta zc zn p0 X).2.2.2.1) ((f_c_breakDown day mo dy le ow n G2 G4 kl brk ks mac mem po sta zc zn p0 X).2.2.2.2.1) pr day ((f_c_breakDown day mo dy le ow n G2 G4 kl brk ks mac mem po sta zc zn p0 X).2.2.2.2.2.1) ((f_c_breakDown day mo dy le ow n G2 G4 kl brk ks mac mem po sta zc zn p0 X).2.2.2.2.2.2.1) ([]) ([])) (mkR mk su mac mem tk paid nd day ow mo dy st le wk sta du cm cb cl n mt bl bar pr Ls Lnum lm ((f_r_breakDown brk day dy n le mac mem mo ow sh sta zG6 zG7 rc rn p0 X).2.1) ((f_r_breakDown brk day dy n le mac mem mo ow sh sta zG6 zG7 rc rn p0 X).2.2.1) ((f_r_breakDown brk day dy n le mac mem mo ow sh sta zG6 zG7 rc rn p0 X).2.2.2.1)) (wcnt sta n) zc ((f_c_breakDown day mo dy le ow n G2 G4 kl brk ks mac mem po sta zc zn p0 X).2.2.2.2.2.2.2.1) zn ((f_c_breakDown day mo dy le ow n G2 G4 kl brk ks mac mem po sta zc zn p0 X).2.2.2.2.2.2.2.2) := by
  obtain ⟨hWC, hWR, hA, hN, hT, hTD, hTz, hd, hEI, hNW, hSt, hC, hCz, hF, hTar, hDebt, hSh, hPay, hDZ, hKl⟩ := id h
  obtain ⟨hE, hU, hSep, hH, hM, hD, hLv⟩ := id hEI
  obtain ⟨wMac, wMem, wEnt, wBar, wBrk, wOw, wMo, wMk, wCm, wCb, wMt, wLm⟩ := id hWR
  obtain ⟨vMn, vPn, vEn, vBn, vKn, vMk, vEm, vEc, vCb, vBm, vTf, vKl, vMh, vMl, vCu, vCl, vLy⟩ := id hWC
  unfold f_c_breakDown f_r_breakDown
  by_cases c1 : f_r_isMachine mac p0 = true
  · rw [if_pos c1, if_pos c1]
    by_cases c2 : f_r_in X 1 100000 = true
    · rw [if_pos c2, if_pos c2]
      by_cases c3 : brk < 20
      · rw [if_pos c3, if_neg (show ¬ brk = 20 by omega)]
        have m2 := in_iff.mp c2
        have e1 : (1 : Int32).toInt = 1 := rfl
        have em : (100000 : Int32).toInt = 100000 := rfl
        obtain ⟨x, ⟨hx1, hx2⟩, rfl⟩ : ∃ x : Nat, (1 ≤ x ∧ x ≤ 100000) ∧ X = nI x := ⟨X.toInt.toNat, by omega, Int32.toInt.inj (by rw [nI_toInt (by omega)]; omega)⟩
        have hs480 : ∀ e, e < n → sM le e ≤ 480 := fun e he => by
          have := (sM_I hE he).2.2.2.1
          omega
        obtain ⟨mf, hmf⟩ : ∃ mf : Nat → Nat, mf = fun q => sN (fun e => if QB mo dy sta (nP p0) day e = true ∧ ow e = q then sM le e else 0) n 0 := ⟨_, rfl⟩
        have hm : ∀ q, mf q ≤ 100000 := fun q => by
          rw [hmf]
          refine Nat.le_trans (sN_le (B := 480) n 0 (fun e _ he => ?_)) (by omega)
          split
          · exact hs480 e (by omega)
          · exact Nat.zero_le _
        have hb : ∀ q, f_c_blame day mo dy le ow n sta q (nP p0) = nI (mf q) := fun q => by
          unfold f_c_blame
          rw [blame_s hE hd.1 hd.2 n 0 0 (by omega), Int32.zero_add, hmf]
        obtain ⟨T, hTs⟩ : ∃ T : Nat, T = sN mf mem 0 := ⟨_, rfl⟩
        have hTs2 : T = sN (fun e => if QB mo dy sta (nP p0) day e = true then sM le e else 0) n 0 := by
          rw [hTs, hmf]
          exact sN_swap n 0 (fun e _ he => vEm e (by omega))
        have hT2 : T ≤ 100000 := by
          rw [hTs2]
          refine Nat.le_trans (sN_le (B := 480) n 0 (fun e _ he => ?_)) (by omega)
          split
          · exact hs480 e (by omega)
          · exact Nat.zero_le _
        obtain ⟨a1, a2⟩ := l43_s (X := nI x) hb mem 0 0 (fun _ => 0)
        obtain ⟨b1, b2⟩ := r64_s (X := nI x) hE hd.1 hd.2 (mc := nP p0) (mo := mo) (ow := ow) (sta := sta) n 0 0 (fun _ => 0) (by omega)
        rw [Int32.zero_add, ← hTs] at a1
        rw [Int32.zero_add, ← hTs2] at b1
        have b2' : ∀ q, (r_breakDown_L64 day dy le mo ow sta (nP p0) (nI x) n 0 0 (fun _ => 0)).2 q = nI (mf q) := fun q => by rw [b2, Int32.zero_add, hmf]
        have hcs : ∀ (G : List Ob) (c z : Nat), (f_c_split G c z (nI x) ((c_breakDown_L43 day mo dy le ow n sta (nP p0) (nI x) mem 0 0 (fun _ => 0)).1) mem ((c_breakDown_L43 day mo dy le ow n sta (nP p0) (nI x) mem 0 0 (fun _ => 0)).2)).2.2.1 ≤ c + 2 ∧ (f_c_split G c z (nI x) ((c_breakDown_L43 day mo dy le ow n sta (nP p0) (nI x) mem 0 0 (fun _ => 0)).1) mem ((c_breakDown_L43 day mo dy le ow n sta (nP p0) (nI x) mem 0 0 (fun _ => 0)).2)).2.2.2 ≤ z + 2 * mem := fun G c z => by
          unfold f_c_split
          split <;> dsimp only <;> omega
        have hkl : ∀ k, fup kl brk mem k ≤ 10 := fun k => by
          by_cases e : k = brk
          · rw [e, fup_same]
            omega
          · rw [fup_ne e]
            exact vKl k
        have hkl2 : ∀ b, b < brk + 1 → fup kl brk mem b ≤ mem := fun b hb => by
          by_cases e : b = brk
          · rw [e, fup_same]
            omega
          · rw [fup_ne e]
            exact hKl b (by omega)
        obtain ⟨SP, hSP⟩ : ∃ SP, splitA (nI x) ((c_breakDown_L43 day mo dy le ow n sta (nP p0) (nI x) mem 0 0 (fun _ => 0)).1) mem ((c_breakDown_L43 day mo dy le ow n sta (nP p0) (nI x) mem 0 0 (fun _ => 0)).2) = SP := ⟨_, rfl⟩
        obtain ⟨po', p1, p2⟩ := l113_s (G2 := G2) (G4 := G4) (kl := kl) (ks := ks) (zc := zc) (zn := zn) (brk := brk) hSP mem 0 po
        have hroom := hcs G4 (zc + 1 + 1) (zn + mem + 1)
        rw [p1, c_breakDown_L113, hSP]
        by_cases hT0 : T = 0
        · rw [if_pos (b1.trans (by rw [hT0]; rfl))]
          have hsp : SP = fun _ => 0 := by
            rw [← hSP]
            unfold splitA
            rw [a1, hT0, if_neg (by decide)]
          obtain ⟨j1, j2⟩ := brk_inv (sh' := sh) hSh hDebt wMem (fun b _ => rfl) (fun i _ => by rw [hSh.2 brk (Nat.le_refl _), hsp]) (fun i _ => hSh.2 brk (Nat.le_refl _) i) p2
          dsimp only
          refine ⟨?_, inv_mk ⟨⟨vMn, vPn, vEn, vBn, by omega, vMk, vEm, vEc, vCb, vBm, vTf, hkl, vMh, vMl, vCu, vCl, vLy⟩, ⟨wMac, wMem, wEnt, wBar, by omega, wOw, wMo, wMk, wCm, wCb, wMt, wLm⟩, hA, hN, hT, hTD, hTz, hd, hEI, hNW, hSt, hC, hCz, hF, hTar, j2, j1, hPay, hDZ, hkl2⟩, ?_, ?_⟩
          · rw [a1, hT0]
            exact agI_inl
          · omega
          · rw [cost_len]
            show _ + 310 * wcnt sta n ≤ _
            omega
        · rw [if_neg (fun z => hT0 (by
            rw [b1, i_eq, nI_toInt (by omega)] at z
            have e0 : (0 : Int32).toInt = 0 := rfl
            omega))]
          obtain ⟨g1, g2⟩ := left_le (x := x) (N := mem) (m := mf) (by omega) hTs.symm
          have hl0 : nI x - nI (sN (fun q => x * mf q / T) mem 0) = nI (x - sN (fun q => x * mf q / T) mem 0) := by
            have e := nI_add (x - sN (fun q => x * mf q / T) mem 0) (sN (fun q => x * mf q / T) mem 0)
            rw [Nat.sub_add_cancel g1] at e
            rw [← e]
            grind
          obtain ⟨d1, d2, d3⟩ := l23_s (x := x) (T := T) (N := mem) (m := mf) (A2 := (c_breakDown_L43 day mo dy le ow n sta (nP p0) (nI x) mem 0 0 (fun _ => 0)).2) hx2 hm (by omega) hT2 mem 0 (nI x) (fun _ => 0) (fun _ => 0) (by omega) (fun q hq => by rw [a2, if_pos (by omega)])
          obtain ⟨r1, r2, r3, r4⟩ := r194_s (x := x) (T := T) (m := mf) (brk := brk) hx2 hm (by omega) hT2 b1 b2' mem 0 (nI x) (fun _ => 0) sh
          rw [hl0] at d1 r1
          have hsp : SP = (c_split_L79 (nI x) (nI T) mem (c_breakDown_L43 day mo dy le ow n sta (nP p0) (nI x) mem 0 0 (fun _ => 0)).2 (x - sN (fun q => x * mf q / T) mem 0) 0 (c_split_L23 (nI x) (nI T) mem (c_breakDown_L43 day mo dy le ow n sta (nP p0) (nI x) mem 0 0 (fun _ => 0)).2 mem 0 (nI x) (fun _ => 0) (fun _ => 0)).2.1 (c_split_L23 (nI x) (nI T) mem (c_breakDown_L43 day mo dy le ow n sta (nP p0) (nI x) mem 0 0 (fun _ => 0)).2 mem 0 (nI x) (fun _ => 0) (fun _ => 0)).2.2).1 := by
            rw [← hSP]
            unfold splitA
            rw [a1, if_pos (show (0 : Int32) < nI T from (nI_ltI (a := 0) (b := T) (by omega) (by omega)).mpr (by omega)), d1]
            congr 2
            rw [nI_toInt (by omega)]
            omega
          have hq : ∀ q, x * mf q % T < T := fun q => Nat.mod_lt _ (by omega)
          obtain ⟨s1, s2, s3⟩ := give_eq (brk := brk) (p0 := nP p0) (X := nI x) d1 (by omega) wMem (x - sN (fun q => x * mf q / T) mem 0) 0 (c_split_L23 (nI x) (nI T) mem (c_breakDown_L43 day mo dy le ow n sta (nP p0) (nI x) mem 0 0 (fun _ => 0)).2 mem 0 (nI x) (fun _ => 0) (fun _ => 0)).2.1 (c_split_L23 (nI x) (nI T) mem (c_breakDown_L43 day mo dy le ow n sta (nP p0) (nI x) mem 0 0 (fun _ => 0)).2 mem 0 (nI x) (fun _ => 0) (fun _ => 0)).2.2 (r_breakDown_L194 brk day dy n le mo ow sta (nP p0) (nI x) mem 0 (nI x) (fun _ => 0) sh).2.1 (r_breakDown_L194 brk day dy n le mo ow sta (nP p0) (nI x) mem 0 (nI x) (fun _ => 0) sh).2.2 (fun i => ((x * mf i % T : Nat) : Int)) (by omega) (by
            rw [cN_all mem 0 (fun q _ _ => decide_eq_true (Int.natCast_nonneg _))]
            exact g2) (fun i hi => by
            have := hq i
            rw [d3, if_pos (by omega), nI_toInt (by omega)]) (fun i hi => by
            have := hq i
            rw [r2, if_pos (by omega), ← nI_l (by omega), Int32.toInt_toInt64, nI_toInt (by omega)]) (fun i hi => by rw [d2, r3, if_pos (by omega), if_pos (by omega)])
          have hw : (nI (x - sN (fun q => x * mf q / T) mem 0)).toInt.toNat = x - sN (fun q => x * mf q / T) mem 0 := by
            rw [nI_toInt (by omega)]
            omega
          rw [r1, hw]
          obtain ⟨j1, j2⟩ := brk_inv (sh' := (r_breakDown_L264 brk mem (nP p0) (nI x) (x - sN (fun q => x * mf q / T) mem 0) (nI (x - sN (fun q => x * mf q / T) mem 0)) (r_breakDown_L194 brk day dy n le mo ow sta (nP p0) (nI x) mem 0 (nI x) (fun _ => 0) sh).2.1 (r_breakDown_L194 brk day dy n le mo ow sta (nP p0) (nI x) mem 0 (nI x) (fun _ => 0) sh).2.2).2.2) hSh hDebt wMem (fun b hb => by rw [s3 b hb, r4 b hb]) (fun i hi => by rw [← s1 i hi, ← hsp]) (fun i hi => by
            rw [s2 i hi, r3, if_neg (by omega)]
            exact hSh.2 brk (Nat.le_refl _) i) p2
          dsimp only
          refine ⟨?_, inv_mk ⟨⟨vMn, vPn, vEn, vBn, by omega, vMk, vEm, vEc, vCb, vBm, vTf, hkl, vMh, vMl, vCu, vCl, vLy⟩, ⟨wMac, wMem, wEnt, wBar, by omega, wOw, wMo, wMk, wCm, wCb, wMt, wLm⟩, hA, hN, hT, hTD, hTz, hd, hEI, hNW, hSt, hC, hCz, hF, hTar, j2, j1, hPay, hDZ, hkl2⟩, ?_, ?_⟩
          · rw [a1, b1]
            exact agI_inl
          · omega
          · rw [cost_len]
            show _ + 310 * wcnt sta n ≤ _
            omega
      · rw [if_neg c3, if_pos (show brk = 20 by omega)]
        dsimp only
        exact core_x h (agI_inr (by decide))
    · rw [if_neg c2, if_neg c2]
      dsimp only
      exact core_x h (agI_inr (by decide))
  · rw [if_neg c1, if_neg c1]
    dsimp only
    exact core_x h (agI_inr (by decide))
