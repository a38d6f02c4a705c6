/-! the calls that write a little (statements by gen98c.py) -/
theorem fup_self {α : Type} {f : Nat → α} {i : Nat} {v : α} (h : f i = v) : fup f i v = f := by
  funext k
  by_cases e : k = i
  · subst e
    rw [fup_same, h]
  · rw [fup_ne e]
theorem live_row {nd : Nat → Nat → Bool} {tk tk' : Nat → Nat → Int32} {m : Nat} {D : Int32} (h : tk' m = tk m) : ∀ r kd, r_live nd tk' m D r kd = r_live nd tk m D r kd
  | 0, kd => by
    rw [r_live, r_live]
    unfold f_r_live1
    rw [h]
  | r + 1, kd => by
    have e : r_live nd tk' m D r = r_live nd tk m D r := funext (live_row h r)
    rw [r_live, r_live, e]
    unfold f_r_live1
    rw [h]
section WR
variable {nb : Nat → Int32} {tf : Nat → Nat} {ln : Nat} {ly : Nat → Ly} {mac : Nat} {mk : Nat → Nat} {su : Nat → Int32} {mh : Nat → List Nat} {mem : Nat} {tk : Nat → Nat → Int32} {po : Nat → Int32} {pp : Nat → Int32} {n : Nat} {ow : Nat → Nat} {mo : Nat → Nat} {dy : Nat → Int32} {st : Nat → Int32} {le : Nat → Int32} {wk : Nat → Int32} {sta : Nat → Int32} {du : Nat → Int32} {cu : Nat → List Nat} {cn : Nat} {qcb : Nat → Nat} {qcl : Nat → Int32} {bar : Nat} {mt : Nat → Nat} {bl : Nat → Int32} {bf : Nat → Int32} {brk : Nat} {kl : Nat → Nat} {ks : Nat → Nat → Int32} {day : Int32} {paid : Nat → Int64} {nd : Nat → Nat → Bool} {cm : Nat → Nat} {cb : Nat → Nat → Nat} {cl : Nat → Nat → Int32} {Ls : Nat → Nat → Int32} {Lnum : Nat → Nat → Int32} {lm : Nat → Nat} {sh : Nat → Nat → Int32} {pr : Nat → Int32} {G2 : List Ob} {G4 : List Ob} {thr : Int32} {p0 X S L V : Int32}
theorem ei_congr {mk' : Nat → Nat} {su' : Nat → Int32} {tk' : Nat → Nat → Int32} (hU' : SuOk su') (hm : ∀ e, e < n → mk' (mo e) = mk (mo e) ∧ su' (mo e) = su (mo e) ∧ tk' (ow e) = tk (ow e)) (h : EI n ow mo mk dy st le wk su nd tk day mh sta) (hW : NoneW n ow mo mk dy st le wk sta su nd tk) : EI n ow mo mk' dy st le wk su' nd tk' day mh sta ∧ NoneW n ow mo mk' dy st le wk sta su' nd tk' := by
  obtain ⟨hE, hU, hSep, hH, hM, hD, hLv⟩ := h
  refine ⟨⟨hE, hU', fun e f he hf hne ae af hmo hdy => ?_, hH, hM, hD, fun e he hs => ?_⟩, fun e he hs q => ?_⟩
  · rw [(hm e he).2.1]
    exact hSep e f he hf hne ae af hmo hdy
  · unfold f_r_live
    rw [(hm e he).1, live_row (hm e he).2.2]
    exact hLv e he hs
  · refine hW e he hs ⟨?_, q.2.1, ?_⟩
    · have q1 := q.1
      unfold f_r_live at q1
      rw [(hm e he).1, live_row (hm e he).2.2] at q1
      exact q1
    · intro f hf hi
      have q2 := q.2.2 f hf hi
      rw [(hm e he).2.1] at q2
      exact q2
theorem price_eq {k : Nat} (hk : k < 3) : f_c_priceOf pr (nI k) = pr k := by
  unfold f_c_priceOf
  rw [if_neg (nI_pos (by omega)), if_pos ((nI_ltI (by omega) (by omega)).mpr hk), nP_nI (by omega)]
theorem cost_len {s i : Nat} : ((List.range i).map (vR s)).length = i := by rw [List.length_map, List.length_range]
theorem lay_ly {y : Ly} (hok : LyOk ln ly) (hy : ∃ k : Nat, k ≤ 6 ∧ 1 ≤ k ∧ lyHt y = nI k ∧ match lyBel y with | none => k = 1 | some b => b < ln ∧ lyHt (ly b) = nI (k - 1) ∧ 2 ≤ k) : LyOk (ln + 1) (fup ly ln y) := by
  intro l hl
  by_cases e : l = ln
  · subst e
    obtain ⟨k, k1, k2, k3, k4⟩ := hy
    refine ⟨k, k1, k2, by rw [fup_same]; exact k3, ?_⟩
    rw [fup_same]
    cases hb : lyBel y with
    | none =>
      rw [hb] at k4
      exact k4
    | some b =>
      rw [hb] at k4
      obtain ⟨b1, b2, b3⟩ := k4
      exact ⟨b1, by rw [fup_ne (show b ≠ l by omega)]; exact b2, b3⟩
  · obtain ⟨k, k1, k2, k3, k4⟩ := hok l (by omega)
    refine ⟨k, k1, k2, by rw [fup_ne e]; exact k3, ?_⟩
    rw [fup_ne e]
    cases hb : lyBel (ly l) with
    | none =>
      rw [hb] at k4
      exact k4
    | some b =>
      rw [hb] at k4
      obtain ⟨b1, b2, b3⟩ := k4
      exact ⟨b1, by rw [fup_ne (show b ≠ ln by omega)]; exact b2, b3⟩
theorem tar_lay {k : Nat} {s c : Int32} (hT : TarOk ly tf Ls Lnum lm) (hok : LyOk ln ly) (htf : ∀ k, k < 4 → tf k < ln) (hk : k < 4) (hl : 1 ≤ lm k ∧ lm k < 6) (hs : SortRel s c) (h0 : 0 ≤ X.toInt) (h1 : X.toInt ≤ 9999) : TarOk (fup ly ln (s, X, some (tf k), lyHt (ly (tf k)) + 1)) (fup tf k ln) (fup Ls k (fup (Ls k) (lm k) c)) (fup Lnum k (fup (Lnum k) (lm k) X)) (fup lm k (lm k + 1)) ∧ LyOk (ln + 1) (fup ly ln (s, X, some (tf k), lyHt (ly (tf k)) + 1)) := by
  have hkeep : ∀ l, l < ln → fup ly ln (s, X, some (tf k), lyHt (ly (tf k)) + 1) l = ly l := fun l hl => fup_ne (by omega)
  have hht := chain_ht (hT k hk).1
  refine ⟨fun q hq => ?_, lay_ly hok ⟨lm k + 1, by omega, by omega, ?_, ?_⟩⟩
  · by_cases e : q = k
    · subst e
      obtain ⟨c1, c2, c3⟩ := hT q hq
      rw [fup_same, fup_same, fup_same, fup_same]
      refine ⟨?_, by rw [fup_ne (by omega)]; exact c2, fun i => ?_⟩
      · obtain ⟨h, hh⟩ := Nat.exists_eq_add_of_le' hl.1
        rw [hh] at c1 ⊢
        refine ⟨?_, ?_, ?_, tf q, ?_, chain_keep hkeep hok (htf q hq) (fun i hi => ⟨fup_ne (by omega), fup_ne (by omega)⟩) c1⟩
        · rw [fup_same, fup_same]
          exact hs
        · rw [fup_same, fup_same]
          rfl
        · rw [fup_same]
          show lyHt (ly (tf q)) + 1 = nI (h + 2)
          rw [hht, hh, nI_1]
        · rw [fup_same]
          rfl
      · by_cases ei : i = lm q
        · rw [ei, fup_same]
          exact ⟨h0, h1⟩
        · rw [fup_ne ei]
          exact c3 i
    · obtain ⟨c1, c2, c3⟩ := hT q hq
      rw [fup_ne e, fup_ne e, fup_ne e, fup_ne e]
      exact ⟨chain_keep hkeep hok (htf q hq) (fun i _ => ⟨rfl, rfl⟩) c1, c2, c3⟩
  · show lyHt (ly (tf k)) + 1 = nI (lm k + 1)
    rw [hht, nI_1]
  · show tf k < ln ∧ lyHt (ly (tf k)) = nI (lm k + 1 - 1) ∧ 2 ≤ lm k + 1
    exact ⟨htf k hk, by rw [hht, Nat.add_sub_cancel], by omega⟩
theorem tar_rate {k : Nat} (hT : TarOk ly tf Ls Lnum lm) (hok : LyOk ln ly) (htf : ∀ k, k < 4 → tf k < ln) (hk : k < 4) (h0 : 0 ≤ X.toInt) (h1 : X.toInt ≤ 9999) : TarOk (fup ly ln (0, X, none, 1)) (fup tf k ln) Ls (fup Lnum k (fup (Lnum k) 0 X)) (fup lm k 1) ∧ LyOk (ln + 1) (fup ly ln (0, X, none, 1)) := by
  have hkeep : ∀ l, l < ln → fup ly ln (0, X, none, 1) l = ly l := fun l hl => fup_ne (by omega)
  refine ⟨fun q hq => ?_, lay_ly hok ⟨1, by omega, by omega, rfl, rfl⟩⟩
  obtain ⟨c1, c2, c3⟩ := hT q hq
  by_cases e : q = k
  · subst e
    rw [fup_same, fup_same, fup_same]
    refine ⟨?_, c2, fun i => ?_⟩
    · unfold ChainP
      rw [fup_same, fup_same]
      exact ⟨rfl, rfl, rfl, rfl⟩
    · by_cases ei : i = 0
      · rw [ei, fup_same]
        exact ⟨h0, h1⟩
      · rw [fup_ne ei]
        exact c3 i
  · rw [fup_ne e, fup_ne e, fup_ne e]
    exact ⟨chain_keep hkeep hok (htf q hq) (fun i _ => ⟨rfl, rfl⟩) c1, c2, c3⟩
end WR
theorem core_addMachine {nb : Nat → Int32} {tf : Nat → Nat} {ln : Nat} {ly : Nat → Ly} {mac : Nat} {mk : Nat → Nat} {su : Nat → Int32} {mh : Nat → List Nat} {mem : Nat} {tk : Nat → Nat → Int32} {po : Nat → Int32} {pp : Nat → Int32} {n : Nat} {ow : Nat → Nat} {mo : Nat → Nat} {dy : Nat → Int32} {st : Nat → Int32} {le : Nat → Int32} {wk : Nat → Int32} {sta : Nat → Int32} {du : Nat → Int32} {cu : Nat → List Nat} {cn : Nat} {qcb : Nat → Nat} {qcl : Nat → Int32} {bar : Nat} {mt : Nat → Nat} {bl : Nat → Int32} {bf : Nat → Int32} {brk : Nat} {kl : Nat → Nat} {ks : Nat → Nat → Int32} {day : Int32} {paid : Nat → Int64} {nd : Nat → Nat → Bool} {cm : Nat → Nat} {cb : Nat → Nat → Nat} {cl : Nat → Nat → Int32} {Ls : Nat → Nat → Int32} {Lnum : Nat → Nat → Int32} {lm : Nat → Nat} {sh : Nat → Nat → Int32} {pr : Nat → Int32} {G2 : List Ob} {G4 : List Ob} {thr : Int32} {zc zn : Nat} {p0 S : Int32} (h : InvP nb tf ln ly mac mk su mh mem tk po pp n ow mo dy st le wk sta du cu cn qcb qcl bar mt bl bf brk kl ks day paid nd cm cb cl Ls Lnum lm sh) : CoreX (AgI [(1, 1), (5, 2)] ((f_c_addMachine mh mk mac su zc zn p0 S).1) ((f_r_addMachine mac mk su p0 S).2.2.2.2) ((f_r_addMachine mac mk su p0 S).1)) (mkC nb tf ln ly ((f_c_addMachine mh mk mac su zc zn p0 S).2.1) ((f_c_addMachine mh mk mac su zc zn p0 S).2.2.1) ((f_c_addMachine mh mk mac su zc zn p0 S).2.2.2.1) ((f_c_addMachine mh mk mac su zc zn p0 S).2.2.2.2.1) mem tk po pp n ow mo dy st le (fun e => st e + le e) wk sta du cu cn qcb qcl bar mt bl bf brk kl ks pr day G2 G4 ([]) ([])) (mkR ((f_r_addMachine mac mk su p0 S).2.1) ((f_r_addMachine mac mk su p0 S).2.2.1) ((f_r_addMachine mac mk su p0 S).2.2.2.1) mem tk paid nd day ow mo dy st le wk sta du cm cb cl n mt bl bar pr Ls Lnum lm sh brk ((f_r_addMachine mac mk su p0 S).2.2.2.2)) (wcnt sta n) zc ((f_c_addMachine mh mk mac su zc zn p0 S).2.2.2.2.2.1) zn ((f_c_addMachine mh mk mac su zc zn p0 S).2.2.2.2.2.2) := by
  obtain ⟨hWC, hWR, hA, hN, hT, hTD, hTz, hd, hEI, hNW, hSt, hC, hCz, hF, hTar, hDebt, hSh, hPay, hDZ, hKl⟩ := id h
  obtain ⟨hE, hU, hSep, hH, hM, hD, hLv⟩ := id hEI
  obtain ⟨wMac, wMem, wEnt, wBar, wBrk, wOw, wMo, wMk, wCm, wCb, wMt, wLm⟩ := id hWR
  obtain ⟨vMn, vPn, vEn, vBn, vKn, vMk, vEm, vEc, vCb, vBm, vTf, vKl, vMh, vMl, vCu, vCl, vLy⟩ := id hWC
  unfold f_c_addMachine f_r_addMachine
  by_cases c1 : f_r_isKind p0 = true
  · rw [if_pos c1, if_pos c1]
    by_cases c2 : f_r_in S 0 30 = true
    · rw [if_pos c2, if_pos c2]
      by_cases c3 : mac < 6
      · rw [if_pos c3, if_neg (show ¬ mac = 6 by omega)]
        obtain ⟨q0, hk⟩ := nP_kind c1
        have m2 := in_iff.mp c2
        have e30 : (30 : Int32).toInt = 30 := rfl
        have e0 : (0 : Int32).toInt = 0 := rfl
        have hmh : mh mac = [] := List.eq_nil_iff_forall_not_mem.mpr (fun e he => by
          obtain ⟨e1, e2, -⟩ := ((hH mac).2 e).mp he
          have := vEc e e1
          omega)
        have hU' : SuOk (fup su mac S) := fun m => by
          by_cases em : m = mac
          · rw [em, fup_same]
            omega
          · rw [fup_ne em]
            exact hU m
        have hmk : ∀ m, fup mk mac (nP p0) m < 4 := fun m => by
          by_cases em : m = mac
          · rw [em, fup_same]
            exact hk
          · rw [fup_ne em]
            exact vMk m
        obtain ⟨hEI2, hNW2⟩ := ei_congr (mk' := fup mk mac (nP p0)) (su' := fup su mac S) (tk' := tk) hU' (fun e he => ⟨fup_ne (by have := vEc e he; omega), fup_ne (by have := vEc e he; omega), rfl⟩) hEI hNW
        rw [fup_self hmh]
        dsimp only
        refine ⟨⟨rfl, rfl⟩, inv_mk ⟨⟨by omega, vPn, vEn, vBn, vKn, hmk, vEm, fun e he => Nat.lt_succ_of_lt (vEc e he), vCb, vBm, vTf, vKl, vMh, vMl, vCu, vCl, vLy⟩, ⟨by omega, wMem, wEnt, wBar, wBrk, wOw, wMo, hmk, wCm, wCb, wMt, wLm⟩, hA, hN, hT, hTD, hTz, hd, hEI2, hNW2, hSt, hC, hCz, hF, hTar, hDebt, hSh, hPay, hDZ, hKl⟩, by show zc + 1 + 1 + 1 ≤ zc + 200; omega, ?_⟩
        show zn + 3 + 3 + (2 * ((List.range mac).map (vR 6)).length + 10) + 310 * wcnt sta n ≤ zn + 310 * wcnt sta n + 3000
        rw [cost_len]
        omega
      · rw [if_neg c3, if_pos (show mac = 6 by omega)]
        dsimp only
        exact core_x h (agI_inr (by decide))
    · rw [if_neg c2, if_neg c2]
      dsimp only
      exact core_x h (agI_inr (by decide))
  · rw [if_neg c1, if_neg c1]
    dsimp only
    exact core_x h (agI_inr (by decide))
theorem core_addMember {nb : Nat → Int32} {tf : Nat → Nat} {ln : Nat} {ly : Nat → Ly} {mac : Nat} {mk : Nat → Nat} {su : Nat → Int32} {mh : Nat → List Nat} {mem : Nat} {tk : Nat → Nat → Int32} {po : Nat → Int32} {pp : Nat → Int32} {n : Nat} {ow : Nat → Nat} {mo : Nat → Nat} {dy : Nat → Int32} {st : Nat → Int32} {le : Nat → Int32} {wk : Nat → Int32} {sta : Nat → Int32} {du : Nat → Int32} {cu : Nat → List Nat} {cn : Nat} {qcb : Nat → Nat} {qcl : Nat → Int32} {bar : Nat} {mt : Nat → Nat} {bl : Nat → Int32} {bf : Nat → Int32} {brk : Nat} {kl : Nat → Nat} {ks : Nat → Nat → Int32} {day : Int32} {paid : Nat → Int64} {nd : Nat → Nat → Bool} {cm : Nat → Nat} {cb : Nat → Nat → Nat} {cl : Nat → Nat → Int32} {Ls : Nat → Nat → Int32} {Lnum : Nat → Nat → Int32} {lm : Nat → Nat} {sh : Nat → Nat → Int32} {pr : Nat → Int32} {G2 : List Ob} {G4 : List Ob} {thr : Int32} {zc zn : Nat} (h : InvP nb tf ln ly mac mk su mh mem tk po pp n ow mo dy st le wk sta du cu cn qcb qcl bar mt bl bf brk kl ks day paid nd cm cb cl Ls Lnum lm sh) : CoreX (AgI [(5, 1)] ((f_c_addMember tk mem po pp zc zn).1) ((f_r_addMember mem tk).2.2.2) ((f_r_addMember mem tk).1)) (mkC nb tf ln ly mac mk su mh ((f_c_addMember tk mem po pp zc zn).2.1) ((f_c_addMember tk mem po pp zc zn).2.2.1) ((f_c_addMember tk mem po pp zc zn).2.2.2.1) ((f_c_addMember tk mem po pp zc zn).2.2.2.2.1) n ow mo dy st le (fun e => st e + le e) wk sta du cu cn qcb qcl bar mt bl bf brk kl ks pr day G2 G4 ([]) ([])) (mkR mk su mac ((f_r_addMember mem tk).2.1) ((f_r_addMember mem tk).2.2.1) paid nd day ow mo dy st le wk sta du cm cb cl n mt bl bar pr Ls Lnum lm sh brk ((f_r_addMember mem tk).2.2.2)) (wcnt sta n) zc ((f_c_addMember tk mem po pp zc zn).2.2.2.2.2.1) zn ((f_c_addMember tk mem po pp zc zn).2.2.2.2.2.2) := by
  obtain ⟨hWC, hWR, hA, hN, hT, hTD, hTz, hd, hEI, hNW, hSt, hC, hCz, hF, hTar, hDebt, hSh, hPay, hDZ, hKl⟩ := id h
  obtain ⟨hE, hU, hSep, hH, hM, hD, hLv⟩ := id hEI
  obtain ⟨wMac, wMem, wEnt, wBar, wBrk, wOw, wMo, wMk, wCm, wCb, wMt, wLm⟩ := id hWR
  obtain ⟨vMn, vPn, vEn, vBn, vKn, vMk, vEm, vEc, vCb, vBm, vTf, vKl, vMh, vMl, vCu, vCl, vLy⟩ := id hWC
  unfold f_c_addMember f_r_addMember
  by_cases c3 : mem < 10
  · rw [if_pos c3, if_neg (show ¬ mem = 10 by omega)]
    have htk : fup (fup (fup (fup tk mem (fup (tk mem) 0 (-1))) mem (fup ((fup tk mem (fup (tk mem) 0 (-1))) mem) 1 (-1))) mem (fup ((fup (fup tk mem (fup (tk mem) 0 (-1))) mem (fup ((fup tk mem (fup (tk mem) 0 (-1))) mem) 1 (-1))) mem) 2 (-1))) mem (fup ((fup (fup (fup tk mem (fup (tk mem) 0 (-1))) mem (fup ((fup tk mem (fup (tk mem) 0 (-1))) mem) 1 (-1))) mem (fup ((fup (fup tk mem (fup (tk mem) 0 (-1))) mem (fup ((fup tk mem (fup (tk mem) 0 (-1))) mem) 1 (-1))) mem) 2 (-1))) mem) 3 (-1)) = fup tk mem (fun k => fup (fup (fup (fup (fun _ => 0) 0 (-1)) 1 (-1)) 2 (-1)) 3 (-1) k) := by
      funext m
      by_cases em : m = mem
      · subst em
        have hz : tk m = fun _ => 0 := funext (fun k => hTz m (Nat.le_refl _) k)
        simp only [fup_same, hz]
      · simp only [fup_ne em]
    rw [htk]
    have hrow : ∀ k, fup (fup (fup (fup (fun _ => (0 : Int32)) 0 (-1)) 1 (-1)) 2 (-1)) 3 (-1) k = -1 ∨ fup (fup (fup (fup (fun _ => (0 : Int32)) 0 (-1)) 1 (-1)) 2 (-1)) 3 (-1) k = 0 := fun k => by
      unfold fup
      split
      · exact Or.inl rfl
      · split
        · exact Or.inl rfl
        · split
          · exact Or.inl rfl
          · split
            · exact Or.inl rfl
            · exact Or.inr rfl
    have em1 : (-1 : Int32).toInt = -1 := rfl
    have e0 : (0 : Int32).toInt = 0 := rfl
    obtain ⟨hEI2, hNW2⟩ := ei_congr (mk' := mk) (su' := su) (tk' := fup tk mem (fun k => fup (fup (fup (fup (fun _ => 0) 0 (-1)) 1 (-1)) 2 (-1)) 3 (-1) k)) hU (fun e he => ⟨rfl, rfl, fup_ne (by have := vEm e he; omega)⟩) hEI hNW
    dsimp only
    refine ⟨⟨rfl, rfl⟩, inv_mk ⟨⟨vMn, by omega, vEn, vBn, vKn, vMk, fun e he => Nat.lt_succ_of_lt (vEm e he), vEc, vCb, vBm, vTf, vKl, vMh, vMl, vCu, vCl, vLy⟩, ⟨wMac, by omega, wEnt, wBar, wBrk, wOw, wMo, wMk, wCm, wCb, wMt, wLm⟩, hA, hN, ?_, ?_, ?_, hd, hEI2, hNW2, hSt, hC, hCz, hF, hTar, ?_, hSh, ?_, hDZ, fun b hb => Nat.le_succ_of_le (hKl b hb)⟩, by show zc + 1 + 1 + 1 ≤ zc + 200; omega, ?_⟩
    · intro m k
      by_cases em : m = mem
      · subst em
        rw [fup_same]
        rcases hrow k with q | q
        · exact Or.inl q
        · rw [q]
          exact Or.inr (by decide)
      · rw [fup_ne em]
        exact hT m k
    · intro m k
      by_cases em : m = mem
      · subst em
        rw [fup_same]
        rcases hrow k with q | q <;> rw [q] <;> omega
      · rw [fup_ne em]
        exact hTD m k
    · intro m hm k
      rw [fup_ne (by omega)]
      exact hTz m (by omega) k
    · intro m hm
      by_cases em : m = mem
      · subst em
        rw [fup_same]
        have d1 : duesS n ow du m = 0 := sI_zero n 0 (fun q _ hq => if_neg (by have := vEm q (by omega); omega))
        have d2 : shS brk sh m = 0 := sI_zero brk 0 (fun b _ hb => by
          rw [← hSh.1 b (by omega) m (by omega)]
          unfold f_c_share
          rw [if_neg (nI_pos (by omega)), if_neg (fun z => by have := (nI_ltI (by omega) (by have := vKl b; omega)).mp z; have := hKl b (by omega); omega)])
        rw [d1, d2]
        rfl
      · rw [fup_ne em]
        exact hDebt m (by omega)
    · rw [fup_self (hPay.2 mem (Nat.le_refl _))]
      exact ⟨hPay.1, fun m hm => hPay.2 m (by omega)⟩
    · show zn + 3 + 4 + (2 * ((List.range mem).map (vR 7)).length + 10) + 310 * wcnt sta n ≤ zn + 310 * wcnt sta n + 3000
      rw [cost_len]
      omega
  · rw [if_neg c3, if_pos (show mem = 10 by omega)]
    dsimp only
    exact core_x h (agI_inr (by decide))
theorem core_deliver {nb : Nat → Int32} {tf : Nat → Nat} {ln : Nat} {ly : Nat → Ly} {mac : Nat} {mk : Nat → Nat} {su : Nat → Int32} {mh : Nat → List Nat} {mem : Nat} {tk : Nat → Nat → Int32} {po : Nat → Int32} {pp : Nat → Int32} {n : Nat} {ow : Nat → Nat} {mo : Nat → Nat} {dy : Nat → Int32} {st : Nat → Int32} {le : Nat → Int32} {wk : Nat → Int32} {sta : Nat → Int32} {du : Nat → Int32} {cu : Nat → List Nat} {cn : Nat} {qcb : Nat → Nat} {qcl : Nat → Int32} {bar : Nat} {mt : Nat → Nat} {bl : Nat → Int32} {bf : Nat → Int32} {brk : Nat} {kl : Nat → Nat} {ks : Nat → Nat → Int32} {day : Int32} {paid : Nat → Int64} {nd : Nat → Nat → Bool} {cm : Nat → Nat} {cb : Nat → Nat → Nat} {cl : Nat → Nat → Int32} {Ls : Nat → Nat → Int32} {Lnum : Nat → Nat → Int32} {lm : Nat → Nat} {sh : Nat → Nat → Int32} {pr : Nat → Int32} {G2 : List Ob} {G4 : List Ob} {thr : Int32} {zc zn : Nat} {p0 L : Int32} (h : InvP nb tf ln ly mac mk su mh mem tk po pp n ow mo dy st le wk sta du cu cn qcb qcl bar mt bl bf brk kl ks day paid nd cm cb cl Ls Lnum lm sh) : CoreX (AgI [(1, 1), (5, 2)] ((f_c_deliver bf bl mt bar zc zn p0 L).1) ((f_r_deliver bar bl mt p0 L).2.2.2.2) ((f_r_deliver bar bl mt p0 L).1)) (mkC nb tf ln ly mac mk su mh mem tk po pp n ow mo dy st le (fun e => st e + le e) wk sta du cu cn qcb qcl ((f_c_deliver bf bl mt bar zc zn p0 L).2.1) ((f_c_deliver bf bl mt bar zc zn p0 L).2.2.1) ((f_c_deliver bf bl mt bar zc zn p0 L).2.2.2.1) ((f_c_deliver bf bl mt bar zc zn p0 L).2.2.2.2.1) brk kl ks pr day G2 G4 ([]) ([])) (mkR mk su mac mem tk paid nd day ow mo dy st le wk sta du cm cb cl n ((f_r_deliver bar bl mt p0 L).2.1) ((f_r_deliver bar bl mt p0 L).2.2.1) ((f_r_deliver bar bl mt p0 L).2.2.2.1) pr Ls Lnum lm sh brk ((f_r_deliver bar bl mt p0 L).2.2.2.2)) (wcnt sta n) zc ((f_c_deliver bf bl mt bar zc zn p0 L).2.2.2.2.2.1) zn ((f_c_deliver bf bl mt bar zc zn p0 L).2.2.2.2.2.2) := by
  obtain ⟨hWC, hWR, hA, hN, hT, hTD, hTz, hd, hEI, hNW, hSt, hC, hCz, hF, hTar, hDebt, hSh, hPay, hDZ, hKl⟩ := id h
  obtain ⟨hE, hU, hSep, hH, hM, hD, hLv⟩ := id hEI
  obtain ⟨wMac, wMem, wEnt, wBar, wBrk, wOw, wMo, wMk, wCm, wCb, wMt, wLm⟩ := id hWR
  obtain ⟨vMn, vPn, vEn, vBn, vKn, vMk, vEm, vEc, vCb, vBm, vTf, vKl, vMh, vMl, vCu, vCl, vLy⟩ := id hWC
  unfold f_c_deliver f_r_deliver
  by_cases c1 : f_r_in p0 0 2 = true
  · rw [if_pos c1, if_pos c1]
    by_cases c2 : f_r_in L 1 5000 = true
    · rw [if_pos c2, if_pos c2]
      by_cases c3 : bar < 30
      · rw [if_pos c3, if_neg (show ¬ bar = 30 by omega)]
        obtain ⟨q0, hk⟩ := nP_mat c1
        have hmt : ∀ b, fup mt bar (nP p0) b < 3 := fun b => by
          by_cases eb : b = bar
          · rw [eb, fup_same]
            exact hk
          · rw [fup_ne eb]
            exact vBm b
        dsimp only
        refine ⟨⟨rfl, rfl⟩, inv_mk ⟨⟨vMn, vPn, vEn, by omega, vKn, vMk, vEm, vEc, fun c hc => Nat.lt_succ_of_lt (vCb c hc), hmt, vTf, vKl, vMh, vMl, vCu, vCl, vLy⟩, ⟨wMac, wMem, wEnt, by omega, wBrk, wOw, wMo, wMk, wCm, wCb, hmt, wLm⟩, hA, hN, hT, hTD, hTz, hd, hEI, hNW, hSt, hC, hCz, ?_, hTar, hDebt, hSh, hPay, hDZ, hKl⟩, by show zc + 1 + 1 ≤ zc + 200; omega, ?_⟩
        · intro b hb
          rw [r_free_s]
          by_cases eb : b = bar
          · subst eb
            rw [fup_same, fup_same, sI_zero n 0 (fun e _ he => ?_), Int32.sub_zero]
            unfold tkR
            by_cases a : sta e = 98 ∨ sta e = 100
            · rw [if_pos a]
              obtain ⟨l1, l2⟩ := (hC e (by omega)).1 a
              refine sI_zero _ _ (fun k _ hk => if_neg (fun z => ?_))
              have h1 := (l2 k (by omega)).1
              have h2 := vCb _ (vCu e _ (getD_mem (d := 0) (show k < (cu e).length by omega)))
              omega
            · rw [if_neg a]
          · rw [fup_ne eb, fup_ne eb, ← r_free_s]
            exact hF b (by omega)
        · show zn + 3 + (2 * ((List.range bar).map (vR 0)).length + 10) + 310 * wcnt sta n ≤ zn + 310 * wcnt sta n + 3000
          rw [cost_len]
          omega
      · rw [if_neg c3, if_pos (show bar = 30 by omega)]
        dsimp only
        exact core_x h (agI_inr (by decide))
    · rw [if_neg c2, if_neg c2]
      dsimp only
      exact core_x h (agI_inr (by decide))
  · rw [if_neg c1, if_neg c1]
    dsimp only
    exact core_x h (agI_inr (by decide))
theorem core_setPrice {nb : Nat → Int32} {tf : Nat → Nat} {ln : Nat} {ly : Nat → Ly} {mac : Nat} {mk : Nat → Nat} {su : Nat → Int32} {mh : Nat → List Nat} {mem : Nat} {tk : Nat → Nat → Int32} {po : Nat → Int32} {pp : Nat → Int32} {n : Nat} {ow : Nat → Nat} {mo : Nat → Nat} {dy : Nat → Int32} {st : Nat → Int32} {le : Nat → Int32} {wk : Nat → Int32} {sta : Nat → Int32} {du : Nat → Int32} {cu : Nat → List Nat} {cn : Nat} {qcb : Nat → Nat} {qcl : Nat → Int32} {bar : Nat} {mt : Nat → Nat} {bl : Nat → Int32} {bf : Nat → Int32} {brk : Nat} {kl : Nat → Nat} {ks : Nat → Nat → Int32} {day : Int32} {paid : Nat → Int64} {nd : Nat → Nat → Bool} {cm : Nat → Nat} {cb : Nat → Nat → Nat} {cl : Nat → Nat → Int32} {Ls : Nat → Nat → Int32} {Lnum : Nat → Nat → Int32} {lm : Nat → Nat} {sh : Nat → Nat → Int32} {pr : Nat → Int32} {G2 : List Ob} {G4 : List Ob} {thr : Int32} {zc zn : Nat} {p0 X : Int32} (h : InvP nb tf ln ly mac mk su mh mem tk po pp n ow mo dy st le wk sta du cu cn qcb qcl bar mt bl bf brk kl ks day paid nd cm cb cl Ls Lnum lm sh) : CoreX (AgI [(1, 1)] ((f_c_setPrice pr zc zn p0 X).1) ((f_r_setPrice pr p0 X).2.2) ((f_r_setPrice pr p0 X).1)) (mkC nb tf ln ly mac mk su mh mem tk po pp n ow mo dy st le (fun e => st e + le e) wk sta du cu cn qcb qcl bar mt bl bf brk kl ks ((f_c_setPrice pr zc zn p0 X).2.1) day G2 G4 ([]) ([])) (mkR mk su mac mem tk paid nd day ow mo dy st le wk sta du cm cb cl n mt bl bar ((f_r_setPrice pr p0 X).2.1) Ls Lnum lm sh brk ((f_r_setPrice pr p0 X).2.2)) (wcnt sta n) zc ((f_c_setPrice pr zc zn p0 X).2.2.1) zn ((f_c_setPrice pr zc zn p0 X).2.2.2) := by
  obtain ⟨hWC, hWR, hA, hN, hT, hTD, hTz, hd, hEI, hNW, hSt, hC, hCz, hF, hTar, hDebt, hSh, hPay, hDZ, hKl⟩ := id h
  unfold f_c_setPrice f_r_setPrice
  by_cases c1 : f_r_in p0 0 2 = true
  · rw [if_pos c1, if_pos c1]
    by_cases c2 : f_r_in X 0 99 = true
    · rw [if_pos c2, if_pos c2]
      obtain ⟨q0, hk⟩ := nP_mat c1
      rw [if_neg (nI_pos (show nP p0 < 2 ^ 31 by omega)), if_pos hk, price_eq hk]
      dsimp only
      exact ⟨⟨rfl, rfl⟩, inv_mk h, by show zc ≤ zc + 200; omega, by show zn + 310 * wcnt sta n ≤ zn + 310 * wcnt sta n + 3000; omega⟩
    · rw [if_neg c2, if_neg c2]
      dsimp only
      exact core_x h (agI_inr (by decide))
  · rw [if_neg c1, if_neg c1]
    dsimp only
    exact core_x h (agI_inr (by decide))
theorem core_setRate {nb : Nat → Int32} {tf : Nat → Nat} {ln : Nat} {ly : Nat → Ly} {mac : Nat} {mk : Nat → Nat} {su : Nat → Int32} {mh : Nat → List Nat} {mem : Nat} {tk : Nat → Nat → Int32} {po : Nat → Int32} {pp : Nat → Int32} {n : Nat} {ow : Nat → Nat} {mo : Nat → Nat} {dy : Nat → Int32} {st : Nat → Int32} {le : Nat → Int32} {wk : Nat → Int32} {sta : Nat → Int32} {du : Nat → Int32} {cu : Nat → List Nat} {cn : Nat} {qcb : Nat → Nat} {qcl : Nat → Int32} {bar : Nat} {mt : Nat → Nat} {bl : Nat → Int32} {bf : Nat → Int32} {brk : Nat} {kl : Nat → Nat} {ks : Nat → Nat → Int32} {day : Int32} {paid : Nat → Int64} {nd : Nat → Nat → Bool} {cm : Nat → Nat} {cb : Nat → Nat → Nat} {cl : Nat → Nat → Int32} {Ls : Nat → Nat → Int32} {Lnum : Nat → Nat → Int32} {lm : Nat → Nat} {sh : Nat → Nat → Int32} {pr : Nat → Int32} {G2 : List Ob} {G4 : List Ob} {thr : Int32} {zc zn : Nat} {p0 X : Int32} (h : InvP nb tf ln ly mac mk su mh mem tk po pp n ow mo dy st le wk sta du cu cn qcb qcl bar mt bl bf brk kl ks day paid nd cm cb cl Ls Lnum lm sh) : CoreX (AgI [(1, 1)] ((f_c_setRate ln ly tf zc zn p0 X).1) ((f_r_setRate lm Lnum p0 X).2.2.2) ((f_r_setRate lm Lnum p0 X).1)) (mkC nb ((f_c_setRate ln ly tf zc zn p0 X).2.1) ((f_c_setRate ln ly tf zc zn p0 X).2.2.1) ((f_c_setRate ln ly tf zc zn p0 X).2.2.2.1) mac mk su mh mem tk po pp n ow mo dy st le (fun e => st e + le e) wk sta du cu cn qcb qcl bar mt bl bf brk kl ks pr day G2 G4 ([]) ([])) (mkR mk su mac mem tk paid nd day ow mo dy st le wk sta du cm cb cl n mt bl bar pr Ls ((f_r_setRate lm Lnum p0 X).2.1) ((f_r_setRate lm Lnum p0 X).2.2.1) sh brk ((f_r_setRate lm Lnum p0 X).2.2.2)) (wcnt sta n) zc ((f_c_setRate ln ly tf zc zn p0 X).2.2.2.2.1) zn ((f_c_setRate ln ly tf zc zn p0 X).2.2.2.2.2) := by
  obtain ⟨hWC, hWR, hA, hN, hT, hTD, hTz, hd, hEI, hNW, hSt, hC, hCz, hF, hTar, hDebt, hSh, hPay, hDZ, hKl⟩ := id h
  obtain ⟨hE, hU, hSep, hH, hM, hD, hLv⟩ := id hEI
  obtain ⟨wMac, wMem, wEnt, wBar, wBrk, wOw, wMo, wMk, wCm, wCb, wMt, wLm⟩ := id hWR
  obtain ⟨vMn, vPn, vEn, vBn, vKn, vMk, vEm, vEc, vCb, vBm, vTf, vKl, vMh, vMl, vCu, vCl, vLy⟩ := id hWC
  unfold f_c_setRate f_r_setRate
  by_cases c1 : f_r_isKind p0 = true
  · rw [if_pos c1, if_pos c1]
    by_cases c2 : f_r_in X 0 99 = true
    · rw [if_pos c2, if_pos c2]
      obtain ⟨q0, hk⟩ := nP_kind c1
      have m2 := in_iff.mp c2
      have e99 : (99 : Int32).toInt = 99 := rfl
      have e0 : (0 : Int32).toInt = 0 := rfl
      obtain ⟨t1, t2⟩ := tar_rate (X := X) hTar vLy vTf hk (by omega) (by omega)
      rw [chain_ht (hTar _ hk).1]
      have htf : ∀ k, k < 4 → fup tf (nP p0) ln k < ln + 1 := fun k hk2 => by
        by_cases e : k = nP p0
        · rw [e, fup_same]
          omega
        · rw [fup_ne e]
          exact Nat.lt_succ_of_lt (vTf k hk2)
      have hlm : ∀ k, 1 ≤ fup lm (nP p0) 1 k ∧ fup lm (nP p0) 1 k ≤ 6 := fun k => by
        by_cases e : k = nP p0
        · rw [e, fup_same]
          omega
        · rw [fup_ne e]
          exact wLm k
      dsimp only
      exact ⟨⟨rfl, rfl⟩, inv_mk ⟨⟨vMn, vPn, vEn, vBn, vKn, vMk, vEm, vEc, vCb, vBm, htf, vKl, vMh, vMl, vCu, vCl, t2⟩, ⟨wMac, wMem, wEnt, wBar, wBrk, wOw, wMo, wMk, wCm, wCb, wMt, hlm⟩, hA, hN, hT, hTD, hTz, hd, hEI, hNW, hSt, hC, hCz, hF, t1, hDebt, hSh, hPay, hDZ, hKl⟩, by show zc + 1 ≤ zc + 200; omega, by show zn + 4 + 310 * wcnt sta n ≤ zn + 310 * wcnt sta n + 3000; omega⟩
    · rw [if_neg c2, if_neg c2]
      dsimp only
      exact core_x h (agI_inr (by decide))
  · rw [if_neg c1, if_neg c1]
    dsimp only
    exact core_x h (agI_inr (by decide))
theorem core_addFee {nb : Nat → Int32} {tf : Nat → Nat} {ln : Nat} {ly : Nat → Ly} {mac : Nat} {mk : Nat → Nat} {su : Nat → Int32} {mh : Nat → List Nat} {mem : Nat} {tk : Nat → Nat → Int32} {po : Nat → Int32} {pp : Nat → Int32} {n : Nat} {ow : Nat → Nat} {mo : Nat → Nat} {dy : Nat → Int32} {st : Nat → Int32} {le : Nat → Int32} {wk : Nat → Int32} {sta : Nat → Int32} {du : Nat → Int32} {cu : Nat → List Nat} {cn : Nat} {qcb : Nat → Nat} {qcl : Nat → Int32} {bar : Nat} {mt : Nat → Nat} {bl : Nat → Int32} {bf : Nat → Int32} {brk : Nat} {kl : Nat → Nat} {ks : Nat → Nat → Int32} {day : Int32} {paid : Nat → Int64} {nd : Nat → Nat → Bool} {cm : Nat → Nat} {cb : Nat → Nat → Nat} {cl : Nat → Nat → Int32} {Ls : Nat → Nat → Int32} {Lnum : Nat → Nat → Int32} {lm : Nat → Nat} {sh : Nat → Nat → Int32} {pr : Nat → Int32} {G2 : List Ob} {G4 : List Ob} {thr : Int32} {zc zn : Nat} {p0 X : Int32} (h : InvP nb tf ln ly mac mk su mh mem tk po pp n ow mo dy st le wk sta du cu cn qcb qcl bar mt bl bf brk kl ks day paid nd cm cb cl Ls Lnum lm sh) : CoreX (AgI [(1, 1), (5, 2)] ((f_c_addFee ln ly tf zc zn p0 X).1) ((f_r_addFee lm Lnum Ls p0 X).2.2.2.2) ((f_r_addFee lm Lnum Ls p0 X).1)) (mkC nb ((f_c_addFee ln ly tf zc zn p0 X).2.1) ((f_c_addFee ln ly tf zc zn p0 X).2.2.1) ((f_c_addFee ln ly tf zc zn p0 X).2.2.2.1) mac mk su mh mem tk po pp n ow mo dy st le (fun e => st e + le e) wk sta du cu cn qcb qcl bar mt bl bf brk kl ks pr day G2 G4 ([]) ([])) (mkR mk su mac mem tk paid nd day ow mo dy st le wk sta du cm cb cl n mt bl bar pr ((f_r_addFee lm Lnum Ls p0 X).2.1) ((f_r_addFee lm Lnum Ls p0 X).2.2.1) ((f_r_addFee lm Lnum Ls p0 X).2.2.2.1) sh brk ((f_r_addFee lm Lnum Ls p0 X).2.2.2.2)) (wcnt sta n) zc ((f_c_addFee ln ly tf zc zn p0 X).2.2.2.2.1) zn ((f_c_addFee ln ly tf zc zn p0 X).2.2.2.2.2) := by
  obtain ⟨hWC, hWR, hA, hN, hT, hTD, hTz, hd, hEI, hNW, hSt, hC, hCz, hF, hTar, hDebt, hSh, hPay, hDZ, hKl⟩ := id h
  obtain ⟨hE, hU, hSep, hH, hM, hD, hLv⟩ := id hEI
  obtain ⟨wMac, wMem, wEnt, wBar, wBrk, wOw, wMo, wMk, wCm, wCb, wMt, wLm⟩ := id hWR
  obtain ⟨vMn, vPn, vEn, vBn, vKn, vMk, vEm, vEc, vCb, vBm, vTf, vKl, vMh, vMl, vCu, vCl, vLy⟩ := id hWC
  unfold f_c_addFee f_r_addFee f_r_lays
  by_cases c1 : f_r_isKind p0 = true
  · rw [if_pos c1, if_pos c1]
    by_cases c2 : f_r_in X 0 999 = true
    · rw [if_pos c2, if_pos c2]
      obtain ⟨q0, hk⟩ := nP_kind c1
      have m2 := in_iff.mp c2
      have e99 : (999 : Int32).toInt = 999 := rfl
      have e0 : (0 : Int32).toInt = 0 := rfl
      have hl := wLm (nP p0)
      have hht := chain_ht (hTar _ hk).1
      have hc3 : lyHt (ly (tf (nP p0))) < 6 ↔ lm (nP p0) < 6 := by
        rw [hht]
        exact nI_ltI (a := lm (nP p0)) (b := 6) (by omega) (by omega)
      by_cases c3 : lm (nP p0) < 6
      · rw [if_pos (hc3.mpr c3), if_neg (show ¬ lm (nP p0) = 6 by omega)]
        obtain ⟨t1, t2⟩ := tar_lay (X := X) (s := 1) (c := 102) hTar vLy vTf hk ⟨hl.1, c3⟩ (by unfold SortRel; decide) (by omega) (by omega)
        have htf : ∀ k, k < 4 → fup tf (nP p0) ln k < ln + 1 := fun k hk2 => by
          by_cases e : k = nP p0
          · rw [e, fup_same]
            omega
          · rw [fup_ne e]
            exact Nat.lt_succ_of_lt (vTf k hk2)
        have hlm : ∀ k, 1 ≤ fup lm (nP p0) (lm (nP p0) + 1) k ∧ fup lm (nP p0) (lm (nP p0) + 1) k ≤ 6 := fun k => by
          by_cases e : k = nP p0
          · rw [e, fup_same]
            omega
          · rw [fup_ne e]
            exact wLm k
        dsimp only
        refine ⟨⟨rfl, ?_⟩, inv_mk ⟨⟨vMn, vPn, vEn, vBn, vKn, vMk, vEm, vEc, vCb, vBm, htf, vKl, vMh, vMl, vCu, vCl, t2⟩, ⟨wMac, wMem, wEnt, wBar, wBrk, wOw, wMo, wMk, wCm, wCb, wMt, hlm⟩, hA, hN, hT, hTD, hTz, hd, hEI, hNW, hSt, hC, hCz, hF, t1, hDebt, hSh, hPay, hDZ, hKl⟩, by show zc + 1 ≤ zc + 200; omega, by show zn + 4 + 310 * wcnt sta n ≤ zn + 310 * wcnt sta n + 3000; omega⟩
        rw [fup_same, fup_same]
        show lyHt (ly (tf (nP p0))) + 1 = nI (lm (nP p0) + 1)
        rw [hht, nI_1]
      · rw [if_neg (fun z => c3 (hc3.mp z)), if_pos (show lm (nP p0) = 6 by omega)]
        exact core_x h (agI_inr (show ((5 : Nat), (2 : Int32)) ∈ ([(1, 1), (5, 2)] : List (Nat × Int32)) by decide))
    · rw [if_neg c2, if_neg c2]
      exact core_x h (agI_inr (show ((1 : Nat), (1 : Int32)) ∈ ([(1, 1), (5, 2)] : List (Nat × Int32)) by decide))
  · rw [if_neg c1, if_neg c1]
    exact core_x h (agI_inr (show ((1 : Nat), (1 : Int32)) ∈ ([(1, 1), (5, 2)] : List (Nat × Int32)) by decide))
theorem core_addCap {nb : Nat → Int32} {tf : Nat → Nat} {ln : Nat} {ly : Nat → Ly} {mac : Nat} {mk : Nat → Nat} {su : Nat → Int32} {mh : Nat → List Nat} {mem : Nat} {tk : Nat → Nat → Int32} {po : Nat → Int32} {pp : Nat → Int32} {n : Nat} {ow : Nat → Nat} {mo : Nat → Nat} {dy : Nat → Int32} {st : Nat → Int32} {le : Nat → Int32} {wk : Nat → Int32} {sta : Nat → Int32} {du : Nat → Int32} {cu : Nat → List Nat} {cn : Nat} {qcb : Nat → Nat} {qcl : Nat → Int32} {bar : Nat} {mt : Nat → Nat} {bl : Nat → Int32} {bf : Nat → Int32} {brk : Nat} {kl : Nat → Nat} {ks : Nat → Nat → Int32} {day : Int32} {paid : Nat → Int64} {nd : Nat → Nat → Bool} {cm : Nat → Nat} {cb : Nat → Nat → Nat} {cl : Nat → Nat → Int32} {Ls : Nat → Nat → Int32} {Lnum : Nat → Nat → Int32} {lm : Nat → Nat} {sh : Nat → Nat → Int32} {pr : Nat → Int32} {G2 : List Ob} {G4 : List Ob} {thr : Int32} {zc zn : Nat} {p0 X : Int32} (h : InvP nb tf ln ly mac mk su mh mem tk po pp n ow mo dy st le wk sta du cu cn qcb qcl bar mt bl bf brk kl ks day paid nd cm cb cl Ls Lnum lm sh) : CoreX (AgI [(1, 1), (5, 2)] ((f_c_addCap ln ly tf zc zn p0 X).1) ((f_r_addCap lm Lnum Ls p0 X).2.2.2.2) ((f_r_addCap lm Lnum Ls p0 X).1)) (mkC nb ((f_c_addCap ln ly tf zc zn p0 X).2.1) ((f_c_addCap ln ly tf zc zn p0 X).2.2.1) ((f_c_addCap ln ly tf zc zn p0 X).2.2.2.1) mac mk su mh mem tk po pp n ow mo dy st le (fun e => st e + le e) wk sta du cu cn qcb qcl bar mt bl bf brk kl ks pr day G2 G4 ([]) ([])) (mkR mk su mac mem tk paid nd day ow mo dy st le wk sta du cm cb cl n mt bl bar pr ((f_r_addCap lm Lnum Ls p0 X).2.1) ((f_r_addCap lm Lnum Ls p0 X).2.2.1) ((f_r_addCap lm Lnum Ls p0 X).2.2.2.1) sh brk ((f_r_addCap lm Lnum Ls p0 X).2.2.2.2)) (wcnt sta n) zc ((f_c_addCap ln ly tf zc zn p0 X).2.2.2.2.1) zn ((f_c_addCap ln ly tf zc zn p0 X).2.2.2.2.2) := by
  obtain ⟨hWC, hWR, hA, hN, hT, hTD, hTz, hd, hEI, hNW, hSt, hC, hCz, hF, hTar, hDebt, hSh, hPay, hDZ, hKl⟩ := id h
  obtain ⟨hE, hU, hSep, hH, hM, hD, hLv⟩ := id hEI
  obtain ⟨wMac, wMem, wEnt, wBar, wBrk, wOw, wMo, wMk, wCm, wCb, wMt, wLm⟩ := id hWR
  obtain ⟨vMn, vPn, vEn, vBn, vKn, vMk, vEm, vEc, vCb, vBm, vTf, vKl, vMh, vMl, vCu, vCl, vLy⟩ := id hWC
  unfold f_c_addCap f_r_addCap f_r_lays
  by_cases c1 : f_r_isKind p0 = true
  · rw [if_pos c1, if_pos c1]
    by_cases c2 : f_r_in X 0 9999 = true
    · rw [if_pos c2, if_pos c2]
      obtain ⟨q0, hk⟩ := nP_kind c1
      have m2 := in_iff.mp c2
      have e99 : (9999 : Int32).toInt = 9999 := rfl
      have e0 : (0 : Int32).toInt = 0 := rfl
      have hl := wLm (nP p0)
      have hht := chain_ht (hTar _ hk).1
      have hc3 : lyHt (ly (tf (nP p0))) < 6 ↔ lm (nP p0) < 6 := by
        rw [hht]
        exact nI_ltI (a := lm (nP p0)) (b := 6) (by omega) (by omega)
      by_cases c3 : lm (nP p0) < 6
      · rw [if_pos (hc3.mpr c3), if_neg (show ¬ lm (nP p0) = 6 by omega)]
        obtain ⟨t1, t2⟩ := tar_lay (X := X) (s := 2) (c := 99) hTar vLy vTf hk ⟨hl.1, c3⟩ (by unfold SortRel; decide) (by omega) (by omega)
        have htf : ∀ k, k < 4 → fup tf (nP p0) ln k < ln + 1 := fun k hk2 => by
          by_cases e : k = nP p0
          · rw [e, fup_same]
            omega
          · rw [fup_ne e]
            exact Nat.lt_succ_of_lt (vTf k hk2)
        have hlm : ∀ k, 1 ≤ fup lm (nP p0) (lm (nP p0) + 1) k ∧ fup lm (nP p0) (lm (nP p0) + 1) k ≤ 6 := fun k => by
          by_cases e : k = nP p0
          · rw [e, fup_same]
            omega
          · rw [fup_ne e]
            exact wLm k
        dsimp only
        refine ⟨⟨rfl, ?_⟩, inv_mk ⟨⟨vMn, vPn, vEn, vBn, vKn, vMk, vEm, vEc, vCb, vBm, htf, vKl, vMh, vMl, vCu, vCl, t2⟩, ⟨wMac, wMem, wEnt, wBar, wBrk, wOw, wMo, wMk, wCm, wCb, wMt, hlm⟩, hA, hN, hT, hTD, hTz, hd, hEI, hNW, hSt, hC, hCz, hF, t1, hDebt, hSh, hPay, hDZ, hKl⟩, by show zc + 1 ≤ zc + 200; omega, by show zn + 4 + 310 * wcnt sta n ≤ zn + 310 * wcnt sta n + 3000; omega⟩
        rw [fup_same, fup_same]
        show lyHt (ly (tf (nP p0))) + 1 = nI (lm (nP p0) + 1)
        rw [hht, nI_1]
      · rw [if_neg (fun z => c3 (hc3.mp z)), if_pos (show lm (nP p0) = 6 by omega)]
        exact core_x h (agI_inr (show ((5 : Nat), (2 : Int32)) ∈ ([(1, 1), (5, 2)] : List (Nat × Int32)) by decide))
    · rw [if_neg c2, if_neg c2]
      exact core_x h (agI_inr (show ((1 : Nat), (1 : Int32)) ∈ ([(1, 1), (5, 2)] : List (Nat × Int32)) by decide))
  · rw [if_neg c1, if_neg c1]
    exact core_x h (agI_inr (show ((1 : Nat), (1 : Int32)) ∈ ([(1, 1), (5, 2)] : List (Nat × Int32)) by decide))
theorem core_addDouble {nb : Nat → Int32} {tf : Nat → Nat} {ln : Nat} {ly : Nat → Ly} {mac : Nat} {mk : Nat → Nat} {su : Nat → Int32} {mh : Nat → List Nat} {mem : Nat} {tk : Nat → Nat → Int32} {po : Nat → Int32} {pp : Nat → Int32} {n : Nat} {ow : Nat → Nat} {mo : Nat → Nat} {dy : Nat → Int32} {st : Nat → Int32} {le : Nat → Int32} {wk : Nat → Int32} {sta : Nat → Int32} {du : Nat → Int32} {cu : Nat → List Nat} {cn : Nat} {qcb : Nat → Nat} {qcl : Nat → Int32} {bar : Nat} {mt : Nat → Nat} {bl : Nat → Int32} {bf : Nat → Int32} {brk : Nat} {kl : Nat → Nat} {ks : Nat → Nat → Int32} {day : Int32} {paid : Nat → Int64} {nd : Nat → Nat → Bool} {cm : Nat → Nat} {cb : Nat → Nat → Nat} {cl : Nat → Nat → Int32} {Ls : Nat → Nat → Int32} {Lnum : Nat → Nat → Int32} {lm : Nat → Nat} {sh : Nat → Nat → Int32} {pr : Nat → Int32} {G2 : List Ob} {G4 : List Ob} {thr : Int32} {zc zn : Nat} {p0 X : Int32} (h : InvP nb tf ln ly mac mk su mh mem tk po pp n ow mo dy st le wk sta du cu cn qcb qcl bar mt bl bf brk kl ks day paid nd cm cb cl Ls Lnum lm sh) : CoreX (AgI [(1, 1), (5, 2)] ((f_c_addDouble ln ly tf zc zn p0 X).1) ((f_r_addDouble lm Lnum Ls p0 X).2.2.2.2) ((f_r_addDouble lm Lnum Ls p0 X).1)) (mkC nb ((f_c_addDouble ln ly tf zc zn p0 X).2.1) ((f_c_addDouble ln ly tf zc zn p0 X).2.2.1) ((f_c_addDouble ln ly tf zc zn p0 X).2.2.2.1) mac mk su mh mem tk po pp n ow mo dy st le (fun e => st e + le e) wk sta du cu cn qcb qcl bar mt bl bf brk kl ks pr day G2 G4 ([]) ([])) (mkR mk su mac mem tk paid nd day ow mo dy st le wk sta du cm cb cl n mt bl bar pr ((f_r_addDouble lm Lnum Ls p0 X).2.1) ((f_r_addDouble lm Lnum Ls p0 X).2.2.1) ((f_r_addDouble lm Lnum Ls p0 X).2.2.2.1) sh brk ((f_r_addDouble lm Lnum Ls p0 X).2.2.2.2)) (wcnt sta n) zc ((f_c_addDouble ln ly tf zc zn p0 X).2.2.2.2.1) zn ((f_c_addDouble ln ly tf zc zn p0 X).2.2.2.2.2) := by
  obtain ⟨hWC, hWR, hA, hN, hT, hTD, hTz, hd, hEI, hNW, hSt, hC, hCz, hF, hTar, hDebt, hSh, hPay, hDZ, hKl⟩ := id h
  obtain ⟨hE, hU, hSep, hH, hM, hD, hLv⟩ := id hEI
  obtain ⟨wMac, wMem, wEnt, wBar, wBrk, wOw, wMo, wMk, wCm, wCb, wMt, wLm⟩ := id hWR
  obtain ⟨vMn, vPn, vEn, vBn, vKn, vMk, vEm, vEc, vCb, vBm, vTf, vKl, vMh, vMl, vCu, vCl, vLy⟩ := id hWC
  unfold f_c_addDouble f_r_addDouble f_r_lays
  by_cases c1 : f_r_isKind p0 = true
  · rw [if_pos c1, if_pos c1]
    by_cases c2 : f_r_in X 0 240 = true
    · rw [if_pos c2, if_pos c2]
      obtain ⟨q0, hk⟩ := nP_kind c1
      have m2 := in_iff.mp c2
      have e99 : (240 : Int32).toInt = 240 := rfl
      have e0 : (0 : Int32).toInt = 0 := rfl
      have hl := wLm (nP p0)
      have hht := chain_ht (hTar _ hk).1
      have hc3 : lyHt (ly (tf (nP p0))) < 6 ↔ lm (nP p0) < 6 := by
        rw [hht]
        exact nI_ltI (a := lm (nP p0)) (b := 6) (by omega) (by omega)
      by_cases c3 : lm (nP p0) < 6
      · rw [if_pos (hc3.mpr c3), if_neg (show ¬ lm (nP p0) = 6 by omega)]
        obtain ⟨t1, t2⟩ := tar_lay (X := X) (s := 3) (c := 100) hTar vLy vTf hk ⟨hl.1, c3⟩ (by unfold SortRel; decide) (by omega) (by omega)
        have htf : ∀ k, k < 4 → fup tf (nP p0) ln k < ln + 1 := fun k hk2 => by
          by_cases e : k = nP p0
          · rw [e, fup_same]
            omega
          · rw [fup_ne e]
            exact Nat.lt_succ_of_lt (vTf k hk2)
        have hlm : ∀ k, 1 ≤ fup lm (nP p0) (lm (nP p0) + 1) k ∧ fup lm (nP p0) (lm (nP p0) + 1) k ≤ 6 := fun k => by
          by_cases e : k = nP p0
          · rw [e, fup_same]
            omega
          · rw [fup_ne e]
            exact wLm k
        dsimp only
        refine ⟨⟨rfl, ?_⟩, inv_mk ⟨⟨vMn, vPn, vEn, vBn, vKn, vMk, vEm, vEc, vCb, vBm, htf, vKl, vMh, vMl, vCu, vCl, t2⟩, ⟨wMac, wMem, wEnt, wBar, wBrk, wOw, wMo, wMk, wCm, wCb, wMt, hlm⟩, hA, hN, hT, hTD, hTz, hd, hEI, hNW, hSt, hC, hCz, hF, t1, hDebt, hSh, hPay, hDZ, hKl⟩, by show zc + 1 ≤ zc + 200; omega, by show zn + 4 + 310 * wcnt sta n ≤ zn + 310 * wcnt sta n + 3000; omega⟩
        rw [fup_same, fup_same]
        show lyHt (ly (tf (nP p0))) + 1 = nI (lm (nP p0) + 1)
        rw [hht, nI_1]
      · rw [if_neg (fun z => c3 (hc3.mp z)), if_pos (show lm (nP p0) = 6 by omega)]
        exact core_x h (agI_inr (show ((5 : Nat), (2 : Int32)) ∈ ([(1, 1), (5, 2)] : List (Nat × Int32)) by decide))
    · rw [if_neg c2, if_neg c2]
      exact core_x h (agI_inr (show ((1 : Nat), (1 : Int32)) ∈ ([(1, 1), (5, 2)] : List (Nat × Int32)) by decide))
  · rw [if_neg c1, if_neg c1]
    exact core_x h (agI_inr (show ((1 : Nat), (1 : Int32)) ∈ ([(1, 1), (5, 2)] : List (Nat × Int32)) by decide))
theorem core_addDiscount {nb : Nat → Int32} {tf : Nat → Nat} {ln : Nat} {ly : Nat → Ly} {mac : Nat} {mk : Nat → Nat} {su : Nat → Int32} {mh : Nat → List Nat} {mem : Nat} {tk : Nat → Nat → Int32} {po : Nat → Int32} {pp : Nat → Int32} {n : Nat} {ow : Nat → Nat} {mo : Nat → Nat} {dy : Nat → Int32} {st : Nat → Int32} {le : Nat → Int32} {wk : Nat → Int32} {sta : Nat → Int32} {du : Nat → Int32} {cu : Nat → List Nat} {cn : Nat} {qcb : Nat → Nat} {qcl : Nat → Int32} {bar : Nat} {mt : Nat → Nat} {bl : Nat → Int32} {bf : Nat → Int32} {brk : Nat} {kl : Nat → Nat} {ks : Nat → Nat → Int32} {day : Int32} {paid : Nat → Int64} {nd : Nat → Nat → Bool} {cm : Nat → Nat} {cb : Nat → Nat → Nat} {cl : Nat → Nat → Int32} {Ls : Nat → Nat → Int32} {Lnum : Nat → Nat → Int32} {lm : Nat → Nat} {sh : Nat → Nat → Int32} {pr : Nat → Int32} {G2 : List Ob} {G4 : List Ob} {thr : Int32} {zc zn : Nat} {p0 X : Int32} (h : InvP nb tf ln ly mac mk su mh mem tk po pp n ow mo dy st le wk sta du cu cn qcb qcl bar mt bl bf brk kl ks day paid nd cm cb cl Ls Lnum lm sh) : CoreX (AgI [(1, 1), (5, 2)] ((f_c_addDiscount ln ly tf zc zn p0 X).1) ((f_r_addDiscount lm Lnum Ls p0 X).2.2.2.2) ((f_r_addDiscount lm Lnum Ls p0 X).1)) (mkC nb ((f_c_addDiscount ln ly tf zc zn p0 X).2.1) ((f_c_addDiscount ln ly tf zc zn p0 X).2.2.1) ((f_c_addDiscount ln ly tf zc zn p0 X).2.2.2.1) mac mk su mh mem tk po pp n ow mo dy st le (fun e => st e + le e) wk sta du cu cn qcb qcl bar mt bl bf brk kl ks pr day G2 G4 ([]) ([])) (mkR mk su mac mem tk paid nd day ow mo dy st le wk sta du cm cb cl n mt bl bar pr ((f_r_addDiscount lm Lnum Ls p0 X).2.1) ((f_r_addDiscount lm Lnum Ls p0 X).2.2.1) ((f_r_addDiscount lm Lnum Ls p0 X).2.2.2.1) sh brk ((f_r_addDiscount lm Lnum Ls p0 X).2.2.2.2)) (wcnt sta n) zc ((f_c_addDiscount ln ly tf zc zn p0 X).2.2.2.2.1) zn ((f_c_addDiscount ln ly tf zc zn p0 X).2.2.2.2.2) := by
  obtain ⟨hWC, hWR, hA, hN, hT, hTD, hTz, hd, hEI, hNW, hSt, hC, hCz, hF, hTar, hDebt, hSh, hPay, hDZ, hKl⟩ := id h
  obtain ⟨hE, hU, hSep, hH, hM, hD, hLv⟩ := id hEI
  obtain ⟨wMac, wMem, wEnt, wBar, wBrk, wOw, wMo, wMk, wCm, wCb, wMt, wLm⟩ := id hWR
  obtain ⟨vMn, vPn, vEn, vBn, vKn, vMk, vEm, vEc, vCb, vBm, vTf, vKl, vMh, vMl, vCu, vCl, vLy⟩ := id hWC
  unfold f_c_addDiscount f_r_addDiscount f_r_lays
  by_cases c1 : f_r_isKind p0 = true
  · rw [if_pos c1, if_pos c1]
    by_cases c2 : f_r_in X 0 100 = true
    · rw [if_pos c2, if_pos c2]
      obtain ⟨q0, hk⟩ := nP_kind c1
      have m2 := in_iff.mp c2
      have e99 : (100 : Int32).toInt = 100 := rfl
      have e0 : (0 : Int32).toInt = 0 := rfl
      have hl := wLm (nP p0)
      have hht := chain_ht (hTar _ hk).1
      have hc3 : lyHt (ly (tf (nP p0))) < 6 ↔ lm (nP p0) < 6 := by
        rw [hht]
        exact nI_ltI (a := lm (nP p0)) (b := 6) (by omega) (by omega)
      by_cases c3 : lm (nP p0) < 6
      · rw [if_pos (hc3.mpr c3), if_neg (show ¬ lm (nP p0) = 6 by omega)]
        obtain ⟨t1, t2⟩ := tar_lay (X := X) (s := 4) (c := 112) hTar vLy vTf hk ⟨hl.1, c3⟩ (by unfold SortRel; decide) (by omega) (by omega)
        have htf : ∀ k, k < 4 → fup tf (nP p0) ln k < ln + 1 := fun k hk2 => by
          by_cases e : k = nP p0
          · rw [e, fup_same]
            omega
          · rw [fup_ne e]
            exact Nat.lt_succ_of_lt (vTf k hk2)
        have hlm : ∀ k, 1 ≤ fup lm (nP p0) (lm (nP p0) + 1) k ∧ fup lm (nP p0) (lm (nP p0) + 1) k ≤ 6 := fun k => by
          by_cases e : k = nP p0
          · rw [e, fup_same]
            omega
          · rw [fup_ne e]
            exact wLm k
        dsimp only
        refine ⟨⟨rfl, ?_⟩, inv_mk ⟨⟨vMn, vPn, vEn, vBn, vKn, vMk, vEm, vEc, vCb, vBm, htf, vKl, vMh, vMl, vCu, vCl, t2⟩, ⟨wMac, wMem, wEnt, wBar, wBrk, wOw, wMo, wMk, wCm, wCb, wMt, hlm⟩, hA, hN, hT, hTD, hTz, hd, hEI, hNW, hSt, hC, hCz, hF, t1, hDebt, hSh, hPay, hDZ, hKl⟩, by show zc + 1 ≤ zc + 200; omega, by show zn + 4 + 310 * wcnt sta n ≤ zn + 310 * wcnt sta n + 3000; omega⟩
        rw [fup_same, fup_same]
        show lyHt (ly (tf (nP p0))) + 1 = nI (lm (nP p0) + 1)
        rw [hht, nI_1]
      · rw [if_neg (fun z => c3 (hc3.mp z)), if_pos (show lm (nP p0) = 6 by omega)]
        exact core_x h (agI_inr (show ((5 : Nat), (2 : Int32)) ∈ ([(1, 1), (5, 2)] : List (Nat × Int32)) by decide))
    · rw [if_neg c2, if_neg c2]
      exact core_x h (agI_inr (show ((1 : Nat), (1 : Int32)) ∈ ([(1, 1), (5, 2)] : List (Nat × Int32)) by decide))
  · rw [if_neg c1, if_neg c1]
    exact core_x h (agI_inr (show ((1 : Nat), (1 : Int32)) ∈ ([(1, 1), (5, 2)] : List (Nat × Int32)) by decide))
theorem core_pay {nb : Nat → Int32} {tf : Nat → Nat} {ln : Nat} {ly : Nat → Ly} {mac : Nat} {mk : Nat → Nat} {su : Nat → Int32} {mh : Nat → List Nat} {mem : Nat} {tk : Nat → Nat → Int32} {po : Nat → Int32} {pp : Nat → Int32} {n : Nat} {ow : Nat → Nat} {mo : Nat → Nat} {dy : Nat → Int32} {st : Nat → Int32} {le : Nat → Int32} {wk : Nat → Int32} {sta : Nat → Int32} {du : Nat → Int32} {cu : Nat → List Nat} {cn : Nat} {qcb : Nat → Nat} {qcl : Nat → Int32} {bar : Nat} {mt : Nat → Nat} {bl : Nat → Int32} {bf : Nat → Int32} {brk : Nat} {kl : Nat → Nat} {ks : Nat → Nat → Int32} {day : Int32} {paid : Nat → Int64} {nd : Nat → Nat → Bool} {cm : Nat → Nat} {cb : Nat → Nat → Nat} {cl : Nat → Nat → Int32} {Ls : Nat → Nat → Int32} {Lnum : Nat → Nat → Int32} {lm : Nat → Nat} {sh : Nat → Nat → Int32} {pr : Nat → Int32} {G2 : List Ob} {G4 : List Ob} {thr : Int32} {zc zn : Nat} {p0 X : Int32} (h : InvP nb tf ln ly mac mk su mh mem tk po pp n ow mo dy st le wk sta du cu cn qcb qcl bar mt bl bf brk kl ks day paid nd cm cb cl Ls Lnum lm sh) : CoreX (AgI [(0, 1), (1, 2), (5, 3)] ((f_c_pay mem po pp zc zn p0 X).1) ((f_r_pay brk du n mem ow paid sh p0 X).2.2) ((f_r_pay brk du n mem ow paid sh p0 X).1)) (mkC nb tf ln ly mac mk su mh mem tk po ((f_c_pay mem po pp zc zn p0 X).2.1) n ow mo dy st le (fun e => st e + le e) wk sta du cu cn qcb qcl bar mt bl bf brk kl ks pr day G2 G4 ([]) ([])) (mkR mk su mac mem tk ((f_r_pay brk du n mem ow paid sh p0 X).2.1) nd day ow mo dy st le wk sta du cm cb cl n mt bl bar pr Ls Lnum lm sh brk ((f_r_pay brk du n mem ow paid sh p0 X).2.2)) (wcnt sta n) zc ((f_c_pay mem po pp zc zn p0 X).2.2.1) zn ((f_c_pay mem po pp zc zn p0 X).2.2.2) := by
  obtain ⟨hWC, hWR, hA, hN, hT, hTD, hTz, hd, hEI, hNW, hSt, hC, hCz, hF, hTar, hDebt, hSh, hPay, hDZ, hKl⟩ := id h
  obtain ⟨hE, hU, hSep, hH, hM, hD, hLv⟩ := id hEI
  obtain ⟨wMac, wMem, wEnt, wBar, wBrk, wOw, wMo, wMk, wCm, wCb, wMt, wLm⟩ := id hWR
  unfold f_c_pay f_r_pay
  by_cases c1 : f_r_isMember mem p0 = true
  · rw [if_pos c1, if_pos c1]
    by_cases c2 : f_r_in X 1 1000000 = true
    · rw [if_pos c2, if_pos c2]
      obtain ⟨q0, hm0⟩ := nP_mem (n := mem) (by omega) c1
      have m2 := in_iff.mp c2
      have e1 : (1 : Int32).toInt = 1 := rfl
      have em : (1000000 : Int32).toInt = 1000000 := rfl
      have ht := pay_test (m := nP p0) (X := X) hPay (by omega) (by omega)
      by_cases c3 : 1000000000 - X < pp (nP p0)
      · rw [if_pos c3, if_pos (ht.mpr c3)]
        exact core_x h (agI_inr (show ((5 : Nat), (3 : Int32)) ∈ ([(0, 1), (1, 2), (5, 3)] : List (Nat × Int32)) by decide))
      · rw [if_neg c3, if_neg (fun z => c3 (ht.mp z))]
        have hP2 := pay_ok hPay hm0 (by omega) (by omega) c3
        rw [owes_eq hP2 hDebt hm0]
        dsimp only
        exact ⟨⟨rfl, rfl⟩, inv_mk ⟨hWC, hWR, hA, hN, hT, hTD, hTz, hd, hEI, hNW, hSt, hC, hCz, hF, hTar, hDebt, hSh, hP2, hDZ, hKl⟩, by show zc ≤ zc + 200; omega, by show zn + 310 * wcnt sta n ≤ zn + 310 * wcnt sta n + 3000; omega⟩
    · rw [if_neg c2, if_neg c2]
      dsimp only
      exact core_x h (agI_inr (by decide))
  · rw [if_neg c1, if_neg c1]
    dsimp only
    exact core_x h (agI_inr (by decide))
