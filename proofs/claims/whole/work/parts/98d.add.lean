/-! cuts and new entries (statements by gen98d.py) -/
theorem ee_fup {st le : Nat → Int32} {n : Nat} {S M : Int32} : fup (fun e => st e + le e) n (S + M) = fun e => fup st n S e + fup le n M e := by
  funext k
  by_cases e : k = n
  · subst e
    rw [fup_same, fup_same, fup_same]
  · rw [fup_ne e, fup_ne e, fup_ne e]
theorem fup_fup {α : Type} {f : Nat → α} {i : Nat} {a b : α} : fup (fup f i a) i b = fup f i b := by
  funext k
  by_cases e : k = i
  · subst e
    rw [fup_same, fup_same]
  · rw [fup_ne e, fup_ne e, fup_ne e]
section AD
variable {nb : Nat → Int32} {tf : Nat → Nat} {ln : Nat} {ly : Nat → Ly} {mac : Nat} {mk : Nat → Nat} {su : Nat → Int32} {mh : Nat → List Nat} {mem : Nat} {tk : Nat → Nat → Int32} {po : Nat → Int32} {pp : Nat → Int32} {n : Nat} {ow : Nat → Nat} {mo : Nat → Nat} {dy : Nat → Int32} {st : Nat → Int32} {le : Nat → Int32} {wk : Nat → Int32} {sta : Nat → Int32} {du : Nat → Int32} {cu : Nat → List Nat} {cn : Nat} {qcb : Nat → Nat} {qcl : Nat → Int32} {bar : Nat} {mt : Nat → Nat} {bl : Nat → Int32} {bf : Nat → Int32} {brk : Nat} {kl : Nat → Nat} {ks : Nat → Nat → Int32} {day : Int32} {paid : Nat → Int64} {nd : Nat → Nat → Bool} {cm : Nat → Nat} {cb : Nat → Nat → Nat} {cl : Nat → Nat → Int32} {Ls : Nat → Nat → Int32} {Lnum : Nat → Nat → Int32} {lm : Nat → Nat} {sh : Nat → Nat → Int32} {pr : Nat → Int32} {G2 : List Ob} {G4 : List Ob} {thr : Int32} {D S M V : Int32} {m c : Nat}
theorem busy_add {a x : Nat} {E T U : Int32} {s : Int32} (hs : ¬ s = 98) : BusyP (n + 1) x (fup ow n a) (fup dy n D) (fup st n S) (fup le n M) (fup sta n s) E T U ↔ BusyP n x ow dy st le sta E T U := by
  unfold BusyP
  constructor
  · intro ⟨e, e1, e2, e3, e4⟩
    by_cases en : e = n
    · subst en
      rw [fup_same] at e3
      exact absurd e3 hs
    · rw [fup_ne en] at e2 e3
      rw [fup_ne en, fup_ne en, fup_ne en] at e4
      exact ⟨e, by omega, e2, e3, e4⟩
  · intro ⟨e, e1, e2, e3, e4⟩
    have en : e ≠ n := by omega
    refine ⟨e, by omega, ?_, ?_, ?_⟩
    · rw [fup_ne en]
      exact e2
    · rw [fup_ne en]
      exact e3
    · rw [fup_ne en, fup_ne en, fup_ne en]
      exact e4
theorem free_add {a x : Nat} {E T U v : Int32} {s : Int32} (hs : ¬ s = 98) : FreeP (n + 1) x (fup mo n a) (fup dy n D) (fup st n S) (fup le n M) (fup wk n V) (fup sta n s) su E T U v ↔ FreeP n x mo dy st le wk sta su E T U v := by
  unfold FreeP InB
  constructor
  · intro z e e1 e2
    have en : e ≠ n := by omega
    have z := z e (by omega) (by rw [fup_ne en, fup_ne en, fup_ne en]; exact e2)
    unfold Spd at z ⊢
    rw [fup_ne en, fup_ne en, fup_ne en] at z
    exact z
  · intro z e e1 e2
    by_cases en : e = n
    · subst en
      rw [fup_same] at e2
      exact absurd e2.1 hs
    · rw [fup_ne en, fup_ne en, fup_ne en] at e2
      have z := z e (by omega) e2
      unfold Spd at z ⊢
      rw [fup_ne en, fup_ne en, fup_ne en]
      exact z
theorem ei_add (hd : 0 ≤ day.toInt ∧ day.toInt ≤ 900) (hEI : EI n ow mo mk dy st le wk su nd tk day mh sta) (t1 : day.toInt ≤ D.toInt) (t2 : D.toInt ≤ day.toInt + 6) (t3 : 0 ≤ S.toInt) (t4 : 1 ≤ M.toInt) (t6 : S.toInt + M.toInt ≤ 480) : EI (n + 1) (fup ow n m) (fup mo n c) mk (fup dy n D) (fup st n S) (fup le n M) (fup wk n V) su nd tk day mh (fup sta n 119) := by
  obtain ⟨hE, hU, hSep, hH, hM, hD, hLv⟩ := hEI
  have na : ¬ act (fup sta n 119 n) := by
    rw [fup_same]
    unfold act
    decide
  refine ⟨fun e he => ?_, hU, fun e f he hf hne ae af hmo hdy => ?_, fun x => ⟨?_, fun e => ?_⟩, fun e f he hf hne ae af hmo hdy => ?_, fun e he => ?_, fun e he hs => ?_⟩
  · by_cases en : e = n
    · subst en
      rw [fup_same, fup_same, fup_same]
      omega
    · rw [fup_ne en, fup_ne en, fup_ne en]
      exact hE e (by omega)
  · have en : e ≠ n := fun z => na (z ▸ ae)
    have fn : f ≠ n := fun z => na (z ▸ af)
    rw [fup_ne en] at ae hmo hdy ⊢
    rw [fup_ne fn] at af hmo hdy
    unfold Bef
    rw [fup_ne en, fup_ne en, fup_ne en, fup_ne fn, fup_ne fn, fup_ne fn]
    exact hSep e f (by omega) (by omega) hne ae af hmo hdy
  · refine (hH x).1.imp_of_mem (fun {e f} he hf hl => ?_)
    have en : e ≠ n := by have := (((hH x).2 e).mp he).1; omega
    have fn : f ≠ n := by have := (((hH x).2 f).mp hf).1; omega
    unfold LexS
    rw [fup_ne en, fup_ne en, fup_ne fn, fup_ne fn]
    exact hl
  · rw [(hH x).2]
    by_cases en : e = n
    · subst en
      exact ⟨fun z => absurd z.1 (by omega), fun z => absurd z.2.2 na⟩
    · rw [fup_ne en, fup_ne en]
      exact ⟨fun z => ⟨by omega, z.2⟩, fun z => ⟨by omega, z.2⟩⟩
  · have en : e ≠ n := fun z => na (by rw [z] at ae; exact Or.inl ae)
    have fn : f ≠ n := fun z => na (by rw [z] at af; exact Or.inl af)
    rw [fup_ne en] at ae hmo hdy
    rw [fup_ne fn] at af hmo hdy
    rw [fup_ne en, fup_ne en, fup_ne fn, fup_ne fn]
    exact hM e f (by omega) (by omega) hne ae af hmo hdy
  · by_cases en : e = n
    · subst en
      rw [fup_same, fup_same]
      exact ⟨fun _ => t1, fun z => absurd z (by decide)⟩
    · rw [fup_ne en, fup_ne en]
      exact hD e (by omega)
  · have en : e ≠ n := fun z => na (by rw [z] at hs; exact Or.inl hs)
    rw [fup_ne en] at hs
    rw [fup_ne en, fup_ne en, fup_ne en]
    exact hLv e (by omega) hs
theorem none_add (hNW : NoneW n ow mo mk dy st le wk sta su nd tk) (hnew : ¬ (f_r_live nd tk m (mk c) D = true ∧ ¬ BusyP n m ow dy st le sta D S M ∧ FreeP n c mo dy st le wk sta su D S M V)) : NoneW (n + 1) (fup ow n m) (fup mo n c) mk (fup dy n D) (fup st n S) (fup le n M) (fup wk n V) (fup sta n 119) su nd tk := by
  intro e he hs q
  rw [busy_add (by decide), free_add (by decide)] at q
  by_cases en : e = n
  · subst en
    rw [fup_same, fup_same, fup_same, fup_same, fup_same, fup_same] at q
    exact hnew q
  · rw [fup_ne en] at hs
    rw [fup_ne en, fup_ne en, fup_ne en, fup_ne en, fup_ne en, fup_ne en] at q
    exact hNW e (by omega) hs q
theorem none_book (hNW : NoneW n ow mo mk dy st le wk sta su nd tk) : NoneW (n + 1) (fup ow n m) (fup mo n c) mk (fup dy n D) (fup st n S) (fup le n M) (fup wk n V) (fup sta n 98) su nd tk := by
  intro e he hs q
  have en : e ≠ n := fun z => by
    rw [z, fup_same] at hs
    exact absurd hs (by decide)
  rw [fup_ne en] at hs
  rw [fup_ne en, fup_ne en, fup_ne en, fup_ne en, fup_ne en, fup_ne en] at q
  refine hNW e (by omega) hs ⟨q.1, fun z => q.2.1 ?_, fun f hf hi => ?_⟩
  · obtain ⟨f, f1, f2, f3, f4⟩ := z
    have fn : f ≠ n := by omega
    refine ⟨f, by omega, ?_, ?_, ?_⟩
    · rw [fup_ne fn]
      exact f2
    · rw [fup_ne fn]
      exact f3
    · rw [fup_ne fn, fup_ne fn, fup_ne fn]
      exact f4
  · have fn : f ≠ n := by omega
    have z := q.2.2 f (by omega) (by unfold InB at hi ⊢; rw [fup_ne fn, fup_ne fn, fup_ne fn]; exact hi)
    unfold Spd at z ⊢
    rw [fup_ne fn, fup_ne fn, fup_ne fn] at z
    exact z
theorem cut_add {s : Int32} (hC : CutOk n sta cu qcb qcl cm cb cl) (hz : cm n = 0) : CutOk (n + 1) (fup sta n s) (fup cu n []) qcb qcl cm cb cl := by
  intro e he
  by_cases en : e = n
  · subst en
    rw [fup_same, fup_same]
    exact ⟨fun _ => ⟨hz.symm, fun k hk => absurd hk (by omega)⟩, fun _ => rfl, fun _ => hz⟩
  · rw [fup_ne en, fup_ne en]
    exact hC e (by omega)
theorem bars_add {s : Int32} (hz : cm n = 0) {b : Nat} : f_r_free bl cb cl cm (n + 1) (fup sta n s) b = f_r_free bl cb cl cm n sta b := by
  rw [r_free_s, r_free_s, sI_app, Nat.zero_add]
  have e1 : tkR (fup sta n s) cm cb cl b n = 0 := by
    unfold tkR
    rw [hz]
    split <;> rfl
  rw [e1, Int32.add_zero, sI_congr (f := tkR (fup sta n s) cm cb cl b) (g := tkR sta cm cb cl b) n 0 (fun q _ hq => tkR_ne (by omega))]
theorem debt_add {a : Nat} (hD : DebtOk mem n brk ow du po sh) (hz : du n = 0) : DebtOk mem (n + 1) brk (fup ow n a) du po sh := by
  intro x hx
  have e1 : duesS (n + 1) (fup ow n a) du x = duesS n ow du x := by
    unfold duesS
    rw [sI_app, Nat.zero_add, hz, sI_congr (g := fun e => if ow e = x then du e else 0) n 0 (fun q _ hq => by
      show (if fup ow n a q = x then du q else 0) = _
      rw [fup_ne (show q ≠ n by omega)])]
    split <;> exact Int32.add_zero _
  rw [e1]
  exact hD x hx
end AD
theorem core_cut {nb : Nat → Int32} {tf : Nat → Nat} {ln : Nat} {ly : Nat → Ly} {mac : Nat} {mk : Nat → Nat} {su : Nat → Int32} {mh : Nat → List Nat} {mem : Nat} {tk : Nat → Nat → Int32} {po : Nat → Int32} {pp : Nat → Int32} {n : Nat} {ow : Nat → Nat} {mo : Nat → Nat} {dy : Nat → Int32} {st : Nat → Int32} {le : Nat → Int32} {wk : Nat → Int32} {sta : Nat → Int32} {du : Nat → Int32} {cu : Nat → List Nat} {cn : Nat} {qcb : Nat → Nat} {qcl : Nat → Int32} {bar : Nat} {mt : Nat → Nat} {bl : Nat → Int32} {bf : Nat → Int32} {brk : Nat} {kl : Nat → Nat} {ks : Nat → Nat → Int32} {day : Int32} {paid : Nat → Int64} {nd : Nat → Nat → Bool} {cm : Nat → Nat} {cb : Nat → Nat → Nat} {cl : Nat → Nat → Int32} {Ls : Nat → Nat → Int32} {Lnum : Nat → Nat → Int32} {lm : Nat → Nat} {sh : Nat → Nat → Int32} {pr : Nat → Int32} {G2 : List Ob} {G4 : List Ob} {thr : Int32} {zc zn : Nat} {p0 p1 L : Int32} (h : InvP nb tf ln ly mac mk su mh mem tk po pp n ow mo dy st le wk sta du cu cn qcb qcl bar mt bl bf brk kl ks day paid nd cm cb cl Ls Lnum lm sh) : CoreX (AgI [(4, 1), (1, 2), (5, 3), (2, 4)] ((f_c_cut bf mt bar qcb qcl cn cu n sta zc zn p0 p1 L).1) ((f_r_cut bar bl cb cl cm n mt sta p0 p1 L).2.2.2.2) ((f_r_cut bar bl cb cl cm n mt sta p0 p1 L).1)) (mkC nb tf ln ly mac mk su mh mem tk po pp n ow mo dy st le (fun e => st e + le e) wk sta du ((f_c_cut bf mt bar qcb qcl cn cu n sta zc zn p0 p1 L).2.1) ((f_c_cut bf mt bar qcb qcl cn cu n sta zc zn p0 p1 L).2.2.1) ((f_c_cut bf mt bar qcb qcl cn cu n sta zc zn p0 p1 L).2.2.2.1) ((f_c_cut bf mt bar qcb qcl cn cu n sta zc zn p0 p1 L).2.2.2.2.1) bar mt bl ((f_c_cut bf mt bar qcb qcl cn cu n sta zc zn p0 p1 L).2.2.2.2.2.1) brk kl ks pr day G2 G4 ([]) ([])) (mkR mk su mac mem tk paid nd day ow mo dy st le wk sta du ((f_r_cut bar bl cb cl cm n mt sta p0 p1 L).2.1) ((f_r_cut bar bl cb cl cm n mt sta p0 p1 L).2.2.1) ((f_r_cut bar bl cb cl cm n mt sta p0 p1 L).2.2.2.1) n mt bl bar pr Ls Lnum lm sh brk ((f_r_cut bar bl cb cl cm n mt sta p0 p1 L).2.2.2.2)) (wcnt sta n) zc ((f_c_cut bf mt bar qcb qcl cn cu n sta zc zn p0 p1 L).2.2.2.2.2.2.1) zn ((f_c_cut bf mt bar qcb qcl cn cu n sta zc zn p0 p1 L).2.2.2.2.2.2.2) := by
  obtain ⟨hWC, hWR, hA, hN, hT, hTD, hTz, hd, hEI, hNW, hSt, hC, hCz, hF, hTar, hDebt, hSh, hPay, hDZ, hKl⟩ := id h
  obtain ⟨hE, hU, hSep, hH, hM, hD, hLv⟩ := id hEI
  obtain ⟨wMac, wMem, wEnt, wBar, wBrk, wOw, wMo, wMk, wCm, wCb, wMt, wLm⟩ := id hWR
  obtain ⟨vMn, vPn, vEn, vBn, vKn, vMk, vEm, vEc, vCb, vBm, vTf, vKl, vMh, vMl, vCu, vCl, vLy⟩ := id hWC
  unfold f_c_cut f_r_cut
  by_cases c1 : f_r_isEntry n p0 = true
  · rw [if_pos c1, if_pos c1]
    by_cases c2 : f_r_in p1 0 2 = true
    · rw [if_pos c2, if_pos c2]
      by_cases c3 : f_r_in L 1 5000 = true
      · rw [if_pos c3, if_pos c3]
        by_cases c4 : sta (nP p0) = 98
        · rw [if_pos c4, if_pos c4]
          obtain ⟨q0, he⟩ := nP_ent (n := n) (by omega) c1
          obtain ⟨q1, hk⟩ := nP_mat c2
          obtain ⟨l1, l2⟩ := (hC _ he).1 (Or.inl c4)
          have hcm := wCm (nP p0)
          by_cases c5 : cm (nP p0) = 5
          · rw [if_neg (show ¬ (cu (nP p0)).length < 5 by omega), if_pos c5]
            dsimp only
            exact core_x h (agI_inr (by decide))
          · rw [if_pos (show (cu (nP p0)).length < 5 by omega), if_neg c5]
            rw [tight_eq (bf := bf) (n1 := 0) (L := L) (p0 := nP p0) vBm hk bar 0 none 0 (fun q _ hq => hF q (by omega)) (fun q hq => by cases hq)]
            unfold f_c_tight
            cases ht : c_tight_L8 bf mt (nI (nP p1)) (L + 3) bar 0 none 0 with
            | none =>
              exact core_x h (agI_inr (show ((2 : Nat), (4 : Int32)) ∈ ([(4, 1), (1, 2), (5, 3), (2, 4)] : List (Nat × Int32)) by decide))
            | some r =>
              have hr : r < bar := tight_lt (qBn := bar) (b := r) ht
              simp only [oE]
              have hcb : ∀ c, c < cn + 1 → fup qcb cn r c < bar := fun c hc => by
                by_cases e : c = cn
                · rw [e, fup_same]
                  exact hr
                · rw [fup_ne e]
                  exact vCb c (by omega)
              have hcu : ∀ e c, c ∈ fup cu (nP p0) (cu (nP p0) ++ [cn]) e → c < cn + 1 := fun e c hc => by
                by_cases en : e = nP p0
                · rw [en, fup_same] at hc
                  rcases List.mem_append.mp hc with hc | hc
                  · exact Nat.lt_succ_of_lt (vCu _ c hc)
                  · rw [List.mem_singleton.mp hc]
                    omega
                · rw [fup_ne en] at hc
                  exact Nat.lt_succ_of_lt (vCu _ c hc)
              have hcl : ∀ e, (fup cu (nP p0) (cu (nP p0) ++ [cn]) e).length ≤ 5 := fun e => by
                by_cases en : e = nP p0
                · rw [en, fup_same, List.length_append]
                  show (cu (nP p0)).length + 1 ≤ 5
                  omega
                · rw [fup_ne en]
                  exact vCl e
              have hcm2 : ∀ e, fup cm (nP p0) (cm (nP p0) + 1) e ≤ 5 := fun e => by
                by_cases en : e = nP p0
                · rw [en, fup_same]
                  omega
                · rw [fup_ne en]
                  exact wCm e
              have hcb2 : ∀ e k, fup cb (nP p0) (fup (cb (nP p0)) (cm (nP p0)) r) e k < 30 := fun e k => by
                by_cases en : e = nP p0
                · rw [en, fup_same]
                  by_cases ek : k = cm (nP p0)
                  · rw [ek, fup_same]
                    omega
                  · rw [fup_ne ek]
                    exact wCb _ _
                · rw [fup_ne en]
                  exact wCb _ _
              refine ⟨⟨rfl, rfl⟩, inv_mk ⟨⟨vMn, vPn, vEn, vBn, vKn, vMk, vEm, vEc, hcb, vBm, vTf, vKl, vMh, vMl, hcu, hcl, vLy⟩, ⟨wMac, wMem, wEnt, wBar, wBrk, wOw, wMo, wMk, hcm2, hcb2, wMt, wLm⟩, hA, hN, hT, hTD, hTz, hd, hEI, hNW, hSt, cut_cut hC he c4 vCu, ?_, ?_, hTar, hDebt, hSh, hPay, hDZ, hKl⟩, by omega, ?_⟩
              · intro e hn
                rw [fup_ne (show e ≠ nP p0 by omega)]
                exact hCz e hn
              · intro b hb
                rw [free_cut he c4]
                by_cases eb : b = r
                · rw [eb, fup_same, if_pos rfl, hF r hr]
                · rw [fup_ne eb, if_neg (fun z => eb z.symm), Int32.sub_zero]
                  exact hF b hb
              · show zn + 2 + (2 * ((cu (nP p0)).map (vR 2)).length + 10) + 310 * wcnt sta n ≤ zn + 310 * wcnt sta n + 3000
                rw [List.length_map]
                omega
        · rw [if_neg c4, if_neg c4]
          dsimp only
          exact core_x h (agI_inr (by decide))
      · rw [if_neg c3, if_neg c3]
        dsimp only
        exact core_x h (agI_inr (by decide))
    · rw [if_neg c2, if_neg c2]
      dsimp only
      exact core_x h (agI_inr (by decide))
  · rw [if_neg c1, if_neg c1]
    dsimp only
    exact core_x h (agI_inr (by decide))
theorem core_await {nb : Nat → Int32} {tf : Nat → Nat} {ln : Nat} {ly : Nat → Ly} {mac : Nat} {mk : Nat → Nat} {su : Nat → Int32} {mh : Nat → List Nat} {mem : Nat} {tk : Nat → Nat → Int32} {po : Nat → Int32} {pp : Nat → Int32} {n : Nat} {ow : Nat → Nat} {mo : Nat → Nat} {dy : Nat → Int32} {st : Nat → Int32} {le : Nat → Int32} {wk : Nat → Int32} {sta : Nat → Int32} {du : Nat → Int32} {cu : Nat → List Nat} {cn : Nat} {qcb : Nat → Nat} {qcl : Nat → Int32} {bar : Nat} {mt : Nat → Nat} {bl : Nat → Int32} {bf : Nat → Int32} {brk : Nat} {kl : Nat → Nat} {ks : Nat → Nat → Int32} {day : Int32} {paid : Nat → Int64} {nd : Nat → Nat → Bool} {cm : Nat → Nat} {cb : Nat → Nat → Nat} {cl : Nat → Nat → Int32} {Ls : Nat → Nat → Int32} {Lnum : Nat → Nat → Int32} {lm : Nat → Nat} {sh : Nat → Nat → Int32} {pr : Nat → Int32} {G2 : List Ob} {G4 : List Ob} {thr : Int32} {zc zn : Nat} {p0 p1 D S M V : Int32} (h : InvP nb tf ln ly mac mk su mh mem tk po pp n ow mo dy st le wk sta du cu cn qcb qcl bar mt bl bf brk kl ks day paid nd cm cb cl Ls Lnum lm sh) : CoreX (AgI [(0, 1), (1, 2), (2, 3), (5, 4)] ((f_c_await cu day du mo dy (fun e => st e + le e) le ow n st wk mh mk mac su nb tk mem sta zc zn p0 p1 D S M V).1) ((f_r_await day dy n le mac mem mk mo nd ow st sta su tk wk p0 p1 D S M V).2.2.2.2.2.2.2.2.2) ((f_r_await day dy n le mac mem mk mo nd ow st sta su tk wk p0 p1 D S M V).1)) (mkC nb tf ln ly mac mk su mh mem tk po pp ((f_c_await cu day du mo dy (fun e => st e + le e) le ow n st wk mh mk mac su nb tk mem sta zc zn p0 p1 D S M V).2.1) ((f_c_await cu day du mo dy (fun e => st e + le e) le ow n st wk mh mk mac su nb tk mem sta zc zn p0 p1 D S M V).2.2.1) ((f_c_await cu day du mo dy (fun e => st e + le e) le ow n st wk mh mk mac su nb tk mem sta zc zn p0 p1 D S M V).2.2.2.1) ((f_c_await cu day du mo dy (fun e => st e + le e) le ow n st wk mh mk mac su nb tk mem sta zc zn p0 p1 D S M V).2.2.2.2.1) ((f_c_await cu day du mo dy (fun e => st e + le e) le ow n st wk mh mk mac su nb tk mem sta zc zn p0 p1 D S M V).2.2.2.2.2.1) ((f_c_await cu day du mo dy (fun e => st e + le e) le ow n st wk mh mk mac su nb tk mem sta zc zn p0 p1 D S M V).2.2.2.2.2.2.1) ((f_c_await cu day du mo dy (fun e => st e + le e) le ow n st wk mh mk mac su nb tk mem sta zc zn p0 p1 D S M V).2.2.2.2.2.2.2.1) ((f_c_await cu day du mo dy (fun e => st e + le e) le ow n st wk mh mk mac su nb tk mem sta zc zn p0 p1 D S M V).2.2.2.2.2.2.2.2.1) ((f_c_await cu day du mo dy (fun e => st e + le e) le ow n st wk mh mk mac su nb tk mem sta zc zn p0 p1 D S M V).2.2.2.2.2.2.2.2.2.1) ((f_c_await cu day du mo dy (fun e => st e + le e) le ow n st wk mh mk mac su nb tk mem sta zc zn p0 p1 D S M V).2.2.2.2.2.2.2.2.2.2.1) ((f_c_await cu day du mo dy (fun e => st e + le e) le ow n st wk mh mk mac su nb tk mem sta zc zn p0 p1 D S M V).2.2.2.2.2.2.2.2.2.2.2.1) cn qcb qcl bar mt bl bf brk kl ks pr day G2 G4 ([]) ([])) (mkR mk su mac mem tk paid nd day ((f_r_await day dy n le mac mem mk mo nd ow st sta su tk wk p0 p1 D S M V).2.1) ((f_r_await day dy n le mac mem mk mo nd ow st sta su tk wk p0 p1 D S M V).2.2.1) ((f_r_await day dy n le mac mem mk mo nd ow st sta su tk wk p0 p1 D S M V).2.2.2.1) ((f_r_await day dy n le mac mem mk mo nd ow st sta su tk wk p0 p1 D S M V).2.2.2.2.1) ((f_r_await day dy n le mac mem mk mo nd ow st sta su tk wk p0 p1 D S M V).2.2.2.2.2.1) ((f_r_await day dy n le mac mem mk mo nd ow st sta su tk wk p0 p1 D S M V).2.2.2.2.2.2.1) ((f_r_await day dy n le mac mem mk mo nd ow st sta su tk wk p0 p1 D S M V).2.2.2.2.2.2.2.1) du cm cb cl ((f_r_await day dy n le mac mem mk mo nd ow st sta su tk wk p0 p1 D S M V).2.2.2.2.2.2.2.2.1) mt bl bar pr Ls Lnum lm sh brk ((f_r_await day dy n le mac mem mk mo nd ow st sta su tk wk p0 p1 D S M V).2.2.2.2.2.2.2.2.2)) (wcnt sta n) zc ((f_c_await cu day du mo dy (fun e => st e + le e) le ow n st wk mh mk mac su nb tk mem sta zc zn p0 p1 D S M V).2.2.2.2.2.2.2.2.2.2.2.2.1) zn ((f_c_await cu day du mo dy (fun e => st e + le e) le ow n st wk mh mk mac su nb tk mem sta zc zn p0 p1 D S M V).2.2.2.2.2.2.2.2.2.2.2.2.2) := by
  obtain ⟨hWC, hWR, hA, hN, hT, hTD, hTz, hd, hEI, hNW, hSt, hC, hCz, hF, hTar, hDebt, hSh, hPay, hDZ, hKl⟩ := id h
  obtain ⟨hE, hU, hSep, hH, hM, hD, hLv⟩ := id hEI
  obtain ⟨wMac, wMem, wEnt, wBar, wBrk, wOw, wMo, wMk, wCm, wCb, wMt, wLm⟩ := id hWR
  obtain ⟨vMn, vPn, vEn, vBn, vKn, vMk, vEm, vEc, vCb, vBm, vTf, vKl, vMh, vMl, vCu, vCl, vLy⟩ := id hWC
  unfold f_c_await f_r_await
  rw [lacks_eq]
  by_cases c1 : f_r_isMember mem p0 = true
  · rw [if_pos c1, if_pos c1]
    by_cases c2 : f_r_isMachine mac p1 = true
    · rw [if_pos c2, if_pos c2]
      by_cases c3 : timeOk day D S M V = true
      · rw [if_pos c3, if_pos c3]
        obtain ⟨q0, hm0⟩ := nP_mem (n := mem) (by omega) c1
        obtain ⟨q1, hm1⟩ := nP_mac (n := mac) (by omega) c2
        obtain ⟨t1, t2, t3, t4, t5, t6⟩ := time_facts hd c3
        have hdn : ∀ e, e < n → sta e = 100 → ¬ dy e = D := fun e he hs z => by
          have := (hD e he).2 hs
          rw [z] at this
          omega
        have hlet := letter_o (mk := mk) (nd := nd) (tk := tk) (ow := ow) (m := nP p0) (mc := nP p1) (D := D) (S := S) (M := M) (V := V) hE hSep hU t3 t4 t6
        rw [if_neg (show ¬ (0 : Int32) < 0 by decide), letter_eq hN hT hE hSep hU hH (wMk _) (by omega) (by omega) hdn t3 t4 t6]
        
        by_cases c4 : f_r_letter dy n le mk mo nd ow st sta su tk wk (nP p0) (nP p1) D S M V = 105
        · rw [if_pos c4, if_pos c4]
          dsimp only
          exact core_x h (agI_inr (by decide))
        · rw [if_neg c4, if_neg c4]
          by_cases c5 : f_r_letter dy n le mk mo nd ow st sta su tk wk (nP p0) (nP p1) D S M V = 111
          · rw [if_pos c5, if_pos c5]
            dsimp only
            exact core_x h (agI_inr (by decide))
          · rw [if_neg c5, if_neg c5]
            by_cases c6 : n < 150
            · rw [if_pos c6, if_neg (show ¬ n = 150 by omega)]
              unfold f_r_adds
              dsimp only
              rw [ee_fup, fup_self (hDZ n (Or.inl (Nat.le_refl _)))]
              have hEm : ∀ e, e < n + 1 → fup ow n (nP p0) e < mem := fun e he => by
                by_cases en : e = n
                · rw [en, fup_same]
                  exact hm0
                · rw [fup_ne en]
                  exact vEm e (by omega)
              have hEc : ∀ e, e < n + 1 → fup mo n (nP p1) e < mac := fun e he => by
                by_cases en : e = n
                · rw [en, fup_same]
                  exact hm1
                · rw [fup_ne en]
                  exact vEc e (by omega)
              have hOw : ∀ e, fup ow n (nP p0) e < 10 := fun e => by
                by_cases en : e = n
                · rw [en, fup_same]
                  omega
                · rw [fup_ne en]
                  exact wOw e
              have hMo : ∀ e, fup mo n (nP p1) e < 6 := fun e => by
                by_cases en : e = n
                · rw [en, fup_same]
                  omega
                · rw [fup_ne en]
                  exact wMo e
              have hCu : ∀ e c, c ∈ fup cu n [] e → c < cn := fun e c hc => by
                by_cases en : e = n
                · rw [en, fup_same] at hc
                  cases hc
                · rw [fup_ne en] at hc
                  exact vCu e c hc
              have hCl : ∀ e, (fup cu n [] e).length ≤ 5 := fun e => by
                by_cases en : e = n
                · rw [en, fup_same]
                  exact Nat.zero_le _
                · rw [fup_ne en]
                  exact vCl e
              have hSt2 : ∀ s : Int32, chr s → ∀ e, chr (fup sta n s e) := fun s hs e => by
                by_cases en : e = n
                · rw [en, fup_same]
                  exact hs
                · rw [fup_ne en]
                  exact hSt e
              have hDZ2 : ∀ s e, n + 1 ≤ e ∨ fup sta n s e = 119 ∨ fup sta n s e = 98 → du e = 0 := fun s e he => by
                by_cases en : n ≤ e
                · exact hDZ e (Or.inl en)
                · rw [fup_ne (show e ≠ n by omega)] at he
                  rcases he with he | he
                  · omega
                  · exact hDZ e (Or.inr he)
              have hWn : ∀ s : Int32, wcnt (fup sta n s) (n + 1) = wcnt sta n + if s = 119 then 1 else 0 := fun s => by
                show wcnt (fup sta n s) n + (if fup sta n s n = 119 then 1 else 0) = _
                rw [wcnt_out n (Nat.le_refl _), fup_same]
              refine ⟨⟨rfl, rfl⟩, inv_mk ⟨⟨vMn, vPn, by omega, vBn, vKn, vMk, hEm, hEc, vCb, vBm, vTf, vKl, fun m e he => Nat.lt_succ_of_lt (vMh m e he), vMl, hCu, hCl, vLy⟩, ⟨wMac, wMem, by omega, wBar, wBrk, hOw, hMo, wMk, wCm, wCb, wMt, wLm⟩, hA, hN, hT, hTD, hTz, hd, ei_add hd hEI t1 t2 t3 t4 t6, none_add hNW (fun z => c5 (hlet.mpr z)), hSt2 119 (by unfold chr; decide), cut_add hC (hCz n (Nat.le_refl _)), fun e he => hCz e (by omega), fun b hb => by rw [bars_add (hCz n (Nat.le_refl _))]; exact hF b hb, hTar, debt_add hDebt (hDZ n (Or.inl (Nat.le_refl _))), hSh, hPay, hDZ2 119, hKl⟩, by omega, ?_⟩
              show zn + 10 + 3 + (2 * ((List.range n).map (vR 3)).length + 10) + 310 * wcnt (fup sta n 119) (n + 1) ≤ zn + 310 * wcnt sta n + 3000
              rw [cost_len, hWn, if_pos rfl]
              omega
            · rw [if_neg c6, if_pos (show n = 150 by omega)]
              dsimp only
              exact core_x h (agI_inr (by decide))
      · rw [if_neg c3, if_neg c3]
        rw [if_pos (by decide)]
        dsimp only
        exact core_x h (agI_inr (by decide))
    · rw [if_neg c2, if_neg c2]
      rw [if_pos (by decide)]
      dsimp only
      exact core_x h (agI_inr (by decide))
  · rw [if_neg c1, if_neg c1]
    rw [if_pos (by decide)]
    dsimp only
    exact core_x h (agI_inr (by decide))
theorem core_book {nb : Nat → Int32} {tf : Nat → Nat} {ln : Nat} {ly : Nat → Ly} {mac : Nat} {mk : Nat → Nat} {su : Nat → Int32} {mh : Nat → List Nat} {mem : Nat} {tk : Nat → Nat → Int32} {po : Nat → Int32} {pp : Nat → Int32} {n : Nat} {ow : Nat → Nat} {mo : Nat → Nat} {dy : Nat → Int32} {st : Nat → Int32} {le : Nat → Int32} {wk : Nat → Int32} {sta : Nat → Int32} {du : Nat → Int32} {cu : Nat → List Nat} {cn : Nat} {qcb : Nat → Nat} {qcl : Nat → Int32} {bar : Nat} {mt : Nat → Nat} {bl : Nat → Int32} {bf : Nat → Int32} {brk : Nat} {kl : Nat → Nat} {ks : Nat → Nat → Int32} {day : Int32} {paid : Nat → Int64} {nd : Nat → Nat → Bool} {cm : Nat → Nat} {cb : Nat → Nat → Nat} {cl : Nat → Nat → Int32} {Ls : Nat → Nat → Int32} {Lnum : Nat → Nat → Int32} {lm : Nat → Nat} {sh : Nat → Nat → Int32} {pr : Nat → Int32} {G2 : List Ob} {G4 : List Ob} {thr : Int32} {zc zn : Nat} {p0 p1 D S M V : Int32} (h : InvP nb tf ln ly mac mk su mh mem tk po pp n ow mo dy st le wk sta du cu cn qcb qcl bar mt bl bf brk kl ks day paid nd cm cb cl Ls Lnum lm sh) : CoreX (AgI [(0, 1), (1, 2), (2, 3), (3, 4), (4, 5), (5, 6)] ((f_c_book cu day du mo dy (fun e => st e + le e) le ow n st wk mh mk mac su nb tk mem sta zc zn p0 p1 D S M V).1) ((f_r_book day dy n le mac mem mk mo nd ow st sta su tk wk p0 p1 D S M V).2.2.2.2.2.2.2.2.2) ((f_r_book day dy n le mac mem mk mo nd ow st sta su tk wk p0 p1 D S M V).1)) (mkC nb tf ln ly mac mk su ((f_c_book cu day du mo dy (fun e => st e + le e) le ow n st wk mh mk mac su nb tk mem sta zc zn p0 p1 D S M V).2.1) mem tk po pp ((f_c_book cu day du mo dy (fun e => st e + le e) le ow n st wk mh mk mac su nb tk mem sta zc zn p0 p1 D S M V).2.2.1) ((f_c_book cu day du mo dy (fun e => st e + le e) le ow n st wk mh mk mac su nb tk mem sta zc zn p0 p1 D S M V).2.2.2.1) ((f_c_book cu day du mo dy (fun e => st e + le e) le ow n st wk mh mk mac su nb tk mem sta zc zn p0 p1 D S M V).2.2.2.2.1) ((f_c_book cu day du mo dy (fun e => st e + le e) le ow n st wk mh mk mac su nb tk mem sta zc zn p0 p1 D S M V).2.2.2.2.2.1) ((f_c_book cu day du mo dy (fun e => st e + le e) le ow n st wk mh mk mac su nb tk mem sta zc zn p0 p1 D S M V).2.2.2.2.2.2.1) ((f_c_book cu day du mo dy (fun e => st e + le e) le ow n st wk mh mk mac su nb tk mem sta zc zn p0 p1 D S M V).2.2.2.2.2.2.2.1) ((f_c_book cu day du mo dy (fun e => st e + le e) le ow n st wk mh mk mac su nb tk mem sta zc zn p0 p1 D S M V).2.2.2.2.2.2.2.2.1) ((f_c_book cu day du mo dy (fun e => st e + le e) le ow n st wk mh mk mac su nb tk mem sta zc zn p0 p1 D S M V).2.2.2.2.2.2.2.2.2.1) ((f_c_book cu day du mo dy (fun e => st e + le e) le ow n st wk mh mk mac su nb tk mem sta zc zn p0 p1 D S M V).2.2.2.2.2.2.2.2.2.2.1) ((f_c_book cu day du mo dy (fun e => st e + le e) le ow n st wk mh mk mac su nb tk mem sta zc zn p0 p1 D S M V).2.2.2.2.2.2.2.2.2.2.2.1) ((f_c_book cu day du mo dy (fun e => st e + le e) le ow n st wk mh mk mac su nb tk mem sta zc zn p0 p1 D S M V).2.2.2.2.2.2.2.2.2.2.2.2.1) cn qcb qcl bar mt bl bf brk kl ks pr day G2 G4 ([]) ([])) (mkR mk su mac mem tk paid nd day ((f_r_book day dy n le mac mem mk mo nd ow st sta su tk wk p0 p1 D S M V).2.1) ((f_r_book day dy n le mac mem mk mo nd ow st sta su tk wk p0 p1 D S M V).2.2.1) ((f_r_book day dy n le mac mem mk mo nd ow st sta su tk wk p0 p1 D S M V).2.2.2.1) ((f_r_book day dy n le mac mem mk mo nd ow st sta su tk wk p0 p1 D S M V).2.2.2.2.1) ((f_r_book day dy n le mac mem mk mo nd ow st sta su tk wk p0 p1 D S M V).2.2.2.2.2.1) ((f_r_book day dy n le mac mem mk mo nd ow st sta su tk wk p0 p1 D S M V).2.2.2.2.2.2.1) ((f_r_book day dy n le mac mem mk mo nd ow st sta su tk wk p0 p1 D S M V).2.2.2.2.2.2.2.1) du cm cb cl ((f_r_book day dy n le mac mem mk mo nd ow st sta su tk wk p0 p1 D S M V).2.2.2.2.2.2.2.2.1) mt bl bar pr Ls Lnum lm sh brk ((f_r_book day dy n le mac mem mk mo nd ow st sta su tk wk p0 p1 D S M V).2.2.2.2.2.2.2.2.2)) (wcnt sta n) zc ((f_c_book cu day du mo dy (fun e => st e + le e) le ow n st wk mh mk mac su nb tk mem sta zc zn p0 p1 D S M V).2.2.2.2.2.2.2.2.2.2.2.2.2.1) zn ((f_c_book cu day du mo dy (fun e => st e + le e) le ow n st wk mh mk mac su nb tk mem sta zc zn p0 p1 D S M V).2.2.2.2.2.2.2.2.2.2.2.2.2.2) := by
  obtain ⟨hWC, hWR, hA, hN, hT, hTD, hTz, hd, hEI, hNW, hSt, hC, hCz, hF, hTar, hDebt, hSh, hPay, hDZ, hKl⟩ := id h
  obtain ⟨hE, hU, hSep, hH, hM, hD, hLv⟩ := id hEI
  obtain ⟨wMac, wMem, wEnt, wBar, wBrk, wOw, wMo, wMk, wCm, wCb, wMt, wLm⟩ := id hWR
  obtain ⟨vMn, vPn, vEn, vBn, vKn, vMk, vEm, vEc, vCb, vBm, vTf, vKl, vMh, vMl, vCu, vCl, vLy⟩ := id hWC
  unfold f_c_book f_r_book
  rw [lacks_eq]
  by_cases c1 : f_r_isMember mem p0 = true
  · rw [if_pos c1, if_pos c1]
    by_cases c2 : f_r_isMachine mac p1 = true
    · rw [if_pos c2, if_pos c2]
      by_cases c3 : timeOk day D S M V = true
      · rw [if_pos c3, if_pos c3]
        obtain ⟨q0, hm0⟩ := nP_mem (n := mem) (by omega) c1
        obtain ⟨q1, hm1⟩ := nP_mac (n := mac) (by omega) c2
        obtain ⟨t1, t2, t3, t4, t5, t6⟩ := time_facts hd c3
        have hdn : ∀ e, e < n → sta e = 100 → ¬ dy e = D := fun e he hs z => by
          have := (hD e he).2 hs
          rw [z] at this
          omega
        have hlet := letter_o (mk := mk) (nd := nd) (tk := tk) (ow := ow) (m := nP p0) (mc := nP p1) (D := D) (S := S) (M := M) (V := V) hE hSep hU t3 t4 t6
        rw [if_neg (show ¬ (0 : Int32) < 0 by decide), letter_eq hN hT hE hSep hU hH (wMk _) (by omega) (by omega) hdn t3 t4 t6]
        
        by_cases c4 : f_r_letter dy n le mk mo nd ow st sta su tk wk (nP p0) (nP p1) D S M V = 105
        · rw [if_pos c4, if_pos c4]
          dsimp only
          exact core_x h (agI_inr (by decide))
        · rw [if_neg c4, if_neg c4]
          by_cases c5 : f_r_letter dy n le mk mo nd ow st sta su tk wk (nP p0) (nP p1) D S M V = 109
          · rw [if_pos c5, if_pos c5]
            dsimp only
            exact core_x h (agI_inr (by decide))
          · rw [if_neg c5, if_neg c5]
            by_cases c7 : f_r_letter dy n le mk mo nd ow st sta su tk wk (nP p0) (nP p1) D S M V = 116
            · rw [if_pos c7, if_pos c7]
              dsimp only
              exact core_x h (agI_inr (by decide))
            · rw [if_neg c7, if_neg c7]
              by_cases c6 : n < 150
              · rw [if_pos c6, if_neg (show ¬ n = 150 by omega)]
                have c8 : f_r_letter dy n le mk mo nd ow st sta su tk wk (nP p0) (nP p1) D S M V = 111 := by
                  clear hlet
                  revert c4 c5 c7
                  unfold f_r_letter
                  cases f_r_liveFor mk nd tk (nP p0) (nP p1) D <;> cases f_r_isBusy dy n le ow st sta (nP p0) D S M <;> cases f_r_isFree dy n le mo st sta su wk (nP p1) D S M V <;> simp
                obtain ⟨l1, l2, l3⟩ := hlet.mp c8
                have hAd := ei_add (m := nP p0) (c := nP p1) (V := V) hd hEI t1 t2 t3 t4 t6
                have hB := ei_book (e := n) hAd (Nat.lt_succ_self n) fup_same (by rw [fup_same, fup_same, fup_same]; exact l1) (by rw [busy_add (by decide), fup_same, fup_same, fup_same, fup_same]; exact l2) (by rw [free_add (by decide), fup_same, fup_same, fup_same, fup_same, fup_same]; exact l3)
                rw [fup_fup] at hB
                have hW2 := none_book (m := nP p0) (c := nP p1) (D := D) (S := S) (M := M) (V := V) hNW
                unfold f_r_adds f_c_bookW
                dsimp only
                rw [ee_fup, fup_self (hDZ n (Or.inl (Nat.le_refl _)))]
                have hidle := fun (zc zn : Nat) => book_idle (nb := nb) (G := 150) (jj := 0) (zc := zc) (zn := zn) hN hT vMk hd.1 hB hW2
                have hmk : ∀ zc zn, f_c_makeBooked (fup mo n (nP p1)) (fup dy n D) (fup st n S) mh (fup sta n 119) zc zn n = (fup mh (fup mo n (nP p1) n) ((mh (fup mo n (nP p1) n)).insertIdx (placeL (fup dy n D) (fup st n S) (fup dy n D n) (fup st n S n) (mh (fup mo n (nP p1) n))) n), fup sta n 98, zc + 1, zn + (2 * ((mh (fup mo n (nP p1) n)).map (vR 3)).length + 10)) := fun zc zn => by
                  unfold f_c_makeBooked f_c_hold f_c_placeOf
                  rw [fup_fup]
                rw [hmk]
                dsimp only
                rw [hidle]
                dsimp only
                have hEm : ∀ e, e < n + 1 → fup ow n (nP p0) e < mem := fun e he => by
                  by_cases en : e = n
                  · rw [en, fup_same]
                    exact hm0
                  · rw [fup_ne en]
                    exact vEm e (by omega)
                have hEc : ∀ e, e < n + 1 → fup mo n (nP p1) e < mac := fun e he => by
                  by_cases en : e = n
                  · rw [en, fup_same]
                    exact hm1
                  · rw [fup_ne en]
                    exact vEc e (by omega)
                have hOw : ∀ e, fup ow n (nP p0) e < 10 := fun e => by
                  by_cases en : e = n
                  · rw [en, fup_same]
                    omega
                  · rw [fup_ne en]
                    exact wOw e
                have hMo : ∀ e, fup mo n (nP p1) e < 6 := fun e => by
                  by_cases en : e = n
                  · rw [en, fup_same]
                    omega
                  · rw [fup_ne en]
                    exact wMo e
                have hCu : ∀ e c, c ∈ fup cu n [] e → c < cn := fun e c hc => by
                  by_cases en : e = n
                  · rw [en, fup_same] at hc
                    cases hc
                  · rw [fup_ne en] at hc
                    exact vCu e c hc
                have hCl : ∀ e, (fup cu n [] e).length ≤ 5 := fun e => by
                  by_cases en : e = n
                  · rw [en, fup_same]
                    exact Nat.zero_le _
                  · rw [fup_ne en]
                    exact vCl e
                have hSt2 : ∀ s : Int32, chr s → ∀ e, chr (fup sta n s e) := fun s hs e => by
                  by_cases en : e = n
                  · rw [en, fup_same]
                    exact hs
                  · rw [fup_ne en]
                    exact hSt e
                have hDZ2 : ∀ s e, n + 1 ≤ e ∨ fup sta n s e = 119 ∨ fup sta n s e = 98 → du e = 0 := fun s e he => by
                  by_cases en : n ≤ e
                  · exact hDZ e (Or.inl en)
                  · rw [fup_ne (show e ≠ n by omega)] at he
                    rcases he with he | he
                    · omega
                    · exact hDZ e (Or.inr he)
                have hWn : ∀ s : Int32, wcnt (fup sta n s) (n + 1) = wcnt sta n + if s = 119 then 1 else 0 := fun s => by
                  show wcnt (fup sta n s) n + (if fup sta n s n = 119 then 1 else 0) = _
                  rw [wcnt_out n (Nat.le_refl _), fup_same]
                have hHB := hB.2.2.2.1
                refine ⟨⟨rfl, rfl⟩, inv_mk ⟨⟨vMn, vPn, by omega, vBn, vKn, vMk, hEm, hEc, vCb, vBm, vTf, vKl, fun m e he => (((hHB m).2 e).mp he).1, fun m => Nat.le_trans (held_len hHB m).2 (by omega), hCu, hCl, vLy⟩, ⟨wMac, wMem, by omega, wBar, wBrk, hOw, hMo, wMk, wCm, wCb, wMt, wLm⟩, hA, hN, hT, hTD, hTz, hd, hB, hW2, hSt2 98 (by unfold chr; decide), cut_add hC (hCz n (Nat.le_refl _)), fun e he => hCz e (by omega), fun b hb => by rw [bars_add (hCz n (Nat.le_refl _))]; exact hF b hb, hTar, debt_add hDebt (hDZ n (Or.inl (Nat.le_refl _))), hSh, hPay, hDZ2 98, hKl⟩, by omega, ?_⟩
                show zn + 10 + 3 + (2 * ((List.range n).map (vR 3)).length + 10) + (2 * ((mh (fup mo n (nP p1) n)).map (vR 3)).length + 10) + 310 * wcnt (fup sta n 98) (n + 1) ≤ zn + 310 * wcnt sta n + 3000
                have hl := (held_len hH (fup mo n (nP p1) n)).2
                rw [cost_len, hWn, if_neg (by decide), List.length_map]
                omega
              · rw [if_neg c6, if_pos (show n = 150 by omega)]
                dsimp only
                exact core_x h (agI_inr (by decide))
      · rw [if_neg c3, if_neg c3]
        rw [if_pos (by decide)]
        dsimp only
        exact core_x h (agI_inr (by decide))
    · rw [if_neg c2, if_neg c2]
      rw [if_pos (by decide)]
      dsimp only
      exact core_x h (agI_inr (by decide))
  · rw [if_neg c1, if_neg c1]
    rw [if_pos (by decide)]
    dsimp only
    exact core_x h (agI_inr (by decide))
