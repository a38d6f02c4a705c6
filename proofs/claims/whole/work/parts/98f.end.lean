/-! the calls that change entries (statements by gen98f.py) -/
section FG
variable {nb : Nat → Int32} {tf : Nat → Nat} {ln : Nat} {ly : Nat → Ly} {mac : Nat} {mk : Nat → Nat} {su : Nat → Int32} {mh : Nat → List Nat} {mem : Nat} {tk : Nat → Nat → Int32} {po : Nat → Int32} {pp : Nat → Int32} {n : Nat} {ow : Nat → Nat} {mo : Nat → Nat} {dy : Nat → Int32} {st : Nat → Int32} {le : Nat → Int32} {wk : Nat → Int32} {sta : Nat → Int32} {du : Nat → Int32} {cu : Nat → List Nat} {cn : Nat} {qcb : Nat → Nat} {qcl : Nat → Int32} {bar : Nat} {mt : Nat → Nat} {bl : Nat → Int32} {bf : Nat → Int32} {brk : Nat} {kl : Nat → Nat} {ks : Nat → Nat → Int32} {day : Int32} {paid : Nat → Int64} {nd : Nat → Nat → Bool} {cm : Nat → Nat} {cb : Nat → Nat → Nat} {cl : Nat → Nat → Int32} {Ls : Nat → Nat → Int32} {Lnum : Nat → Nat → Int32} {lm : Nat → Nat} {sh : Nat → Nat → Int32} {pr : Nat → Int32} {G2 : List Ob} {G4 : List Ob} {thr : Int32} {x : Int32}
/-- the day's end: done and lapsed entries -/
theorem cutPrice_s {e : Nat} : ∀ k j s, c_cutPrice_L4 mt qcb qcl cu pr e k j s = s + sI (fun q => (((qcl ((cu e).getD q 0)) * (f_c_priceOf pr (nI (mt (qcb ((cu e).getD q 0)))))) + 99) / 100) k j
  | 0, j, s => by
    rw [c_cutPrice_L4, sI]
    exact (Int32.add_zero _).symm
  | k + 1, j, s => by rw [c_cutPrice_L4, cutPrice_s k (j + 1), sI, Int32.add_assoc]
theorem l101_s {e : Nat} : ∀ k j (du : Nat → Int32), r_endDay_L101 cb cl mt pr e k j du = fup du e (du e + sI (fun q => (((cl e q) * (pr (mt (cb e q)))) + 99) / 100) k j)
  | 0, j, du => by
    rw [r_endDay_L101, sI]
    exact (fup_self (Int32.add_zero _).symm).symm
  | k + 1, j, du => by rw [r_endDay_L101, l101_s k (j + 1), fup_fup, fup_same, sI, Int32.add_assoc]
theorem due_eq (hC : CutOk n sta cu qcb qcl cm cb cl) (hmt : ∀ b, mt b < 3) {e : Nat} (he : e < n) (hs : sta e = 98) (y : Int32) : r_endDay_L101 cb cl mt pr e (cm e) 0 (fup du e y) = fup du e (y + f_c_cutPrice mt qcb qcl cu pr e) := by
  obtain ⟨l1, l2⟩ := (hC e he).1 (Or.inl hs)
  rw [l101_s, fup_fup, fup_same]
  unfold f_c_cutPrice
  rw [cutPrice_s, Int32.zero_add, l1]
  congr 2
  refine sI_congr _ _ (fun q _ hq => ?_)
  obtain ⟨m1, m2⟩ := l2 q (by omega)
  rw [m1, m2, price_eq (hmt _)]
theorem end_loop {sta0 du0 : Nat → Int32} (hE : EOk n dy st le) (hC : CutOk n sta0 cu qcb qcl cm cb cl) (hmt : ∀ b, mt b < 3) (hTar : TarOk ly tf Ls Lnum lm) (hk : ∀ m, mk m < 4) (hlm : ∀ k, 1 ≤ lm k ∧ lm k ≤ 6) (h0 : ∀ e, sta0 e = 98 → du0 e = 0) : ∀ (k j : Nat) (ct : Int32) (po sta du : Nat → Int32) (G5 : List Ob) (c z : Nat), j + k = n → (∀ e, j ≤ e → sta e = sta0 e ∧ du e = du0 e) →
    (c_endDay_L24 mt qcb qcl cu day mo dy le ow ly mk pr tf k j ct po sta du).1 = (r_endDay_L32 cb cl cm day dy le lm Lnum Ls mk mo mt pr k j ct sta du G5 c z).1 ∧
    (c_endDay_L24 mt qcb qcl cu day mo dy le ow ly mk pr tf k j ct po sta du).2.2.1 = (r_endDay_L32 cb cl cm day dy le lm Lnum Ls mk mo mt pr k j ct sta du G5 c z).2.1 ∧
    (c_endDay_L24 mt qcb qcl cu day mo dy le ow ly mk pr tf k j ct po sta du).2.2.2 = (r_endDay_L32 cb cl cm day dy le lm Lnum Ls mk mo mt pr k j ct sta du G5 c z).2.2.1 ∧
    (DebtOk mem n brk ow du po sh → DebtOk mem n brk ow (r_endDay_L32 cb cl cm day dy le lm Lnum Ls mk mo mt pr k j ct sta du G5 c z).2.2.1 (c_endDay_L24 mt qcb qcl cu day mo dy le ow ly mk pr tf k j ct po sta du).2.1 sh) ∧
    (∀ e, (e < j ∨ n ≤ e) → (r_endDay_L32 cb cl cm day dy le lm Lnum Ls mk mo mt pr k j ct sta du G5 c z).2.1 e = sta e ∧ (r_endDay_L32 cb cl cm day dy le lm Lnum Ls mk mo mt pr k j ct sta du G5 c z).2.2.1 e = du e) ∧
    (∀ e, j ≤ e → e < n → (dy e = day ∧ sta0 e = 98 ∧ (r_endDay_L32 cb cl cm day dy le lm Lnum Ls mk mo mt pr k j ct sta du G5 c z).2.1 e = 100) ∨ (dy e = day ∧ sta0 e = 119 ∧ (r_endDay_L32 cb cl cm day dy le lm Lnum Ls mk mo mt pr k j ct sta du G5 c z).2.1 e = 120) ∨ (¬ (dy e = day ∧ (sta0 e = 98 ∨ sta0 e = 119)) ∧ (r_endDay_L32 cb cl cm day dy le lm Lnum Ls mk mo mt pr k j ct sta du G5 c z).2.1 e = sta0 e ∧ (r_endDay_L32 cb cl cm day dy le lm Lnum Ls mk mo mt pr k j ct sta du G5 c z).2.2.1 e = du0 e)) ∧
    (r_endDay_L32 cb cl cm day dy le lm Lnum Ls mk mo mt pr k j ct sta du G5 c z).2.2.2.2.1 ≤ c + k ∧ (r_endDay_L32 cb cl cm day dy le lm Lnum Ls mk mo mt pr k j ct sta du G5 c z).2.2.2.2.2 ≤ z + 6 * k := by
  intro k
  induction k with
  | zero =>
    intro j ct po sta du G5 c z hj hs
    exact ⟨rfl, rfl, rfl, fun q => q, fun e _ => ⟨rfl, rfl⟩, fun e h1 h2 => absurd h2 (by omega), Nat.le_refl _, Nat.le_refl _⟩
  | succ k ih =>
    intro j ct po sta du G5 c z hj hs
    have hjn : j < n := by omega
    obtain ⟨s1, s2⟩ := hs j (Nat.le_refl _)
    obtain ⟨g1, g2, g3, g4, g5⟩ := hE j hjn
    -- an entry that stays as it is
    have stay : ¬ (dy j = day ∧ (sta0 j = 98 ∨ sta0 j = 119)) → ((c_endDay_L24 mt qcb qcl cu day mo dy le ow ly mk pr tf k (j + 1) ct po sta du).1 = (r_endDay_L32 cb cl cm day dy le lm Lnum Ls mk mo mt pr k (j + 1) ct sta du G5 c z).1 ∧ (c_endDay_L24 mt qcb qcl cu day mo dy le ow ly mk pr tf k (j + 1) ct po sta du).2.2.1 = (r_endDay_L32 cb cl cm day dy le lm Lnum Ls mk mo mt pr k (j + 1) ct sta du G5 c z).2.1 ∧ (c_endDay_L24 mt qcb qcl cu day mo dy le ow ly mk pr tf k (j + 1) ct po sta du).2.2.2 = (r_endDay_L32 cb cl cm day dy le lm Lnum Ls mk mo mt pr k (j + 1) ct sta du G5 c z).2.2.1 ∧ (DebtOk mem n brk ow du po sh → DebtOk mem n brk ow (r_endDay_L32 cb cl cm day dy le lm Lnum Ls mk mo mt pr k (j + 1) ct sta du G5 c z).2.2.1 (c_endDay_L24 mt qcb qcl cu day mo dy le ow ly mk pr tf k (j + 1) ct po sta du).2.1 sh) ∧ (∀ e, (e < j ∨ n ≤ e) → (r_endDay_L32 cb cl cm day dy le lm Lnum Ls mk mo mt pr k (j + 1) ct sta du G5 c z).2.1 e = sta e ∧ (r_endDay_L32 cb cl cm day dy le lm Lnum Ls mk mo mt pr k (j + 1) ct sta du G5 c z).2.2.1 e = du e) ∧ (∀ e, j ≤ e → e < n → (dy e = day ∧ sta0 e = 98 ∧ (r_endDay_L32 cb cl cm day dy le lm Lnum Ls mk mo mt pr k (j + 1) ct sta du G5 c z).2.1 e = 100) ∨ (dy e = day ∧ sta0 e = 119 ∧ (r_endDay_L32 cb cl cm day dy le lm Lnum Ls mk mo mt pr k (j + 1) ct sta du G5 c z).2.1 e = 120) ∨ (¬ (dy e = day ∧ (sta0 e = 98 ∨ sta0 e = 119)) ∧ (r_endDay_L32 cb cl cm day dy le lm Lnum Ls mk mo mt pr k (j + 1) ct sta du G5 c z).2.1 e = sta0 e ∧ (r_endDay_L32 cb cl cm day dy le lm Lnum Ls mk mo mt pr k (j + 1) ct sta du G5 c z).2.2.1 e = du0 e)) ∧ (r_endDay_L32 cb cl cm day dy le lm Lnum Ls mk mo mt pr k (j + 1) ct sta du G5 c z).2.2.2.2.1 ≤ c + (k + 1) ∧ (r_endDay_L32 cb cl cm day dy le lm Lnum Ls mk mo mt pr k (j + 1) ct sta du G5 c z).2.2.2.2.2 ≤ z + 6 * (k + 1)) := fun hno => by
      obtain ⟨r1, r2, r3, r4, r5, r6, r7, r8⟩ := ih (j + 1) ct po sta du G5 c z (by omega) (fun e he => hs e (by omega))
      refine And.intro r1 (And.intro r2 (And.intro r3 (And.intro r4 (And.intro (fun e he => r5 e (by omega)) (And.intro (fun e h1 h2 => ?_) (And.intro (by omega) (by omega)))))))
      by_cases q : e = j
      · subst q
        obtain ⟨q1, q2⟩ := r5 e (Or.inl (by omega))
        exact Or.inr (Or.inr ⟨hno, q1.trans s1, q2.trans s2⟩)
      · exact r6 e (by omega) h2
    by_cases c1 : dy j = day
    · by_cases c2 : sta j = 98
      · have hcost : f_c_timePrice mo le ly mk tf j = (f_r_cost lm Lnum Ls (mk (mo j)) (le j)).1 := cost_eq hTar (hk _) (hlm _) (by omega) (by omega)
        have hx := due_eq (du := du) (pr := pr) (mt := mt) hC hmt hjn (s1.symm.trans c2) (f_r_cost lm Lnum Ls (mk (mo j)) (le j)).1
        have e1 : c_endDay_L24 mt qcb qcl cu day mo dy le ow ly mk pr tf (k + 1) j ct po sta du = c_endDay_L24 mt qcb qcl cu day mo dy le ow ly mk pr tf k (j + 1) (ct + 1) (fup po (ow j) (po (ow j) + ((f_r_cost lm Lnum Ls (mk (mo j)) (le j)).1 + f_c_cutPrice mt qcb qcl cu pr j))) (fup sta j 100) (fup du j ((f_r_cost lm Lnum Ls (mk (mo j)) (le j)).1 + f_c_cutPrice mt qcb qcl cu pr j)) := by
          rw [c_endDay_L24, if_pos c1, if_pos c2, hcost]
          rfl
        have e2 : r_endDay_L32 cb cl cm day dy le lm Lnum Ls mk mo mt pr (k + 1) j ct sta du G5 c z = r_endDay_L32 cb cl cm day dy le lm Lnum Ls mk mo mt pr k (j + 1) (ct + 1) (fup sta j 100) (fup du j ((f_r_cost lm Lnum Ls (mk (mo j)) (le j)).1 + f_c_cutPrice mt qcb qcl cu pr j)) (G5 ++ [pl 6 (fun k => vI (((f_r_cost lm Lnum Ls (mk (mo j)) (le j)).2) k))]) (c + 1) (z + 6) := by
          rw [r_endDay_L32, if_pos c1, if_pos c2, hx]
        obtain ⟨r1, r2, r3, r4, r5, r6, r7, r8⟩ := ih (j + 1) (ct + 1) (fup po (ow j) (po (ow j) + ((f_r_cost lm Lnum Ls (mk (mo j)) (le j)).1 + f_c_cutPrice mt qcb qcl cu pr j))) (fup sta j 100) (fup du j ((f_r_cost lm Lnum Ls (mk (mo j)) (le j)).1 + f_c_cutPrice mt qcb qcl cu pr j)) (G5 ++ [pl 6 (fun k => vI (((f_r_cost lm Lnum Ls (mk (mo j)) (le j)).2) k))]) (c + 1) (z + 6) (by omega) (fun e he => by
          rw [fup_ne (show e ≠ j by omega), fup_ne (show e ≠ j by omega)]
          exact hs e (by omega))
        rw [e1, e2]
        refine ⟨r1, r2, r3, fun hD => r4 (debt_charge hD hjn (s2.trans (h0 j (s1.symm.trans c2)))), fun e he => ?_, fun e h1 h2 => ?_, by omega, by omega⟩
        · obtain ⟨q1, q2⟩ := r5 e (by omega)
          rw [fup_ne (show e ≠ j by omega)] at q1 q2
          exact ⟨q1, q2⟩
        · by_cases q : e = j
          · subst q
            have q1 := (r5 e (Or.inl (by omega))).1
            rw [fup_same] at q1
            exact Or.inl ⟨c1, s1.symm.trans c2, q1⟩
          · exact r6 e (by omega) h2
      · by_cases c3 : sta j = 119
        · have e1 : c_endDay_L24 mt qcb qcl cu day mo dy le ow ly mk pr tf (k + 1) j ct po sta du = c_endDay_L24 mt qcb qcl cu day mo dy le ow ly mk pr tf k (j + 1) ct po (fup sta j 120) du := by
            rw [c_endDay_L24, if_pos c1, if_neg c2, if_pos c1, if_pos c3]
          have e2 : r_endDay_L32 cb cl cm day dy le lm Lnum Ls mk mo mt pr (k + 1) j ct sta du G5 c z = r_endDay_L32 cb cl cm day dy le lm Lnum Ls mk mo mt pr k (j + 1) ct (fup sta j 120) du G5 c z := by
            rw [r_endDay_L32, if_pos c1, if_neg c2, if_pos c1, if_pos c3]
          obtain ⟨r1, r2, r3, r4, r5, r6, r7, r8⟩ := ih (j + 1) ct po (fup sta j 120) du G5 c z (by omega) (fun e he => by
            rw [fup_ne (show e ≠ j by omega)]
            exact hs e (by omega))
          rw [e1, e2]
          refine ⟨r1, r2, r3, r4, fun e he => ?_, fun e h1 h2 => ?_, by omega, by omega⟩
          · obtain ⟨q1, q2⟩ := r5 e (by omega)
            rw [fup_ne (show e ≠ j by omega)] at q1
            exact ⟨q1, q2⟩
          · by_cases q : e = j
            · subst q
              have q1 := (r5 e (Or.inl (by omega))).1
              rw [fup_same] at q1
              exact Or.inr (Or.inl ⟨c1, s1.symm.trans c3, q1⟩)
            · exact r6 e (by omega) h2
        · have e1 : c_endDay_L24 mt qcb qcl cu day mo dy le ow ly mk pr tf (k + 1) j ct po sta du = c_endDay_L24 mt qcb qcl cu day mo dy le ow ly mk pr tf k (j + 1) ct po sta du := by
            rw [c_endDay_L24, if_pos c1, if_neg c2, if_pos c1, if_neg c3]
          have e2 : r_endDay_L32 cb cl cm day dy le lm Lnum Ls mk mo mt pr (k + 1) j ct sta du G5 c z = r_endDay_L32 cb cl cm day dy le lm Lnum Ls mk mo mt pr k (j + 1) ct sta du G5 c z := by
            rw [r_endDay_L32, if_pos c1, if_neg c2, if_pos c1, if_neg c3]
          rw [e1, e2]
          exact stay (fun w => by rw [← s1] at w; exact w.2.elim c2 c3)
    · have e1 : c_endDay_L24 mt qcb qcl cu day mo dy le ow ly mk pr tf (k + 1) j ct po sta du = c_endDay_L24 mt qcb qcl cu day mo dy le ow ly mk pr tf k (j + 1) ct po sta du := by
        rw [c_endDay_L24, if_neg c1, if_neg c1]
      have e2 : r_endDay_L32 cb cl cm day dy le lm Lnum Ls mk mo mt pr (k + 1) j ct sta du G5 c z = r_endDay_L32 cb cl cm day dy le lm Lnum Ls mk mo mt pr k (j + 1) ct sta du G5 c z := by
        rw [r_endDay_L32, if_neg c1, if_neg c1]
      rw [e1, e2]
      exact stay (fun w => c1 w.1)
theorem ei_day {sta' : Nat → Int32} (hd : 0 ≤ day.toInt ∧ day.toInt ≤ 900) (hEI : EI n ow mo mk dy st le wk su nd tk day mh sta) (h : ∀ e, e < n → (dy e = day ∧ sta e = 98 ∧ sta' e = 100) ∨ (dy e = day ∧ sta e = 119 ∧ sta' e = 120) ∨ (¬ (dy e = day ∧ (sta e = 98 ∨ sta e = 119)) ∧ sta' e = sta e)) : EI n ow mo mk dy st le wk su nd tk (day + 1) mh sta' := by
  obtain ⟨hE, hU, hSep, hH, hM, hD, hLv⟩ := hEI
  have e1 : (1 : Int32).toInt = 1 := rfl
  have ed : (day + 1).toInt = day.toInt + 1 := by rw [i_add (by omega) (by omega), e1]
  have ha : ∀ e, e < n → (act (sta' e) ↔ act (sta e)) := fun e he => by
    rcases h e he with ⟨-, q1, q2⟩ | ⟨-, q1, q2⟩ | ⟨-, q⟩
    · rw [q1, q2]
      exact ⟨fun _ => Or.inl rfl, fun _ => Or.inr rfl⟩
    · rw [q1, q2]
      exact ⟨fun z => absurd z (by unfold act; decide), fun z => absurd z (by unfold act; decide)⟩
    · rw [q]
  have hb : ∀ e, e < n → sta' e = 98 → sta e = 98 := fun e he hs => by
    rcases h e he with ⟨-, q1, q2⟩ | ⟨-, q1, q2⟩ | ⟨-, q⟩
    · rw [q2] at hs
      exact absurd hs (by decide)
    · rw [q2] at hs
      exact absurd hs (by decide)
    · rw [← q]
      exact hs
  refine ⟨hE, hU, fun a b h1 h2 hne aa ab hm hy => hSep a b h1 h2 hne ((ha a h1).mp aa) ((ha b h2).mp ab) hm hy, fun m => ⟨(hH m).1, fun e => ?_⟩, fun a b h1 h2 hne aa ab hm hy => hM a b h1 h2 hne (hb a h1 aa) (hb b h2 ab) hm hy, fun e he => ?_, fun e he hs => hLv e he (hb e he hs)⟩
  · rw [(hH m).2]
    exact ⟨fun z => ⟨z.1, z.2.1, (ha e z.1).mpr z.2.2⟩, fun z => ⟨z.1, z.2.1, (ha e z.1).mp z.2.2⟩⟩
  · rw [ed]
    obtain ⟨d1, d2⟩ := hD e he
    rcases h e he with ⟨q0, q1, q2⟩ | ⟨-, q1, q2⟩ | ⟨q0, q⟩
    · rw [q2]
      exact ⟨fun z => z.elim (fun z => absurd z (by decide)) (fun z => absurd z (by decide)), fun _ => by rw [q0]; omega⟩
    · rw [q2]
      exact ⟨fun z => z.elim (fun z => absurd z (by decide)) (fun z => absurd z (by decide)), fun z => absurd z (by decide)⟩
    · rw [q]
      refine ⟨fun z => ?_, fun z => by have := d2 z; omega⟩
      have h1 := d1 z
      have h2 : ¬ dy e = day := fun w => q0 ⟨w, z.symm⟩
      rw [i_eq] at h2
      omega
end FG
theorem core_cancel {nb : Nat → Int32} {tf : Nat → Nat} {ln : Nat} {ly : Nat → Ly} {mac : Nat} {mk : Nat → Nat} {su : Nat → Int32} {mh : Nat → List Nat} {mem : Nat} {tk : Nat → Nat → Int32} {po : Nat → Int32} {pp : Nat → Int32} {n : Nat} {ow : Nat → Nat} {mo : Nat → Nat} {dy : Nat → Int32} {st : Nat → Int32} {le : Nat → Int32} {wk : Nat → Int32} {sta : Nat → Int32} {du : Nat → Int32} {cu : Nat → List Nat} {cn : Nat} {qcb : Nat → Nat} {qcl : Nat → Int32} {bar : Nat} {mt : Nat → Nat} {bl : Nat → Int32} {bf : Nat → Int32} {brk : Nat} {kl : Nat → Nat} {ks : Nat → Nat → Int32} {day : Int32} {paid : Nat → Int64} {nd : Nat → Nat → Bool} {cm : Nat → Nat} {cb : Nat → Nat → Nat} {cl : Nat → Nat → Int32} {Ls : Nat → Nat → Int32} {Lnum : Nat → Nat → Int32} {lm : Nat → Nat} {sh : Nat → Nat → Int32} {pr : Nat → Int32} {G2 : List Ob} {G4 : List Ob} {thr : Int32} {zG5 : List Ob} {rc rn : Nat} {zc zn : Nat} {p0 : Int32} (h : InvP nb tf ln ly mac mk su mh mem tk po pp n ow mo dy st le wk sta du cu cn qcb qcl bar mt bl bf brk kl ks day paid nd cm cb cl Ls Lnum lm sh) : CoreX (AgI [(4, 1), (5, 2)] ((f_c_cancel bf qcb qcl cu day du mo dy (fun e => st e + le e) le ow n st wk ly mh mk su nb tk po sta tf zc zn p0).1) ((f_r_cancel day du dy n le lm Lnum Ls mk mo nd ow st sta su tk wk zG5 rc rn p0).2.2.2.1) ((f_r_cancel day du dy n le lm Lnum Ls mk mo nd ow st sta su tk wk zG5 rc rn p0).1)) (mkC nb tf ln ly mac mk su ((f_c_cancel bf qcb qcl cu day du mo dy (fun e => st e + le e) le ow n st wk ly mh mk su nb tk po sta tf zc zn p0).2.1) mem tk ((f_c_cancel bf qcb qcl cu day du mo dy (fun e => st e + le e) le ow n st wk ly mh mk su nb tk po sta tf zc zn p0).2.2.1) pp n ow mo dy st le (fun e => st e + le e) wk ((f_c_cancel bf qcb qcl cu day du mo dy (fun e => st e + le e) le ow n st wk ly mh mk su nb tk po sta tf zc zn p0).2.2.2.1) ((f_c_cancel bf qcb qcl cu day du mo dy (fun e => st e + le e) le ow n st wk ly mh mk su nb tk po sta tf zc zn p0).2.2.2.2.1) ((f_c_cancel bf qcb qcl cu day du mo dy (fun e => st e + le e) le ow n st wk ly mh mk su nb tk po sta tf zc zn p0).2.2.2.2.2.1) cn qcb qcl bar mt bl ((f_c_cancel bf qcb qcl cu day du mo dy (fun e => st e + le e) le ow n st wk ly mh mk su nb tk po sta tf zc zn p0).2.2.2.2.2.2.1) brk kl ks pr day G2 G4 ([]) ([])) (mkR mk su mac mem tk paid nd day ow mo dy st le wk ((f_r_cancel day du dy n le lm Lnum Ls mk mo nd ow st sta su tk wk zG5 rc rn p0).2.1) ((f_r_cancel day du dy n le lm Lnum Ls mk mo nd ow st sta su tk wk zG5 rc rn p0).2.2.1) cm cb cl n mt bl bar pr Ls Lnum lm sh brk ((f_r_cancel day du dy n le lm Lnum Ls mk mo nd ow st sta su tk wk zG5 rc rn p0).2.2.2.1)) (wcnt sta n) zc ((f_c_cancel bf qcb qcl cu day du mo dy (fun e => st e + le e) le ow n st wk ly mh mk su nb tk po sta tf zc zn p0).2.2.2.2.2.2.2.1) zn ((f_c_cancel bf qcb qcl cu day du mo dy (fun e => st e + le e) le ow n st wk ly mh mk su nb tk po sta tf zc zn p0).2.2.2.2.2.2.2.2) := by
  obtain ⟨hWC, hWR, hA, hN, hT, hTD, hTz, hd, hEI, hNW, hSt, hC, hCz, hF, hTar, hDebt, hSh, hPay, hDZ, hKl⟩ := id h
  obtain ⟨hE, hU, hSep, hH, hM, hD, hLv⟩ := id hEI
  obtain ⟨wMac, wMem, wEnt, wBar, wBrk, wOw, wMo, wMk, wCm, wCb, wMt, wLm⟩ := id hWR
  obtain ⟨vMn, vPn, vEn, vBn, vKn, vMk, vEm, vEc, vCb, vBm, vTf, vKl, vMh, vMl, vCu, vCl, vLy⟩ := id hWC
  have hR : Rest n bar cn sta cu qcb qcl cm cb cl bl bf du := ⟨hC, hF, hSt, hDZ, vCu, vCl⟩
  unfold f_c_cancel f_r_cancel f_c_isOpen f_c_cletter
  by_cases c1 : f_r_isEntry n p0 = true
  · rw [if_pos c1, if_pos c1]
    by_cases c2 : sta (nP p0) = 119
    · have hop : sta (nP p0) = 119 ∨ sta (nP p0) = 98 := Or.inl c2
      obtain ⟨q0, he⟩ := nP_ent (n := n) (by omega) c1
      obtain ⟨hEJ, hLv0⟩ := ei_ej.mp hEI
      have hEJ2 := ej_withdraw (bf := bf) (qcb := qcb) (qcl := qcl) (cu := cu) hEJ he hop
      have hLv2 : LiveB n ow mo mk dy (fup sta (nP p0) 99) nd tk := fun e h1 h2 => by
        have q := (act99 (Or.inl h2)).1
        rw [fup_ne q] at h2
        exact hLv0 e h1 h2
      obtain ⟨b1, b2, b3, b4, b5, b6⟩ := gives_all (nb := nb) hN hT wMk hd.1 (by omega) (ei_ej.mpr ⟨hEJ2, hLv2⟩) zc zn
      have hHB := b2.2.2.2.1
      have hR2 := rest_step (rest_withdraw hR he) b4
      have hG99 : f_r_gives dy n le mk mo nd ow st (fup sta (nP p0) 99) su tk wk (nP p0) = 99 := by
        rcases b4 (nP p0) with q | ⟨-, q, -⟩
        · rw [q, fup_same]
        · rw [fup_same] at q
          exact absurd q (by decide)
      have hwm : wcnt (fup sta (nP p0) 99) n ≤ wcnt sta n := wcnt_mono n (fun e _ h2 => by
        by_cases q : e = nP p0
        · rw [q, fup_same] at h2
          exact absurd h2 (by decide)
        · rw [fup_ne q] at h2
          exact h2)
      have hdu0 : du (nP p0) = 0 := hDZ _ (Or.inr hop)
      rw [if_pos c2, if_pos rfl, if_pos c2, if_neg (show ¬ (119 : Int32) = 104 by decide), if_pos c2, if_pos c2]
      rw [withdraw_eq]
      dsimp only
      rw [fup_self hdu0, b1]
      refine ⟨⟨rfl, rfl⟩, inv_mk ⟨⟨vMn, vPn, vEn, vBn, vKn, vMk, vEm, vEc, vCb, vBm, vTf, vKl, fun m e he => (((hHB m).2 e).mp he).1, fun m => Nat.le_trans (held_len hHB m).2 (by omega), hR2.2.2.2.2.1, hR2.2.2.2.2.2, vLy⟩, hWR, hA, hN, hT, hTD, hTz, hd, b2, b3, hR2.2.2.1, hR2.1, hCz, hR2.2.1, hTar, hDebt, hSh, hPay, hR2.2.2.2.1, hKl⟩, by omega, ?_⟩
      show _ + 310 * wcnt (f_r_gives dy n le mk mo nd ow st (fup sta (nP p0) 99) su tk wk) n ≤ _
      omega
    · by_cases c3 : sta (nP p0) = 98
      · have hop : sta (nP p0) = 119 ∨ sta (nP p0) = 98 := Or.inr c3
        obtain ⟨q0, he⟩ := nP_ent (n := n) (by omega) c1
        obtain ⟨hEJ, hLv0⟩ := ei_ej.mp hEI
        have hEJ2 := ej_withdraw (bf := bf) (qcb := qcb) (qcl := qcl) (cu := cu) hEJ he hop
        have hLv2 : LiveB n ow mo mk dy (fup sta (nP p0) 99) nd tk := fun e h1 h2 => by
          have q := (act99 (Or.inl h2)).1
          rw [fup_ne q] at h2
          exact hLv0 e h1 h2
        obtain ⟨b1, b2, b3, b4, b5, b6⟩ := gives_all (nb := nb) hN hT wMk hd.1 (by omega) (ei_ej.mpr ⟨hEJ2, hLv2⟩) zc zn
        have hHB := b2.2.2.2.1
        have hR2 := rest_step (rest_withdraw hR he) b4
        have hG99 : f_r_gives dy n le mk mo nd ow st (fup sta (nP p0) 99) su tk wk (nP p0) = 99 := by
          rcases b4 (nP p0) with q | ⟨-, q, -⟩
          · rw [q, fup_same]
          · rw [fup_same] at q
            exact absurd q (by decide)
        have hwm : wcnt (fup sta (nP p0) 99) n ≤ wcnt sta n := wcnt_mono n (fun e _ h2 => by
          by_cases q : e = nP p0
          · rw [q, fup_same] at h2
            exact absurd h2 (by decide)
          · rw [fup_ne q] at h2
            exact h2)
        have hdu0 : du (nP p0) = 0 := hDZ _ (Or.inr hop)
        obtain ⟨g1, g2, g3, g4, g5⟩ := hE (nP p0) he
        have hcost : f_c_timePrice mo le ly mk tf (nP p0) = (f_r_cost lm Lnum Ls (mk (mo (nP p0))) (le (nP p0))).1 := cost_eq hTar (wMk _) (wLm _) (by omega) (by omega)
        rw [if_neg c2, if_pos c3, if_pos rfl, if_neg c2, if_neg c2, if_pos c3, if_neg c2]
        by_cases c4 : dy (nP p0) = day
        · rw [if_pos c4, if_pos rfl, if_pos c4]
          rw [withdraw_eq]
          dsimp only
          unfold f_c_charge
          dsimp only
          rw [b1, hcost]
          have hDebt2 := debt_charge (x := (f_r_cost lm Lnum Ls (mk (mo (nP p0))) (le (nP p0))).1 / 2) hDebt he hdu0
          have hDZ2 : ∀ e, n ≤ e ∨ f_r_gives dy n le mk mo nd ow st (fup sta (nP p0) 99) su tk wk e = 119 ∨ f_r_gives dy n le mk mo nd ow st (fup sta (nP p0) 99) su tk wk e = 98 → fup du (nP p0) ((f_r_cost lm Lnum Ls (mk (mo (nP p0))) (le (nP p0))).1 / 2) e = 0 := fun e h1 => by
            have q : e ≠ nP p0 := fun q => by
              rw [q, hG99] at h1
              rcases h1 with h1 | h1 | h1
              · omega
              · exact absurd h1 (by decide)
              · exact absurd h1 (by decide)
            rw [fup_ne q]
            exact hR2.2.2.2.1 e h1
          refine ⟨⟨rfl, rfl⟩, inv_mk ⟨⟨vMn, vPn, vEn, vBn, vKn, vMk, vEm, vEc, vCb, vBm, vTf, vKl, fun m e he => (((hHB m).2 e).mp he).1, fun m => Nat.le_trans (held_len hHB m).2 (by omega), hR2.2.2.2.2.1, hR2.2.2.2.2.2, vLy⟩, hWR, hA, hN, hT, hTD, hTz, hd, b2, b3, hR2.2.2.1, hR2.1, hCz, hR2.2.1, hTar, hDebt2, hSh, hPay, hDZ2, hKl⟩, by omega, ?_⟩
          show _ + 310 * wcnt (f_r_gives dy n le mk mo nd ow st (fup sta (nP p0) 99) su tk wk) n ≤ _
          omega
        · rw [if_neg c4, if_neg (show ¬ (102 : Int32) = 104 by decide), if_neg c4]
          rw [withdraw_eq]
          dsimp only
          rw [fup_self hdu0, b1]
          refine ⟨⟨rfl, rfl⟩, inv_mk ⟨⟨vMn, vPn, vEn, vBn, vKn, vMk, vEm, vEc, vCb, vBm, vTf, vKl, fun m e he => (((hHB m).2 e).mp he).1, fun m => Nat.le_trans (held_len hHB m).2 (by omega), hR2.2.2.2.2.1, hR2.2.2.2.2.2, vLy⟩, hWR, hA, hN, hT, hTD, hTz, hd, b2, b3, hR2.2.2.1, hR2.1, hCz, hR2.2.1, hTar, hDebt, hSh, hPay, hR2.2.2.2.1, hKl⟩, by omega, ?_⟩
          show _ + 310 * wcnt (f_r_gives dy n le mk mo nd ow st (fup sta (nP p0) 99) su tk wk) n ≤ _
          omega
      · rw [if_neg c2, if_neg c3, if_neg (by decide), if_neg c2, if_neg c3]
        dsimp only
        exact core_x h (agI_inr (by decide))
  · rw [if_neg c1, if_neg c1]
    dsimp only
    exact core_x h (agI_inr (by decide))
theorem core_induct {nb : Nat → Int32} {tf : Nat → Nat} {ln : Nat} {ly : Nat → Ly} {mac : Nat} {mk : Nat → Nat} {su : Nat → Int32} {mh : Nat → List Nat} {mem : Nat} {tk : Nat → Nat → Int32} {po : Nat → Int32} {pp : Nat → Int32} {n : Nat} {ow : Nat → Nat} {mo : Nat → Nat} {dy : Nat → Int32} {st : Nat → Int32} {le : Nat → Int32} {wk : Nat → Int32} {sta : Nat → Int32} {du : Nat → Int32} {cu : Nat → List Nat} {cn : Nat} {qcb : Nat → Nat} {qcl : Nat → Int32} {bar : Nat} {mt : Nat → Nat} {bl : Nat → Int32} {bf : Nat → Int32} {brk : Nat} {kl : Nat → Nat} {ks : Nat → Nat → Int32} {day : Int32} {paid : Nat → Int64} {nd : Nat → Nat → Bool} {cm : Nat → Nat} {cb : Nat → Nat → Nat} {cl : Nat → Nat → Int32} {Ls : Nat → Nat → Int32} {Lnum : Nat → Nat → Int32} {lm : Nat → Nat} {sh : Nat → Nat → Int32} {pr : Nat → Int32} {G2 : List Ob} {G4 : List Ob} {thr : Int32} {zc zn : Nat} {p0 p1 : Int32} (h : InvP nb tf ln ly mac mk su mh mem tk po pp n ow mo dy st le wk sta du cu cn qcb qcl bar mt bl bf brk kl ks day paid nd cm cb cl Ls Lnum lm sh) : CoreX (AgI [(0, 1), (1, 2), (2, 3)] ((f_c_induct day mo dy (fun e => st e + le e) le ow n st wk mh mk su nb tk mem sta zc zn p0 p1).1) ((f_r_induct day dy n le mem mk mo nd ow st sta su tk wk p0 p1).2.2.2) ((f_r_induct day dy n le mem mk mo nd ow st sta su tk wk p0 p1).1)) (mkC nb tf ln ly mac mk su ((f_c_induct day mo dy (fun e => st e + le e) le ow n st wk mh mk su nb tk mem sta zc zn p0 p1).2.1) mem ((f_c_induct day mo dy (fun e => st e + le e) le ow n st wk mh mk su nb tk mem sta zc zn p0 p1).2.2.1) po pp n ow mo dy st le (fun e => st e + le e) wk ((f_c_induct day mo dy (fun e => st e + le e) le ow n st wk mh mk su nb tk mem sta zc zn p0 p1).2.2.2.1) du cu cn qcb qcl bar mt bl bf brk kl ks pr day G2 G4 ([]) ([])) (mkR mk su mac mem ((f_r_induct day dy n le mem mk mo nd ow st sta su tk wk p0 p1).2.1) paid nd day ow mo dy st le wk ((f_r_induct day dy n le mem mk mo nd ow st sta su tk wk p0 p1).2.2.1) du cm cb cl n mt bl bar pr Ls Lnum lm sh brk ((f_r_induct day dy n le mem mk mo nd ow st sta su tk wk p0 p1).2.2.2)) (wcnt sta n) zc ((f_c_induct day mo dy (fun e => st e + le e) le ow n st wk mh mk su nb tk mem sta zc zn p0 p1).2.2.2.2.1) zn ((f_c_induct day mo dy (fun e => st e + le e) le ow n st wk mh mk su nb tk mem sta zc zn p0 p1).2.2.2.2.2) := by
  obtain ⟨hWC, hWR, hA, hN, hT, hTD, hTz, hd, hEI, hNW, hSt, hC, hCz, hF, hTar, hDebt, hSh, hPay, hDZ, hKl⟩ := id h
  obtain ⟨hE, hU, hSep, hH, hM, hD, hLv⟩ := id hEI
  obtain ⟨wMac, wMem, wEnt, wBar, wBrk, wOw, wMo, wMk, wCm, wCb, wMt, wLm⟩ := id hWR
  obtain ⟨vMn, vPn, vEn, vBn, vKn, vMk, vEm, vEc, vCb, vBm, vTf, vKl, vMh, vMl, vCu, vCl, vLy⟩ := id hWC
  have hR : Rest n bar cn sta cu qcb qcl cm cb cl bl bf du := ⟨hC, hF, hSt, hDZ, vCu, vCl⟩
  unfold f_c_induct f_r_induct
  by_cases c1 : f_r_isMember mem p0 = true
  · rw [if_pos c1, if_pos c1]
    by_cases c2 : f_r_isKind p1 = true
    · rw [if_pos c2, if_pos c2]
      obtain ⟨q0, hm0⟩ := nP_mem (n := mem) (by omega) c1
      obtain ⟨q1, hk⟩ := nP_kind c2
      have hnl := needsLive_eq (m := nP p0) (kd := nP p1) (D := day) hN hA hT hd.1 (by omega) hk
      obtain ⟨i1, i2⟩ := induct_loop (D := day) (nd := nd) (tk := tk) (m := nP p0) (kd := nP p1) 4 0
      have hi : r_induct_L30 day nd tk (nP p0) (nP p1) 4 0 0 = 0 ↔ f_c_needsLive nb tk (nP p0) (nP p1) day = true := by
        rw [i2, hnl]
        exact ⟨fun z q hq hn => z q (by omega) (by omega) hn, fun z q _ hq hn => z q (by omega) hn⟩
      by_cases c3 : f_c_needsLive nb tk (nP p0) (nP p1) day = true
      · rw [if_pos c3, hi.mpr c3, if_neg (show ¬ (0 : Int32) < 0 by decide)]
        have em1 : (-1 : Int32).toInt = -1 := rfl
        have hT2 : TakOk (fup tk (nP p0) (fup (tk (nP p0)) (nP p1) day)) := fun m k => by
          by_cases em : m = nP p0
          · rw [em, fup_same]
            by_cases ek : k = nP p1
            · rw [ek, fup_same]
              exact Or.inr hd
            · rw [fup_ne ek]
              exact hT _ _
          · rw [fup_ne em]
            exact hT _ _
        have hTD2 : ∀ m k, (fup tk (nP p0) (fup (tk (nP p0)) (nP p1) day) m k).toInt ≤ day.toInt := fun m k => by
          by_cases em : m = nP p0
          · rw [em, fup_same]
            by_cases ek : k = nP p1
            · rw [ek, fup_same]
              exact Int.le_refl _
            · rw [fup_ne ek]
              exact hTD _ _
          · rw [fup_ne em]
            exact hTD _ _
        have hTz2 : ∀ m, mem ≤ m → ∀ k, fup tk (nP p0) (fup (tk (nP p0)) (nP p1) day) m k = 0 := fun m hm k => by
          rw [fup_ne (show m ≠ nP p0 by omega)]
          exact hTz m hm k
        have hEI2 : EI n ow mo mk dy st le wk su nd (fup tk (nP p0) (fup (tk (nP p0)) (nP p1) day)) day mh sta := ⟨hE, hU, hSep, hH, hM, hD, fun e he hs => live_take hT hTD hd ((hD e he).1 (Or.inr hs)) 3 _ (hLv e he hs)⟩
        obtain ⟨b1, b2, b3, b4, b5, b6⟩ := gives_all (nb := nb) hN hT2 wMk hd.1 (by omega) hEI2 zc zn
        have hHB := b2.2.2.2.1
        have hR2 := rest_step hR b4
        unfold f_c_lastTaken f_c_take
        by_cases c4 : tk (nP p0) (nP p1) = -1
        · rw [if_pos c4, if_pos c4]
          dsimp only
          rw [b1]
          refine ⟨⟨rfl, rfl⟩, inv_mk ⟨⟨vMn, vPn, vEn, vBn, vKn, vMk, vEm, vEc, vCb, vBm, vTf, vKl, fun m e he => (((hHB m).2 e).mp he).1, fun m => Nat.le_trans (held_len hHB m).2 (by omega), hR2.2.2.2.2.1, hR2.2.2.2.2.2, vLy⟩, hWR, hA, hN, hT2, hTD2, hTz2, hd, b2, b3, hR2.2.2.1, hR2.1, hCz, hR2.2.1, hTar, hDebt, hSh, hPay, hR2.2.2.2.1, hKl⟩, by omega, ?_⟩
          show _ + 310 * wcnt (f_r_gives dy n le mk mo nd ow st sta su (fup tk (nP p0) (fup (tk (nP p0)) (nP p1) day)) wk) n ≤ _
          omega
        · rw [if_neg c4, if_neg c4]
          dsimp only
          rw [b1]
          refine ⟨⟨rfl, rfl⟩, inv_mk ⟨⟨vMn, vPn, vEn, vBn, vKn, vMk, vEm, vEc, vCb, vBm, vTf, vKl, fun m e he => (((hHB m).2 e).mp he).1, fun m => Nat.le_trans (held_len hHB m).2 (by omega), hR2.2.2.2.2.1, hR2.2.2.2.2.2, vLy⟩, hWR, hA, hN, hT2, hTD2, hTz2, hd, b2, b3, hR2.2.2.1, hR2.1, hCz, hR2.2.1, hTar, hDebt, hSh, hPay, hR2.2.2.2.1, hKl⟩, by omega, ?_⟩
          show _ + 310 * wcnt (f_r_gives dy n le mk mo nd ow st sta su (fup tk (nP p0) (fup (tk (nP p0)) (nP p1) day)) wk) n ≤ _
          omega
      · rw [if_neg c3, i1.resolve_left (fun z => c3 (hi.mp z)), if_pos (by decide)]
        dsimp only
        exact core_x h (agI_inr (by decide))
    · rw [if_neg c2, if_neg c2]
      dsimp only
      exact core_x h (agI_inr (by decide))
  · rw [if_neg c1, if_neg c1]
    dsimp only
    exact core_x h (agI_inr (by decide))
theorem core_addNeed {nb : Nat → Int32} {tf : Nat → Nat} {ln : Nat} {ly : Nat → Ly} {mac : Nat} {mk : Nat → Nat} {su : Nat → Int32} {mh : Nat → List Nat} {mem : Nat} {tk : Nat → Nat → Int32} {po : Nat → Int32} {pp : Nat → Int32} {n : Nat} {ow : Nat → Nat} {mo : Nat → Nat} {dy : Nat → Int32} {st : Nat → Int32} {le : Nat → Int32} {wk : Nat → Int32} {sta : Nat → Int32} {du : Nat → Int32} {cu : Nat → List Nat} {cn : Nat} {qcb : Nat → Nat} {qcl : Nat → Int32} {bar : Nat} {mt : Nat → Nat} {bl : Nat → Int32} {bf : Nat → Int32} {brk : Nat} {kl : Nat → Nat} {ks : Nat → Nat → Int32} {day : Int32} {paid : Nat → Int64} {nd : Nat → Nat → Bool} {cm : Nat → Nat} {cb : Nat → Nat → Nat} {cl : Nat → Nat → Int32} {Ls : Nat → Nat → Int32} {Lnum : Nat → Nat → Int32} {lm : Nat → Nat} {sh : Nat → Nat → Int32} {pr : Nat → Int32} {G2 : List Ob} {G4 : List Ob} {thr : Int32} {zc zn : Nat} {p0 p1 : Int32} (h : InvP nb tf ln ly mac mk su mh mem tk po pp n ow mo dy st le wk sta du cu cn qcb qcl bar mt bl bf brk kl ks day paid nd cm cb cl Ls Lnum lm sh) : CoreX (AgI [(1, 1), (5, 2)] ((f_c_addNeed bf qcb qcl cu mo dy (fun e => st e + le e) le ow n st wk mh mk su nb tk sta zc zn p0 p1).1) ((f_r_addNeed dy n le mk mo nd ow st sta su tk wk p0 p1).2.2.2) (bI ((f_r_addNeed dy n le mk mo nd ow st sta su tk wk p0 p1).1))) (mkC ((f_c_addNeed bf qcb qcl cu mo dy (fun e => st e + le e) le ow n st wk mh mk su nb tk sta zc zn p0 p1).2.1) tf ln ly mac mk su ((f_c_addNeed bf qcb qcl cu mo dy (fun e => st e + le e) le ow n st wk mh mk su nb tk sta zc zn p0 p1).2.2.1) mem tk po pp n ow mo dy st le (fun e => st e + le e) wk ((f_c_addNeed bf qcb qcl cu mo dy (fun e => st e + le e) le ow n st wk mh mk su nb tk sta zc zn p0 p1).2.2.2.1) du ((f_c_addNeed bf qcb qcl cu mo dy (fun e => st e + le e) le ow n st wk mh mk su nb tk sta zc zn p0 p1).2.2.2.2.1) cn qcb qcl bar mt bl ((f_c_addNeed bf qcb qcl cu mo dy (fun e => st e + le e) le ow n st wk mh mk su nb tk sta zc zn p0 p1).2.2.2.2.2.1) brk kl ks pr day G2 G4 ([]) ([])) (mkR mk su mac mem tk paid ((f_r_addNeed dy n le mk mo nd ow st sta su tk wk p0 p1).2.1) day ow mo dy st le wk ((f_r_addNeed dy n le mk mo nd ow st sta su tk wk p0 p1).2.2.1) du cm cb cl n mt bl bar pr Ls Lnum lm sh brk ((f_r_addNeed dy n le mk mo nd ow st sta su tk wk p0 p1).2.2.2)) (wcnt sta n) zc ((f_c_addNeed bf qcb qcl cu mo dy (fun e => st e + le e) le ow n st wk mh mk su nb tk sta zc zn p0 p1).2.2.2.2.2.2.1) zn ((f_c_addNeed bf qcb qcl cu mo dy (fun e => st e + le e) le ow n st wk mh mk su nb tk sta zc zn p0 p1).2.2.2.2.2.2.2) := by
  obtain ⟨hWC, hWR, hA, hN, hT, hTD, hTz, hd, hEI, hNW, hSt, hC, hCz, hF, hTar, hDebt, hSh, hPay, hDZ, hKl⟩ := id h
  obtain ⟨hE, hU, hSep, hH, hM, hD, hLv⟩ := id hEI
  obtain ⟨wMac, wMem, wEnt, wBar, wBrk, wOw, wMo, wMk, wCm, wCb, wMt, wLm⟩ := id hWR
  obtain ⟨vMn, vPn, vEn, vBn, vKn, vMk, vEm, vEc, vCb, vBm, vTf, vKl, vMh, vMl, vCu, vCl, vLy⟩ := id hWC
  have hR : Rest n bar cn sta cu qcb qcl cm cb cl bl bf du := ⟨hC, hF, hSt, hDZ, vCu, vCl⟩
  unfold f_c_addNeed f_r_addNeed
  by_cases c1 : f_r_isKind p0 = true
  · rw [if_pos c1, if_pos c1]
    by_cases c2 : f_r_isKind p1 = true
    · rw [if_pos c2, if_pos c2]
      obtain ⟨q0, hk0⟩ := nP_kind c1
      obtain ⟨q1, hk1⟩ := nP_kind c2
      by_cases c3 : nP p0 = nP p1
      · rw [if_pos c3, if_pos c3]
        dsimp only
        exact core_x h (agI_inr (by decide))
      · rw [if_neg c3, if_neg c3, leads_eq hN hA hk1 hk0 (fun z => c3 z.symm)]
        by_cases c4 : f_r_reaches nd (nP p1) (nP p0) = true
        · rw [if_pos c4, if_pos c4]
          dsimp only
          exact core_x h (agI_inr (by decide))
        · rw [if_neg c4, if_neg c4, needs_eq hN hk0 hk1]
          have hA2 := acy_add hA hk0 hk1 c3 c4
          have hN2 := need_add (p0 := nP p0) hN hk1
          obtain ⟨hEJ, hLv0⟩ := ei_ej.mp hEI
          obtain ⟨l1, l2, l3, l4, l5⟩ := cancel_loop (nd := nd) (p0 := nP p0) (p1 := nP p1) rfl hN2 hT wMk n 0 mh sta cu bf (by omega) hEJ hR (fun e he => absurd he (by omega))
          obtain ⟨b1, b2, b3, b4, b5, b6⟩ := gives_all hN2 hT wMk hd.1 (by omega) (ei_ej.mpr ⟨l2, l4⟩) zc zn
          have hHB := b2.2.2.2.1
          have hR2 := rest_step l3 b4
          have hwm : wcnt (r_addNeed_L79 dy mk mo nd ow tk (nP p0) (nP p1) n 0 sta) n ≤ wcnt sta n := wcnt_mono n (fun e _ h2 => l5 e h2)
          unfold f_c_cancelWI
          by_cases c5 : nd (nP p0) (nP p1) = true
          · rw [if_pos c5, if_pos c5]
            dsimp only
            rw [l1, b1]
            refine ⟨⟨rfl, rfl⟩, inv_mk ⟨⟨vMn, vPn, vEn, vBn, vKn, vMk, vEm, vEc, vCb, vBm, vTf, vKl, fun m e he => (((hHB m).2 e).mp he).1, fun m => Nat.le_trans (held_len hHB m).2 (by omega), hR2.2.2.2.2.1, hR2.2.2.2.2.2, vLy⟩, hWR, hA2, hN2, hT, hTD, hTz, hd, b2, b3, hR2.2.2.1, hR2.1, hCz, hR2.2.1, hTar, hDebt, hSh, hPay, hR2.2.2.2.1, hKl⟩, by omega, ?_⟩
            show _ + 310 * wcnt (f_r_gives dy n le mk mo (fup nd (nP p0) (fup (nd (nP p0)) (nP p1) true)) ow st (r_addNeed_L79 dy mk mo nd ow tk (nP p0) (nP p1) n 0 sta) su tk wk) n ≤ _
            omega
          · rw [if_neg c5, if_neg c5]
            dsimp only
            rw [l1, b1]
            refine ⟨⟨rfl, rfl⟩, inv_mk ⟨⟨vMn, vPn, vEn, vBn, vKn, vMk, vEm, vEc, vCb, vBm, vTf, vKl, fun m e he => (((hHB m).2 e).mp he).1, fun m => Nat.le_trans (held_len hHB m).2 (by omega), hR2.2.2.2.2.1, hR2.2.2.2.2.2, vLy⟩, hWR, hA2, hN2, hT, hTD, hTz, hd, b2, b3, hR2.2.2.1, hR2.1, hCz, hR2.2.1, hTar, hDebt, hSh, hPay, hR2.2.2.2.1, hKl⟩, by omega, ?_⟩
            show _ + 310 * wcnt (f_r_gives dy n le mk mo (fup nd (nP p0) (fup (nd (nP p0)) (nP p1) true)) ow st (r_addNeed_L79 dy mk mo nd ow tk (nP p0) (nP p1) n 0 sta) su tk wk) n ≤ _
            omega
    · rw [if_neg c2, if_neg c2]
      dsimp only
      exact core_x h (agI_inr (by decide))
  · rw [if_neg c1, if_neg c1]
    dsimp only
    exact core_x h (agI_inr (by decide))
theorem core_endDay {nb : Nat → Int32} {tf : Nat → Nat} {ln : Nat} {ly : Nat → Ly} {mac : Nat} {mk : Nat → Nat} {su : Nat → Int32} {mh : Nat → List Nat} {mem : Nat} {tk : Nat → Nat → Int32} {po : Nat → Int32} {pp : Nat → Int32} {n : Nat} {ow : Nat → Nat} {mo : Nat → Nat} {dy : Nat → Int32} {st : Nat → Int32} {le : Nat → Int32} {wk : Nat → Int32} {sta : Nat → Int32} {du : Nat → Int32} {cu : Nat → List Nat} {cn : Nat} {qcb : Nat → Nat} {qcl : Nat → Int32} {bar : Nat} {mt : Nat → Nat} {bl : Nat → Int32} {bf : Nat → Int32} {brk : Nat} {kl : Nat → Nat} {ks : Nat → Nat → Int32} {day : Int32} {paid : Nat → Int64} {nd : Nat → Nat → Bool} {cm : Nat → Nat} {cb : Nat → Nat → Nat} {cl : Nat → Nat → Int32} {Ls : Nat → Nat → Int32} {Lnum : Nat → Nat → Int32} {lm : Nat → Nat} {sh : Nat → Nat → Int32} {pr : Nat → Int32} {G2 : List Ob} {G4 : List Ob} {thr : Int32} {zG5 : List Ob} {rc rn : Nat} {zc zn : Nat} (h : InvP nb tf ln ly mac mk su mh mem tk po pp n ow mo dy st le wk sta du cu cn qcb qcl bar mt bl bf brk kl ks day paid nd cm cb cl Ls Lnum lm sh) : CoreX (AgI [(5, 1)] ((f_c_endDay mt qcb qcl cu day du mo dy (fun e => st e + le e) le ow n st wk ly mh mk su nb tk po pr sta tf zc zn).1) ((f_r_endDay cb cl cm day du dy n le lm Lnum Ls mk mo mt nd ow pr st sta su tk wk zG5 rc rn).2.2.2.2.1) ((f_r_endDay cb cl cm day du dy n le lm Lnum Ls mk mo mt nd ow pr st sta su tk wk zG5 rc rn).1)) (mkC nb tf ln ly mac mk su ((f_c_endDay mt qcb qcl cu day du mo dy (fun e => st e + le e) le ow n st wk ly mh mk su nb tk po pr sta tf zc zn).2.1) mem tk ((f_c_endDay mt qcb qcl cu day du mo dy (fun e => st e + le e) le ow n st wk ly mh mk su nb tk po pr sta tf zc zn).2.2.1) pp n ow mo dy st le (fun e => st e + le e) wk ((f_c_endDay mt qcb qcl cu day du mo dy (fun e => st e + le e) le ow n st wk ly mh mk su nb tk po pr sta tf zc zn).2.2.2.1) ((f_c_endDay mt qcb qcl cu day du mo dy (fun e => st e + le e) le ow n st wk ly mh mk su nb tk po pr sta tf zc zn).2.2.2.2.1) cu cn qcb qcl bar mt bl bf brk kl ks pr ((f_c_endDay mt qcb qcl cu day du mo dy (fun e => st e + le e) le ow n st wk ly mh mk su nb tk po pr sta tf zc zn).2.2.2.2.2.1) G2 G4 ([]) ([])) (mkR mk su mac mem tk paid nd ((f_r_endDay cb cl cm day du dy n le lm Lnum Ls mk mo mt nd ow pr st sta su tk wk zG5 rc rn).2.1) ow mo dy st le wk ((f_r_endDay cb cl cm day du dy n le lm Lnum Ls mk mo mt nd ow pr st sta su tk wk zG5 rc rn).2.2.1) ((f_r_endDay cb cl cm day du dy n le lm Lnum Ls mk mo mt nd ow pr st sta su tk wk zG5 rc rn).2.2.2.1) cm cb cl n mt bl bar pr Ls Lnum lm sh brk ((f_r_endDay cb cl cm day du dy n le lm Lnum Ls mk mo mt nd ow pr st sta su tk wk zG5 rc rn).2.2.2.2.1)) (wcnt sta n) zc ((f_c_endDay mt qcb qcl cu day du mo dy (fun e => st e + le e) le ow n st wk ly mh mk su nb tk po pr sta tf zc zn).2.2.2.2.2.2.1) zn ((f_c_endDay mt qcb qcl cu day du mo dy (fun e => st e + le e) le ow n st wk ly mh mk su nb tk po pr sta tf zc zn).2.2.2.2.2.2.2) := by
  obtain ⟨hWC, hWR, hA, hN, hT, hTD, hTz, hd, hEI, hNW, hSt, hC, hCz, hF, hTar, hDebt, hSh, hPay, hDZ, hKl⟩ := id h
  obtain ⟨hE, hU, hSep, hH, hM, hD, hLv⟩ := id hEI
  obtain ⟨wMac, wMem, wEnt, wBar, wBrk, wOw, wMo, wMk, wCm, wCb, wMt, wLm⟩ := id hWR
  obtain ⟨vMn, vPn, vEn, vBn, vKn, vMk, vEm, vEc, vCb, vBm, vTf, vKl, vMh, vMl, vCu, vCl, vLy⟩ := id hWC
  have hR : Rest n bar cn sta cu qcb qcl cm cb cl bl bf du := ⟨hC, hF, hSt, hDZ, vCu, vCl⟩
  unfold f_c_endDay f_r_endDay
  have e900 : (900 : Int32).toInt = 900 := rfl
  have e1 : (1 : Int32).toInt = 1 := rfl
  by_cases c1 : day < 900
  · rw [if_pos c1, if_neg (fun z => by rw [i_lt, z] at c1; omega)]
    rw [i_lt, e900] at c1
    have ed : (day + 1).toInt = day.toInt + 1 := by rw [i_add (by omega) (by omega), e1]
    obtain ⟨l1, l2, l3, l4, l5, l6, l7, l8⟩ := end_loop (sta0 := sta) (du0 := du) (mem := mem) (brk := brk) (sh := sh) (ow := ow) (pr := pr) (day := day) hE hC vBm hTar wMk wLm (fun e hs => hDZ e (Or.inr (Or.inr hs))) n 0 0 po sta du zG5 rc rn (by omega) (fun e _ => ⟨rfl, rfl⟩)
    generalize hR32 : r_endDay_L32 cb cl cm day dy le lm Lnum Ls mk mo mt pr n 0 0 sta du zG5 rc rn = R32 at *
    have hall : ∀ e, e < n → (dy e = day ∧ sta e = 98 ∧ R32.2.1 e = 100) ∨ (dy e = day ∧ sta e = 119 ∧ R32.2.1 e = 120) ∨ (¬ (dy e = day ∧ (sta e = 98 ∨ sta e = 119)) ∧ R32.2.1 e = sta e) := fun e he => by
      rcases l6 e (Nat.zero_le _) he with q | q | ⟨q1, q2, -⟩
      · exact Or.inl q
      · exact Or.inr (Or.inl q)
      · exact Or.inr (Or.inr ⟨q1, q2⟩)
    have hEI2 := ei_day hd hEI hall
    have hSD : StepD n sta R32.2.1 := fun e => by
      by_cases he : e < n
      · rcases hall e he with ⟨-, q1, q2⟩ | ⟨-, q1, q2⟩ | ⟨-, q⟩
        · exact Or.inr ⟨he, Or.inl ⟨q1, q2⟩⟩
        · exact Or.inr ⟨he, Or.inr ⟨q1, q2⟩⟩
        · exact Or.inl q
      · exact Or.inl (l5 e (Or.inr (by omega))).1
    have hR1 : Rest n bar cn R32.2.1 cu qcb qcl cm cb cl bl bf R32.2.2.1 := ⟨cut_stepD hC hSD, fun b hb => by rw [free_stepD hSD]; exact hF b hb, fun e => by
      rcases hSD e with q | ⟨-, ⟨-, q⟩ | ⟨-, q⟩⟩
      · rw [q]
        exact hSt e
      · rw [q]
        unfold chr
        decide
      · rw [q]
        unfold chr
        decide, fun e he => by
      by_cases hn : n ≤ e
      · rw [(l5 e (Or.inr hn)).2]
        exact hDZ e (Or.inl hn)
      · rcases l6 e (Nat.zero_le _) (by omega) with ⟨-, -, q⟩ | ⟨-, -, q⟩ | ⟨-, q1, q2⟩
        · rw [q] at he
          rcases he with he | he | he
          · omega
          · exact absurd he (by decide)
          · exact absurd he (by decide)
        · rw [q] at he
          rcases he with he | he | he
          · omega
          · exact absurd he (by decide)
          · exact absurd he (by decide)
        · rw [q1] at he
          rw [q2]
          exact hDZ e he, vCu, vCl⟩
    obtain ⟨b1, b2, b3, b4, b5, b6⟩ := gives_all (nb := nb) hN hT wMk (show 0 ≤ (day + 1).toInt by omega) (by omega) hEI2 zc zn
    have hHB := b2.2.2.2.1
    have hR2 := rest_step hR1 b4
    have hDebt2 := l4 hDebt
    have hwm : wcnt R32.2.1 n ≤ wcnt sta n := wcnt_mono n (fun e he h2 => by
      rcases hall e he with ⟨-, q1, q2⟩ | ⟨-, q1, q2⟩ | ⟨-, q⟩
      · rw [q2] at h2
        exact absurd h2 (by decide)
      · exact q1
      · rw [← q]
        exact h2)
    have hTD2 : ∀ m k, (tk m k).toInt ≤ (day + 1).toInt := fun m k => by
      have := hTD m k
      omega
    dsimp only
    rw [l2, l3, b1]
    refine ⟨⟨rfl, l1⟩, inv_mk ⟨⟨vMn, vPn, vEn, vBn, vKn, vMk, vEm, vEc, vCb, vBm, vTf, vKl, fun m e he => (((hHB m).2 e).mp he).1, fun m => Nat.le_trans (held_len hHB m).2 (by omega), hR2.2.2.2.2.1, hR2.2.2.2.2.2, vLy⟩, hWR, hA, hN, hT, hTD2, hTz, ⟨by omega, by omega⟩, b2, b3, hR2.2.2.1, hR2.1, hCz, hR2.2.1, hTar, hDebt2, hSh, hPay, hR2.2.2.2.1, hKl⟩, by omega, ?_⟩
    show _ + 310 * wcnt (f_r_gives dy n le mk mo nd ow st R32.2.1 su tk wk) n ≤ _
    omega
  · rw [if_neg c1, if_pos (by rw [i_lt, e900] at c1; rw [i_eq, e900]; omega)]
    dsimp only
    exact core_x h (agI_inr (by decide))
