/-! the calls that only ask: answers alike (statements by gen98b.py) -/
section RO
variable {nb : Nat → Int32} {tf : Nat → Nat} {ln : Nat} {ly : Nat → Ly} {mac : Nat} {mk : Nat → Nat} {su : Nat → Int32} {mh : Nat → List Nat} {mem : Nat} {tk : Nat → Nat → Int32} {po : Nat → Int32} {pp : Nat → Int32} {n : Nat} {ow : Nat → Nat} {mo : Nat → Nat} {dy : Nat → Int32} {st : Nat → Int32} {le : Nat → Int32} {wk : Nat → Int32} {sta : Nat → Int32} {du : Nat → Int32} {cu : Nat → List Nat} {cn : Nat} {qcb : Nat → Nat} {qcl : Nat → Int32} {bar : Nat} {mt : Nat → Nat} {bl : Nat → Int32} {bf : Nat → Int32} {brk : Nat} {kl : Nat → Nat} {ks : Nat → Nat → Int32} {day : Int32} {paid : Nat → Int64} {nd : Nat → Nat → Bool} {cm : Nat → Nat} {cb : Nat → Nat → Nat} {cl : Nat → Nat → Int32} {Ls : Nat → Nat → Int32} {Lnum : Nat → Nat → Int32} {lm : Nat → Nat} {sh : Nat → Nat → Int32} {pr : Nat → Int32} {G2 : List Ob} {G4 : List Ob} {thr : Int32} {zc zn : Nat} {A : Prop}
theorem core_x (h : InvP nb tf ln ly mac mk su mh mem tk po pp n ow mo dy st le wk sta du cu cn qcb qcl bar mt bl bf brk kl ks day paid nd cm cb cl Ls Lnum lm sh) (hA : A) : CoreX A (mkC nb tf ln ly mac mk su mh mem tk po pp n ow mo dy st le (fun e => st e + le e) wk sta du cu cn qcb qcl bar mt bl bf brk kl ks pr day G2 G4 ([]) ([])) (mkR mk su mac mem tk paid nd day ow mo dy st le wk sta du cm cb cl n mt bl bar pr Ls Lnum lm sh brk thr) (wcnt sta n) zc (zc + 1) zn (zn + 6) := ⟨hA, inv_mk h, by omega, by show zn + 6 + 310 * wcnt sta n ≤ zn + 310 * wcnt sta n + 3000; omega⟩
theorem core_o (h : InvP nb tf ln ly mac mk su mh mem tk po pp n ow mo dy st le wk sta du cu cn qcb qcl bar mt bl bf brk kl ks day paid nd cm cb cl Ls Lnum lm sh) (hA : A) : CoreX A (mkC nb tf ln ly mac mk su mh mem tk po pp n ow mo dy st le (fun e => st e + le e) wk sta du cu cn qcb qcl bar mt bl bf brk kl ks pr day G2 G4 ([]) ([])) (mkR mk su mac mem tk paid nd day ow mo dy st le wk sta du cm cb cl n mt bl bar pr Ls Lnum lm sh brk thr) (wcnt sta n) zc zc zn zn := ⟨hA, inv_mk h, by omega, by show zn + 310 * wcnt sta n ≤ zn + 310 * wcnt sta n + 3000; omega⟩
end RO
theorem may_ok {day D F p : Int32} {mac : Nat} (c1 : f_r_isMachine mac p = true) (c2 : f_r_in D F (day + 6) = true) : f_r_may day mac p D F = (true, 0) := by
  rw [may_eq, if_pos c1, if_pos c2]
theorem may_2 {day D F p : Int32} {mac : Nat} (c1 : f_r_isMachine mac p = true) (c2 : ¬ f_r_in D F (day + 6) = true) : f_r_may day mac p D F = (false, 2) := by
  rw [may_eq, if_pos c1, if_neg c2]
theorem may_1 {day D F p : Int32} {mac : Nat} (c1 : ¬ f_r_isMachine mac p = true) : f_r_may day mac p D F = (false, 1) := by
  rw [may_eq, if_neg c1]
theorem day6 {day : Int32} (hd : 0 ≤ day.toInt ∧ day.toInt ≤ 900) : (day + 6).toInt = day.toInt + 6 := by
  have e6 : (6 : Int32).toInt = 6 := rfl
  rw [i_add (by omega) (by omega), e6]
theorem f2d_mag {a : UInt32} (h : a &&& 0x7fffffff ≤ 0x7f800000) : FP.f2d a &&& 0x7fffffffffffffff ≤ 0x7ff0000000000000 := by
  have hf : FP.Core.fIsNaN a = false := by
    refine decide_eq_false (fun z => ?_)
    rw [UInt32.le_iff_toNat_le, UInt32.toNat_and, show (0x7fffffff : UInt32).toNat = 2 ^ 31 - 1 from rfl, Nat.and_two_pow_sub_one_eq_mod, show (0x7f800000 : UInt32).toNat = 2139095040 from rfl] at h
    unfold FP.Core.decode at z
    split at z
    · rename_i e
      split at z
      · cases z
      · rename_i e2
        have e : a.toNat / 8388608 % 256 = 255 := e
        have e2 : ¬ a.toNat % 8388608 = 0 := e2
        omega
    · split at z <;> cases z
  have hd : FP.Core.dIsNaN (FP.f2d a) = false := (FP.f2d_nan a).trans hf
  have hd : ¬ FP.Core.decode FP.Core.b64 (FP.f2d a).toNat = .nan := of_decide_eq_false hd
  rw [UInt64.le_iff_toNat_le, UInt64.toNat_and, show (0x7fffffffffffffff : UInt64).toNat = 2 ^ 63 - 1 from rfl, Nat.and_two_pow_sub_one_eq_mod, show (0x7ff0000000000000 : UInt64).toNat = 9218868437227405312 from rfl]
  generalize hw : (FP.f2d a).toNat = w at *
  have hw64 : w < 2 ^ 64 := by rw [← hw]; exact UInt64.toNat_lt _
  by_cases c : w / 4503599627370496 % 2048 = 2047
  · by_cases c2 : w % 4503599627370496 = 0
    · omega
    · exfalso
      refine hd ?_
      unfold FP.Core.decode
      rw [if_pos (show FP.Core.fieldE FP.Core.b64 w = FP.Core.b64.exps - 1 from c), if_neg (show ¬ FP.Core.fieldT FP.Core.b64 w = 0 from c2)]
  · omega
theorem core_day {nb : Nat → Int32} {tf : Nat → Nat} {ln : Nat} {ly : Nat → Ly} {mac : Nat} {mk : Nat → Nat} {su : Nat → Int32} {mh : Nat → List Nat} {mem : Nat} {tk : Nat → Nat → Int32} {po : Nat → Int32} {pp : Nat → Int32} {n : Nat} {ow : Nat → Nat} {mo : Nat → Nat} {dy : Nat → Int32} {st : Nat → Int32} {le : Nat → Int32} {wk : Nat → Int32} {sta : Nat → Int32} {du : Nat → Int32} {cu : Nat → List Nat} {cn : Nat} {qcb : Nat → Nat} {qcl : Nat → Int32} {bar : Nat} {mt : Nat → Nat} {bl : Nat → Int32} {bf : Nat → Int32} {brk : Nat} {kl : Nat → Nat} {ks : Nat → Nat → Int32} {day : Int32} {paid : Nat → Int64} {nd : Nat → Nat → Bool} {cm : Nat → Nat} {cb : Nat → Nat → Nat} {cl : Nat → Nat → Int32} {Ls : Nat → Nat → Int32} {Lnum : Nat → Nat → Int32} {lm : Nat → Nat} {sh : Nat → Nat → Int32} {pr : Nat → Int32} {G2 : List Ob} {G4 : List Ob} {thr : Int32} {zc zn : Nat} (h : InvP nb tf ln ly mac mk su mh mem tk po pp n ow mo dy st le wk sta du cu cn qcb qcl bar mt bl bf brk kl ks day paid nd cm cb cl Ls Lnum lm sh) : CoreX (((.inl (some (vI (f_c_day day)))) : Re) = (.inl (some (vI ((f_r_day day).1))))) (mkC nb tf ln ly mac mk su mh mem tk po pp n ow mo dy st le (fun e => st e + le e) wk sta du cu cn qcb qcl bar mt bl bf brk kl ks pr day G2 G4 ([]) ([])) (mkR mk su mac mem tk paid nd day ow mo dy st le wk sta du cm cb cl n mt bl bar pr Ls Lnum lm sh brk ((f_r_day day).2)) (wcnt sta n) zc zc zn zn := by
  exact core_o h rfl
theorem core_entries {nb : Nat → Int32} {tf : Nat → Nat} {ln : Nat} {ly : Nat → Ly} {mac : Nat} {mk : Nat → Nat} {su : Nat → Int32} {mh : Nat → List Nat} {mem : Nat} {tk : Nat → Nat → Int32} {po : Nat → Int32} {pp : Nat → Int32} {n : Nat} {ow : Nat → Nat} {mo : Nat → Nat} {dy : Nat → Int32} {st : Nat → Int32} {le : Nat → Int32} {wk : Nat → Int32} {sta : Nat → Int32} {du : Nat → Int32} {cu : Nat → List Nat} {cn : Nat} {qcb : Nat → Nat} {qcl : Nat → Int32} {bar : Nat} {mt : Nat → Nat} {bl : Nat → Int32} {bf : Nat → Int32} {brk : Nat} {kl : Nat → Nat} {ks : Nat → Nat → Int32} {day : Int32} {paid : Nat → Int64} {nd : Nat → Nat → Bool} {cm : Nat → Nat} {cb : Nat → Nat → Nat} {cl : Nat → Nat → Int32} {Ls : Nat → Nat → Int32} {Lnum : Nat → Nat → Int32} {lm : Nat → Nat} {sh : Nat → Nat → Int32} {pr : Nat → Int32} {G2 : List Ob} {G4 : List Ob} {thr : Int32} {zc zn : Nat} (h : InvP nb tf ln ly mac mk su mh mem tk po pp n ow mo dy st le wk sta du cu cn qcb qcl bar mt bl bf brk kl ks day paid nd cm cb cl Ls Lnum lm sh) : CoreX (((.inl (some (vI (nI (f_c_entries n))))) : Re) = (.inl (some (vI ((f_r_entries n).1))))) (mkC nb tf ln ly mac mk su mh mem tk po pp n ow mo dy st le (fun e => st e + le e) wk sta du cu cn qcb qcl bar mt bl bf brk kl ks pr day G2 G4 ([]) ([])) (mkR mk su mac mem tk paid nd day ow mo dy st le wk sta du cm cb cl n mt bl bar pr Ls Lnum lm sh brk ((f_r_entries n).2)) (wcnt sta n) zc zc zn zn := by
  exact core_o h rfl
theorem core_isLive {nb : Nat → Int32} {tf : Nat → Nat} {ln : Nat} {ly : Nat → Ly} {mac : Nat} {mk : Nat → Nat} {su : Nat → Int32} {mh : Nat → List Nat} {mem : Nat} {tk : Nat → Nat → Int32} {po : Nat → Int32} {pp : Nat → Int32} {n : Nat} {ow : Nat → Nat} {mo : Nat → Nat} {dy : Nat → Int32} {st : Nat → Int32} {le : Nat → Int32} {wk : Nat → Int32} {sta : Nat → Int32} {du : Nat → Int32} {cu : Nat → List Nat} {cn : Nat} {qcb : Nat → Nat} {qcl : Nat → Int32} {bar : Nat} {mt : Nat → Nat} {bl : Nat → Int32} {bf : Nat → Int32} {brk : Nat} {kl : Nat → Nat} {ks : Nat → Nat → Int32} {day : Int32} {paid : Nat → Int64} {nd : Nat → Nat → Bool} {cm : Nat → Nat} {cb : Nat → Nat → Nat} {cl : Nat → Nat → Int32} {Ls : Nat → Nat → Int32} {Lnum : Nat → Nat → Int32} {lm : Nat → Nat} {sh : Nat → Nat → Int32} {pr : Nat → Int32} {G2 : List Ob} {G4 : List Ob} {thr : Int32} {zc zn : Nat} {p0 p1 D : Int32} (h : InvP nb tf ln ly mac mk su mh mem tk po pp n ow mo dy st le wk sta du cu cn qcb qcl bar mt bl bf brk kl ks day paid nd cm cb cl Ls Lnum lm sh) : CoreX (AgI [(0, 1), (1, 2)] ((f_c_isLive day nb tk mem zc zn p0 p1 D).1) ((f_r_isLive day mem nd tk p0 p1 D).2) (bI ((f_r_isLive day mem nd tk p0 p1 D).1))) (mkC nb tf ln ly mac mk su mh mem tk po pp n ow mo dy st le (fun e => st e + le e) wk sta du cu cn qcb qcl bar mt bl bf brk kl ks pr day G2 G4 ([]) ([])) (mkR mk su mac mem tk paid nd day ow mo dy st le wk sta du cm cb cl n mt bl bar pr Ls Lnum lm sh brk ((f_r_isLive day mem nd tk p0 p1 D).2)) (wcnt sta n) zc ((f_c_isLive day nb tk mem zc zn p0 p1 D).2.1) zn ((f_c_isLive day nb tk mem zc zn p0 p1 D).2.2) := by
  obtain ⟨hWC, hWR, hA, hN, hT, hTD, hTz, hd, hEI, hNW, hSt, hC, hCz, hF, hTar, hDebt, hSh, hPay, hDZ, hKl⟩ := id h
  unfold f_c_isLive f_r_isLive
  by_cases c1 : f_r_isMember mem p0 = true
  · rw [if_pos c1, if_pos c1]
    by_cases c2 : f_r_isKind p1 = true
    · rw [if_pos c2, if_pos c2]
      by_cases c3 : f_r_in D day 999 = true
      · rw [if_pos c3, if_pos c3]
        obtain ⟨-, hk⟩ := nP_kind c2
        have c3' := in_iff.mp c3
        have e999 : (999 : Int32).toInt = 999 := rfl
        rw [f_live_eq hN hT (by omega) (by omega) hk]
        cases e : f_r_live nd tk (nP p0) (nP p1) D with
        | true =>
          rw [if_pos rfl]
          exact core_o h ⟨rfl, rfl⟩
        | false =>
          rw [if_neg (by decide)]
          exact core_o h ⟨rfl, rfl⟩
      · rw [if_neg c3, if_neg c3]
        exact core_x h (agI_inr (by decide))
    · rw [if_neg c2, if_neg c2]
      exact core_x h (agI_inr (by decide))
  · rw [if_neg c1, if_neg c1]
    exact core_x h (agI_inr (by decide))
theorem core_check {nb : Nat → Int32} {tf : Nat → Nat} {ln : Nat} {ly : Nat → Ly} {mac : Nat} {mk : Nat → Nat} {su : Nat → Int32} {mh : Nat → List Nat} {mem : Nat} {tk : Nat → Nat → Int32} {po : Nat → Int32} {pp : Nat → Int32} {n : Nat} {ow : Nat → Nat} {mo : Nat → Nat} {dy : Nat → Int32} {st : Nat → Int32} {le : Nat → Int32} {wk : Nat → Int32} {sta : Nat → Int32} {du : Nat → Int32} {cu : Nat → List Nat} {cn : Nat} {qcb : Nat → Nat} {qcl : Nat → Int32} {bar : Nat} {mt : Nat → Nat} {bl : Nat → Int32} {bf : Nat → Int32} {brk : Nat} {kl : Nat → Nat} {ks : Nat → Nat → Int32} {day : Int32} {paid : Nat → Int64} {nd : Nat → Nat → Bool} {cm : Nat → Nat} {cb : Nat → Nat → Nat} {cl : Nat → Nat → Int32} {Ls : Nat → Nat → Int32} {Lnum : Nat → Nat → Int32} {lm : Nat → Nat} {sh : Nat → Nat → Int32} {pr : Nat → Int32} {G2 : List Ob} {G4 : List Ob} {thr : Int32} {zc zn : Nat} {p0 p1 D S M V : Int32} (h : InvP nb tf ln ly mac mk su mh mem tk po pp n ow mo dy st le wk sta du cu cn qcb qcl bar mt bl bf brk kl ks day paid nd cm cb cl Ls Lnum lm sh) : CoreX (AgI [(0, 1), (1, 2)] ((f_c_check day mo dy (fun e => st e + le e) le ow n st wk mh mk mac su nb tk mem sta zc zn p0 p1 D S M V).1) ((f_r_check day dy n le mac mem mk mo nd ow st sta su tk wk p0 p1 D S M V).2) ((f_r_check day dy n le mac mem mk mo nd ow st sta su tk wk p0 p1 D S M V).1)) (mkC nb tf ln ly mac mk su mh mem tk po pp n ow mo dy st le (fun e => st e + le e) wk sta du cu cn qcb qcl bar mt bl bf brk kl ks pr day G2 G4 ([]) ([])) (mkR mk su mac mem tk paid nd day ow mo dy st le wk sta du cm cb cl n mt bl bar pr Ls Lnum lm sh brk ((f_r_check day dy n le mac mem mk mo nd ow st sta su tk wk p0 p1 D S M V).2)) (wcnt sta n) zc ((f_c_check day mo dy (fun e => st e + le e) le ow n st wk mh mk mac su nb tk mem sta zc zn p0 p1 D S M V).2.1) zn ((f_c_check day mo dy (fun e => st e + le e) le ow n st wk mh mk mac su nb tk mem sta zc zn p0 p1 D S M V).2.2) := by
  obtain ⟨hWC, hWR, hA, hN, hT, hTD, hTz, hd, hEI, hNW, hSt, hC, hCz, hF, hTar, hDebt, hSh, hPay, hDZ, hKl⟩ := id h
  obtain ⟨hE, hU, hSep, hH, hM, hD, hLv⟩ := id hEI
  obtain ⟨wMac, wMem, wEnt, wBar, wBrk, wOw, wMo, wMk, wCm, wCb, wMt, wLm⟩ := id hWR
  unfold f_c_check f_r_check
  rw [lacks_eq]
  by_cases c1 : f_r_isMember mem p0 = true
  · rw [if_pos c1, if_pos c1]
    by_cases c2 : f_r_isMachine mac p1 = true
    · rw [if_pos c2, if_pos c2]
      by_cases c3 : timeOk day D S M V = true
      · rw [if_pos c3, if_pos c3]
        obtain ⟨q0, -⟩ := nP_mem (n := mem) (by omega) c1
        obtain ⟨q1, hm1⟩ := nP_mac (n := mac) (by omega) c2
        obtain ⟨t1, t2, t3, t4, t5, t6⟩ := time_facts hd c3
        have hdn : ∀ e, e < n → sta e = 100 → ¬ dy e = D := fun e he hs z => by
          have := (hD e he).2 hs
          rw [z] at this
          omega
        rw [if_neg (by decide), letter_eq hN hT hE hSep hU hH (wMk _) (by omega) (by omega) hdn t3 t4 t6, lacks_eq, ← q0, ← q1, if_pos c1, if_pos c2, if_pos c3]
        exact core_o h ⟨rfl, rfl⟩
      · rw [if_neg c3, if_neg c3]
        rw [if_pos (by decide)]
        exact core_x h (agI_inr (by decide))
    · rw [if_neg c2, if_neg c2]
      rw [if_pos (by decide)]
      exact core_x h (agI_inr (by decide))
  · rw [if_neg c1, if_neg c1]
    rw [if_pos (by decide)]
    exact core_x h (agI_inr (by decide))
theorem core_stateOf {nb : Nat → Int32} {tf : Nat → Nat} {ln : Nat} {ly : Nat → Ly} {mac : Nat} {mk : Nat → Nat} {su : Nat → Int32} {mh : Nat → List Nat} {mem : Nat} {tk : Nat → Nat → Int32} {po : Nat → Int32} {pp : Nat → Int32} {n : Nat} {ow : Nat → Nat} {mo : Nat → Nat} {dy : Nat → Int32} {st : Nat → Int32} {le : Nat → Int32} {wk : Nat → Int32} {sta : Nat → Int32} {du : Nat → Int32} {cu : Nat → List Nat} {cn : Nat} {qcb : Nat → Nat} {qcl : Nat → Int32} {bar : Nat} {mt : Nat → Nat} {bl : Nat → Int32} {bf : Nat → Int32} {brk : Nat} {kl : Nat → Nat} {ks : Nat → Nat → Int32} {day : Int32} {paid : Nat → Int64} {nd : Nat → Nat → Bool} {cm : Nat → Nat} {cb : Nat → Nat → Nat} {cl : Nat → Nat → Int32} {Ls : Nat → Nat → Int32} {Lnum : Nat → Nat → Int32} {lm : Nat → Nat} {sh : Nat → Nat → Int32} {pr : Nat → Int32} {G2 : List Ob} {G4 : List Ob} {thr : Int32} {zc zn : Nat} {p0 : Int32} (h : InvP nb tf ln ly mac mk su mh mem tk po pp n ow mo dy st le wk sta du cu cn qcb qcl bar mt bl bf brk kl ks day paid nd cm cb cl Ls Lnum lm sh) : CoreX (AgI [(4, 1)] ((f_c_stateOf n sta zc zn p0).1) ((f_r_stateOf n sta p0).2) ((f_r_stateOf n sta p0).1)) (mkC nb tf ln ly mac mk su mh mem tk po pp n ow mo dy st le (fun e => st e + le e) wk sta du cu cn qcb qcl bar mt bl bf brk kl ks pr day G2 G4 ([]) ([])) (mkR mk su mac mem tk paid nd day ow mo dy st le wk sta du cm cb cl n mt bl bar pr Ls Lnum lm sh brk ((f_r_stateOf n sta p0).2)) (wcnt sta n) zc ((f_c_stateOf n sta zc zn p0).2.1) zn ((f_c_stateOf n sta zc zn p0).2.2) := by
  obtain ⟨hWC, hWR, hA, hN, hT, hTD, hTz, hd, hEI, hNW, hSt, hC, hCz, hF, hTar, hDebt, hSh, hPay, hDZ, hKl⟩ := id h
  unfold f_c_stateOf f_r_stateOf
  by_cases c1 : f_r_isEntry n p0 = true
  · rw [if_pos c1, if_pos c1]
    exact core_o h ⟨rfl, rfl⟩
  · rw [if_neg c1, if_neg c1]
    exact core_x h (agI_inr (by decide))
theorem core_dueOf {nb : Nat → Int32} {tf : Nat → Nat} {ln : Nat} {ly : Nat → Ly} {mac : Nat} {mk : Nat → Nat} {su : Nat → Int32} {mh : Nat → List Nat} {mem : Nat} {tk : Nat → Nat → Int32} {po : Nat → Int32} {pp : Nat → Int32} {n : Nat} {ow : Nat → Nat} {mo : Nat → Nat} {dy : Nat → Int32} {st : Nat → Int32} {le : Nat → Int32} {wk : Nat → Int32} {sta : Nat → Int32} {du : Nat → Int32} {cu : Nat → List Nat} {cn : Nat} {qcb : Nat → Nat} {qcl : Nat → Int32} {bar : Nat} {mt : Nat → Nat} {bl : Nat → Int32} {bf : Nat → Int32} {brk : Nat} {kl : Nat → Nat} {ks : Nat → Nat → Int32} {day : Int32} {paid : Nat → Int64} {nd : Nat → Nat → Bool} {cm : Nat → Nat} {cb : Nat → Nat → Nat} {cl : Nat → Nat → Int32} {Ls : Nat → Nat → Int32} {Lnum : Nat → Nat → Int32} {lm : Nat → Nat} {sh : Nat → Nat → Int32} {pr : Nat → Int32} {G2 : List Ob} {G4 : List Ob} {thr : Int32} {zc zn : Nat} {p0 : Int32} (h : InvP nb tf ln ly mac mk su mh mem tk po pp n ow mo dy st le wk sta du cu cn qcb qcl bar mt bl bf brk kl ks day paid nd cm cb cl Ls Lnum lm sh) : CoreX (AgI [(4, 1)] ((f_c_dueOf du n zc zn p0).1) ((f_r_dueOf du n p0).2) ((f_r_dueOf du n p0).1)) (mkC nb tf ln ly mac mk su mh mem tk po pp n ow mo dy st le (fun e => st e + le e) wk sta du cu cn qcb qcl bar mt bl bf brk kl ks pr day G2 G4 ([]) ([])) (mkR mk su mac mem tk paid nd day ow mo dy st le wk sta du cm cb cl n mt bl bar pr Ls Lnum lm sh brk ((f_r_dueOf du n p0).2)) (wcnt sta n) zc ((f_c_dueOf du n zc zn p0).2.1) zn ((f_c_dueOf du n zc zn p0).2.2) := by
  obtain ⟨hWC, hWR, hA, hN, hT, hTD, hTz, hd, hEI, hNW, hSt, hC, hCz, hF, hTar, hDebt, hSh, hPay, hDZ, hKl⟩ := id h
  unfold f_c_dueOf f_r_dueOf
  by_cases c1 : f_r_isEntry n p0 = true
  · rw [if_pos c1, if_pos c1]
    exact core_o h ⟨rfl, rfl⟩
  · rw [if_neg c1, if_neg c1]
    exact core_x h (agI_inr (by decide))
theorem core_minuteAt {nb : Nat → Int32} {tf : Nat → Nat} {ln : Nat} {ly : Nat → Ly} {mac : Nat} {mk : Nat → Nat} {su : Nat → Int32} {mh : Nat → List Nat} {mem : Nat} {tk : Nat → Nat → Int32} {po : Nat → Int32} {pp : Nat → Int32} {n : Nat} {ow : Nat → Nat} {mo : Nat → Nat} {dy : Nat → Int32} {st : Nat → Int32} {le : Nat → Int32} {wk : Nat → Int32} {sta : Nat → Int32} {du : Nat → Int32} {cu : Nat → List Nat} {cn : Nat} {qcb : Nat → Nat} {qcl : Nat → Int32} {bar : Nat} {mt : Nat → Nat} {bl : Nat → Int32} {bf : Nat → Int32} {brk : Nat} {kl : Nat → Nat} {ks : Nat → Nat → Int32} {day : Int32} {paid : Nat → Int64} {nd : Nat → Nat → Bool} {cm : Nat → Nat} {cb : Nat → Nat → Nat} {cl : Nat → Nat → Int32} {Ls : Nat → Nat → Int32} {Lnum : Nat → Nat → Int32} {lm : Nat → Nat} {sh : Nat → Nat → Int32} {pr : Nat → Int32} {G2 : List Ob} {G4 : List Ob} {thr : Int32} {zc zn : Nat} {p0 D M : Int32} (h : InvP nb tf ln ly mac mk su mh mem tk po pp n ow mo dy st le wk sta du cu cn qcb qcl bar mt bl bf brk kl ks day paid nd cm cb cl Ls Lnum lm sh) : CoreX (AgI [(0, 1), (1, 2)] ((f_c_minuteAt day mo dy (fun e => st e + le e) le ow st wk mh mac su sta zc zn p0 D M).1) ((f_r_minuteAt day dy n le mac mo st sta su wk p0 D M).2) ((f_r_minuteAt day dy n le mac mo st sta su wk p0 D M).1)) (mkC nb tf ln ly mac mk su mh mem tk po pp n ow mo dy st le (fun e => st e + le e) wk sta du cu cn qcb qcl bar mt bl bf brk kl ks pr day G2 G4 ([]) ([])) (mkR mk su mac mem tk paid nd day ow mo dy st le wk sta du cm cb cl n mt bl bar pr Ls Lnum lm sh brk ((f_r_minuteAt day dy n le mac mo st sta su wk p0 D M).2)) (wcnt sta n) zc ((f_c_minuteAt day mo dy (fun e => st e + le e) le ow st wk mh mac su sta zc zn p0 D M).2.1) zn ((f_c_minuteAt day mo dy (fun e => st e + le e) le ow st wk mh mac su sta zc zn p0 D M).2.2) := by
  obtain ⟨hWC, hWR, hA, hN, hT, hTD, hTz, hd, hEI, hNW, hSt, hC, hCz, hF, hTar, hDebt, hSh, hPay, hDZ, hKl⟩ := id h
  obtain ⟨hE, hU, hSep, hH, hM, hD, hLv⟩ := id hEI
  obtain ⟨wMac, wMem, wEnt, wBar, wBrk, wOw, wMo, wMk, wCm, wCb, wMt, wLm⟩ := id hWR
  unfold f_c_minuteAt f_r_minuteAt
  by_cases c1 : f_r_isMachine mac p0 = true
  · rw [if_pos c1]
    by_cases c2 : f_r_in D 0 (day + 6) = true
    · rw [if_pos c2, may_ok c1 c2, if_pos (show ((true, (0 : Int32)).1 = true) from rfl)]
      by_cases c3 : f_r_in M 0 479 = true
      · rw [if_pos c3, if_pos c3]
        rw [c_letter_day hE hH, minute_eq hE hSep hU hH]
        exact core_o h ⟨rfl, rfl⟩
      · rw [if_neg c3, if_neg c3]
        exact core_x h (agI_inr (by decide))
    · rw [if_neg c2, may_2 c1 c2, if_neg (show ¬ ((false, (2 : Int32)).1 = true) by decide)]
      exact core_x h (agI_inr (by decide))
  · rw [if_neg c1, may_1 c1, if_neg (show ¬ ((false, (1 : Int32)).1 = true) by decide)]
    exact core_x h (agI_inr (by decide))
theorem core_usedMinutes {nb : Nat → Int32} {tf : Nat → Nat} {ln : Nat} {ly : Nat → Ly} {mac : Nat} {mk : Nat → Nat} {su : Nat → Int32} {mh : Nat → List Nat} {mem : Nat} {tk : Nat → Nat → Int32} {po : Nat → Int32} {pp : Nat → Int32} {n : Nat} {ow : Nat → Nat} {mo : Nat → Nat} {dy : Nat → Int32} {st : Nat → Int32} {le : Nat → Int32} {wk : Nat → Int32} {sta : Nat → Int32} {du : Nat → Int32} {cu : Nat → List Nat} {cn : Nat} {qcb : Nat → Nat} {qcl : Nat → Int32} {bar : Nat} {mt : Nat → Nat} {bl : Nat → Int32} {bf : Nat → Int32} {brk : Nat} {kl : Nat → Nat} {ks : Nat → Nat → Int32} {day : Int32} {paid : Nat → Int64} {nd : Nat → Nat → Bool} {cm : Nat → Nat} {cb : Nat → Nat → Nat} {cl : Nat → Nat → Int32} {Ls : Nat → Nat → Int32} {Lnum : Nat → Nat → Int32} {lm : Nat → Nat} {sh : Nat → Nat → Int32} {pr : Nat → Int32} {G2 : List Ob} {G4 : List Ob} {thr : Int32} {zc zn : Nat} {p0 D : Int32} (h : InvP nb tf ln ly mac mk su mh mem tk po pp n ow mo dy st le wk sta du cu cn qcb qcl bar mt bl bf brk kl ks day paid nd cm cb cl Ls Lnum lm sh) : CoreX (AgI [(0, 1), (1, 2)] ((f_c_usedMinutes day dy le st mh mac zc zn p0 D).1) ((f_r_usedMinutes day dy n le mac mo sta p0 D).2) ((f_r_usedMinutes day dy n le mac mo sta p0 D).1)) (mkC nb tf ln ly mac mk su mh mem tk po pp n ow mo dy st le (fun e => st e + le e) wk sta du cu cn qcb qcl bar mt bl bf brk kl ks pr day G2 G4 ([]) ([])) (mkR mk su mac mem tk paid nd day ow mo dy st le wk sta du cm cb cl n mt bl bar pr Ls Lnum lm sh brk ((f_r_usedMinutes day dy n le mac mo sta p0 D).2)) (wcnt sta n) zc ((f_c_usedMinutes day dy le st mh mac zc zn p0 D).2.1) zn ((f_c_usedMinutes day dy le st mh mac zc zn p0 D).2.2) := by
  obtain ⟨hWC, hWR, hA, hN, hT, hTD, hTz, hd, hEI, hNW, hSt, hC, hCz, hF, hTar, hDebt, hSh, hPay, hDZ, hKl⟩ := id h
  obtain ⟨hE, hU, hSep, hH, hM, hD, hLv⟩ := id hEI
  obtain ⟨wMac, wMem, wEnt, wBar, wBrk, wOw, wMo, wMk, wCm, wCb, wMt, wLm⟩ := id hWR
  unfold f_c_usedMinutes f_r_usedMinutes
  by_cases c1 : f_r_isMachine mac p0 = true
  · rw [if_pos c1]
    by_cases c2 : f_r_in D 0 (day + 6) = true
    · rw [if_pos c2, may_ok c1 c2, if_pos (show ((true, (0 : Int32)).1 = true) from rfl)]
      obtain ⟨q0, hm0⟩ := nP_mac (n := mac) (by omega) c1
      rw [c_lengths_eq hE hH, r_used_eq hE hH, ← q0, may_ok c1 c2]
      exact core_o h ⟨rfl, rfl⟩
    · rw [if_neg c2, may_2 c1 c2, if_neg (show ¬ ((false, (2 : Int32)).1 = true) by decide)]
      exact core_x h (agI_inr (by decide))
  · rw [if_neg c1, may_1 c1, if_neg (show ¬ ((false, (1 : Int32)).1 = true) by decide)]
    exact core_x h (agI_inr (by decide))
theorem core_usedByMinutes {nb : Nat → Int32} {tf : Nat → Nat} {ln : Nat} {ly : Nat → Ly} {mac : Nat} {mk : Nat → Nat} {su : Nat → Int32} {mh : Nat → List Nat} {mem : Nat} {tk : Nat → Nat → Int32} {po : Nat → Int32} {pp : Nat → Int32} {n : Nat} {ow : Nat → Nat} {mo : Nat → Nat} {dy : Nat → Int32} {st : Nat → Int32} {le : Nat → Int32} {wk : Nat → Int32} {sta : Nat → Int32} {du : Nat → Int32} {cu : Nat → List Nat} {cn : Nat} {qcb : Nat → Nat} {qcl : Nat → Int32} {bar : Nat} {mt : Nat → Nat} {bl : Nat → Int32} {bf : Nat → Int32} {brk : Nat} {kl : Nat → Nat} {ks : Nat → Nat → Int32} {day : Int32} {paid : Nat → Int64} {nd : Nat → Nat → Bool} {cm : Nat → Nat} {cb : Nat → Nat → Nat} {cl : Nat → Nat → Int32} {Ls : Nat → Nat → Int32} {Lnum : Nat → Nat → Int32} {lm : Nat → Nat} {sh : Nat → Nat → Int32} {pr : Nat → Int32} {G2 : List Ob} {G4 : List Ob} {thr : Int32} {zc zn : Nat} {p0 D : Int32} (h : InvP nb tf ln ly mac mk su mh mem tk po pp n ow mo dy st le wk sta du cu cn qcb qcl bar mt bl bf brk kl ks day paid nd cm cb cl Ls Lnum lm sh) : CoreX (AgI [(0, 1), (1, 2)] ((f_c_usedByMinutes day mo dy (fun e => st e + le e) le ow st wk mh mac su sta zc zn p0 D).1) ((f_r_usedByMinutes day dy n le mac mo sta p0 D).2) ((f_r_usedByMinutes day dy n le mac mo sta p0 D).1)) (mkC nb tf ln ly mac mk su mh mem tk po pp n ow mo dy st le (fun e => st e + le e) wk sta du cu cn qcb qcl bar mt bl bf brk kl ks pr day G2 G4 ([]) ([])) (mkR mk su mac mem tk paid nd day ow mo dy st le wk sta du cm cb cl n mt bl bar pr Ls Lnum lm sh brk ((f_r_usedByMinutes day dy n le mac mo sta p0 D).2)) (wcnt sta n) zc ((f_c_usedByMinutes day mo dy (fun e => st e + le e) le ow st wk mh mac su sta zc zn p0 D).2.1) zn ((f_c_usedByMinutes day mo dy (fun e => st e + le e) le ow st wk mh mac su sta zc zn p0 D).2.2) := by
  obtain ⟨hWC, hWR, hA, hN, hT, hTD, hTz, hd, hEI, hNW, hSt, hC, hCz, hF, hTar, hDebt, hSh, hPay, hDZ, hKl⟩ := id h
  obtain ⟨hE, hU, hSep, hH, hM, hD, hLv⟩ := id hEI
  obtain ⟨wMac, wMem, wEnt, wBar, wBrk, wOw, wMo, wMk, wCm, wCb, wMt, wLm⟩ := id hWR
  unfold f_c_usedByMinutes f_r_usedByMinutes f_r_usedMinutes
  by_cases c1 : f_r_isMachine mac p0 = true
  · rw [if_pos c1]
    by_cases c2 : f_r_in D 0 (day + 6) = true
    · rw [if_pos c2, may_ok c1 c2, if_pos (show ((true, (0 : Int32)).1 = true) from rfl)]
      obtain ⟨q0, hm0⟩ := nP_mac (n := mac) (by omega) c1
      rw [c_count_eq hE hSep hU hH, r_used_eq hE hH, ← q0, may_ok c1 c2]
      exact core_o h ⟨rfl, rfl⟩
    · rw [if_neg c2, may_2 c1 c2, if_neg (show ¬ ((false, (2 : Int32)).1 = true) by decide)]
      exact core_x h (agI_inr (by decide))
  · rw [if_neg c1, may_1 c1, if_neg (show ¬ ((false, (1 : Int32)).1 = true) by decide)]
    exact core_x h (agI_inr (by decide))
theorem core_use {nb : Nat → Int32} {tf : Nat → Nat} {ln : Nat} {ly : Nat → Ly} {mac : Nat} {mk : Nat → Nat} {su : Nat → Int32} {mh : Nat → List Nat} {mem : Nat} {tk : Nat → Nat → Int32} {po : Nat → Int32} {pp : Nat → Int32} {n : Nat} {ow : Nat → Nat} {mo : Nat → Nat} {dy : Nat → Int32} {st : Nat → Int32} {le : Nat → Int32} {wk : Nat → Int32} {sta : Nat → Int32} {du : Nat → Int32} {cu : Nat → List Nat} {cn : Nat} {qcb : Nat → Nat} {qcl : Nat → Int32} {bar : Nat} {mt : Nat → Nat} {bl : Nat → Int32} {bf : Nat → Int32} {brk : Nat} {kl : Nat → Nat} {ks : Nat → Nat → Int32} {day : Int32} {paid : Nat → Int64} {nd : Nat → Nat → Bool} {cm : Nat → Nat} {cb : Nat → Nat → Nat} {cl : Nat → Nat → Int32} {Ls : Nat → Nat → Int32} {Lnum : Nat → Nat → Int32} {lm : Nat → Nat} {sh : Nat → Nat → Int32} {pr : Nat → Int32} {G2 : List Ob} {G4 : List Ob} {thr : Int32} {zc zn : Nat} {p0 D : Int32} (h : InvP nb tf ln ly mac mk su mh mem tk po pp n ow mo dy st le wk sta du cu cn qcb qcl bar mt bl bf brk kl ks day paid nd cm cb cl Ls Lnum lm sh) : CoreX (AgF [(0, 1), (1, 2)] ((f_c_use day dy le st mh mac zc zn p0 D).1) ((f_r_use day dy n le mac mo sta p0 D).2) ((f_r_use day dy n le mac mo sta p0 D).1)) (mkC nb tf ln ly mac mk su mh mem tk po pp n ow mo dy st le (fun e => st e + le e) wk sta du cu cn qcb qcl bar mt bl bf brk kl ks pr day G2 G4 ([]) ([])) (mkR mk su mac mem tk paid nd day ow mo dy st le wk sta du cm cb cl n mt bl bar pr Ls Lnum lm sh brk ((f_r_use day dy n le mac mo sta p0 D).2)) (wcnt sta n) zc ((f_c_use day dy le st mh mac zc zn p0 D).2.1) zn ((f_c_use day dy le st mh mac zc zn p0 D).2.2) := by
  obtain ⟨hWC, hWR, hA, hN, hT, hTD, hTz, hd, hEI, hNW, hSt, hC, hCz, hF, hTar, hDebt, hSh, hPay, hDZ, hKl⟩ := id h
  obtain ⟨hE, hU, hSep, hH, hM, hD, hLv⟩ := id hEI
  obtain ⟨wMac, wMem, wEnt, wBar, wBrk, wOw, wMo, wMk, wCm, wCb, wMt, wLm⟩ := id hWR
  unfold f_c_use f_r_use
  by_cases c1 : f_r_isMachine mac p0 = true
  · rw [if_pos c1]
    by_cases c2 : f_r_in D 0 (day + 6) = true
    · rw [if_pos c2, may_ok c1 c2, if_pos (show ((true, (0 : Int32)).1 = true) from rfl)]
      obtain ⟨q0, hm0⟩ := nP_mac (n := mac) (by omega) c1
      rw [c_lengths_eq hE hH, r_used_eq hE hH, ← q0, may_ok c1 c2]
      refine core_o h ⟨rfl, rfl, ?_⟩
      exact f2d_mag (use_nn _)
    · rw [if_neg c2, may_2 c1 c2, if_neg (show ¬ ((false, (2 : Int32)).1 = true) by decide)]
      exact core_x h (show (_, _) ∈ _ by decide)
  · rw [if_neg c1, may_1 c1, if_neg (show ¬ ((false, (1 : Int32)).1 = true) by decide)]
    exact core_x h (show (_, _) ∈ _ by decide)
theorem core_setupMinutes {nb : Nat → Int32} {tf : Nat → Nat} {ln : Nat} {ly : Nat → Ly} {mac : Nat} {mk : Nat → Nat} {su : Nat → Int32} {mh : Nat → List Nat} {mem : Nat} {tk : Nat → Nat → Int32} {po : Nat → Int32} {pp : Nat → Int32} {n : Nat} {ow : Nat → Nat} {mo : Nat → Nat} {dy : Nat → Int32} {st : Nat → Int32} {le : Nat → Int32} {wk : Nat → Int32} {sta : Nat → Int32} {du : Nat → Int32} {cu : Nat → List Nat} {cn : Nat} {qcb : Nat → Nat} {qcl : Nat → Int32} {bar : Nat} {mt : Nat → Nat} {bl : Nat → Int32} {bf : Nat → Int32} {brk : Nat} {kl : Nat → Nat} {ks : Nat → Nat → Int32} {day : Int32} {paid : Nat → Int64} {nd : Nat → Nat → Bool} {cm : Nat → Nat} {cb : Nat → Nat → Nat} {cl : Nat → Nat → Int32} {Ls : Nat → Nat → Int32} {Lnum : Nat → Nat → Int32} {lm : Nat → Nat} {sh : Nat → Nat → Int32} {pr : Nat → Int32} {G2 : List Ob} {G4 : List Ob} {thr : Int32} {zc zn : Nat} {p0 D : Int32} (h : InvP nb tf ln ly mac mk su mh mem tk po pp n ow mo dy st le wk sta du cu cn qcb qcl bar mt bl bf brk kl ks day paid nd cm cb cl Ls Lnum lm sh) : CoreX (AgI [(0, 1), (1, 2)] ((f_c_setupMinutes day dy st wk mh mac su zc zn p0 D).1) ((f_r_setupMinutes day dy n le mac mo st sta su wk p0 D).2) ((f_r_setupMinutes day dy n le mac mo st sta su wk p0 D).1)) (mkC nb tf ln ly mac mk su mh mem tk po pp n ow mo dy st le (fun e => st e + le e) wk sta du cu cn qcb qcl bar mt bl bf brk kl ks pr day G2 G4 ([]) ([])) (mkR mk su mac mem tk paid nd day ow mo dy st le wk sta du cm cb cl n mt bl bar pr Ls Lnum lm sh brk ((f_r_setupMinutes day dy n le mac mo st sta su wk p0 D).2)) (wcnt sta n) zc ((f_c_setupMinutes day dy st wk mh mac su zc zn p0 D).2.1) zn ((f_c_setupMinutes day dy st wk mh mac su zc zn p0 D).2.2) := by
  obtain ⟨hWC, hWR, hA, hN, hT, hTD, hTz, hd, hEI, hNW, hSt, hC, hCz, hF, hTar, hDebt, hSh, hPay, hDZ, hKl⟩ := id h
  obtain ⟨hE, hU, hSep, hH, hM, hD, hLv⟩ := id hEI
  obtain ⟨wMac, wMem, wEnt, wBar, wBrk, wOw, wMo, wMk, wCm, wCb, wMt, wLm⟩ := id hWR
  unfold f_c_setupMinutes f_r_setupMinutes
  by_cases c1 : f_r_isMachine mac p0 = true
  · rw [if_pos c1]
    by_cases c2 : f_r_in D 0 (day + 6) = true
    · rw [if_pos c2, may_ok c1 c2, if_pos (show ((true, (0 : Int32)).1 = true) from rfl)]
      obtain ⟨q0, hm0⟩ := nP_mac (n := mac) (by omega) c1
      rw [c_setup_eq hE hSep hU hH, ← q0, may_ok c1 c2]
      exact core_o h ⟨rfl, rfl⟩
    · rw [if_neg c2, may_2 c1 c2, if_neg (show ¬ ((false, (2 : Int32)).1 = true) by decide)]
      exact core_x h (agI_inr (by decide))
  · rw [if_neg c1, may_1 c1, if_neg (show ¬ ((false, (1 : Int32)).1 = true) by decide)]
    exact core_x h (agI_inr (by decide))
theorem core_waiting {nb : Nat → Int32} {tf : Nat → Nat} {ln : Nat} {ly : Nat → Ly} {mac : Nat} {mk : Nat → Nat} {su : Nat → Int32} {mh : Nat → List Nat} {mem : Nat} {tk : Nat → Nat → Int32} {po : Nat → Int32} {pp : Nat → Int32} {n : Nat} {ow : Nat → Nat} {mo : Nat → Nat} {dy : Nat → Int32} {st : Nat → Int32} {le : Nat → Int32} {wk : Nat → Int32} {sta : Nat → Int32} {du : Nat → Int32} {cu : Nat → List Nat} {cn : Nat} {qcb : Nat → Nat} {qcl : Nat → Int32} {bar : Nat} {mt : Nat → Nat} {bl : Nat → Int32} {bf : Nat → Int32} {brk : Nat} {kl : Nat → Nat} {ks : Nat → Nat → Int32} {day : Int32} {paid : Nat → Int64} {nd : Nat → Nat → Bool} {cm : Nat → Nat} {cb : Nat → Nat → Nat} {cl : Nat → Nat → Int32} {Ls : Nat → Nat → Int32} {Lnum : Nat → Nat → Int32} {lm : Nat → Nat} {sh : Nat → Nat → Int32} {pr : Nat → Int32} {G2 : List Ob} {G4 : List Ob} {thr : Int32} {zc zn : Nat} {p0 D : Int32} (h : InvP nb tf ln ly mac mk su mh mem tk po pp n ow mo dy st le wk sta du cu cn qcb qcl bar mt bl bf brk kl ks day paid nd cm cb cl Ls Lnum lm sh) : CoreX (AgI [(0, 1), (1, 2)] ((f_c_waiting day mo dy n mac sta zc zn p0 D).1) ((f_r_waiting day dy n mac mo sta p0 D).2) ((f_r_waiting day dy n mac mo sta p0 D).1)) (mkC nb tf ln ly mac mk su mh mem tk po pp n ow mo dy st le (fun e => st e + le e) wk sta du cu cn qcb qcl bar mt bl bf brk kl ks pr day G2 G4 ([]) ([])) (mkR mk su mac mem tk paid nd day ow mo dy st le wk sta du cm cb cl n mt bl bar pr Ls Lnum lm sh brk ((f_r_waiting day dy n mac mo sta p0 D).2)) (wcnt sta n) zc ((f_c_waiting day mo dy n mac sta zc zn p0 D).2.1) zn ((f_c_waiting day mo dy n mac sta zc zn p0 D).2.2) := by
  obtain ⟨hWC, hWR, hA, hN, hT, hTD, hTz, hd, hEI, hNW, hSt, hC, hCz, hF, hTar, hDebt, hSh, hPay, hDZ, hKl⟩ := id h
  obtain ⟨hE, hU, hSep, hH, hM, hD, hLv⟩ := id hEI
  obtain ⟨wMac, wMem, wEnt, wBar, wBrk, wOw, wMo, wMk, wCm, wCb, wMt, wLm⟩ := id hWR
  unfold f_c_waiting f_r_waiting
  by_cases c1 : f_r_isMachine mac p0 = true
  · rw [if_pos c1]
    by_cases c2 : f_r_in D day (day + 6) = true
    · rw [if_pos c2, may_ok c1 c2, if_pos (show ((true, (0 : Int32)).1 = true) from rfl)]
      obtain ⟨q0, hm0⟩ := nP_mac (n := mac) (by omega) c1
      obtain ⟨w1, w2⟩ := waiting_eq (day := day) (D := D) (mac := mac) (p := nP p0) (mo := mo) (dy := dy) (sta := sta) (zc := zc) (zn := zn) n 0 0
      rw [← q0, may_ok c1 c2] at w2
      rw [w1]
      show CoreX (AgI _ _ (r_waiting_L18 day dy mac mo sta (nP p0) D n 0 0).2 _) _ _ _ _ _ _ _
      rw [w2]
      exact core_o h ⟨rfl, rfl⟩
    · rw [if_neg c2, may_2 c1 c2, if_neg (show ¬ ((false, (2 : Int32)).1 = true) by decide)]
      exact core_x h (agI_inr (by decide))
  · rw [if_neg c1, may_1 c1, if_neg (show ¬ ((false, (1 : Int32)).1 = true) by decide)]
    exact core_x h (agI_inr (by decide))
theorem core_firstStart {nb : Nat → Int32} {tf : Nat → Nat} {ln : Nat} {ly : Nat → Ly} {mac : Nat} {mk : Nat → Nat} {su : Nat → Int32} {mh : Nat → List Nat} {mem : Nat} {tk : Nat → Nat → Int32} {po : Nat → Int32} {pp : Nat → Int32} {n : Nat} {ow : Nat → Nat} {mo : Nat → Nat} {dy : Nat → Int32} {st : Nat → Int32} {le : Nat → Int32} {wk : Nat → Int32} {sta : Nat → Int32} {du : Nat → Int32} {cu : Nat → List Nat} {cn : Nat} {qcb : Nat → Nat} {qcl : Nat → Int32} {bar : Nat} {mt : Nat → Nat} {bl : Nat → Int32} {bf : Nat → Int32} {brk : Nat} {kl : Nat → Nat} {ks : Nat → Nat → Int32} {day : Int32} {paid : Nat → Int64} {nd : Nat → Nat → Bool} {cm : Nat → Nat} {cb : Nat → Nat → Nat} {cl : Nat → Nat → Int32} {Ls : Nat → Nat → Int32} {Lnum : Nat → Nat → Int32} {lm : Nat → Nat} {sh : Nat → Nat → Int32} {pr : Nat → Int32} {G2 : List Ob} {G4 : List Ob} {thr : Int32} {zc zn : Nat} {p0 D M V : Int32} (h : InvP nb tf ln ly mac mk su mh mem tk po pp n ow mo dy st le wk sta du cu cn qcb qcl bar mt bl bf brk kl ks day paid nd cm cb cl Ls Lnum lm sh) : CoreX (AgI [(0, 1), (1, 2), (4, 3)] ((f_c_firstStart day mo dy (fun e => st e + le e) le ow st wk mh mac su sta zc zn p0 D M V).1) ((f_r_firstStart day dy n le mac mo st sta su wk p0 D M V).2) ((f_r_firstStart day dy n le mac mo st sta su wk p0 D M V).1)) (mkC nb tf ln ly mac mk su mh mem tk po pp n ow mo dy st le (fun e => st e + le e) wk sta du cu cn qcb qcl bar mt bl bf brk kl ks pr day G2 G4 ([]) ([])) (mkR mk su mac mem tk paid nd day ow mo dy st le wk sta du cm cb cl n mt bl bar pr Ls Lnum lm sh brk ((f_r_firstStart day dy n le mac mo st sta su wk p0 D M V).2)) (wcnt sta n) zc ((f_c_firstStart day mo dy (fun e => st e + le e) le ow st wk mh mac su sta zc zn p0 D M V).2.1) zn ((f_c_firstStart day mo dy (fun e => st e + le e) le ow st wk mh mac su sta zc zn p0 D M V).2.2) := by
  obtain ⟨hWC, hWR, hA, hN, hT, hTD, hTz, hd, hEI, hNW, hSt, hC, hCz, hF, hTar, hDebt, hSh, hPay, hDZ, hKl⟩ := id h
  obtain ⟨hE, hU, hSep, hH, hM, hD, hLv⟩ := id hEI
  obtain ⟨wMac, wMem, wEnt, wBar, wBrk, wOw, wMo, wMk, wCm, wCb, wMt, wLm⟩ := id hWR
  have hw : ∀ (c1 : f_r_isMachine mac p0 = true), wishOk day D M V = true ↔ f_r_in D day (day + 6) = true ∧ f_r_in M 1 240 = true ∧ f_r_isWork V = true := fun _ => by
    unfold wishOk
    rw [Bool.and_eq_true, Bool.and_eq_true, isWork_iff]
    exact ⟨fun z => ⟨z.1.1, z.1.2, z.2⟩, fun z => ⟨⟨z.1, z.2.1⟩, z.2.2⟩⟩
  unfold f_c_firstStart f_r_firstStart
  by_cases c1 : f_r_isMachine mac p0 = true
  · rw [if_pos c1]
    by_cases c2 : wishOk day D M V = true
    · rw [if_pos c2]
      obtain ⟨c3, c4, c5⟩ := (hw c1).mp c2
      obtain ⟨q0, hm0⟩ := nP_mac (n := mac) (by omega) c1
      have m4 := in_iff.mp c4
      have d3 := in_iff.mp c3
      have e240 : (240 : Int32).toInt = 240 := rfl
      have e1 : (1 : Int32).toInt = 1 := rfl
      have hdn : ∀ e, e < n → sta e = 100 → ¬ dy e = D := fun e he hs z => by
        have := (hD e he).2 hs
        rw [z] at this
        omega
      rw [may_ok c1 c3, if_pos (show ((true, (0 : Int32)).1 = true) from rfl), if_pos c4, if_pos c5]
      rcases first_all (ow := ow) (V := V) (D := D) (day := day) (mac := mac) (zc := zc) (zn := zn) hE hSep hU hH hdn (mc := nP p0) (M := M) (by omega) (by omega) with ⟨f1, f2, f3⟩ | ⟨y, f0, f1, f2, f3⟩
      · rw [f1, f2, if_pos rfl]
        exact core_x h (agI_inr (by decide))
      · have hy : ¬ nI y = -1 := nI_nm1 (by omega)
        rw [f1, f2, if_neg hy, ← q0, may_ok c1 c3]
        exact core_o h ⟨rfl, rfl⟩
    · rw [if_neg c2]
      by_cases c3 : f_r_in D day (day + 6) = true
      · rw [may_ok c1 c3, if_pos (show ((true, (0 : Int32)).1 = true) from rfl)]
        by_cases c4 : f_r_in M 1 240 = true
        · rw [if_pos c4, if_neg (fun z => c2 ((hw c1).mpr ⟨c3, c4, z⟩))]
          exact core_x h (agI_inr (by decide))
        · rw [if_neg c4]
          exact core_x h (agI_inr (by decide))
      · rw [may_2 c1 c3, if_neg (show ¬ ((false, (2 : Int32)).1 = true) by decide)]
        exact core_x h (agI_inr (by decide))
  · rw [if_neg c1, may_1 c1, if_neg (show ¬ ((false, (1 : Int32)).1 = true) by decide)]
    exact core_x h (agI_inr (by decide))
theorem core_firstByMinutes {nb : Nat → Int32} {tf : Nat → Nat} {ln : Nat} {ly : Nat → Ly} {mac : Nat} {mk : Nat → Nat} {su : Nat → Int32} {mh : Nat → List Nat} {mem : Nat} {tk : Nat → Nat → Int32} {po : Nat → Int32} {pp : Nat → Int32} {n : Nat} {ow : Nat → Nat} {mo : Nat → Nat} {dy : Nat → Int32} {st : Nat → Int32} {le : Nat → Int32} {wk : Nat → Int32} {sta : Nat → Int32} {du : Nat → Int32} {cu : Nat → List Nat} {cn : Nat} {qcb : Nat → Nat} {qcl : Nat → Int32} {bar : Nat} {mt : Nat → Nat} {bl : Nat → Int32} {bf : Nat → Int32} {brk : Nat} {kl : Nat → Nat} {ks : Nat → Nat → Int32} {day : Int32} {paid : Nat → Int64} {nd : Nat → Nat → Bool} {cm : Nat → Nat} {cb : Nat → Nat → Nat} {cl : Nat → Nat → Int32} {Ls : Nat → Nat → Int32} {Lnum : Nat → Nat → Int32} {lm : Nat → Nat} {sh : Nat → Nat → Int32} {pr : Nat → Int32} {G2 : List Ob} {G4 : List Ob} {thr : Int32} {zc zn : Nat} {p0 D M V : Int32} (h : InvP nb tf ln ly mac mk su mh mem tk po pp n ow mo dy st le wk sta du cu cn qcb qcl bar mt bl bf brk kl ks day paid nd cm cb cl Ls Lnum lm sh) : CoreX (AgI [(0, 1), (1, 2), (4, 3)] ((f_c_firstByMinutes day mo dy (fun e => st e + le e) le ow st wk mh mac su sta zc zn p0 D M V).1) ((f_r_firstByMinutes day dy n le mac mo st sta su wk p0 D M V).2) ((f_r_firstByMinutes day dy n le mac mo st sta su wk p0 D M V).1)) (mkC nb tf ln ly mac mk su mh mem tk po pp n ow mo dy st le (fun e => st e + le e) wk sta du cu cn qcb qcl bar mt bl bf brk kl ks pr day G2 G4 ([]) ([])) (mkR mk su mac mem tk paid nd day ow mo dy st le wk sta du cm cb cl n mt bl bar pr Ls Lnum lm sh brk ((f_r_firstByMinutes day dy n le mac mo st sta su wk p0 D M V).2)) (wcnt sta n) zc ((f_c_firstByMinutes day mo dy (fun e => st e + le e) le ow st wk mh mac su sta zc zn p0 D M V).2.1) zn ((f_c_firstByMinutes day mo dy (fun e => st e + le e) le ow st wk mh mac su sta zc zn p0 D M V).2.2) := by
  obtain ⟨hWC, hWR, hA, hN, hT, hTD, hTz, hd, hEI, hNW, hSt, hC, hCz, hF, hTar, hDebt, hSh, hPay, hDZ, hKl⟩ := id h
  obtain ⟨hE, hU, hSep, hH, hM, hD, hLv⟩ := id hEI
  obtain ⟨wMac, wMem, wEnt, wBar, wBrk, wOw, wMo, wMk, wCm, wCb, wMt, wLm⟩ := id hWR
  have hw : ∀ (c1 : f_r_isMachine mac p0 = true), wishOk day D M V = true ↔ f_r_in D day (day + 6) = true ∧ f_r_in M 1 240 = true ∧ f_r_isWork V = true := fun _ => by
    unfold wishOk
    rw [Bool.and_eq_true, Bool.and_eq_true, isWork_iff]
    exact ⟨fun z => ⟨z.1.1, z.1.2, z.2⟩, fun z => ⟨⟨z.1, z.2.1⟩, z.2.2⟩⟩
  unfold f_c_firstByMinutes f_r_firstByMinutes f_r_firstStart
  by_cases c1 : f_r_isMachine mac p0 = true
  · rw [if_pos c1]
    by_cases c2 : wishOk day D M V = true
    · rw [if_pos c2]
      obtain ⟨c3, c4, c5⟩ := (hw c1).mp c2
      obtain ⟨q0, hm0⟩ := nP_mac (n := mac) (by omega) c1
      have m4 := in_iff.mp c4
      have d3 := in_iff.mp c3
      have e240 : (240 : Int32).toInt = 240 := rfl
      have e1 : (1 : Int32).toInt = 1 := rfl
      have hdn : ∀ e, e < n → sta e = 100 → ¬ dy e = D := fun e he hs z => by
        have := (hD e he).2 hs
        rw [z] at this
        omega
      rw [may_ok c1 c3, if_pos (show ((true, (0 : Int32)).1 = true) from rfl), if_pos c4, if_pos c5]
      rcases first_all (ow := ow) (V := V) (D := D) (day := day) (mac := mac) (zc := zc) (zn := zn) hE hSep hU hH hdn (mc := nP p0) (M := M) (by omega) (by omega) with ⟨f1, f2, f3⟩ | ⟨y, f0, f1, f2, f3⟩
      · rw [f2, f3]
        exact core_x h (agI_inr (by decide))
      · rw [f2, f3, ← q0, may_ok c1 c3]
        exact core_o h ⟨rfl, rfl⟩
    · rw [if_neg c2]
      by_cases c3 : f_r_in D day (day + 6) = true
      · rw [may_ok c1 c3, if_pos (show ((true, (0 : Int32)).1 = true) from rfl)]
        by_cases c4 : f_r_in M 1 240 = true
        · rw [if_pos c4, if_neg (fun z => c2 ((hw c1).mpr ⟨c3, c4, z⟩))]
          exact core_x h (agI_inr (by decide))
        · rw [if_neg c4]
          exact core_x h (agI_inr (by decide))
      · rw [may_2 c1 c3, if_neg (show ¬ ((false, (2 : Int32)).1 = true) by decide)]
        exact core_x h (agI_inr (by decide))
  · rw [if_neg c1, may_1 c1, if_neg (show ¬ ((false, (1 : Int32)).1 = true) by decide)]
    exact core_x h (agI_inr (by decide))
theorem core_freeOf {nb : Nat → Int32} {tf : Nat → Nat} {ln : Nat} {ly : Nat → Ly} {mac : Nat} {mk : Nat → Nat} {su : Nat → Int32} {mh : Nat → List Nat} {mem : Nat} {tk : Nat → Nat → Int32} {po : Nat → Int32} {pp : Nat → Int32} {n : Nat} {ow : Nat → Nat} {mo : Nat → Nat} {dy : Nat → Int32} {st : Nat → Int32} {le : Nat → Int32} {wk : Nat → Int32} {sta : Nat → Int32} {du : Nat → Int32} {cu : Nat → List Nat} {cn : Nat} {qcb : Nat → Nat} {qcl : Nat → Int32} {bar : Nat} {mt : Nat → Nat} {bl : Nat → Int32} {bf : Nat → Int32} {brk : Nat} {kl : Nat → Nat} {ks : Nat → Nat → Int32} {day : Int32} {paid : Nat → Int64} {nd : Nat → Nat → Bool} {cm : Nat → Nat} {cb : Nat → Nat → Nat} {cl : Nat → Nat → Int32} {Ls : Nat → Nat → Int32} {Lnum : Nat → Nat → Int32} {lm : Nat → Nat} {sh : Nat → Nat → Int32} {pr : Nat → Int32} {G2 : List Ob} {G4 : List Ob} {thr : Int32} {zc zn : Nat} {p0 : Int32} (h : InvP nb tf ln ly mac mk su mh mem tk po pp n ow mo dy st le wk sta du cu cn qcb qcl bar mt bl bf brk kl ks day paid nd cm cb cl Ls Lnum lm sh) : CoreX (AgI [(4, 1)] ((f_c_freeOf bf bar zc zn p0).1) ((f_r_freeOf bar bl cb cl cm n sta p0).2) ((f_r_freeOf bar bl cb cl cm n sta p0).1)) (mkC nb tf ln ly mac mk su mh mem tk po pp n ow mo dy st le (fun e => st e + le e) wk sta du cu cn qcb qcl bar mt bl bf brk kl ks pr day G2 G4 ([]) ([])) (mkR mk su mac mem tk paid nd day ow mo dy st le wk sta du cm cb cl n mt bl bar pr Ls Lnum lm sh brk ((f_r_freeOf bar bl cb cl cm n sta p0).2)) (wcnt sta n) zc ((f_c_freeOf bf bar zc zn p0).2.1) zn ((f_c_freeOf bf bar zc zn p0).2.2) := by
  obtain ⟨hWC, hWR, hA, hN, hT, hTD, hTz, hd, hEI, hNW, hSt, hC, hCz, hF, hTar, hDebt, hSh, hPay, hDZ, hKl⟩ := id h
  obtain ⟨hE, hU, hSep, hH, hM, hD, hLv⟩ := id hEI
  obtain ⟨wMac, wMem, wEnt, wBar, wBrk, wOw, wMo, wMk, wCm, wCb, wMt, wLm⟩ := id hWR
  unfold f_c_freeOf f_r_freeOf
  by_cases c1 : f_r_in p0 0 (nI bar - 1) = true
  · rw [if_pos c1, if_pos c1]
    obtain ⟨q0, hb0⟩ := nP_idx (n := bar) (by omega) c1
    rw [hF _ hb0]
    exact core_o h ⟨rfl, rfl⟩
  · rw [if_neg c1, if_neg c1]
    exact core_x h (agI_inr (by decide))
theorem core_freeByCuts {nb : Nat → Int32} {tf : Nat → Nat} {ln : Nat} {ly : Nat → Ly} {mac : Nat} {mk : Nat → Nat} {su : Nat → Int32} {mh : Nat → List Nat} {mem : Nat} {tk : Nat → Nat → Int32} {po : Nat → Int32} {pp : Nat → Int32} {n : Nat} {ow : Nat → Nat} {mo : Nat → Nat} {dy : Nat → Int32} {st : Nat → Int32} {le : Nat → Int32} {wk : Nat → Int32} {sta : Nat → Int32} {du : Nat → Int32} {cu : Nat → List Nat} {cn : Nat} {qcb : Nat → Nat} {qcl : Nat → Int32} {bar : Nat} {mt : Nat → Nat} {bl : Nat → Int32} {bf : Nat → Int32} {brk : Nat} {kl : Nat → Nat} {ks : Nat → Nat → Int32} {day : Int32} {paid : Nat → Int64} {nd : Nat → Nat → Bool} {cm : Nat → Nat} {cb : Nat → Nat → Nat} {cl : Nat → Nat → Int32} {Ls : Nat → Nat → Int32} {Lnum : Nat → Nat → Int32} {lm : Nat → Nat} {sh : Nat → Nat → Int32} {pr : Nat → Int32} {G2 : List Ob} {G4 : List Ob} {thr : Int32} {zc zn : Nat} {p0 : Int32} (h : InvP nb tf ln ly mac mk su mh mem tk po pp n ow mo dy st le wk sta du cu cn qcb qcl bar mt bl bf brk kl ks day paid nd cm cb cl Ls Lnum lm sh) : CoreX (AgI [(4, 1)] ((f_c_freeByCuts bl bar qcb qcl cu n zc zn p0).1) ((f_r_freeByCuts bar bl cb cl cm n sta p0).2) ((f_r_freeByCuts bar bl cb cl cm n sta p0).1)) (mkC nb tf ln ly mac mk su mh mem tk po pp n ow mo dy st le (fun e => st e + le e) wk sta du cu cn qcb qcl bar mt bl bf brk kl ks pr day G2 G4 ([]) ([])) (mkR mk su mac mem tk paid nd day ow mo dy st le wk sta du cm cb cl n mt bl bar pr Ls Lnum lm sh brk ((f_r_freeByCuts bar bl cb cl cm n sta p0).2)) (wcnt sta n) zc ((f_c_freeByCuts bl bar qcb qcl cu n zc zn p0).2.1) zn ((f_c_freeByCuts bl bar qcb qcl cu n zc zn p0).2.2) := by
  obtain ⟨hWC, hWR, hA, hN, hT, hTD, hTz, hd, hEI, hNW, hSt, hC, hCz, hF, hTar, hDebt, hSh, hPay, hDZ, hKl⟩ := id h
  obtain ⟨hE, hU, hSep, hH, hM, hD, hLv⟩ := id hEI
  obtain ⟨wMac, wMem, wEnt, wBar, wBrk, wOw, wMo, wMk, wCm, wCb, wMt, wLm⟩ := id hWR
  unfold f_c_freeByCuts f_r_freeByCuts f_r_freeOf
  by_cases c1 : f_r_in p0 0 (nI bar - 1) = true
  · rw [if_pos c1, if_pos c1]
    obtain ⟨q0, hb0⟩ := nP_idx (n := bar) (by omega) c1
    rw [left_eq hC]
    exact core_o h ⟨rfl, rfl⟩
  · rw [if_neg c1, if_neg c1]
    exact core_x h (agI_inr (by decide))
theorem core_costOf {nb : Nat → Int32} {tf : Nat → Nat} {ln : Nat} {ly : Nat → Ly} {mac : Nat} {mk : Nat → Nat} {su : Nat → Int32} {mh : Nat → List Nat} {mem : Nat} {tk : Nat → Nat → Int32} {po : Nat → Int32} {pp : Nat → Int32} {n : Nat} {ow : Nat → Nat} {mo : Nat → Nat} {dy : Nat → Int32} {st : Nat → Int32} {le : Nat → Int32} {wk : Nat → Int32} {sta : Nat → Int32} {du : Nat → Int32} {cu : Nat → List Nat} {cn : Nat} {qcb : Nat → Nat} {qcl : Nat → Int32} {bar : Nat} {mt : Nat → Nat} {bl : Nat → Int32} {bf : Nat → Int32} {brk : Nat} {kl : Nat → Nat} {ks : Nat → Nat → Int32} {day : Int32} {paid : Nat → Int64} {nd : Nat → Nat → Bool} {cm : Nat → Nat} {cb : Nat → Nat → Nat} {cl : Nat → Nat → Int32} {Ls : Nat → Nat → Int32} {Lnum : Nat → Nat → Int32} {lm : Nat → Nat} {sh : Nat → Nat → Int32} {pr : Nat → Int32} {G2 : List Ob} {G4 : List Ob} {thr : Int32} {zG5 : List Ob} {rc rn : Nat} {zc zn : Nat} {p0 X : Int32} (h : InvP nb tf ln ly mac mk su mh mem tk po pp n ow mo dy st le wk sta du cu cn qcb qcl bar mt bl bf brk kl ks day paid nd cm cb cl Ls Lnum lm sh) : CoreX (AgI [(1, 1)] ((f_c_costOf ly tf zc zn p0 X).1) ((f_r_costOf lm Lnum Ls zG5 rc rn p0 X).2.1) ((f_r_costOf lm Lnum Ls zG5 rc rn p0 X).1)) (mkC nb tf ln ly mac mk su mh mem tk po pp n ow mo dy st le (fun e => st e + le e) wk sta du cu cn qcb qcl bar mt bl bf brk kl ks pr day G2 G4 ([]) ([])) (mkR mk su mac mem tk paid nd day ow mo dy st le wk sta du cm cb cl n mt bl bar pr Ls Lnum lm sh brk ((f_r_costOf lm Lnum Ls zG5 rc rn p0 X).2.1)) (wcnt sta n) zc ((f_c_costOf ly tf zc zn p0 X).2.1) zn ((f_c_costOf ly tf zc zn p0 X).2.2) := by
  obtain ⟨hWC, hWR, hA, hN, hT, hTD, hTz, hd, hEI, hNW, hSt, hC, hCz, hF, hTar, hDebt, hSh, hPay, hDZ, hKl⟩ := id h
  obtain ⟨hE, hU, hSep, hH, hM, hD, hLv⟩ := id hEI
  obtain ⟨wMac, wMem, wEnt, wBar, wBrk, wOw, wMo, wMk, wCm, wCb, wMt, wLm⟩ := id hWR
  unfold f_c_costOf f_r_costOf
  by_cases c1 : f_r_isKind p0 = true
  · rw [if_pos c1, if_pos c1]
    by_cases c2 : f_r_in X 0 480 = true
    · rw [if_pos c2, if_pos c2]
      obtain ⟨-, hk⟩ := nP_kind c1
      have m2 := in_iff.mp c2
      have e480 : (480 : Int32).toInt = 480 := rfl
      have e0 : (0 : Int32).toInt = 0 := rfl
      rw [cost_eq hTar hk (wLm _) (by omega) (by omega)]
      exact core_o h ⟨rfl, rfl⟩
    · rw [if_neg c2, if_neg c2]
      exact core_x h (agI_inr (show ((1 : Nat), (1 : Int32)) ∈ ([(1, 1)] : List (Nat × Int32)) by decide))
  · rw [if_neg c1, if_neg c1]
    exact core_x h (agI_inr (show ((1 : Nat), (1 : Int32)) ∈ ([(1, 1)] : List (Nat × Int32)) by decide))
theorem core_shareOf {nb : Nat → Int32} {tf : Nat → Nat} {ln : Nat} {ly : Nat → Ly} {mac : Nat} {mk : Nat → Nat} {su : Nat → Int32} {mh : Nat → List Nat} {mem : Nat} {tk : Nat → Nat → Int32} {po : Nat → Int32} {pp : Nat → Int32} {n : Nat} {ow : Nat → Nat} {mo : Nat → Nat} {dy : Nat → Int32} {st : Nat → Int32} {le : Nat → Int32} {wk : Nat → Int32} {sta : Nat → Int32} {du : Nat → Int32} {cu : Nat → List Nat} {cn : Nat} {qcb : Nat → Nat} {qcl : Nat → Int32} {bar : Nat} {mt : Nat → Nat} {bl : Nat → Int32} {bf : Nat → Int32} {brk : Nat} {kl : Nat → Nat} {ks : Nat → Nat → Int32} {day : Int32} {paid : Nat → Int64} {nd : Nat → Nat → Bool} {cm : Nat → Nat} {cb : Nat → Nat → Nat} {cl : Nat → Nat → Int32} {Ls : Nat → Nat → Int32} {Lnum : Nat → Nat → Int32} {lm : Nat → Nat} {sh : Nat → Nat → Int32} {pr : Nat → Int32} {G2 : List Ob} {G4 : List Ob} {thr : Int32} {zc zn : Nat} {p0 p1 : Int32} (h : InvP nb tf ln ly mac mk su mh mem tk po pp n ow mo dy st le wk sta du cu cn qcb qcl bar mt bl bf brk kl ks day paid nd cm cb cl Ls Lnum lm sh) : CoreX (AgI [(4, 1), (0, 2)] ((f_c_shareOf kl brk ks mem zc zn p0 p1).1) ((f_r_shareOf brk mem sh p0 p1).2) ((f_r_shareOf brk mem sh p0 p1).1)) (mkC nb tf ln ly mac mk su mh mem tk po pp n ow mo dy st le (fun e => st e + le e) wk sta du cu cn qcb qcl bar mt bl bf brk kl ks pr day G2 G4 ([]) ([])) (mkR mk su mac mem tk paid nd day ow mo dy st le wk sta du cm cb cl n mt bl bar pr Ls Lnum lm sh brk ((f_r_shareOf brk mem sh p0 p1).2)) (wcnt sta n) zc ((f_c_shareOf kl brk ks mem zc zn p0 p1).2.1) zn ((f_c_shareOf kl brk ks mem zc zn p0 p1).2.2) := by
  obtain ⟨hWC, hWR, hA, hN, hT, hTD, hTz, hd, hEI, hNW, hSt, hC, hCz, hF, hTar, hDebt, hSh, hPay, hDZ, hKl⟩ := id h
  obtain ⟨hE, hU, hSep, hH, hM, hD, hLv⟩ := id hEI
  obtain ⟨wMac, wMem, wEnt, wBar, wBrk, wOw, wMo, wMk, wCm, wCb, wMt, wLm⟩ := id hWR
  unfold f_c_shareOf f_r_shareOf
  have e0 : (0 : Int32).toInt = 0 := rfl
  have eb : (nI brk).toInt = (brk : Int) := nI_toInt (by omega)
  have eb1 : (nI brk - 1).toInt = (brk : Int) - 1 := by
    rw [i_sub (by rw [eb]; show _ ≤ _ - (1 : Int); omega) (by rw [eb]; show _ - (1 : Int) < _; omega), eb]
    rfl
  by_cases c1 : f_r_in p0 0 (nI brk - 1) = true
  · obtain ⟨q0, hb0⟩ := nP_idx (n := brk) (by omega) c1
    have m1 := in_iff.mp c1
    rw [if_neg (by rw [i_lt]; omega), if_pos (by rw [i_lt, eb]; omega), if_pos c1]
    by_cases c2 : f_r_isMember mem p1 = true
    · rw [if_pos c2, if_pos c2]
      obtain ⟨q1, hm1⟩ := nP_mem (n := mem) (by omega) c2
      rw [hSh.1 _ hb0 _ (by omega)]
      exact core_o h ⟨rfl, rfl⟩
    · rw [if_neg c2, if_neg c2]
      exact core_x h (agI_inr (by decide))
  · rw [if_neg c1]
    by_cases c3 : p0 < 0
    · rw [if_pos c3]
      exact core_x h (agI_inr (by decide))
    · rw [if_neg c3, if_neg (fun z => c1 (in_iff.mpr (by rw [i_lt] at c3 z; omega)))]
      exact core_x h (agI_inr (by decide))
theorem core_owes {nb : Nat → Int32} {tf : Nat → Nat} {ln : Nat} {ly : Nat → Ly} {mac : Nat} {mk : Nat → Nat} {su : Nat → Int32} {mh : Nat → List Nat} {mem : Nat} {tk : Nat → Nat → Int32} {po : Nat → Int32} {pp : Nat → Int32} {n : Nat} {ow : Nat → Nat} {mo : Nat → Nat} {dy : Nat → Int32} {st : Nat → Int32} {le : Nat → Int32} {wk : Nat → Int32} {sta : Nat → Int32} {du : Nat → Int32} {cu : Nat → List Nat} {cn : Nat} {qcb : Nat → Nat} {qcl : Nat → Int32} {bar : Nat} {mt : Nat → Nat} {bl : Nat → Int32} {bf : Nat → Int32} {brk : Nat} {kl : Nat → Nat} {ks : Nat → Nat → Int32} {day : Int32} {paid : Nat → Int64} {nd : Nat → Nat → Bool} {cm : Nat → Nat} {cb : Nat → Nat → Nat} {cl : Nat → Nat → Int32} {Ls : Nat → Nat → Int32} {Lnum : Nat → Nat → Int32} {lm : Nat → Nat} {sh : Nat → Nat → Int32} {pr : Nat → Int32} {G2 : List Ob} {G4 : List Ob} {thr : Int32} {zc zn : Nat} {p0 : Int32} (h : InvP nb tf ln ly mac mk su mh mem tk po pp n ow mo dy st le wk sta du cu cn qcb qcl bar mt bl bf brk kl ks day paid nd cm cb cl Ls Lnum lm sh) : CoreX (AgI [(0, 1)] ((f_c_owes mem po pp zc zn p0).1) ((f_r_owes brk du n mem ow paid sh p0).2) ((f_r_owes brk du n mem ow paid sh p0).1)) (mkC nb tf ln ly mac mk su mh mem tk po pp n ow mo dy st le (fun e => st e + le e) wk sta du cu cn qcb qcl bar mt bl bf brk kl ks pr day G2 G4 ([]) ([])) (mkR mk su mac mem tk paid nd day ow mo dy st le wk sta du cm cb cl n mt bl bar pr Ls Lnum lm sh brk ((f_r_owes brk du n mem ow paid sh p0).2)) (wcnt sta n) zc ((f_c_owes mem po pp zc zn p0).2.1) zn ((f_c_owes mem po pp zc zn p0).2.2) := by
  obtain ⟨hWC, hWR, hA, hN, hT, hTD, hTz, hd, hEI, hNW, hSt, hC, hCz, hF, hTar, hDebt, hSh, hPay, hDZ, hKl⟩ := id h
  obtain ⟨hE, hU, hSep, hH, hM, hD, hLv⟩ := id hEI
  obtain ⟨wMac, wMem, wEnt, wBar, wBrk, wOw, wMo, wMk, wCm, wCb, wMt, wLm⟩ := id hWR
  unfold f_c_owes f_r_owes
  by_cases c1 : f_r_isMember mem p0 = true
  · rw [if_pos c1, if_pos c1]
    obtain ⟨q0, hm0⟩ := nP_mem (n := mem) (by omega) c1
    rw [owes_eq hPay hDebt hm0]
    exact core_o h ⟨rfl, rfl⟩
  · rw [if_neg c1, if_neg c1]
    exact core_x h (agI_inr (by decide))
theorem core_owesByEntries {nb : Nat → Int32} {tf : Nat → Nat} {ln : Nat} {ly : Nat → Ly} {mac : Nat} {mk : Nat → Nat} {su : Nat → Int32} {mh : Nat → List Nat} {mem : Nat} {tk : Nat → Nat → Int32} {po : Nat → Int32} {pp : Nat → Int32} {n : Nat} {ow : Nat → Nat} {mo : Nat → Nat} {dy : Nat → Int32} {st : Nat → Int32} {le : Nat → Int32} {wk : Nat → Int32} {sta : Nat → Int32} {du : Nat → Int32} {cu : Nat → List Nat} {cn : Nat} {qcb : Nat → Nat} {qcl : Nat → Int32} {bar : Nat} {mt : Nat → Nat} {bl : Nat → Int32} {bf : Nat → Int32} {brk : Nat} {kl : Nat → Nat} {ks : Nat → Nat → Int32} {day : Int32} {paid : Nat → Int64} {nd : Nat → Nat → Bool} {cm : Nat → Nat} {cb : Nat → Nat → Nat} {cl : Nat → Nat → Int32} {Ls : Nat → Nat → Int32} {Lnum : Nat → Nat → Int32} {lm : Nat → Nat} {sh : Nat → Nat → Int32} {pr : Nat → Int32} {G2 : List Ob} {G4 : List Ob} {thr : Int32} {zc zn : Nat} {p0 : Int32} (h : InvP nb tf ln ly mac mk su mh mem tk po pp n ow mo dy st le wk sta du cu cn qcb qcl bar mt bl bf brk kl ks day paid nd cm cb cl Ls Lnum lm sh) : CoreX (AgI [(0, 1)] ((f_c_owesByEntries du ow n kl brk ks mem pp zc zn p0).1) ((f_r_owesByEntries brk du n mem ow paid sh p0).2) ((f_r_owesByEntries brk du n mem ow paid sh p0).1)) (mkC nb tf ln ly mac mk su mh mem tk po pp n ow mo dy st le (fun e => st e + le e) wk sta du cu cn qcb qcl bar mt bl bf brk kl ks pr day G2 G4 ([]) ([])) (mkR mk su mac mem tk paid nd day ow mo dy st le wk sta du cm cb cl n mt bl bar pr Ls Lnum lm sh brk ((f_r_owesByEntries brk du n mem ow paid sh p0).2)) (wcnt sta n) zc ((f_c_owesByEntries du ow n kl brk ks mem pp zc zn p0).2.1) zn ((f_c_owesByEntries du ow n kl brk ks mem pp zc zn p0).2.2) := by
  obtain ⟨hWC, hWR, hA, hN, hT, hTD, hTz, hd, hEI, hNW, hSt, hC, hCz, hF, hTar, hDebt, hSh, hPay, hDZ, hKl⟩ := id h
  obtain ⟨hE, hU, hSep, hH, hM, hD, hLv⟩ := id hEI
  obtain ⟨wMac, wMem, wEnt, wBar, wBrk, wOw, wMo, wMk, wCm, wCb, wMt, wLm⟩ := id hWR
  unfold f_c_owesByEntries f_r_owesByEntries f_r_owes
  by_cases c1 : f_r_isMember mem p0 = true
  · rw [if_pos c1, if_pos c1]
    obtain ⟨q0, hm0⟩ := nP_mem (n := mem) (by omega) c1
    rw [owesBy_eq hPay hSh (by omega)]
    exact core_o h ⟨rfl, rfl⟩
  · rw [if_neg c1, if_neg c1]
    exact core_x h (agI_inr (by decide))
theorem core_takings {nb : Nat → Int32} {tf : Nat → Nat} {ln : Nat} {ly : Nat → Ly} {mac : Nat} {mk : Nat → Nat} {su : Nat → Int32} {mh : Nat → List Nat} {mem : Nat} {tk : Nat → Nat → Int32} {po : Nat → Int32} {pp : Nat → Int32} {n : Nat} {ow : Nat → Nat} {mo : Nat → Nat} {dy : Nat → Int32} {st : Nat → Int32} {le : Nat → Int32} {wk : Nat → Int32} {sta : Nat → Int32} {du : Nat → Int32} {cu : Nat → List Nat} {cn : Nat} {qcb : Nat → Nat} {qcl : Nat → Int32} {bar : Nat} {mt : Nat → Nat} {bl : Nat → Int32} {bf : Nat → Int32} {brk : Nat} {kl : Nat → Nat} {ks : Nat → Nat → Int32} {day : Int32} {paid : Nat → Int64} {nd : Nat → Nat → Bool} {cm : Nat → Nat} {cb : Nat → Nat → Nat} {cl : Nat → Nat → Int32} {Ls : Nat → Nat → Int32} {Lnum : Nat → Nat → Int32} {lm : Nat → Nat} {sh : Nat → Nat → Int32} {pr : Nat → Int32} {G2 : List Ob} {G4 : List Ob} {thr : Int32} {zc zn : Nat} (h : InvP nb tf ln ly mac mk su mh mem tk po pp n ow mo dy st le wk sta du cu cn qcb qcl bar mt bl bf brk kl ks day paid nd cm cb cl Ls Lnum lm sh) : CoreX (((.inl (some (vL (f_c_takings mem pp)))) : Re) = (.inl (some (vL ((f_r_takings mem paid).1))))) (mkC nb tf ln ly mac mk su mh mem tk po pp n ow mo dy st le (fun e => st e + le e) wk sta du cu cn qcb qcl bar mt bl bf brk kl ks pr day G2 G4 ([]) ([])) (mkR mk su mac mem tk paid nd day ow mo dy st le wk sta du cm cb cl n mt bl bar pr Ls Lnum lm sh brk ((f_r_takings mem paid).2)) (wcnt sta n) zc zc zn zn := by
  obtain ⟨hWC, hWR, hA, hN, hT, hTD, hTz, hd, hEI, hNW, hSt, hC, hCz, hF, hTar, hDebt, hSh, hPay, hDZ, hKl⟩ := id h
  unfold f_c_takings f_r_takings
  rw [takings_eq hPay]
  exact core_o h rfl
theorem core_meanMinutes {nb : Nat → Int32} {tf : Nat → Nat} {ln : Nat} {ly : Nat → Ly} {mac : Nat} {mk : Nat → Nat} {su : Nat → Int32} {mh : Nat → List Nat} {mem : Nat} {tk : Nat → Nat → Int32} {po : Nat → Int32} {pp : Nat → Int32} {n : Nat} {ow : Nat → Nat} {mo : Nat → Nat} {dy : Nat → Int32} {st : Nat → Int32} {le : Nat → Int32} {wk : Nat → Int32} {sta : Nat → Int32} {du : Nat → Int32} {cu : Nat → List Nat} {cn : Nat} {qcb : Nat → Nat} {qcl : Nat → Int32} {bar : Nat} {mt : Nat → Nat} {bl : Nat → Int32} {bf : Nat → Int32} {brk : Nat} {kl : Nat → Nat} {ks : Nat → Nat → Int32} {day : Int32} {paid : Nat → Int64} {nd : Nat → Nat → Bool} {cm : Nat → Nat} {cb : Nat → Nat → Nat} {cl : Nat → Nat → Int32} {Ls : Nat → Nat → Int32} {Lnum : Nat → Nat → Int32} {lm : Nat → Nat} {sh : Nat → Nat → Int32} {pr : Nat → Int32} {G2 : List Ob} {G4 : List Ob} {thr : Int32} {zc zn : Nat} (h : InvP nb tf ln ly mac mk su mh mem tk po pp n ow mo dy st le wk sta du cu cn qcb qcl bar mt bl bf brk kl ks day paid nd cm cb cl Ls Lnum lm sh) : CoreX (AgD [(3, 1)] ((f_c_meanMinutes le n sta zc zn).1) ((f_r_meanMinutes n le sta).2) ((f_r_meanMinutes n le sta).1)) (mkC nb tf ln ly mac mk su mh mem tk po pp n ow mo dy st le (fun e => st e + le e) wk sta du cu cn qcb qcl bar mt bl bf brk kl ks pr day G2 G4 ([]) ([])) (mkR mk su mac mem tk paid nd day ow mo dy st le wk sta du cm cb cl n mt bl bar pr Ls Lnum lm sh brk ((f_r_meanMinutes n le sta).2)) (wcnt sta n) zc ((f_c_meanMinutes le n sta zc zn).2.1) zn ((f_c_meanMinutes le n sta zc zn).2.2) := by
  obtain ⟨hWC, hWR, hA, hN, hT, hTD, hTz, hd, hEI, hNW, hSt, hC, hCz, hF, hTar, hDebt, hSh, hPay, hDZ, hKl⟩ := id h
  unfold f_c_meanMinutes f_r_meanMinutes
  rw [mean_eq]
  by_cases c : (r_meanMinutes_L6 le sta n 0 0 0).2 = 0
  · rw [if_pos c, if_pos c]
    exact core_x h (show (_, _) ∈ _ by decide)
  · rw [if_neg c, if_neg c]
    exact core_o h ⟨rfl, rfl⟩
