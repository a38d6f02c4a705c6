/-! the invariant of class and reference (written by gen98.py) -/
def InvP (nb : Nat → Int32) (tf : Nat → Nat) (ln : Nat) (ly : Nat → Ly) (mac : Nat) (mk : Nat → Nat) (su : Nat → Int32) (mh : Nat → List Nat) (mem : Nat) (tk : Nat → Nat → Int32) (po : Nat → Int32) (pp : Nat → Int32) (n : Nat) (ow : Nat → Nat) (mo : Nat → Nat) (dy : Nat → Int32) (st : Nat → Int32) (le : Nat → Int32) (wk : Nat → Int32) (sta : Nat → Int32) (du : Nat → Int32) (cu : Nat → List Nat) (cn : Nat) (qcb : Nat → Nat) (qcl : Nat → Int32) (bar : Nat) (mt : Nat → Nat) (bl : Nat → Int32) (bf : Nat → Int32) (brk : Nat) (kl : Nat → Nat) (ks : Nat → Nat → Int32) (day : Int32) (paid : Nat → Int64) (nd : Nat → Nat → Bool) (cm : Nat → Nat) (cb : Nat → Nat → Nat) (cl : Nat → Nat → Int32) (Ls : Nat → Nat → Int32) (Lnum : Nat → Nat → Int32) (lm : Nat → Nat) (sh : Nat → Nat → Int32) : Prop := WfC mac mem n bar brk cn ln mk ow mo qcb mt tf kl mh cu ly ∧ WfR mac mem n bar brk ow mo mk cm cb mt lm ∧ Acy nd ∧ NeedOk nb nd ∧ TakOk tk ∧ (∀ m k, (tk m k).toInt ≤ day.toInt) ∧ (∀ m, mem ≤ m → ∀ k, tk m k = 0) ∧ (0 ≤ day.toInt ∧ day.toInt ≤ 900) ∧ EI n ow mo mk dy st le wk su nd tk day mh sta ∧ NoneW n ow mo mk dy st le wk sta su nd tk ∧ (∀ e, chr (sta e)) ∧ CutOk n sta cu qcb qcl cm cb cl ∧ (∀ e, n ≤ e → cm e = 0) ∧ (∀ b, b < bar → bf b = f_r_free bl cb cl cm n sta b) ∧ TarOk ly tf Ls Lnum lm ∧ DebtOk mem n brk ow du po sh ∧ ShOk brk kl ks sh ∧ PayOk mem pp paid ∧ (∀ e, n ≤ e ∨ sta e = 119 ∨ sta e = 98 → du e = 0) ∧ (∀ b, b < brk → kl b ≤ mem)
def Inv (C : CD) (R : RD) : Prop := ∃ (nb : Nat → Int32) (tf : Nat → Nat) (ln : Nat) (ly : Nat → Ly) (mac : Nat) (mk : Nat → Nat) (su : Nat → Int32) (mh : Nat → List Nat) (mem : Nat) (tk : Nat → Nat → Int32) (po : Nat → Int32) (pp : Nat → Int32) (n : Nat) (ow : Nat → Nat) (mo : Nat → Nat) (dy : Nat → Int32) (st : Nat → Int32) (le : Nat → Int32) (wk : Nat → Int32) (sta : Nat → Int32) (du : Nat → Int32) (cu : Nat → List Nat) (cn : Nat) (qcb : Nat → Nat) (qcl : Nat → Int32) (bar : Nat) (mt : Nat → Nat) (bl : Nat → Int32) (bf : Nat → Int32) (brk : Nat) (kl : Nat → Nat) (ks : Nat → Nat → Int32) (day : Int32) (paid : Nat → Int64) (nd : Nat → Nat → Bool) (cm : Nat → Nat) (cb : Nat → Nat → Nat) (cl : Nat → Nat → Int32) (Ls : Nat → Nat → Int32) (Lnum : Nat → Nat → Int32) (lm : Nat → Nat) (sh : Nat → Nat → Int32) (pr : Nat → Int32) (G2 : List Ob) (G4 : List Ob) (thr : Int32), C = mkC nb tf ln ly mac mk su mh mem tk po pp n ow mo dy st le (fun e => st e + le e) wk sta du cu cn qcb qcl bar mt bl bf brk kl ks pr day G2 G4 ([]) ([]) ∧ R = mkR mk su mac mem tk paid nd day ow mo dy st le wk sta du cm cb cl n mt bl bar pr Ls Lnum lm sh brk thr ∧ InvP nb tf ln ly mac mk su mh mem tk po pp n ow mo dy st le wk sta du cu cn qcb qcl bar mt bl bf brk kl ks day paid nd cm cb cl Ls Lnum lm sh
theorem inv_mk {nb : Nat → Int32} {tf : Nat → Nat} {ln : Nat} {ly : Nat → Ly} {mac : Nat} {mk : Nat → Nat} {su : Nat → Int32} {mh : Nat → List Nat} {mem : Nat} {tk : Nat → Nat → Int32} {po : Nat → Int32} {pp : Nat → Int32} {n : Nat} {ow : Nat → Nat} {mo : Nat → Nat} {dy : Nat → Int32} {st : Nat → Int32} {le : Nat → Int32} {wk : Nat → Int32} {sta : Nat → Int32} {du : Nat → Int32} {cu : Nat → List Nat} {cn : Nat} {qcb : Nat → Nat} {qcl : Nat → Int32} {bar : Nat} {mt : Nat → Nat} {bl : Nat → Int32} {bf : Nat → Int32} {brk : Nat} {kl : Nat → Nat} {ks : Nat → Nat → Int32} {day : Int32} {paid : Nat → Int64} {nd : Nat → Nat → Bool} {cm : Nat → Nat} {cb : Nat → Nat → Nat} {cl : Nat → Nat → Int32} {Ls : Nat → Nat → Int32} {Lnum : Nat → Nat → Int32} {lm : Nat → Nat} {sh : Nat → Nat → Int32} {pr : Nat → Int32} {G2 : List Ob} {G4 : List Ob} {thr : Int32} (h : InvP nb tf ln ly mac mk su mh mem tk po pp n ow mo dy st le wk sta du cu cn qcb qcl bar mt bl bf brk kl ks day paid nd cm cb cl Ls Lnum lm sh) : Inv (mkC nb tf ln ly mac mk su mh mem tk po pp n ow mo dy st le (fun e => st e + le e) wk sta du cu cn qcb qcl bar mt bl bf brk kl ks pr day G2 G4 ([]) ([])) (mkR mk su mac mem tk paid nd day ow mo dy st le wk sta du cm cb cl n mt bl bar pr Ls Lnum lm sh brk thr) := ⟨nb, tf, ln, ly, mac, mk, su, mh, mem, tk, po, pp, n, ow, mo, dy, st, le, wk, sta, du, cu, cn, qcb, qcl, bar, mt, bl, bf, brk, kl, ks, day, paid, nd, cm, cb, cl, Ls, Lnum, lm, sh, pr, G2, G4, thr, rfl, rfl, h⟩
/-- one call: answers alike, the invariant again, room -/
def CoreX (A : Prop) (C' : CD) (R' : RD) (w zc zc' zn zn' : Nat) : Prop := A ∧ Inv C' R' ∧ zc' ≤ zc + 200 ∧ zn' + 310 * wcnt (cSt C') (cEn C') ≤ zn + 310 * w + 3000
theorem agI_inl {es : List (Nat × Int32)} {v : Int32} : AgI es (.inl (some (vI v))) 0 v := ⟨rfl, rfl⟩
theorem agI_inr {es : List (Nat × Int32)} {E : Nat} {k b : Int32} (h : (E, k) ∈ es) : AgI es (.inr E) k b := h
theorem nlt_eq {a b : Nat} (h : a ≤ b) : (¬ a < b) ↔ a = b := by omega
theorem hi_of {n : Nat} {mo : Nat → Nat} {dy st sta : Nat → Int32} {mh : Nat → List Nat} (hH : Held n mo dy st sta mh) : HI mo sta mh := by
  intro m
  refine ⟨(held_len hH m).1, fun e he => ?_⟩
  obtain ⟨e1, e2, e3⟩ := ((hH m).2 e).mp he
  refine ⟨e2, fun z => ?_⟩
  rw [z] at e3
  rcases e3 with e3 | e3 <;> exact absurd e3 (by decide)
theorem isWork_iff {V : Int32} : f_r_isWork V = f_r_in V 97 99 := by
  refine Bool.eq_iff_iff.mpr ?_
  rw [in_iff]
  have e97 : (97 : Int32).toInt = 97 := rfl
  have e98 : (98 : Int32).toInt = 98 := rfl
  have e99 : (99 : Int32).toInt = 99 := rfl
  unfold f_r_isWork
  by_cases a : V = 97
  · rw [if_pos a, a]
    exact ⟨fun _ => by decide, fun _ => rfl⟩
  · rw [if_neg a]
    by_cases b : V = 98
    · rw [if_pos b, b]
      exact ⟨fun _ => by decide, fun _ => rfl⟩
    · rw [if_neg b]
      by_cases c : V = 99
      · rw [if_pos c, c]
        exact ⟨fun _ => by decide, fun _ => rfl⟩
      · rw [if_neg c]
        rw [i_eq] at a b c
        exact bool_ff (by omega)
theorem time_facts {day D S M V : Int32} (hd : 0 ≤ day.toInt ∧ day.toInt ≤ 900) (h : timeOk day D S M V = true) : day.toInt ≤ D.toInt ∧ D.toInt ≤ day.toInt + 6 ∧ 0 ≤ S.toInt ∧ 1 ≤ M.toInt ∧ M.toInt ≤ 240 ∧ S.toInt + M.toInt ≤ 480 := by
  unfold timeOk wishOk at h
  rw [Bool.and_eq_true, Bool.and_eq_true, Bool.and_eq_true, in_iff, in_iff, in_iff, in_iff] at h
  obtain ⟨⟨⟨⟨h1, h2⟩, h3, h4⟩, -⟩, h5, h6⟩ := h
  have e1 : (1 : Int32).toInt = 1 := rfl
  have e240 : (240 : Int32).toInt = 240 := rfl
  have e0 : (0 : Int32).toInt = 0 := rfl
  have e480 : (480 : Int32).toInt = 480 := rfl
  have e6 : (6 : Int32).toInt = 6 := rfl
  rw [e1] at h3
  rw [e240] at h4
  rw [i_sub (by omega) (by omega), e480] at h6
  rw [i_add (by omega) (by omega), e6] at h2
  omega
theorem lacks_eq {day D S M V p0 p1 : Int32} {mac mem : Nat} : f_r_lacks day mac mem p0 p1 D S M V = if f_r_isMember mem p0 = true then (if f_r_isMachine mac p1 = true then (if timeOk day D S M V = true then 0 else 2) else 1) else 1 := by
  have bad : (¬ timeOk day D S M V = true) → (if f_r_isMember mem p0 then if f_r_isMachine mac p1 then (2 : Int32) else 1 else 1) = if f_r_isMember mem p0 = true then (if f_r_isMachine mac p1 = true then (if timeOk day D S M V = true then 0 else 2) else 1) else 1 := fun z => by rw [if_neg z]
  unfold f_r_lacks
  by_cases c1 : f_r_in D day (day + 6) = true
  · rw [if_pos c1]
    by_cases c2 : S < 0
    · rw [if_pos c2]
      refine bad (fun z => ?_)
      unfold timeOk at z
      rw [Bool.and_eq_true, in_iff] at z
      rw [i_lt] at c2
      have e0 : (0 : Int32).toInt = 0 := rfl
      omega
    · rw [if_neg c2]
      by_cases c3 : f_r_in M 1 240 = true
      · rw [if_pos c3]
        by_cases c4 : 480 - M < S
        · rw [if_pos c4]
          refine bad (fun z => ?_)
          unfold timeOk at z
          rw [Bool.and_eq_true, in_iff] at z
          rw [i_lt] at c4
          omega
        · rw [if_neg c4]
          by_cases c5 : f_r_isWork V = true
          · rw [if_pos c5]
            have ok : timeOk day D S M V = true := by
              unfold timeOk wishOk
              rw [Bool.and_eq_true, Bool.and_eq_true, Bool.and_eq_true, c1, c3, ← isWork_iff, c5, in_iff]
              rw [i_lt] at c2 c4
              have e0 : (0 : Int32).toInt = 0 := rfl
              exact ⟨⟨⟨rfl, rfl⟩, rfl⟩, by omega, by omega⟩
            rw [if_pos ok]
          · rw [if_neg c5]
            refine bad (fun z => ?_)
            unfold timeOk wishOk at z
            rw [Bool.and_eq_true, Bool.and_eq_true, ← isWork_iff] at z
            exact c5 z.1.2
      · rw [if_neg c3]
        refine bad (fun z => ?_)
        unfold timeOk wishOk at z
        rw [Bool.and_eq_true, Bool.and_eq_true, Bool.and_eq_true] at z
        exact c3 z.1.1.2
  · rw [if_neg c1]
    refine bad (fun z => ?_)
    unfold timeOk wishOk at z
    rw [Bool.and_eq_true, Bool.and_eq_true, Bool.and_eq_true] at z
    exact c1 z.1.1.1
theorem may_eq {day D F p0 : Int32} {mac : Nat} : f_r_may day mac p0 D F = if f_r_isMachine mac p0 = true then (if f_r_in D F (day + 6) = true then (true, 0) else (false, 2)) else (false, 1) := rfl
theorem nP_idx {n : Nat} {p : Int32} (hn : n < 2 ^ 31) (h : f_r_in p 0 (nI n - 1) = true) : p = nI (nP p) ∧ nP p < n := by
  rw [in_iff] at h
  have e0 : (0 : Int32).toInt = 0 := rfl
  have e1 : (nI n - 1).toInt = (n : Int) - 1 := by rw [i_sub (by rw [nI_toInt hn]; show _ ≤ _ - (1 : Int); omega) (by rw [nI_toInt hn]; show _ - (1 : Int) < _; omega), nI_toInt hn]; rfl
  rw [e0, e1] at h
  refine nP_of hn (fun z => ?_) ?_
  · rw [i_lt, e0] at z
    omega
  · rw [i_lt, nI_toInt hn]
    omega
theorem nP_mem {n : Nat} {p : Int32} (hn : n < 2 ^ 31) (h : f_r_isMember n p = true) : p = nI (nP p) ∧ nP p < n := nP_idx hn h
theorem nP_mac {n : Nat} {p : Int32} (hn : n < 2 ^ 31) (h : f_r_isMachine n p = true) : p = nI (nP p) ∧ nP p < n := nP_idx hn h
theorem nP_ent {n : Nat} {p : Int32} (hn : n < 2 ^ 31) (h : f_r_isEntry n p = true) : p = nI (nP p) ∧ nP p < n := nP_idx hn h
theorem nP_kind {p : Int32} (h : f_r_isKind p = true) : p = nI (nP p) ∧ nP p < 4 := nP_idx (n := 4) (by decide) h
theorem nP_mat {p : Int32} (h : f_r_in p 0 2 = true) : p = nI (nP p) ∧ nP p < 3 := nP_idx (n := 3) (by decide) h
