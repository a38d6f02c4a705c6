/-! the law's entry out of one run of the small machine -/
def scOb (L : Nat) (xs : Nat → Int32) : Ob := (List.range L).map (fun j => vI (xs j))
def h0 (L : Nat) (xs : Nat → Int32) : Hp := (fun s => if s = sScr then [scOb L xs] else [], 0, 0)
def fr0 : Fr := (216, 0, some (vR sScr 0) :: List.replicate 8 none, [])
def ρ0 (b : Nat) : Nat → List Nat := fun s => if s = sScr then [b] else []
set_option maxRecDepth 100000 in
theorem cnm_law : cnm (mcl 216) = R_law := by decide +kernel
theorem sk_scr : sk sScr = (4, 0) := by decide +kernel
set_option maxRecDepth 100000 in
theorem vinst_all : (vcl.all (fun q => decide (Cond.instantiable q.1 q.2.2 ∈ lw_tbl) || decide (Cond.instantiable q.1 (q.2.2 + 0) ∈ lw_tbl))) = true := by decide +kernel
theorem know_0 {s : State} {args : Array Value} (hts : ∀ w ∈ lw_tbl, w.before args s = true) : ∃ D : va_G, va_K D vcl [] s := by
  have h : ∀ k : Nat, ∃ (cC : ClassId) (iS : Nat → Nat), ∀ q, vcl[k]? = some q → u_Kn s q.1 q.2.1 q.2.2 cC iS := by
    intro k
    cases hk : vcl[k]? with
    | none => exact ⟨default, fun _ => 0, fun q hq => by cases hq⟩
    | some q =>
      have h1 := List.all_eq_true.mp vinst_all q (List.mem_of_getElem? hk)
      simp only [Nat.add_zero, Bool.or_self, decide_eq_true_eq] at h1
      obtain ⟨cC, iS, h2⟩ := u_known (C := q.1) (T := q.2.1) (N := q.2.2) hts (fun w hw => (List.mem_filter.mp (vcl_ws hk w hw)).1) (hts _ h1)
      exact ⟨cC, iS, fun q' hq => by cases hq; exact h2⟩
  refine ⟨(fun k => (h k).choose, fun k => (h k).choose_spec.choose), fun k q hq => (h k).choose_spec.choose_spec q hq, fun k q h => by simp at h⟩
theorem sim_0 {s : State} {b L E0 : Nat} {xs : Nat → Int32} {D : va_G} (hK : va_K D vcl [] s) (hX : va_X b L xs s s.heap) (hb : b < s.heap.size) (hL : L ≤ 3584) (hE : E0 < s.heap.size) : Sim s.heap.size E0 D (ρ0 b) (fun _ _ => E0) (h0 L xs) s s.heap := by
  obtain ⟨scr, x1, x2, x3, x4, x5⟩ := hX
  have e1 : ∀ (s' i a : Nat), (ρ0 b s')[i]? = some a → s' = sScr ∧ i = 0 ∧ a = b := by
    intro s' i a h
    unfold ρ0 at h
    split at h
    · rename_i e
      cases i with
      | zero => simp at h; exact ⟨e, rfl, h.symm⟩
      | succ i => simp at h
    · simp at h
  refine ⟨hK, fun s' => ?_, fun s' i s2 i2 a h1 h2 h3 h4 => ?_, fun s' i s2 i2 a h1 h2 h3 h4 h5 => ?_, fun s' i s2 i2 h1 h2 h3 h4 h5 h6 => ?_, hE, Nat.le_refl _, fun s' i ob a h1 h2 => ?_⟩
  · unfold ρ0 h0
    dsimp only
    split <;> rfl
  · obtain ⟨r1, -, -⟩ := e1 _ _ _ h3
    rw [r1, sk_scr] at h1
    exact absurd h1 (by decide)
  · exact absurd h3 (by show ¬ s.heap.size ≤ E0; omega)
  · exact absurd h5 (by show ¬ s.heap.size ≤ E0; omega)
  · obtain ⟨r1, r2, r3⟩ := e1 _ _ _ h2
    subst r1 r2 r3
    have h3 : ob = scOb L xs := by
      have h3 : hget (h0 L xs) sScr 0 = some (scOb L xs) := rfl
      rw [h3] at h1
      exact (Option.some.inj h1).symm
    subst h3
    unfold ob_at
    rw [sk_scr]
    refine ⟨hb, scr, x1, x2, x3, by simp [scOb, x4], by simp [scOb]; omega, fun j v hj => ?_⟩
    have hjl : j < L := by
      have := (List.getElem?_eq_some_iff.mp hj).1
      simpa [scOb] using this
    refine ⟨_, x5 j hjl, ?_⟩
    unfold scOb at hj
    rw [List.getElem?_map, List.getElem?_range hjl] at hj
    cases hj
    rfl
theorem rst_1 {i : Instr} {len : Nat} {st1 : List MV} (h : rst i len st1 (some .boolean) = some (some (vI 1))) : i = .ireturn ∧ len = 1 ∧ st1 = [vI 1] := by
  cases i with
  | ireturn =>
    simp only [rst] at h
    split at h
    · split at h
      · rename_i g
        simp only [Option.some.injEq, vI, Sum.inl.injEq] at h
        subst h
        exact ⟨rfl, g.1, rfl⟩
      · cases h
    · cases h
  | lreturn =>
    simp only [rst] at h
    split at h
    · split at h <;> simp [vL, vI] at h
    · cases h
  | freturn =>
    simp only [rst] at h
    split at h
    · split at h <;> simp [vF, vI] at h
    · cases h
  | dreturn =>
    simp only [rst] at h
    split at h
    · split at h <;> simp [vD, vI] at h
    · cases h
  | areturn =>
    simp only [rst] at h
    split at h
    · split at h <;> simp [vI] at h
    · cases h
  | return_ =>
    simp only [rst] at h
    split at h
    · split at h <;> simp at h
    · cases h
  | _ => simp [rst] at h
theorem flags_tr {l : Launch} (hflags : l.flags = flags0) : l.stackTraces = false := by
  unfold Launch.stackTraces
  rw [hflags]
  decide +kernel
theorem whole_run {p : Program} {e : Env} {s : State} {m : MethodId} {below : List Frame} {meth : Method} {c : Code} (l : Launch) (hflags : l.flags = flags0) (hLst : LstOK l) {b L : Nat} {xs : Nat → Int32} (hL : L ≤ 3584) (C0 : lw_At p s m meth c b L xs) (hcT : c.exceptionTable.toList = []) (hnm : meth.name = "law")
    (hrun : ∃ n h', run 60 n fr0 (h0 L xs) = some (.inl (some (vI 1)), h') ∧ h'.2.1 ≤ 603072 ∧ h'.2.2 ≤ 7215210) :
    W p l e room_1 s m #[Value.ref b] below meth c s.heap [] 0 0 (lw_Z below #[Value.ref b] s) (entryFrame m ([Value.ref b] : List Value).toArray 9) := by
  obtain ⟨hx, hb, hr, hml, hown, hts, hX, hbl, hlocks, hgv⟩ := id C0
  obtain ⟨n, h', hrun, hc1, hc2⟩ := hrun
  obtain ⟨E0, hE0, hEnv⟩ := env_0 hts hgv
  obtain ⟨D, hK⟩ := know_0 hts
  have hS := sim_0 hK hX hbl hL hE0
  have hCtx : Ctx 216 p s m #[Value.ref b] meth c 9 := ⟨_, row_law, hx, hb, hml, rfl, hr, by rw [cnm_law]; exact hown, hlocks, hnm, fun w hw => hts w (List.mem_filter.mp hw).1, by rw [hcT]; rfl⟩
  rw [lg_entry_eq]
  have hl := lv_entry ([.ref b]) (n := 9) (Nat.le_of_ble_eq_true rfl)
  generalize (lg_sl ([.ref b]) ++ List.replicate (9 - (lg_sl ([.ref b])).length) Slot.unset).toArray = ls at hl ⊢
  refine run_ok (flags_tr hflags) hLst n 60 fr0 (h0 L xs) _ h' hrun (nL := 9) (D := D) (ρ := ρ0 b) hCtx (fun h => ?_) ⟨by decide, by decide⟩ hEnv hS (va_S.rf (A := fun q : Nat => s.heap.size ≤ q)) ?_ ?_ ?_ rfl ?_
  · exfalso
    revert h
    show ¬ (mfct[216]?).map (fun f => f.2.1) = some 1
    decide +kernel
  · show 0 + h'.2.1 ≤ 603072 + 0
    omega
  · show 0 + h'.2.2 ≤ 7215210 + 0
    omega
  · refine ⟨hl.1, rfl, hl.2.1, fun i v hv => ?_⟩
    match i, hv with
    | 0, hv =>
      have hv : v = vR sScr 0 := (Option.some.inj (show some (vR sScr 0) = some v from hv)).symm
      subst hv
      exact ⟨.ref b, hl.2.2 (0, .ref b) List.mem_cons_self, b, rfl, rfl⟩
    | i + 1, hv =>
      exfalso
      unfold lget fr0 at hv
      simp only [List.getElem?_cons_succ] at hv
      cases hx : (List.replicate 8 (none : Option MV))[i]? with
      | none => rw [hx] at hv; cases hv
      | some u =>
        rw [hx] at hv
        have := List.eq_of_mem_replicate (List.mem_of_getElem? hx)
        subst this
        cases hv
  · refine ⟨?_, ?_, ?_⟩
    · intro v i len pc1 st1 H1 locs1 ρ1 β1 ls2 st2 cells1 slots1 a1 a2 a3 a4 a5 a6 a7 a8 a9
      cases a1
      rw [show (mrow fr0.1) = _ from row_law] at a3
      obtain ⟨rfl, rfl, rfl⟩ := rst_1 a3
      obtain ⟨w, _, rfl, hw, hz⟩ := a7
      cases hz
      cases hw
      refine va_forget a6.2.2 ?_
      have e1 : cells1 ≤ 603072 := by
        have : cells1 + 0 = 0 + h'.2.1 := a8
        omega
      have e2 : slots1 ≤ 7215210 := by
        have : slots1 + 0 = 0 + h'.2.2 := a9
        omega
      refine W.widen e1 e2 (W.base ?_)
      have a2 : dec 216 pc1 = some (.ireturn, 1) := a2
      have hd := dec_inv row_law a2
      dsimp only at hd
      exact lw_ret (b := b) (Drawn.sameBut.refl s.drawn lw_cs) hx hb hr hlocks hd
    · intro E pc1 hx H1 locs1 ρ1 β1 ls2 cells1 slots1 a1
      cases a1
    · intro E pc1 H1 locs1 ρ1 β1 ls2 rest q ce cells1 slots1 a1
      cases a1
