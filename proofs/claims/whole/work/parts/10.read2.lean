section RD2
variable {p : Program} {l : Launch} {e : Env} {R : Room} {s : State} {m : MethodId} {args : Array Value} {below : List Frame} {meth : Method} {c : Code} {H : Heap} {locs : List Loc} {cells slots : Nat} {Q : State → Prop}
variable {cc : ByteArray} {pc : Nat} {ls : Array Slot} {st' : List Value} {ρ : Nat → List Nat} {β : Nat → Nat → Nat} {nL base E0 : Nat} {L : Lo} {st : List MV} {h : Hp} {D : va_G}
theorem m_ldcwF {T : State} (X : Stand p l e R s m args below meth c T locs cells slots) (hexec : p.tables.exec = Jvm.exec) {own : String} {index : Nat} {v : UInt32} (hown : s.vm.findClass own = some m.cls)
    (hconst : (Cond.constantFloat own index v).before args s = true) {g : JFrame} (hg : g.method = m) (hdg : decode c.code g.pc = .ok (.ldc_w index, 3)) :
    ∀ target, Steps p.tables e below (T.setTop { g with pc := g.pc + 3, stack := .float v :: g.stack }) target → Steps p.tables e below (T.setTop g) target := by
  obtain ⟨k, cf, hk, hcf, hcp⟩ := Cond.constantFloat_spec hown hconst
  obtain ⟨k', hk', he⟩ := X.warmed.alike.2.2 _ _ hk
  intro target hrest
  subst hg
  jvm_step X.here [hexec, hdg, ldc_w.wp_float (s := T) (f := g) X.here.top hk' (by rw [he]; exact hcf) hcp]
  exact hrest
theorem m_ldcw (hexec : p.tables.exec = Jvm.exec) (hb : c.code = cc) {own : String} {index : Nat} {v : UInt32} (hown : s.vm.findClass own = some m.cls) (hconst : (Jvm.Cond.constantFloat own index v).before args s = true) (hdg : decode cc pc = .ok (.ldc_w index, 3)) {rest : List Value} (k : W p l e R s m args below meth c H locs cells slots Q (F0 m (pc + 3) ls (.float v :: rest))) : W p l e R s m args below meth c H locs cells slots Q (F0 m pc ls rest) := by
  intro T hT X
  obtain ⟨t, a, b⟩ := k T hT X
  exact ⟨t, m_ldcwF X hexec hown hconst (g := F0 m pc ls rest) rfl (by rw [hb]; exact hdg) t a, b⟩
theorem jl_mem {o idx k : Nat} (h : jl o idx = some k) : ∃ pl, (o, idx, k, pl) ∈ jltab := by
  unfold jl at h
  obtain ⟨q, h1, rfl⟩ := omap_inv h
  have h2 := List.find?_some h1
  obtain ⟨a, b, c, d⟩ := q
  simp only [Bool.and_eq_true, beq_iff_eq] at h2
  obtain ⟨rfl, rfl⟩ := h2
  exact ⟨d, List.mem_of_find?_eq_some h1⟩
/-- the members of the JDK that are called by name -/
def jnm (k : Nat) : MethodName := ([⟨"java/util/ArrayList", "<init>", "()V"⟩, ⟨"java/util/ArrayList", "add", "(Ljava/lang/Object;)Z"⟩, ⟨"java/util/ArrayList", "get", "(I)Ljava/lang/Object;"⟩, ⟨"java/util/ArrayList", "size", "()I"⟩, ⟨"java/util/ArrayList", "remove", "(I)Ljava/lang/Object;"⟩, ⟨"java/util/ArrayList", "clear", "()V"⟩, ⟨"java/util/ArrayList", "add", "(ILjava/lang/Object;)V"⟩, ⟨"java/lang/Math", "max", "(II)I"⟩, ⟨"java/lang/Math", "min", "(II)I"⟩, ⟨"java/lang/Object", "<init>", "()V"⟩] : List MethodName).getD k ⟨"", "", ""⟩
set_option maxRecDepth 100000 in
theorem jl_ok : jltab.all (fun q => decide (lw_tbl[q.2.2.2]? = some (.methodLink (cnm q.1) q.2.1 (jnm q.2.2.1)))) = true := by decide +kernel
theorem jl_spec {o idx k : Nat} (h : jl o idx = some k) : Cond.methodLink (cnm o) idx (jnm k) ∈ WS := by
  obtain ⟨pl, h1⟩ := jl_mem h
  have h2 := List.all_eq_true.mp jl_ok _ h1
  simp only [decide_eq_true_eq] at h2
  exact ws_of h2 rfl
set_option maxRecDepth 100000 in
theorem w_maxS : Cond.static Lib.Math.max.name ∈ WS := ws_of (i := 197) (by decide +kernel) rfl
set_option maxRecDepth 100000 in
theorem w_minS : Cond.static Lib.Math.min.name ∈ WS := ws_of (i := 237) (by decide +kernel) rfl
set_option maxRecDepth 100000 in
theorem w_mathI : Cond.initialized "java/lang/Math" ∈ WS := ws_of (i := 69) (by decide +kernel) rfl
set_option maxRecDepth 100000 in
theorem w_maxC : Cond.code Lib.Math.max.name Lib.Math.max.code 2 (some .int) ∈ WS := ws_of (i := 198) (by decide +kernel) rfl
set_option maxRecDepth 100000 in
theorem w_minC : Cond.code Lib.Math.min.name Lib.Math.min.code 2 (some .int) ∈ WS := ws_of (i := 238) (by decide +kernel) rfl
set_option maxRecDepth 100000 in
theorem w_objI : Cond.instanceMethod objectInit ∈ WS := ws_of (i := 104) (by decide +kernel) rfl
set_option maxRecDepth 100000 in
theorem w_objC : Cond.code objectInit ⟨#[0xb1]⟩ 1 none ∈ WS := ws_of (i := 105) (by decide +kernel) rfl
/-- the room that every frame has -/
def Rm (R : Room) : Prop := 14 ≤ R.frames ∧ 900 ≤ R.locals
set_option maxHeartbeats 4000000 in
/-- the other readers: lengths, casts, constants, Math, Object() -/
theorem hrd_ok {y : Nat} (C0 : Ctx y p s m args meth c nL) (hR : Rm R) (hcs : cells ≤ R.cells ∧ slots ≤ R.slots) (S : Sim base E0 D ρ β h s H) {i : Instr} {len : Nat} {z : Nat × Lo × List MV} (hnv : ∀ idx, i ≠ .invokevirtual idx) (hh : hrd (mcl y) i len pc L st h = some z) (hd : dec y pc = some (i, len)) (hl : lrel ρ ls L nL) (hs : srel ρ st st')
    (k : ∀ (st2 : List Value), z.2.1 = L → srel ρ z.2.2 st2 → W p l e R s m args below meth c H locs cells slots Q (F0 m z.1 ls st2)) : W p l e R s m args below meth c H locs cells slots Q (F0 m pc ls st') := by
  have C1 := C0
  obtain ⟨r, hr, hx, hb, hml, hnl, -, hown, -, -, hts, -⟩ := C0
  have hdd := dec_inv hr hd
  have hsz : c.maxLocals = ls.size := by rw [hml]; exact hl.1.symm
  cases i with
  | getfield idx =>
    simp only [hrd] at hh
    split at hh
    · split at hh
      · rename_i f hf
        split at hh
        · rename_i ob hg
          split at hh
          · rename_i g
            obtain ⟨v, h1, rfl⟩ := omap_inv hh
            obtain ⟨rfl, g2⟩ := g
            obtain ⟨w, st2, rfl, hw, h5⟩ := hs
            exact get_ok C1 S hf hg g2 h1 hw hd fun w2 h2 => k _ rfl ⟨_, _, rfl, h2, h5⟩
          · cases hh
        · cases hh
      · cases hh
    · cases hh
  | iaload => simp only [hrd] at hh; exact ald_ok C1 S hh hd hs (Or.inl ⟨rfl, rfl⟩) k
  | laload => simp only [hrd] at hh; exact ald_ok C1 S hh hd hs (Or.inr (Or.inl ⟨rfl, rfl⟩)) k
  | baload => simp only [hrd] at hh; exact ald_ok C1 S hh hd hs (Or.inr (Or.inr (Or.inl ⟨rfl, rfl⟩))) k
  | caload => simp only [hrd] at hh; exact ald_ok C1 S hh hd hs (Or.inr (Or.inr (Or.inr (Or.inl ⟨rfl, rfl⟩)))) k
  | daload => simp only [hrd] at hh; exact ald_ok C1 S hh hd hs (Or.inr (Or.inr (Or.inr (Or.inr (Or.inl ⟨rfl, rfl⟩))))) k
  | aaload => simp only [hrd] at hh; exact ald_ok C1 S hh hd hs (Or.inr (Or.inr (Or.inr (Or.inr (Or.inr ⟨rfl, rfl⟩))))) k
  | arraylength =>
    simp only [hrd] at hh
    split at hh
    · split at hh
      · rename_i ob hg
        split at hh
        · rename_i g
          cases hh
          obtain ⟨rfl, g2⟩ := g
          obtain ⟨w, st2, rfl, hw, h5⟩ := hs
          rcases g2 with g2 | g2
          · obtain ⟨a, cA, f, ha, h1, h2, h3, -, h4⟩ := arr_at (t := (sk _).2) S hg (Prod.ext g2 rfl)
            rw [vr_ref ha hw]
            exact W.alen (n := Int32.ofNat ob.length) hx hb h1 (h2 _ _) (by rw [arrV_size] <;> rfl) rfl rfl hdd (k _ rfl ⟨_, _, rfl, rfl, h5⟩)
          · obtain ⟨a, scr, ha, h1, h2, h3, h4, -, h6⟩ := scr_at S hg g2
            rw [vr_ref ha hw]
            exact W.alen (n := Int32.ofNat ob.length) hx hb h1 h2 (by rw [h4] <;> rfl) rfl rfl hdd (k _ rfl ⟨_, _, rfl, rfl, h5⟩)
        · cases hh
      · cases hh
    · cases hh
  | checkcast idx =>
    simp only [hrd] at hh
    split at hh
    · split at hh
      · rename_i g
        cases hh
        subst g
        obtain ⟨w, st2, rfl, hw, h5⟩ := hs
        obtain rfl : w = Value.null := hw
        exact lv_castN hx hb hdd (k _ rfl ⟨_, _, rfl, rfl, h5⟩)
      · cases hh
    · rename_i q st1
      split at hh
      · rename_i g
        cases hh
        obtain ⟨rfl, g2, g3⟩ := g
        obtain ⟨w, st2, rfl, hw, h5⟩ := hs
        obtain ⟨cx, hc, hk⟩ := omap_inv g2
        obtain ⟨ob, hg⟩ := Option.isSome_iff_exists.mp g3
        obtain ⟨a, vs, ha, -, -, -, hat⟩ := obj_at S hg hk
        have hlk := cl_spec hc
        rw [vr_ref ha hw]
        obtain ⟨rr, h1, h2⟩ := hat
        have hcx : cx < 11 := by
          have := (List.getElem?_eq_some_iff.mp h1).1
          exact this
        obtain ⟨cq, g1, -, -, g4, -⟩ := vcl_at hcx
        have e1 : rr = cq := Option.some.inj (h1.symm.trans g1)
        subst e1
        have hkn := S.1.1 cx _ g1
        obtain ⟨cell, q1, q2, q3, q4⟩ := h2
        by_cases h10 : cx < 10
        · rw [← g4 h10] at hlk
          exact va_castS hx hb hown (hts _ hlk) hkn.2 ⟨cell, q1, by rw [q3]; rfl, by rw [q2]; exact hkn.2.1⟩ hdd (k _ rfl ⟨_, _, rfl, ⟨a, ha, rfl⟩, h5⟩)
        · exfalso
          have e10 : cx = 10 := by omega
          subst e10
          exact absurd hk (by
            intro z
            have hm : ∀ q ∈ sktab, q ≠ (0, 10) := by decide
            unfold sk at z
            rw [List.getD_eq_getElem?_getD] at z
            cases hs2 : sktab[q.1]? with
            | none => rw [hs2] at z; simp at z
            | some u => rw [hs2] at z; exact hm u (List.mem_of_getElem? hs2) z)
      · cases hh
    · cases hh
  | ldc idx =>
    simp only [hrd] at hh
    split at hh
    · rename_i v hv
      split at hh
      · rename_i g; cases hh; subst g; exact lv_ldc hx hb hown (hts _ (co_spec hv)) hdd (k _ rfl ⟨_, _, rfl, rfl, hs⟩)
      · cases hh
    · split at hh
      · rename_i v hv
        split at hh
        · rename_i g; cases hh; subst g; exact lv_ldcf hx hb hown (hts _ (coF_spec hv)) hdd (k _ rfl ⟨_, _, rfl, rfl, hs⟩)
        · cases hh
      · cases hh
  | ldc_w idx =>
    simp only [hrd] at hh
    split at hh
    · rename_i v hv
      split at hh
      · rename_i g; cases hh; subst g; exact lv_ldcw hx hb hown (hts _ (co_spec hv)) hdd (k _ rfl ⟨_, _, rfl, rfl, hs⟩)
      · cases hh
    · split at hh
      · rename_i v hv
        split at hh
        · rename_i g; cases hh; subst g; exact m_ldcw hx hb hown (hts _ (coF_spec hv)) hdd (k _ rfl ⟨_, _, rfl, rfl, hs⟩)
        · cases hh
      · cases hh
  | ldc2_w idx =>
    simp only [hrd] at hh
    split at hh
    · rename_i v hv
      split at hh
      · rename_i g; cases hh; subst g; exact lv_ldc2 hx hb hown (hts _ (coL_spec hv)) hdd (k _ rfl ⟨_, _, rfl, rfl, hs⟩)
      · cases hh
    · cases hh
  | invokestatic idx =>
    simp only [hrd] at hh
    split at hh
    · split at hh
      · rename_i g
        obtain ⟨rfl, g2⟩ := g
        obtain ⟨_, _, rfl, rfl, _, st2, rfl, rfl, h5⟩ := hs
        rw [← srel_cat h5] at g2
        split at hh
        · rename_i hj
          cases hh
          exact va_mmax hx hb hsz hown (hts _ (jl_spec hj)) (hts _ w_maxS) (hts _ w_mathI) (hts _ w_maxC) (by have := hR.1; omega) (by have := hR.2; omega) hcs.1 hcs.2 hdd (k _ rfl ⟨_, _, rfl, rfl, h5⟩)
        · split at hh
          · rename_i hj
            cases hh
            exact va_mmin hx hb hsz hown (hts _ (jl_spec hj)) (hts _ w_minS) (hts _ w_mathI) (hts _ w_minC) (by have := hR.1; omega) (by have := hR.2; omega) hcs.1 hcs.2 hdd (k _ rfl ⟨_, _, rfl, rfl, h5⟩)
          · cases hh
      · cases hh
    · cases hh
  | invokespecial idx =>
    simp only [hrd] at hh
    split at hh
    · split at hh
      · rename_i g
        cases hh
        obtain ⟨rfl, g2, hj⟩ := g
        obtain ⟨w, st2, rfl, ⟨a, ha, rfl⟩, h5⟩ := hs
        rw [← srel_cat h5] at g2
        exact W.objInit (g := F0 m pc ls (.ref a :: st2)) hx hb hown (hts _ (jl_spec hj)) (hts _ w_objI) (hts _ w_objC) rfl hsz.symm rfl hdd (by have := hR.1; omega) (by have := hR.2; show 2 * 0 + _ + 12 ≤ _; omega) (k _ rfl h5)
      · cases hh
    · cases hh
  | invokevirtual idx => exact absurd rfl (hnv idx)
  | _ => simp [hrd] at hh
end RD2
