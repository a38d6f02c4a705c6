/-! steps that call, steps on lists and arrays -/
set_option maxRecDepth 100000 in
theorem mljl_all : mltab.all (fun q => (jl q.1 q.2.1).isNone) = true := by decide +kernel
theorem mljl {o idx y2 : Nat} (h : ml o idx = some y2) : jl o idx = none := by
  unfold ml at h
  obtain ⟨q, h1, rfl⟩ := omap_inv h
  have h2 := List.find?_some h1
  have h3 := List.all_eq_true.mp mljl_all q (List.mem_of_find?_eq_some h1)
  simp only [Bool.and_eq_true, beq_iff_eq] at h2
  rw [h2.1, h2.2] at h3
  cases hj : jl o idx with
  | none => rfl
  | some z => rw [hj] at h3; cases h3
def Instr.inv : Nat → Nat → Instr
  | 0, idx => .invokestatic idx
  | 1, idx => .invokespecial idx
  | _, idx => .invokevirtual idx
section SC
variable {d y pc : Nat} {L : Lo} {st : List MV} {h : Hp} {x : Re × Hp} {i : Instr} {len : Nat}
theorem call_stp {i : Instr} {idx y2 : Nat} (hi : i = .invokestatic idx ∨ i = .invokespecial idx ∨ i = .invokevirtual idx) (hc : codeAt y pc = some (i, 3)) (hm : ml (mcl y) idx = some y2) : stp (y, pc, L, st) h = (cst y i 3 pc L st h).map (fun z => .inr (.inr z)) := by
  obtain ⟨h1, h2⟩ := codeAt_ok hc
  have hj := mljl hm
  have hr : hrd (mcl y) i 3 pc L st h = none := by
    rcases hi with rfl | rfl | rfl
    · simp only [hrd, hj]
      split
      · split <;> rfl
      · rfl
    · simp only [hrd, hj]
      split
      · simp
      · rfl
    · simp only [hrd, hj]
      split
      · split
        · simp
        · rfl
      · split
        · simp
        · rfl
      · rfl
  have hw : hwr y i 3 pc L st h = none := by
    rcases hi with rfl | rfl | rfl
    · rfl
    · rfl
    · simp only [hwr, hj]
  unfold stp
  rcases hi with rfl | rfl | rfl <;> simp only [h1, h2, hr, hw] <;> rfl
theorem cst_S {idx y2 n : Nat} {as rest : List MV} (hm : ml (mcl y) idx = some y2) {f : Nat × Nat × Nat × Nat × Nat × Nat} (hf : mfct[y2]? = some f) (h0 : f.2.1 = 0) (hn : f.2.2.2.2.2 = n) (hl : as.length = n) (hcat : (rest.map mcat).sum ≤ 8) : cst y (.invokestatic idx) 3 pc L (as.reverse ++ rest) h = (ent y2 as).map (fun fr => (fr, (y, pc, L, rest))) := by
  subst hn
  unfold cst
  simp only [hm, hf]
  have e1 : f.2.2.2.2.2 = as.reverse.length := by rw [List.length_reverse]; exact hl.symm
  rw [if_pos ⟨trivial, h0, by rw [e1, List.length_append]; omega⟩, if_pos trivial, e1, List.drop_left' rfl, List.take_left' rfl, if_pos hcat, List.reverse_reverse]
theorem cst_V {i : Instr} {k idx y2 n s m : Nat} {as rest : List MV} (hi : (k = 1 ∧ i = .invokespecial idx) ∨ (k = 2 ∧ i = .invokevirtual idx)) (hm : ml (mcl y) idx = some y2) {f : Nat × Nat × Nat × Nat × Nat × Nat} (hf : mfct[y2]? = some f) (h0 : f.2.1 = k) (hn : f.2.2.2.2.2 = n) (hl : as.length = n) (hcat : (rest.map mcat).sum ≤ 8) (hk : sk s = (0, mcl y2)) (ho : (hget h s m).isSome = true) : cst y i 3 pc L (as.reverse ++ vR s m :: rest) h = (ent y2 (vR s m :: as)).map (fun fr => (fr, (y, pc, L, rest))) := by
  subst hn
  have e1 : f.2.2.2.2.2 = as.reverse.length := by rw [List.length_reverse]; exact hl.symm
  rcases hi with ⟨rfl, rfl⟩ | ⟨rfl, rfl⟩
  · unfold cst
    simp only [hm, hf]
    rw [if_pos ⟨trivial, h0, by rw [e1, List.length_append]; omega⟩, if_neg (by decide), e1, List.drop_left' rfl, List.take_left' rfl, List.reverse_reverse]
    exact if_pos ⟨hcat, hk, ho⟩
  · unfold cst
    simp only [hm, hf]
    rw [if_pos ⟨trivial, h0, by rw [e1, List.length_append]; omega⟩, if_neg (by decide), e1, List.drop_left' rfl, List.take_left' rfl, List.reverse_reverse]
    exact if_pos ⟨hcat, hk, ho⟩
theorem Ev.sta {idx y2 n : Nat} {as rest : List MV} {v : Option MV} {h1 : Hp} (hc : codeAt y pc = some (.invokestatic idx, 3)) (hm : ml (mcl y) idx = some y2) (hf : (mfct[y2]?).map (fun f => (f.2.1, f.2.2.2.2.2)) = some (0, n)) (hst : st = as.reverse ++ rest) (hl : as.length = n) (hcat : (rest.map mcat).sum ≤ 8) (hC : Cal d y2 as h (.inl v) h1) (k : Ev (d + 1) (y, pc + 3, L, v.toList ++ rest) h1 x) : Ev (d + 1) (y, pc, L, st) h x := by
  subst hst
  obtain ⟨fr, e1, e2⟩ := hC
  obtain ⟨f, hf, hz⟩ := Option.map_eq_some_iff.mp hf
  obtain ⟨z1, z2⟩ := Prod.mk.inj hz
  exact Ev.call (z := (fr, (y, pc, L, rest))) (w := ((y, pc + 3, L, v.toList ++ rest), h1)) (by rw [call_stp (Or.inl rfl) hc hm, cst_S hm hf z1 z2 hl hcat, e1]; rfl) e2 rfl k
theorem Ev.vir {idx y2 n s m : Nat} {as rest : List MV} {v : Option MV} {h1 : Hp} (hc : codeAt y pc = some (.invokevirtual idx, 3)) (hm : ml (mcl y) idx = some y2) (hf : (mfct[y2]?).map (fun f => (f.2.1, f.2.2.2.2.2)) = some (2, n)) (hst : st = as.reverse ++ vR s m :: rest) (hl : as.length = n) (hcat : (rest.map mcat).sum ≤ 8) (hk : sk s = (0, mcl y2)) (ho : (hget h s m).isSome = true) (hC : Cal d y2 (vR s m :: as) h (.inl v) h1) (k : Ev (d + 1) (y, pc + 3, L, v.toList ++ rest) h1 x) : Ev (d + 1) (y, pc, L, st) h x := by
  subst hst
  obtain ⟨fr, e1, e2⟩ := hC
  obtain ⟨f, hf, hz⟩ := Option.map_eq_some_iff.mp hf
  obtain ⟨z1, z2⟩ := Prod.mk.inj hz
  exact Ev.call (z := (fr, (y, pc, L, rest))) (w := ((y, pc + 3, L, v.toList ++ rest), h1)) (by rw [call_stp (Or.inr (Or.inr rfl)) hc hm, cst_V (k := 2) (Or.inr ⟨rfl, rfl⟩) hm hf z1 z2 hl hcat hk ho, e1]; rfl) e2 rfl k
theorem Ev.spe {idx y2 n s m : Nat} {as rest : List MV} {v : Option MV} {h1 : Hp} (hc : codeAt y pc = some (.invokespecial idx, 3)) (hm : ml (mcl y) idx = some y2) (hf : (mfct[y2]?).map (fun f => (f.2.1, f.2.2.2.2.2)) = some (1, n)) (hst : st = as.reverse ++ vR s m :: rest) (hl : as.length = n) (hcat : (rest.map mcat).sum ≤ 8) (hk : sk s = (0, mcl y2)) (ho : (hget h s m).isSome = true) (hC : Cal d y2 (vR s m :: as) h (.inl v) h1) (k : Ev (d + 1) (y, pc + 3, L, v.toList ++ rest) h1 x) : Ev (d + 1) (y, pc, L, st) h x := by
  subst hst
  obtain ⟨fr, e1, e2⟩ := hC
  obtain ⟨f, hf, hz⟩ := Option.map_eq_some_iff.mp hf
  obtain ⟨z1, z2⟩ := Prod.mk.inj hz
  exact Ev.call (z := (fr, (y, pc, L, rest))) (w := ((y, pc + 3, L, v.toList ++ rest), h1)) (by rw [call_stp (Or.inr (Or.inl rfl)) hc hm, cst_V (k := 1) (Or.inl ⟨rfl, rfl⟩) hm hf z1 z2 hl hcat hk ho, e1]; rfl) e2 rfl k
/-! an exception out of a call -/
theorem Ev.staX {idx y2 n E : Nat} {as rest : List MV} {h1 : Hp} (hc : codeAt y pc = some (.invokestatic idx, 3)) (hm : ml (mcl y) idx = some y2) (hf : (mfct[y2]?).map (fun f => (f.2.1, f.2.2.2.2.2)) = some (0, n)) (hst : st = as.reverse ++ rest) (hl : as.length = n) (hcat : (rest.map mcat).sum ≤ 8) (hC : Cal d y2 as h (.inr E) h1) (hh : hnd y pc E = some none) : Ev (d + 1) (y, pc, L, st) h (.inr E, h1) := by
  subst hst
  obtain ⟨fr, e1, e2⟩ := hC
  obtain ⟨f, hf, hz⟩ := Option.map_eq_some_iff.mp hf
  obtain ⟨z1, z2⟩ := Prod.mk.inj hz
  exact Ev.thru (z := (fr, (y, pc, L, rest))) (by rw [call_stp (Or.inl rfl) hc hm, cst_S hm hf z1 z2 hl hcat, e1]; rfl) e2 (by simp only [aft, hh])
theorem Ev.virX {idx y2 n s m E : Nat} {as rest : List MV} {h1 : Hp} (hc : codeAt y pc = some (.invokevirtual idx, 3)) (hm : ml (mcl y) idx = some y2) (hf : (mfct[y2]?).map (fun f => (f.2.1, f.2.2.2.2.2)) = some (2, n)) (hst : st = as.reverse ++ vR s m :: rest) (hl : as.length = n) (hcat : (rest.map mcat).sum ≤ 8) (hk : sk s = (0, mcl y2)) (ho : (hget h s m).isSome = true) (hC : Cal d y2 (vR s m :: as) h (.inr E) h1) (hh : hnd y pc E = some none) : Ev (d + 1) (y, pc, L, st) h (.inr E, h1) := by
  subst hst
  obtain ⟨fr, e1, e2⟩ := hC
  obtain ⟨f, hf, hz⟩ := Option.map_eq_some_iff.mp hf
  obtain ⟨z1, z2⟩ := Prod.mk.inj hz
  exact Ev.thru (z := (fr, (y, pc, L, rest))) (by rw [call_stp (Or.inr (Or.inr rfl)) hc hm, cst_V (k := 2) (Or.inr ⟨rfl, rfl⟩) hm hf z1 z2 hl hcat hk ho, e1]; rfl) e2 (by simp only [aft, hh])
theorem Ev.virH {idx y2 n s m E t : Nat} {as rest : List MV} {h1 : Hp} (hc : codeAt y pc = some (.invokevirtual idx, 3)) (hm : ml (mcl y) idx = some y2) (hf : (mfct[y2]?).map (fun f => (f.2.1, f.2.2.2.2.2)) = some (2, n)) (hst : st = as.reverse ++ vR s m :: rest) (hl : as.length = n) (hcat : (rest.map mcat).sum ≤ 8) (hk : sk s = (0, mcl y2)) (ho : (hget h s m).isSome = true) (hC : Cal d y2 (vR s m :: as) h (.inr E) h1) (hh : hnd y pc E = some (some t)) (k : Ev (d + 1) (y, t, L, [vR sX (h1.1 sX).length]) (hnew h1 sX [[]] 0 0) x) : Ev (d + 1) (y, pc, L, st) h x := by
  subst hst
  obtain ⟨fr, e1, e2⟩ := hC
  obtain ⟨f, hf, hz⟩ := Option.map_eq_some_iff.mp hf
  obtain ⟨z1, z2⟩ := Prod.mk.inj hz
  exact Ev.call (z := (fr, (y, pc, L, rest))) (w := ((y, t, L, [vR sX (h1.1 sX).length]), hnew h1 sX [[]] 0 0)) (by rw [call_stp (Or.inr (Or.inr rfl)) hc hm, cst_V (k := 2) (Or.inr ⟨rfl, rfl⟩) hm hf z1 z2 hl hcat hk ho, e1]; rfl) e2 (by simp only [aft, hh]) k
/-! a throw of the class -/
theorem Ev.thr {E len : Nat} {i : Instr} (hc : dec y pc = some (i, len)) (ht : th y pc = some E) : Ev d (y, pc, L, []) h (.inr E, hcst h 1 6) := Ev.ret (by unfold stp; simp only [hc, ht]; rfl)
/-! lists and arrays -/
theorem Ev.lgt {idx s n : Nat} {j : Int32} {ob : Ob} {v : MV} (hc : codeAt y pc = some (.invokevirtual idx, 3)) (hj : jl (mcl y) idx = some 2) (hk : sk s = (2, 0)) (hcat : (st.map mcat).sum ≤ 8) (hg : hget h s n = some ob) (h0 : ¬ j < 0) (hv : ob[j.toNatClampNeg]? = some v) (k : Ev d (y, pc + 3, L, v :: st) h x) : Ev d (y, pc, L, vI j :: vR s n :: st) h x :=
  Ev.r hc rfl (z := (pc + 3, L, v :: st)) (by simp only [hrd, hg]; rw [if_pos ⟨trivial, hcat, hj, hk, h0⟩, hv]; rfl) k
theorem Ev.lsz {idx s n : Nat} {ob : Ob} (hc : codeAt y pc = some (.invokevirtual idx, 3)) (hj : jl (mcl y) idx = some 3) (hk : sk s = (2, 0)) (hcat : (st.map mcat).sum ≤ 8) (hg : hget h s n = some ob) (k : Ev d (y, pc + 3, L, vI (Int32.ofNat ob.length) :: st) h x) : Ev d (y, pc, L, vR s n :: st) h x :=
  Ev.r hc rfl (z := (pc + 3, L, vI (Int32.ofNat ob.length) :: st)) (by simp only [hrd, hg]; rw [if_pos ⟨trivial, hcat, hj, hk⟩]) k
theorem Ev.cst {idx s n ci : Nat} (hc : codeAt y pc = some (.checkcast idx, 3)) (hl : cl (mcl y) idx = some ci) (hk : sk s = (0, ci)) (ho : (hget h s n).isSome = true) (k : Ev d (y, pc + 3, L, vR s n :: st) h x) : Ev d (y, pc, L, vR s n :: st) h x :=
  Ev.r hc rfl (z := (pc + 3, L, vR s n :: st)) (by simp only [hrd, hl, hk, ho]; exact if_pos ⟨trivial, rfl, trivial⟩) k
end SC
