/-! rules for lists that grow and shrink, and for new objects -/
section RN
variable {d y pc : Nat} {L : Lo} {st : List MV} {h : Hp} {x : Re × Hp}
theorem Ev.la {idx s n s2 n2 : Nat} {ob : Ob} {h' : Hp} (hc : codeAt y pc = some (.invokevirtual idx, 3)) (hj : jl (mcl y) idx = some 1) (hk : sk s = (2, 0)) (hcat : (st.map mcat).sum ≤ 8) (hl : s2 = les s) (hg : hget h s n = some ob) (ho : (hget h s2 n2).isSome = true) (hb : ob.length < 30000) (he : hput (hcst h 1 (2 * ob.length + 10)) s n (ob ++ [vR s2 n2]) = h') (k : Ev d (y, pc + 3, L, vI 1 :: st) h' x) : Ev d (y, pc, L, vR s2 n2 :: vR s n :: st) h x := by
  subst he
  refine Ev.w hc rfl ?_ (z := (pc + 3, L, vI 1 :: st, hput (hcst h 1 (2 * ob.length + 10)) s n (ob ++ [vR s2 n2]))) ?_ k
  · simp only [hrd, hj]
    cases hget h s2 n2 with
    | none => rfl
    | some o =>
      dsimp only
      exact if_neg (fun z => absurd z.2.2.1 (by decide))
  · simp only [hwr, hj, wls, hg]
    rw [if_pos ⟨trivial, hcat, hk, ho, hl, hb⟩]
theorem Ev.li {idx s n s2 n2 j : Nat} {ob : Ob} {h' : Hp} (hc : codeAt y pc = some (.invokevirtual idx, 3)) (hj : jl (mcl y) idx = some 6) (hk : sk s = (2, 0)) (hcat : (st.map mcat).sum ≤ 8) (hl : s2 = les s) (hg : hget h s n = some ob) (ho : (hget h s2 n2).isSome = true) (hb : ob.length < 30000) (hjl : j ≤ ob.length) (he : hput (hcst h 1 (2 * ob.length + 10)) s n (ob.insertIdx j (vR s2 n2)) = h') (k : Ev d (y, pc + 3, L, st) h' x) : Ev d (y, pc, L, vR s2 n2 :: vI (nI j) :: vR s n :: st) h x := by
  subst he
  have h31 : j < 2 ^ 31 := by omega
  refine Ev.w hc rfl ?_ (z := (pc + 3, L, st, hput (hcst h 1 (2 * ob.length + 10)) s n (ob.insertIdx j (vR s2 n2)))) ?_ k
  · simp only [hrd, hj]
    cases hget h s2 n2 with
    | none => rfl
    | some o =>
      dsimp only
      exact if_neg (fun z => absurd z.2.2.1 (by decide))
  · simp only [hwr, hj, wls, hg]
    rw [if_pos ⟨trivial, hcat, hk, ho, hl, nI_pos h31, by rw [nI_clamp h31]; exact hjl, hb⟩, nI_clamp h31]
theorem Ev.lr {idx s n j : Nat} {ob : Ob} {v : MV} {h' : Hp} (hc : codeAt y pc = some (.invokevirtual idx, 3)) (hj : jl (mcl y) idx = some 4) (hk : sk s = (2, 0)) (hcat : (st.map mcat).sum ≤ 8) (hg : hget h s n = some ob) (h31 : j < 2 ^ 31) (hv : ob[j]? = some v) (he : hput h s n (ob.eraseIdx j) = h') (k : Ev d (y, pc + 3, L, v :: st) h' x) : Ev d (y, pc, L, vI (nI j) :: vR s n :: st) h x := by
  subst he
  refine Ev.w hc rfl ?_ (z := (pc + 3, L, v :: st, hput h s n (ob.eraseIdx j))) ?_ k
  · simp only [hrd, hj, hg]
    exact if_neg (fun z => absurd z.2.2.1 (by decide))
  · simp only [hwr, hj, wls, hg]
    rw [if_pos ⟨trivial, hcat, hk, nI_pos h31⟩, nI_clamp h31, hv]
    rfl
theorem Ev.lc {idx s n : Nat} {ob : Ob} {h' : Hp} (hc : codeAt y pc = some (.invokevirtual idx, 3)) (hj : jl (mcl y) idx = some 5) (hk : sk s = (2, 0)) (hcat : (st.map mcat).sum ≤ 8) (hg : hget h s n = some ob) (he : hput h s n [] = h') (k : Ev d (y, pc + 3, L, st) h' x) : Ev d (y, pc, L, vR s n :: st) h x := by
  subst he
  refine Ev.w hc rfl ?_ (z := (pc + 3, L, st, hput h s n [])) ?_ k
  · simp only [hrd, hj, hg]
    exact if_neg (fun z => absurd z.2.2.1 (by decide))
  · simp only [hwr, hj, wls, hg]
    rw [if_pos ⟨trivial, hcat, hk⟩]
theorem Ev.nwo {idx s i : Nat} {h' : Hp} (hc : codeAt y pc = some (.new idx, 3)) (ha : al y pc = some s) (hk : (sk s).1 = 0 ∧ (sk s).2 = s ∧ s < 10 ∧ cl (mcl y) idx = some s) (hs : (h.1 s).length = i) (he : hnew h s [odf s] 1 (fN s) = h') (k : Ev d (y, pc + 3, L, vR s i :: st) h' x) : Ev d (y, pc, L, st) h x := by
  subst he hs
  refine Ev.w hc rfl rfl (z := (pc + 3, L, vR s (h.1 s).length :: st, hnew h s [odf s] 1 (fN s))) ?_ k
  simp only [hwr, ha]
  rw [if_pos ⟨trivial, hk.1, hk.2.1, hk.2.2.1, hk.2.2.2⟩]
theorem Ev.nwl {idx s i : Nat} {h' : Hp} (hc : codeAt y pc = some (.new idx, 3)) (ha : al y pc = some s) (hn : ¬ (sk s).1 = 0) (hk : nlb y pc idx s st = true) (hs : (h.1 s).length = i) (he : hnew h s [[]] 1 3 = h') (k : Ev d (y, pc + 7, L, vR s i :: st) h' x) : Ev d (y, pc, L, st) h x := by
  subst he hs
  refine Ev.w hc rfl rfl (z := (pc + 7, L, vR s (h.1 s).length :: st, hnew h s [[]] 1 3)) ?_ k
  simp only [hwr, ha]
  rw [if_neg (fun z => hn z.2.1), if_pos ⟨trivial, hk⟩]
theorem Ev.obj {idx s n : Nat} (hc : codeAt y pc = some (.invokespecial idx, 3)) (hj : jl (mcl y) idx = some 9) (hcat : (st.map mcat).sum ≤ 8) (k : Ev d (y, pc + 3, L, st) h x) : Ev d (y, pc, L, vR s n :: st) h x :=
  Ev.r hc rfl (z := (pc + 3, L, st)) (by simp only [hrd]; exact if_pos ⟨trivial, hcat, hj⟩) k
end RN
/-! heaps that are written twice, or beside one another -/
theorem hget_put {h : Hp} {s n : Nat} {o o0 : Ob} (hg : hget h s n = some o0) : hget (hput h s n o) s n = some o := by
  unfold hget hput
  dsimp only
  rw [if_pos rfl, List.getElem?_set_self (List.getElem?_eq_some_iff.mp hg).1]
theorem hput_put {h : Hp} {s n : Nat} {o o' : Ob} : hput (hput h s n o) s n o' = hput h s n o' := by
  unfold hput
  refine Prod.ext (funext fun t => ?_) rfl
  dsimp only
  by_cases e : t = s
  · rw [if_pos e, if_pos e, if_pos rfl, List.set_set]
  · rw [if_neg e, if_neg e, if_neg e]
theorem hget_put_ne {h : Hp} {s n t i : Nat} {o : Ob} (hs : t ≠ s) : hget (hput h s n o) t i = hget h t i := by
  unfold hget hput
  dsimp only
  rw [if_neg hs]
theorem hget_new_ne {h : Hp} {s t i c n : Nat} {os : List Ob} (hs : t ≠ s) : hget (hnew h s os c n) t i = hget h t i := by
  unfold hget hnew
  dsimp only
  rw [if_neg hs]
theorem hget_new {h : Hp} {s c n : Nat} {o : Ob} : hget (hnew h s [o] c n) s (h.1 s).length = some o := by
  unfold hget hnew
  dsimp only
  rw [if_pos rfl, List.getElem?_append_right (Nat.le_refl _), Nat.sub_self]
  rfl
theorem hput_new {h : Hp} {s t i c n : Nat} {o : Ob} {os : List Ob} (hs : t ≠ s) : hnew (hput h s i o) t os c n = hput (hnew h t os c n) s i o := by
  unfold hput hnew
  refine Prod.ext (funext fun u => ?_) rfl
  dsimp only
  by_cases e : u = t
  · subst e
    rw [if_pos rfl, if_neg hs, if_neg hs, if_pos rfl]
  · rw [if_neg e]
    by_cases e2 : u = s
    · subst e2
      rw [if_pos rfl, if_pos rfl, if_neg (fun z => hs z.symm)]
    · rw [if_neg e2, if_neg e2, if_neg e]
theorem hput_len {h : Hp} {s n t : Nat} {o : Ob} : ((hput h s n o).1 t).length = (h.1 t).length := by
  unfold hput
  dsimp only
  by_cases e : t = s
  · subst e
    rw [if_pos rfl, List.length_set]
  · rw [if_neg e]
theorem nlb_ok {y pc idx s0 i2 : Nat} {st : List MV} (h1 : sk s0 = (2, 0)) (h2 : cl (mcl y) idx = some 11) (h3 : (st.map mcat).sum ≤ 6) (h4 : codeAt y (pc + 3) = some (.dup, 1)) (h5 : codeAt y (pc + 4) = some (.invokespecial i2, 3)) (h6 : jl (mcl y) i2 = some 0) : nlb y pc idx s0 st = true := by
  unfold nlb
  rw [(codeAt_ok h4).1, (codeAt_ok h5).1, decide_eq_true h1, decide_eq_true h2, decide_eq_true h3]
  simp only [decide_true, Bool.true_and, h6]
