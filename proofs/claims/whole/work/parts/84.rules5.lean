/-! rows of rows -/
theorem Ev.mna {d y pc : Nat} {L : Lo} {st : List MV} {h : Hp} {x : Re × Hp} {idx s n k i : Nat} {h' : Hp} (hc : codeAt y pc = some (.multianewarray idx 2, 4)) (ha : al y pc = some s) (hm : mat (mcl y) idx = some (sk s).2) (hk : (sk s).1 = 1 ∧ 5 ≤ (sk s).2 ∧ (sk s).2 ≤ 7 ∧ sk (s + 1) = (1, ity (sk s).2)) (hn : n ≤ 60000) (hk2 : k ≤ 60000) (hs : (h.1 s).length = i) (he : hnew (hnew h s [(List.range n).map (fun j => vR (s + 1) ((h.1 (s + 1)).length + j))] 1 n) (s + 1) (List.replicate n (List.replicate k (adf (sk (s + 1)).2))) n (n * k) = h') (K : Ev d (y, pc + 4, L, vR s i :: st) h' x) : Ev d (y, pc, L, vI (nI k) :: vI (nI n) :: st) h x := by
  subst he hs
  refine Ev.w hc rfl rfl (z := (pc + 4, L, vR s (h.1 s).length :: st, hnew (hnew h s [(List.range n).map (fun j => vR (s + 1) ((h.1 (s + 1)).length + j))] 1 n) (s + 1) (List.replicate n (List.replicate k (adf (sk (s + 1)).2))) n (n * k))) ?_ K
  simp only [hwr, ha]
  have e1 : (nI n).toNatClampNeg = n := nI_clamp (by omega)
  have e2 : (nI k).toNatClampNeg = k := nI_clamp (by omega)
  rw [e1, e2, if_pos ⟨trivial, trivial, hm, hk.1, ⟨hk.2.1, hk.2.2.1⟩, hk.2.2.2, nI_pos (by omega), nI_pos (by omega), hn, hk2⟩]
