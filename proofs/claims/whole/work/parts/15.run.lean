/-! what a run costs never falls -/
theorem cs_rf {h : Hp} : h.2.1 ≤ h.2.1 ∧ h.2.2 ≤ h.2.2 := ⟨Nat.le_refl _, Nat.le_refl _⟩
theorem cs_add {h : Hp} {a b : Nat} : h.2.1 ≤ h.2.1 + a ∧ h.2.2 ≤ h.2.2 + b := ⟨Nat.le_add_right _ _, Nat.le_add_right _ _⟩
theorem wls_cost {k len pc : Nat} {L : Lo} {st : List MV} {h : Hp} {z} (hh : wls k len pc L st h = some z) : h.2.1 ≤ z.2.2.2.2.1 ∧ h.2.2 ≤ z.2.2.2.2.2 := by
  unfold wls at hh
  split at hh
  · repeat' split at hh
    all_goals first | (cases hh; done) | (cases hh; exact cs_add)
  · repeat' split at hh
    all_goals first | (cases hh; done) | (obtain ⟨v, -, rfl⟩ := omap_inv hh; exact cs_rf)
  · repeat' split at hh
    all_goals first | (cases hh; done) | (cases hh; exact cs_rf)
  · repeat' split at hh
    all_goals first | (cases hh; done) | (cases hh; exact cs_add)
  · cases hh
theorem hwr_cost {y : Nat} {i : Instr} {len pc : Nat} {L : Lo} {st : List MV} {h : Hp} {z} (hh : hwr y i len pc L st h = some z) : h.2.1 ≤ z.2.2.2.2.1 ∧ h.2.2 ≤ z.2.2.2.2.2 := by
  cases i with
  | putfield idx =>
    simp only [hwr] at hh
    repeat' split at hh
    all_goals first | (cases hh; done) | (cases hh; exact cs_rf)
  | iastore => obtain ⟨v, j, q, st1, ob, w, rfl, rfl, hg, hk, h0, hj, hcv, rfl⟩ := wst_inv hh; exact cs_rf
  | lastore => obtain ⟨v, j, q, st1, ob, w, rfl, rfl, hg, hk, h0, hj, hcv, rfl⟩ := wst_inv hh; exact cs_rf
  | bastore => obtain ⟨v, j, q, st1, ob, w, rfl, rfl, hg, hk, h0, hj, hcv, rfl⟩ := wst_inv hh; exact cs_rf
  | castore => obtain ⟨v, j, q, st1, ob, w, rfl, rfl, hg, hk, h0, hj, hcv, rfl⟩ := wst_inv hh; exact cs_rf
  | dastore => obtain ⟨v, j, q, st1, ob, w, rfl, rfl, hg, hk, h0, hj, hcv, rfl⟩ := wst_inv hh; exact cs_rf
  | invokevirtual idx =>
    simp only [hwr] at hh
    split at hh
    · exact wls_cost hh
    · cases hh
  | new idx =>
    simp only [hwr] at hh
    repeat' split at hh
    all_goals first | (cases hh; done) | (cases hh; exact cs_add)
  | newarray t =>
    simp only [hwr] at hh
    repeat' split at hh
    all_goals first | (cases hh; done) | (cases hh; exact cs_add)
  | multianewarray idx dims =>
    simp only [hwr] at hh
    repeat' split at hh
    all_goals first | (cases hh; done) | (cases hh; exact ⟨Nat.le_trans (Nat.le_add_right _ _) (Nat.le_add_right _ _), Nat.le_trans (Nat.le_add_right _ _) (Nat.le_add_right _ _)⟩)
  | _ => simp [hwr] at hh
/-- one step, read apart -/
theorem stp_inv {fr : Fr} {h : Hp} {r : SR} (hh : stp fr h = some r) : ∃ i len, dec fr.1 fr.2.1 = some (i, len) ∧
    ((∃ E, th fr.1 fr.2.1 = some E ∧ fr.2.2.2 = [] ∧ r = .inl (.inr E, hcst h 1 6)) ∨ (th fr.1 fr.2.1 = none ∧
    ((∃ z, pin i len fr.2.1 fr.2.2.1 fr.2.2.2 = some z ∧ r = .inr (.inl ((fr.1, z), h))) ∨
    (∃ z, hrd (mcl fr.1) i len fr.2.1 fr.2.2.1 fr.2.2.2 h = some z ∧ r = .inr (.inl ((fr.1, z), h))) ∨
    (∃ z, hwr fr.1 i len fr.2.1 fr.2.2.1 fr.2.2.2 h = some z ∧ r = .inr (.inl ((fr.1, z.1, z.2.1, z.2.2.1), z.2.2.2))) ∨
    (∃ v, rst i len fr.2.2.2 ((mrow fr.1).bind (fun r => r.2.2.2.1)) = some v ∧ r = .inl (.inl v, h)) ∨
    (∃ z, cst fr.1 i len fr.2.1 fr.2.2.1 fr.2.2.2 h = some z ∧ r = .inr (.inr z))))) := by
  unfold stp at hh
  split at hh
  · cases hh
  · rename_i i len hd
    refine ⟨i, len, hd, ?_⟩
    split at hh
    · rename_i E hE
      split at hh
      · rename_i he
        cases hh
        exact Or.inl ⟨E, hE, List.isEmpty_iff.mp he, rfl⟩
      · cases hh
    · rename_i hE
      refine Or.inr ⟨hE, ?_⟩
      split at hh
      · rename_i z hz; cases hh; exact Or.inl ⟨z, hz, rfl⟩
      · split at hh
        · rename_i z hz; cases hh; exact Or.inr (Or.inl ⟨z, hz, rfl⟩)
        · split at hh
          · rename_i z hz; cases hh; exact Or.inr (Or.inr (Or.inl ⟨z, hz, rfl⟩))
          · split at hh
            · rename_i v hv; cases hh; exact Or.inr (Or.inr (Or.inr (Or.inl ⟨v, hv, rfl⟩)))
            · obtain ⟨z, h1, h2⟩ := omap_inv hh
              exact Or.inr (Or.inr (Or.inr (Or.inr ⟨z, h1, h2⟩)))
theorem aft_cost {k : Nat × Nat × Lo × List MV} {r : Re} {h : Hp} {z} (hh : aft k r h = some z) : (∀ x, z = .inl x → x.2 = h) ∧ (∀ x, z = .inr x → x.2.2 = h.2) := by
  unfold aft at hh
  split at hh
  · cases hh
    exact ⟨fun x e => (by cases e), fun x e => (by cases e; rfl)⟩
  · split at hh
    · cases hh; exact ⟨fun x e => (by cases e; rfl), fun x e => (by cases e)⟩
    · cases hh; exact ⟨fun x e => (by cases e), fun x e => (by cases e; rfl)⟩
    · cases hh
theorem run_cost : ∀ {n d : Nat} {fr : Fr} {h h' : Hp} {r : Re}, run d n fr h = some (r, h') → h.2.1 ≤ h'.2.1 ∧ h.2.2 ≤ h'.2.2
  | 0, d, fr, h, h', r, hh => by unfold run at hh; cases hh
  | n + 1, d, fr, h, h', r, hh => by
    unfold run at hh
    split at hh
    · cases hh
    · rename_i q hq
      cases hh
      obtain ⟨i, len, -, h1 | ⟨-, h1 | h1 | h1 | h1 | h1⟩⟩ := stp_inv hq
      · obtain ⟨E, -, -, e⟩ := h1; cases e; exact cs_add
      · obtain ⟨z, -, e⟩ := h1; cases e
      · obtain ⟨z, -, e⟩ := h1; cases e
      · obtain ⟨z, -, e⟩ := h1; cases e
      · obtain ⟨v, -, e⟩ := h1; cases e; exact cs_rf
      · obtain ⟨z, -, e⟩ := h1; cases e
    · rename_i w hq
      have h2 := run_cost hh
      obtain ⟨i, len, -, h1 | ⟨-, h1 | h1 | h1 | h1 | h1⟩⟩ := stp_inv hq
      · obtain ⟨E, -, -, e⟩ := h1; cases e
      · obtain ⟨z, -, e⟩ := h1; cases e; exact h2
      · obtain ⟨z, -, e⟩ := h1; cases e; exact h2
      · obtain ⟨z, h3, e⟩ := h1
        cases e
        have h4 := hwr_cost h3
        exact ⟨Nat.le_trans h4.1 h2.1, Nat.le_trans h4.2 h2.2⟩
      · obtain ⟨v, -, e⟩ := h1; cases e
      · obtain ⟨z, -, e⟩ := h1; cases e
    · rename_i w hq
      split at hh
      · cases hh
      · split at hh
        · cases hh
        · rename_i r1 hr1
          have h2 := run_cost (r := r1.1) (h' := r1.2) hr1
          split at hh
          · cases hh
          · rename_i x hx
            cases hh
            have h3 := (aft_cost hx).1 _ rfl
            dsimp only at h3
            rw [h3]
            exact h2
          · rename_i x hx
            have h3 := (aft_cost hx).2 _ rfl
            have h4 := run_cost hh
            rw [h3] at h4
            exact ⟨Nat.le_trans h2.1 h4.1, Nat.le_trans h2.2 h4.2⟩
