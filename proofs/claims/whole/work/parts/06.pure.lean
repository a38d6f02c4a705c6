/-! the relation between the small machine's values and the JVM's, and the instructions that touch neither heap nor tables -/
def vr (ρ : Nat → List Nat) : MV → Value → Prop
  | .inl x, v => v = .int x
  | .inr (.inl x), v => v = .long x
  | .inr (.inr (.inl x)), v => v = .float x
  | .inr (.inr (.inr (.inl x))), v => v = .double x
  | .inr (.inr (.inr (.inr none))), v => v = .null
  | .inr (.inr (.inr (.inr (some q)))), v => ∃ a, (ρ q.1)[q.2]? = some a ∧ v = .ref a
theorem vr_cat {ρ : Nat → List Nat} {v : MV} {w : Value} (h : vr ρ v w) : w.category = mcat v := by
  rcases v with x | x | x | x | (_ | q)
  · rw [show w = .int x from h]; rfl
  · rw [show w = .long x from h]; rfl
  · rw [show w = .float x from h]; rfl
  · rw [show w = .double x from h]; rfl
  · rw [show w = .null from h]; rfl
  · obtain ⟨a, -, rfl⟩ := h; rfl
theorem vr_fun {ρ : Nat → List Nat} {v : MV} {w w' : Value} (h : vr ρ v w) (h' : vr ρ v w') : w = w' := by
  rcases v with x | x | x | x | (_ | q)
  · exact Eq.trans h h'.symm
  · exact Eq.trans h h'.symm
  · exact Eq.trans h h'.symm
  · exact Eq.trans h h'.symm
  · exact Eq.trans h h'.symm
  · obtain ⟨a, h1, rfl⟩ := h
    obtain ⟨b, h2, rfl⟩ := h'
    rw [Option.some.inj (h1.symm.trans h2)]
def srel (ρ : Nat → List Nat) : List MV → List Value → Prop
  | [], vs => vs = []
  | v :: l, vs => ∃ w ws, vs = w :: ws ∧ vr ρ v w ∧ srel ρ l ws
theorem srel_cat {ρ : Nat → List Nat} : ∀ {l : List MV} {vs : List Value}, srel ρ l vs → (vs.map fun v => v.category).sum = (l.map mcat).sum
  | [], vs, h => by rw [show vs = [] from h]; rfl
  | v :: l, vs, h => by
    obtain ⟨w, ws, rfl, h1, h2⟩ := h
    simp only [List.map_cons, List.sum_cons]
    rw [vr_cat h1, srel_cat h2]
theorem srel_len {ρ : Nat → List Nat} : ∀ {l : List MV} {vs : List Value}, srel ρ l vs → vs.length = l.length
  | [], vs, h => by rw [show vs = [] from h]; rfl
  | v :: l, vs, h => by
    obtain ⟨w, ws, rfl, h1, h2⟩ := h
    simp [srel_len h2]
def lrel (ρ : Nat → List Nat) (ls : Array Slot) (L : Lo) (nL : Nat) : Prop :=
  ls.size = nL ∧ L.length = nL ∧ lv_wf ls ∧ ∀ i v, lget L i = some v → ∃ w, ls[i]? = some (.val w) ∧ vr ρ v w
theorem lget_set (L : Lo) (i j : Nat) (o : Option MV) : lget (L.set i o) j = if i = j ∧ i < L.length then o else lget L j := by
  unfold lget
  rw [List.getElem?_set]
  by_cases h : i = j
  · subst h
    by_cases h2 : i < L.length
    · simp [h2]
    · simp [h2]
  · simp [h]
theorem lget_lt {L : Lo} {i : Nat} {v : MV} (h : lget L i = some v) : i < L.length := by
  unfold lget at h
  by_cases h2 : i < L.length
  · exact h2
  · rw [List.getElem?_eq_none (by omega)] at h
    cases h
theorem lclr_len (L : Lo) (i : Nat) : (lclr L i).length = L.length := by
  unfold lclr
  cases i with
  | zero => rfl
  | succ j =>
    simp only
    split
    · split
      · simp
      · rfl
    · rfl
theorem lclr_get {L : Lo} {i j : Nat} {u : MV} (h : lget (lclr L i) j = some u) : lget L j = some u ∧ ¬ (j + 1 = i ∧ mcat u = 2) := by
  unfold lclr at h
  cases i with
  | zero => exact ⟨h, fun z => by omega⟩
  | succ k =>
    simp only at h
    split at h
    · rename_i v hv
      split at h
      · rename_i h2
        rw [lget_set] at h
        split at h
        · cases h
        · rename_i h3
          refine ⟨h, fun z => ?_⟩
          have : k = j := by omega
          exact h3 ⟨this, lget_lt hv⟩
      · rename_i h2
        refine ⟨h, fun z => ?_⟩
        have : k = j := by omega
        subst this
        rw [hv] at h
        cases h
        exact h2 z.2
    · rename_i hv
      refine ⟨h, fun z => ?_⟩
      have : k = j := by omega
      subst this
      rw [hv] at h
      cases h
theorem lset_len (L : Lo) (i : Nat) (v : MV) : (lset L i v).length = L.length := by
  unfold lset
  split <;> simp [lclr_len]
theorem lset_get1 {L : Lo} {i j : Nat} {v u : MV} (hc : mcat v = 1) (h : lget (lset L i v) j = some u) : (j = i ∧ u = v) ∨ (lget L j = some u ∧ j ≠ i ∧ ¬ (j + 1 = i ∧ mcat u = 2)) := by
  unfold lset at h
  rw [if_neg (by omega), lget_set] at h
  split at h
  · rename_i z
    cases h
    exact Or.inl ⟨z.1.symm, rfl⟩
  · rename_i z
    by_cases e : j = i
    · subst e
      have h2 := lclr_get h
      exact absurd ⟨rfl, by rw [lclr_len]; exact lget_lt h2.1⟩ z
    · exact Or.inr ⟨(lclr_get h).1, e, (lclr_get h).2⟩
theorem lset_get2 {L : Lo} {i j : Nat} {v u : MV} (hc : mcat v = 2) (h : lget (lset L i v) j = some u) : (j = i ∧ u = v) ∨ (lget L j = some u ∧ j ≠ i ∧ j ≠ i + 1 ∧ ¬ (j + 1 = i ∧ mcat u = 2)) := by
  unfold lset at h
  rw [if_pos hc, lget_set] at h
  split at h
  · cases h
  · rename_i z
    rw [lget_set] at h
    split at h
    · rename_i z2
      cases h
      exact Or.inl ⟨z2.1.symm, rfl⟩
    · rename_i z2
      have h2 := lclr_get h
      have hl := lget_lt h2.1
      refine Or.inr ⟨h2.1, ?_, ?_, h2.2⟩
      · intro e
        subst e
        exact z2 ⟨rfl, by rw [lclr_len]; exact hl⟩
      · intro e
        subst e
        exact z ⟨rfl, by rw [List.length_set, lclr_len]; exact hl⟩
/-- all that the JVM's locals hold -/
def lall (ls : Array Slot) (nL : Nat) : List (Nat × Value) := (List.range nL).filterMap (fun j => match (ls[j]? : Option Slot) with | some (Slot.val w) => some (j, w) | _ => none)
theorem lall_mem {ls : Array Slot} {nL j : Nat} {w : Value} (hs : ls.size = nL) : (j, w) ∈ lall ls nL ↔ ls[j]? = some (.val w) := by
  unfold lall
  rw [List.mem_filterMap]
  constructor
  · rintro ⟨i, -, h⟩
    split at h
    · rename_i u hu
      cases h
      exact hu
    · cases h
  · intro h
    refine ⟨j, List.mem_range.mpr (by rw [← hs]; exact lv_lt h), ?_⟩
    rw [h]
theorem lall_has {ρ : Nat → List Nat} {ls : Array Slot} {L : Lo} {nL : Nat} (h : lrel ρ ls L nL) : lv_has ls nL (lall ls nL) :=
  ⟨h.1, h.2.2.1, fun q hq => (lall_mem h.1).mp (by exact hq)⟩
theorem lrel_st1 {ρ : Nat → List Nat} {ls ls' : Array Slot} {L : Lo} {nL i : Nat} {v : MV} {w : Value} (h : lrel ρ ls L nL) (hc : mcat v = 1) (hv : vr ρ v w)
    (h' : lv_has ls' nL ((i, w) :: (lall ls nL).filter (fun q => !(q.1 == i) && !(q.1 + 1 == i && q.2.category == 2)))) : lrel ρ ls' (lset L i v) nL := by
  refine ⟨h'.1, by rw [lset_len]; exact h.2.1, h'.2.1, fun j u hu => ?_⟩
  rcases lset_get1 hc hu with ⟨rfl, rfl⟩ | ⟨h1, h2, h3⟩
  · exact ⟨w, h'.2.2 (j, w) List.mem_cons_self, hv⟩
  · obtain ⟨x, hx, hvx⟩ := h.2.2.2 j u h1
    refine ⟨x, h'.2.2 (j, x) (List.mem_cons_of_mem _ (List.mem_filter.mpr ⟨(lall_mem h.1).mpr hx, ?_⟩)), hvx⟩
    have := vr_cat hvx
    simp only [Bool.and_eq_true, Bool.not_eq_true', Bool.and_eq_false_iff, beq_eq_false_iff_ne]
    refine ⟨h2, ?_⟩
    by_cases e : j + 1 = i
    · right
      intro e2
      exact h3 ⟨e, by rw [← this]; exact e2⟩
    · exact Or.inl e
theorem lrel_st2 {ρ : Nat → List Nat} {ls ls' : Array Slot} {L : Lo} {nL i : Nat} {v : MV} {w : Value} (h : lrel ρ ls L nL) (hc : mcat v = 2) (hv : vr ρ v w)
    (h' : lv_has ls' nL ((i, w) :: (lall ls nL).filter (fun q => !(q.1 == i) && (!(q.1 == i + 1) && !(q.1 + 1 == i && q.2.category == 2))))) : lrel ρ ls' (lset L i v) nL := by
  refine ⟨h'.1, by rw [lset_len]; exact h.2.1, h'.2.1, fun j u hu => ?_⟩
  rcases lset_get2 hc hu with ⟨rfl, rfl⟩ | ⟨h1, h2, h4, h3⟩
  · exact ⟨w, h'.2.2 (j, w) List.mem_cons_self, hv⟩
  · obtain ⟨x, hx, hvx⟩ := h.2.2.2 j u h1
    refine ⟨x, h'.2.2 (j, x) (List.mem_cons_of_mem _ (List.mem_filter.mpr ⟨(lall_mem h.1).mpr hx, ?_⟩)), hvx⟩
    have := vr_cat hvx
    simp only [Bool.and_eq_true, Bool.not_eq_true', Bool.and_eq_false_iff, beq_eq_false_iff_ne]
    refine ⟨h2, h4, ?_⟩
    by_cases e : j + 1 = i
    · right
      intro e2
      exact h3 ⟨e, by rw [← this]; exact e2⟩
    · exact Or.inl e
/-! what the pieces of 'pin' say when they answer -/
theorem tgt_s {pc t : Nat} {off : Int} (h : tgt pc off = some t) : (pc : Int) + off = (t : Int) := by
  unfold tgt at h
  split at h
  · rename_i h0
    cases h
    exact (Int.toNat_of_nonneg h0).symm
  · cases h
theorem br_inv {pc : Nat} {off : Int} {b : Bool} {α : Type} {f : Nat → α} {z : α} {w : α} (h : (match tgt pc off with | some t => if b = true then some (f t) else some w | none => none) = some z) : ∃ t : Nat, (pc : Int) + off = (t : Int) ∧ ((b = true ∧ z = f t) ∨ (b = false ∧ z = w)) := by
  split at h
  · rename_i t ht
    refine ⟨t, tgt_s ht, ?_⟩
    split at h
    · rename_i g; cases h; exact Or.inl ⟨g, rfl⟩
    · rename_i g; cases h; exact Or.inr ⟨by simpa using g, rfl⟩
  · cases h
theorem tgt_inv {pc : Nat} {off : Int} {α : Type} {f : Nat → α} {z : α} (h : (tgt pc off).map f = some z) : ∃ t : Nat, (pc : Int) + off = (t : Int) ∧ z = f t := by
  unfold tgt at h
  split at h
  · rename_i h0
    cases h
    exact ⟨_, (Int.toNat_of_nonneg h0).symm, rfl⟩
  · cases h
theorem p0_inv {n len pc : Nat} {L : Lo} {st : List MV} {v : MV} {z} (h : p0 n len pc L st v = some z) : len = n ∧ z = (pc + n, L, v :: st) := by
  unfold p0 at h
  split at h
  · rename_i e; cases h; exact ⟨e, rfl⟩
  · cases h
theorem p1i_inv {len pc : Nat} {L : Lo} {st : List MV} {f} {z} (h : p1i len pc L st f = some z) : ∃ x st1, st = .inl x :: st1 ∧ len = 1 ∧ z = (pc + 1, L, f x :: st1) := by
  unfold p1i at h
  split at h
  · split at h
    · rename_i e; cases h; exact ⟨_, _, rfl, e, rfl⟩
    · cases h
  · cases h
theorem p1l_inv {len pc : Nat} {L : Lo} {st : List MV} {f} {z} (h : p1l len pc L st f = some z) : ∃ x st1, st = .inr (.inl x) :: st1 ∧ len = 1 ∧ z = (pc + 1, L, f x :: st1) := by
  unfold p1l at h
  split at h
  · split at h
    · rename_i e; cases h; exact ⟨_, _, rfl, e, rfl⟩
    · cases h
  · cases h
theorem omap_inv {α β : Type} {o : Option α} {f : α → β} {z : β} (h : o.map f = some z) : ∃ v, o = some v ∧ z = f v := by
  cases o with
  | none => cases h
  | some v => cases h; exact ⟨v, rfl, rfl⟩
theorem p1f_inv {len pc : Nat} {L : Lo} {st : List MV} {f} {z} (h : p1f len pc L st f = some z) : ∃ x st1 v, st = .inr (.inr (.inl x)) :: st1 ∧ len = 1 ∧ f x = some v ∧ z = (pc + 1, L, v :: st1) := by
  unfold p1f at h
  split at h
  · split at h
    · rename_i e
      obtain ⟨v, h1, h2⟩ := omap_inv h
      exact ⟨_, _, v, rfl, e, h1, h2⟩
    · cases h
  · cases h
theorem p2i_inv {len pc : Nat} {L : Lo} {st : List MV} {f} {z} (h : p2i len pc L st f = some z) : ∃ x y st1 v, st = .inl y :: .inl x :: st1 ∧ len = 1 ∧ f x y = some v ∧ z = (pc + 1, L, v :: st1) := by
  unfold p2i at h
  split at h
  · split at h
    · rename_i e
      obtain ⟨v, h1, h2⟩ := omap_inv h
      exact ⟨_, _, _, v, rfl, e, h1, h2⟩
    · cases h
  · cases h
theorem p2l_inv {len pc : Nat} {L : Lo} {st : List MV} {f} {z} (h : p2l len pc L st f = some z) : ∃ x y st1 v, st = .inr (.inl y) :: .inr (.inl x) :: st1 ∧ len = 1 ∧ f x y = some v ∧ z = (pc + 1, L, v :: st1) := by
  unfold p2l at h
  split at h
  · split at h
    · rename_i e
      obtain ⟨v, h1, h2⟩ := omap_inv h
      exact ⟨_, _, _, v, rfl, e, h1, h2⟩
    · cases h
  · cases h
theorem p2f_inv {len pc : Nat} {L : Lo} {st : List MV} {f} {z} (h : p2f len pc L st f = some z) : ∃ x y st1 v, st = .inr (.inr (.inl y)) :: .inr (.inr (.inl x)) :: st1 ∧ len = 1 ∧ f x y = some v ∧ z = (pc + 1, L, v :: st1) := by
  unfold p2f at h
  split at h
  · split at h
    · rename_i e
      obtain ⟨v, h1, h2⟩ := omap_inv h
      exact ⟨_, _, _, v, rfl, e, h1, h2⟩
    · cases h
  · cases h
theorem p2d_inv {len pc : Nat} {L : Lo} {st : List MV} {f} {z} (h : p2d len pc L st f = some z) : ∃ x y st1 v, st = .inr (.inr (.inr (.inl y))) :: .inr (.inr (.inr (.inl x))) :: st1 ∧ len = 1 ∧ f x y = some v ∧ z = (pc + 1, L, v :: st1) := by
  unfold p2d at h
  split at h
  · split at h
    · rename_i e
      obtain ⟨v, h1, h2⟩ := omap_inv h
      exact ⟨_, _, _, v, rfl, e, h1, h2⟩
    · cases h
  · cases h
theorem pld_inv {k n len pc i : Nat} {L : Lo} {st : List MV} {z} (h : pld k n len pc L st i = some z) : ∃ v, lget L i = some v ∧ mkd v = k ∧ len = n ∧ z = (pc + n, L, v :: st) := by
  unfold pld at h
  split at h
  · rename_i v hv
    split at h
    · rename_i e; cases h; exact ⟨v, hv, e.2, e.1, rfl⟩
    · cases h
  · cases h
theorem pst_inv {k n len pc i : Nat} {L : Lo} {st : List MV} {z} (h : pst k n len pc L st i = some z) : ∃ v st1, st = v :: st1 ∧ mkd v = k ∧ len = n ∧ i + mcat v ≤ L.length ∧ z = (pc + n, lset L i v, st1) := by
  unfold pst at h
  split at h
  · split at h
    · rename_i e; cases h; exact ⟨_, _, rfl, e.2.1, e.1, e.2.2, rfl⟩
    · cases h
  · cases h
theorem pif_inv {len pc : Nat} {L : Lo} {st : List MV} {off : Int} {f} {z} (h : pif len pc L st off f = some z) : ∃ x st1, ∃ t : Nat, st = .inl x :: st1 ∧ len = 3 ∧ (pc : Int) + off = (t : Int) ∧ ((f x = true ∧ z = (t, L, st1)) ∨ (f x = false ∧ z = (pc + 3, L, st1))) := by
  unfold pif at h
  split at h
  · split at h
    · rename_i e
      obtain ⟨t, h1, h2⟩ := br_inv (f := fun t => (t, L, _)) h
      exact ⟨_, _, t, rfl, e, h1, h2⟩
    · cases h
  · cases h
theorem pcm_inv {len pc : Nat} {L : Lo} {st : List MV} {off : Int} {f} {z} (h : pcm len pc L st off f = some z) : ∃ x y st1, ∃ t : Nat, st = .inl y :: .inl x :: st1 ∧ len = 3 ∧ (pc : Int) + off = (t : Int) ∧ ((f x y = true ∧ z = (t, L, st1)) ∨ (f x y = false ∧ z = (pc + 3, L, st1))) := by
  unfold pcm at h
  split at h
  · split at h
    · rename_i e
      obtain ⟨t, h1, h2⟩ := br_inv (f := fun t => (t, L, _)) h
      exact ⟨_, _, _, t, rfl, e, h1, h2⟩
    · cases h
  · cases h
theorem pnl_inv {len pc : Nat} {L : Lo} {st : List MV} {off : Int} {b : Bool} {z} (h : pnl len pc L st off b = some z) : ∃ q st1, ∃ t : Nat, st = .inr (.inr (.inr (.inr q))) :: st1 ∧ len = 3 ∧ (pc : Int) + off = (t : Int) ∧ ((q.isNone = b ∧ z = (t, L, st1)) ∨ (¬ q.isNone = b ∧ z = (pc + 3, L, st1))) := by
  unfold pnl at h
  split at h
  · split at h
    · rename_i e
      split at h
      · rename_i t ht
        refine ⟨_, _, t, rfl, e, tgt_s ht, ?_⟩
        split at h
        · rename_i g; cases h; exact Or.inl ⟨g, rfl⟩
        · rename_i g; cases h; exact Or.inr ⟨g, rfl⟩
      · cases h
    · cases h
  · cases h
