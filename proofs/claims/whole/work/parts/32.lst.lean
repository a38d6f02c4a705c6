/-! the lists of the small machine are the JDK's -/
theorem les_ok {s : Nat} (h : sk s = (2, 0)) : ∃ ci, ci < 10 ∧ sk (les s) = (0, ci) := by
  have h9 : ∀ s, s < 62 → sk s = (2, 0) → (sk (les s)).1 = 0 ∧ (sk (les s)).2 < 10 := by decide +kernel
  by_cases hs : s < 62
  · obtain ⟨h1, h2⟩ := h9 s hs h
    exact ⟨_, h2, Prod.ext h1 rfl⟩
  · exfalso
    unfold sk at h
    rw [List.getD_eq_getElem?_getD, List.getElem?_eq_none (Nat.not_lt.mp hs)] at h
    simp at h
def gof (ρ : Nat → List Nat) (ob : Ob) (j : Nat) : Option Nat := match ob[j]? with
  | some (.inr (.inr (.inr (.inr (some q))))) => (ρ q.1)[q.2]?
  | _ => none
section LF
variable {base E0 : Nat} {D : va_G} {ρ : Nat → List Nat} {β : Nat → Nat → Nat} {h : Hp} {s : State} {H : Heap}
theorem obj_sk {s1 : Nat} (h1 : (sk s1).1 = 0) : (sk s1).1 < 3 := by omega
/-- an object of a list's elements -/
theorem elem_El (S : Sim base E0 D ρ β h s H) {s0 i0 a : Nat} {ob : Ob} (hg : hget h s0 i0 = some ob) (hk : sk s0 = (2, 0)) (ha : (ρ s0)[i0]? = some a) {s1 i1 y ci : Nat} (hk1 : sk s1 = (0, ci)) (hci : ci < 10) (hy : (ρ s1)[i1]? = some y) : El D (fun q => q = a ∨ q = β s0 i0) H y := by
  obtain ⟨ob1, hg1, ho1⟩ := S.adr hy
  have ho := S.2.2.2.2.2.2.2 s0 i0 ob a hg ha
  refine ⟨fun z => ?_, ?_⟩
  · rcases z with z | z
    · subst z
      obtain ⟨e, -⟩ := S.2.2.1 s1 i1 s0 i0 y (by rw [hk1]; simp) (by rw [hk]; simp) hy ha
      rw [e, hk] at hk1
      cases hk1
    · by_cases hb : base ≤ β s0 i0
      · exact S.2.2.2.1 s0 i0 s1 i1 y hk (sz_lt ha) hb (by rw [hk1]; simp) hy z.symm
      · have := ho1.ge (by rw [hk1]; simp)
        omega
  · unfold ob_at at ho1
    rw [hk1] at ho1
    obtain ⟨-, -, vs, -, h4⟩ := ho1
    exact ⟨ci, vs, hci, h4⟩
theorem lst_facts (S : Sim base E0 D ρ β h s H) {s0 i0 : Nat} {ob : Ob} (hg : hget h s0 i0 = some ob) (hk : sk s0 = (2, 0)) : ∃ (a : Nat) (k : Int32) (tys : List (ClassId × FieldType)), (ρ s0)[i0]? = some a ∧ Lr D base E0 tys a k (β s0 i0) ob.length (gof ρ ob) H ∧ va_K D vcl tys s ∧ (∀ j, j < ob.length → ∀ y, gof ρ ob j = some y → El D (fun q => q = a ∨ q = β s0 i0) H y) ∧ ∀ (j : Nat) (v : MV), ob[j]? = some v → ∃ y, gof ρ ob j = some y ∧ vr ρ v (.ref y) ∧ ∃ i, v = vR (les s0) i := by
  obtain ⟨a, ha, ho⟩ := S.ad hg
  have ho0 := ho
  unfold ob_at at ho
  rw [hk] at ho
  obtain ⟨hba, ⟨k, h1⟩, h2, h3⟩ := ho
  obtain ⟨ci, hci, hle⟩ := les_ok hk
  have hG : ∀ (f : Nat → Option Nat), (∀ (j : Nat) (v : MV), ob[j]? = some v → vr ρ v (va_rf (f j))) → ∀ j, j < ob.length → f j = gof ρ ob j ∧ ∃ y, gof ρ ob j = some y ∧ vr ρ (ob[j]?.getD vN) (.ref y) := by
    intro f hf j hj
    have hv : ob[j]? = some ob[j] := List.getElem?_eq_getElem hj
    obtain ⟨i, hi⟩ := h2 _ (List.getElem_mem hj)
    have h9 := hf j _ hv
    rw [hi] at h9
    obtain ⟨y, h5, h6⟩ := h9
    have e : gof ρ ob j = some y := by
      unfold gof
      rw [hv, hi]
      exact h5
    refine ⟨?_, y, e, ?_⟩
    · rw [e]
      cases hfj : f j with
      | none => rw [hfj] at h6; cases h6
      | some z => rw [hfj] at h6; cases h6; rfl
    · rw [hv, hi]
      exact ⟨y, h5, rfl⟩
  have hall : ∀ (j : Nat) (v : MV), ob[j]? = some v → (∀ j, j < ob.length → ∃ y, gof ρ ob j = some y ∧ vr ρ (ob[j]?.getD vN) (.ref y)) → ∃ y, gof ρ ob j = some y ∧ vr ρ v (.ref y) ∧ ∃ i, v = vR (les s0) i := by
    intro j v hv hh
    obtain ⟨y, q1, q2⟩ := hh j (sz_lt hv)
    rw [hv] at q2
    exact ⟨y, q1, q2, h2 v (List.mem_of_getElem? hv)⟩
  have hel : ∀ j, j < ob.length → ∀ y, gof ρ ob j = some y → El D (fun q => q = a ∨ q = β s0 i0) H y := by
    intro j hj y hy
    have hv : ob[j]? = some ob[j] := List.getElem?_eq_getElem hj
    obtain ⟨i, hi⟩ := h2 _ (List.getElem_mem hj)
    unfold gof at hy
    rw [hv, hi] at hy
    exact elem_El S hg hk ha hle hci hy
  rcases h3 with ⟨hb, rfl⟩ | ⟨x1, x2, cap, f, cO, x3, x4, x5, x6, x7, x8, x9⟩
  · exact ⟨a, k, [], ha, ⟨h1, hba, S.2.2.2.2.2.2.1, Or.inl ⟨hb, S.2.2.2.2.2.1, rfl, rfl⟩⟩, S.1, hel, fun j v hv => by simp at hv⟩
  · refine ⟨a, k, [(cO, oO)], ha, ⟨h1, hba, S.2.2.2.2.2.2.1, Or.inr ⟨x1, Ne.symm x2, cap, f, cO, rfl, x3, x6, x7, x8, fun j hj => (hG f x9 j hj).1⟩⟩, ⟨S.1.1, fun k q hq => ?_⟩, hel, fun j v hv => hall j v hv fun j hj => (hG f x9 j hj).2⟩
    match k, hq with
    | 0, hq => cases hq; exact ⟨x4, x5⟩
    | k + 1, hq => simp at hq
def bset (β : Nat → Nat → Nat) (s0 i0 b : Nat) : Nat → Nat → Nat := fun t i => if t = s0 ∧ i = i0 then b else β t i
/-- a list changes, nothing else that stands -/
theorem Sim.lch (S : Sim base E0 D ρ β h s H) {s0 i0 a : Nat} {ob ob' : Ob} (hg : hget h s0 i0 = some ob) (hk : sk s0 = (2, 0)) (ha : (ρ s0)[i0]? = some a) {H1 : Heap} {t : State} {g : Nat → Option Nat} (ht : t.heap = H1) (hvm : s.vm.Alike t.vm) (hz : H.size ≤ H1.size) (ho : ∀ q : Nat, q < H.size → ¬ AX base a (β s0 i0) H.size q → H1[q]? = H[q]?) (hL : Lp D base E0 H a (β s0 i0) ob'.length g t)
    (hob : ∀ v ∈ ob', ∃ i, v = vR (les s0) i) (hgo : ∀ (j : Nat) (v : MV), ob'[j]? = some v → vr ρ v (va_rf (g j))) : ∃ β', Sim base E0 D ρ β' (hput h s0 i0 ob') s H1 := by
  have S0 := S
  obtain ⟨k1, k2, k3, k4, k5, k6, k7, k8⟩ := S
  have ha0 := k8 s0 i0 ob a hg ha
  obtain ⟨k, b', tys', ⟨l1, l2, l3, l4⟩, hKt, hb'⟩ := hL
  rw [ht] at l1 l3 l4
  have hKs : va_K D vcl tys' s := va_K.moved hvm.symm hKt
  have hi0 : i0 < (ρ s0).length := sz_lt ha
  have e0 : bset β s0 i0 b' s0 i0 = b' := if_pos ⟨rfl, rfl⟩
  have e1 : ∀ t i, ¬ (t = s0 ∧ i = i0) → bset β s0 i0 b' t i = β t i := fun t i z => if_neg z
  refine ⟨bset β s0 i0 b', k1, fun s => ?_, k3, ?_, ?_, k6, Nat.le_trans k7 hz, fun s1 i1 ob2 a2 x y => ?_⟩
  · rw [k2 s]
    show _ = (if s = s0 then (h.1 s0).set i0 ob' else h.1 s).length
    split
    · rename_i e; subst e; simp
    · rfl
  · intro s1 i1 s' i' a' hs1 hi1 hb hs' ha'
    by_cases e : s1 = s0 ∧ i1 = i0
    · obtain ⟨rfl, rfl⟩ := e
      rw [e0] at hb ⊢
      rcases hb' with rfl | hb'
      · exact k4 _ _ _ _ _ hs1 hi1 hb hs' ha'
      · obtain ⟨ob3, g1, g2⟩ := S0.adr ha'
        have := g2.lt hs'
        omega
    · rw [e1 _ _ e] at hb ⊢
      exact k4 _ _ _ _ _ hs1 hi1 hb hs' ha'
  · intro s1 i1 s' i' hs1 hs' hi1 hi' hb he
    have bkl : ∀ t i, sk t = (2, 0) → i < (ρ t).length → base ≤ β t i → β t i < H.size := fun t i z1 z2 z3 => by
      obtain ⟨ob3, g1, g2⟩ := S0.adr (List.getElem?_eq_getElem z2)
      exact g2.bk z1 k6 z3
    by_cases e : s1 = s0 ∧ i1 = i0
    · by_cases e' : s' = s0 ∧ i' = i0
      · exact ⟨e.1.trans e'.1.symm, e.2.trans e'.2.symm⟩
      · obtain ⟨rfl, rfl⟩ := e
        rw [e0] at hb he
        rw [e1 _ _ e'] at he
        rcases hb' with rfl | hb'
        · exact k5 _ _ _ _ hs1 hs' hi1 hi' hb he
        · have := bkl s' i' hs' hi' (by omega)
          omega
    · by_cases e' : s' = s0 ∧ i' = i0
      · obtain ⟨rfl, rfl⟩ := e'
        rw [e1 _ _ e] at hb he
        rw [e0] at he
        rcases hb' with rfl | hb'
        · exact k5 _ _ _ _ hs1 hs' hi1 hi' hb he
        · have := bkl s1 i1 hs1 hi1 hb
          omega
      · rw [e1 _ _ e] at hb he
        rw [e1 _ _ e'] at he
        exact k5 _ _ _ _ hs1 hs' hi1 hi' hb he
  · by_cases e : s1 = s0 ∧ i1 = i0
    · obtain ⟨rfl, rfl⟩ := e
      have e2 : a2 = a := Option.some.inj (y.symm.trans ha)
      subst e2
      have hx : hget (hput h s1 i1 ob') s1 i1 = some ob' := by
        show (if s1 = s1 then (h.1 s1).set i1 ob' else h.1 s1)[i1]? = some ob'
        rw [if_pos rfl, List.getElem?_set]
        have : i1 < (h.1 s1).length := sz_lt hg
        simp [this]
      rw [hx] at x
      cases x
      unfold ob_at
      rw [hk]
      refine ⟨l2, ⟨k, by rw [e0]; exact l1⟩, hob, ?_⟩
      rw [e0]
      rcases l4 with ⟨z1, z2, z3, z4⟩ | ⟨z1, z2, cap, f, cO, rfl, z4, z5, z6, z7, z8⟩
      · exact Or.inl ⟨z1, List.length_eq_zero_iff.mp z3⟩
      · refine Or.inr ⟨z1, Ne.symm z2, cap, f, cO, z4, (hKs.2 0 _ rfl).1, (hKs.2 0 _ rfl).2, z5, z6, z7, fun j v hv => ?_⟩
        rw [z8 j (sz_lt hv)]
        exact hgo j v hv
    · have hx : hget (hput h s0 i0 ob') s1 i1 = hget h s1 i1 := by
        show (if s1 = s0 then (h.1 s0).set i0 ob' else h.1 s1)[i1]? = (h.1 s1)[i1]?
        split
        · rename_i e1
          subst e1
          rw [List.getElem?_set, if_neg (fun z => e ⟨rfl, z.symm⟩)]
        · rfl
      rw [hx] at x
      have hb2 := k8 s1 i1 ob2 a2 x y
      have hi1 : i1 < (ρ s1).length := sz_lt y
      refine hb2.keep Ext.rf (fun hn3 => ?_) (fun hs => ⟨e1 _ _ e, fun hb => ?_⟩)
      · by_cases hs3 : (sk s1).1 < 3
        · refine ho a2 (hb2.lt hs3) (fun z => ?_)
          rcases z with z | z | z
          · subst z
            exact e (k3 _ _ _ _ _ hs3 (by rw [hk]; simp) y ha)
          · exact k4 s0 i0 s1 i1 a2 hk hi0 z.1 hs3 y z.2.symm
          · exact absurd (hb2.lt hs3) (Nat.not_lt.mpr z)
        · unfold ob_at at hb2
          split at hb2
          · rename_i e4; rw [e4] at hs3; exact absurd (by simp) hs3
          · rename_i e4; rw [e4] at hs3; exact absurd (by simp) hs3
          · rename_i e4; rw [e4] at hs3; exact absurd (by simp) hs3
          · rename_i z4 e4
            exact absurd ((sk_fm s1).2.resolve_right (by rw [e4]; simp)) hn3
          · have hlt := hb2.1
            have hba := ha0.ge (by rw [hk]; simp)
            refine ho a2 (by omega) (fun z => ?_)
            rcases z with z | z | z <;> omega
          · exact hb2.elim
      · refine ho _ (hb2.bk hs k6 hb) (fun z => ?_)
        rcases z with z | z | z
        · exact k4 s1 i1 s0 i0 a hs hi1 hb (by rw [hk]; simp) ha z
        · exact e (k5 s1 i1 s0 i0 hs hk hi1 hi0 hb z.2)
        · exact absurd (hb2.bk hs k6 hb) (Nat.not_lt.mpr z)
end LF
