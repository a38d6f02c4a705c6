/-! the heap of the small machine in the JVM's heap -/
def Ext (ρ ρ' : Nat → List Nat) : Prop := ∀ (s i a : Nat), (ρ s)[i]? = some a → (ρ' s)[i]? = some a
theorem Ext.rf {ρ : Nat → List Nat} : Ext ρ ρ := fun _ _ _ h => h
theorem Ext.tr {ρ ρ' ρ'' : Nat → List Nat} (h : Ext ρ ρ') (h' : Ext ρ' ρ'') : Ext ρ ρ'' := fun s i a z => h' s i a (h s i a z)
theorem vr_mono {ρ ρ' : Nat → List Nat} (hE : Ext ρ ρ') {v : MV} {w : Value} (h : vr ρ v w) : vr ρ' v w := by
  rcases v with x | x | x | x | (_ | q)
  · exact h
  · exact h
  · exact h
  · exact h
  · exact h
  · obtain ⟨a, h1, h2⟩ := h
    exact ⟨a, hE _ _ _ h1, h2⟩
theorem srel_mono {ρ ρ' : Nat → List Nat} (hE : Ext ρ ρ') : ∀ {l : List MV} {vs : List Value}, srel ρ l vs → srel ρ' l vs
  | [], _, h => h
  | _ :: _, _, h => by
    obtain ⟨w, ws, e, h1, h2⟩ := h
    exact ⟨w, ws, e, vr_mono hE h1, srel_mono hE h2⟩
theorem lrel_mono {ρ ρ' : Nat → List Nat} (hE : Ext ρ ρ') {ls : Array Slot} {L : Lo} {nL : Nat} (h : lrel ρ ls L nL) : lrel ρ' ls L nL :=
  ⟨h.1, h.2.1, h.2.2.1, fun i v hv => by obtain ⟨w, h1, h2⟩ := h.2.2.2 i v hv; exact ⟨w, h1, vr_mono hE h2⟩⟩
theorem srel_at {ρ : Nat → List Nat} : ∀ {l : List MV} {vs : List Value}, srel ρ l vs → ∀ {k : Nat} {v : MV}, l[k]? = some v → ∃ w, vs[k]? = some w ∧ vr ρ v w
  | [], _, _, k, v, hk => by simp at hk
  | u :: l, vs, h, k, v, hk => by
    obtain ⟨w, ws, rfl, h1, h2⟩ := h
    cases k with
    | zero => simp at hk; subst hk; exact ⟨w, by simp, h1⟩
    | succ k => simp at hk; obtain ⟨x, hx, hv⟩ := srel_at h2 hk; exact ⟨x, by simpa using hx, hv⟩
theorem srel_set {ρ : Nat → List Nat} : ∀ {l : List MV} {vs : List Value}, srel ρ l vs → ∀ (k : Nat) {v : MV} {w : Value}, vr ρ v w → srel ρ (l.set k v) (vs.set k w)
  | [], _, h, k, v, w, _ => by rw [show _ = [] from h]; simp [srel]
  | u :: l, vs, h, k, v, w, hv => by
    obtain ⟨x, ws, rfl, h1, h2⟩ := h
    cases k with
    | zero => exact ⟨w, ws, by simp, hv, h2⟩
    | succ k => exact ⟨x, ws.set k w, by simp, h1, srel_set h2 k hv⟩
theorem srel_app {ρ : Nat → List Nat} : ∀ {l l2 : List MV} {vs vs2 : List Value}, srel ρ l vs → srel ρ l2 vs2 → srel ρ (l ++ l2) (vs ++ vs2)
  | [], _, _, _, h, h2 => by rw [show _ = [] from h]; exact h2
  | _ :: _, _, _, _, h, h2 => by
    obtain ⟨w, ws, rfl, h1, h3⟩ := h
    exact ⟨w, _, rfl, h1, srel_app h3 h2⟩
theorem srel_rev {ρ : Nat → List Nat} : ∀ {l : List MV} {vs : List Value}, srel ρ l vs → srel ρ l.reverse vs.reverse
  | [], _, h => by rw [show _ = [] from h]; rfl
  | v :: l, _, h => by
    obtain ⟨w, ws, rfl, h1, h3⟩ := h
    rw [List.reverse_cons, List.reverse_cons]
    exact srel_app (srel_rev h3) ⟨w, [], rfl, h1, rfl⟩
theorem srel_take {ρ : Nat → List Nat} : ∀ (n : Nat) {l : List MV} {vs : List Value}, srel ρ l vs → srel ρ (l.take n) (vs.take n) ∧ srel ρ (l.drop n) (vs.drop n)
  | 0, _, _, h => ⟨rfl, h⟩
  | n + 1, [], _, h => by rw [show _ = [] from h]; exact ⟨rfl, rfl⟩
  | n + 1, _ :: _, _, h => by
    obtain ⟨w, ws, rfl, h1, h3⟩ := h
    exact ⟨⟨w, _, rfl, h1, (srel_take n h3).1⟩, (srel_take n h3).2⟩
/-- a list: its object at a, its row at b: the row is the shared empty one, at E0, or its own -/
def lst_at (D : va_G) (U : State) (ρ : Nat → List Nat) (base E0 es : Nat) (ob : Ob) (a b : Nat) (H : Heap) : Prop :=
  (∃ k : Int32, va_at D vcl (a, .inr (10, [.int k, .ref b, .int (nI ob.length)])) H) ∧ (∀ v ∈ ob, ∃ i, v = vR es i) ∧
    ((b = E0 ∧ ob = []) ∨ (base ≤ b ∧ b ≠ a ∧ ∃ (cap : Nat) (f : Nat → Option Nat) (cO : ClassId), va_at D vcl (b, .inl (cO, cap, .inr (.inr (.inr (.inr f))))) H ∧
    ArrOfT U cO (.object "java/lang/Object") ∧ va_RA U cO (.object "java/lang/Object") ∧ ob.length ≤ cap ∧ 2 ≤ cap ∧ cap ≤ 60000 ∧ ∀ (j : Nat) (v : MV), ob[j]? = some v → vr ρ v (va_rf (f j))))
def ob_at (D : va_G) (U : State) (ρ : Nat → List Nat) (β : Nat → Nat → Nat) (base E0 : Nat) (s i : Nat) (ob : Ob) (a : Nat) (H : Heap) : Prop :=
  match sk s with
  | (0, ci) => ob.length = fN ci ∧ base ≤ a ∧ ∃ vs, srel ρ ob vs ∧ va_at D vcl (a, .inr (ci, vs)) H
  | (1, t) => base ≤ a ∧ ∃ (cA : ClassId) (f : Nat → Value), H[a]? = some (arrV cA ob.length f) ∧ ArrOfT U cA (aty t) ∧ va_RA U cA (aty t) ∧ ∀ (j : Nat) (v : MV), ob[j]? = some v → vr ρ v (f j)
  | (2, _) => base ≤ a ∧ lst_at D U ρ base E0 (les s) ob a (β s i) H
  | (3, _) => True
  | (4, _) => a < base ∧ ∃ scr : Cell, H[a]? = some scr ∧ U.isArrayOf scr .int ∧ scr.vm ≠ .unknown ∧ scr.slots.size = ob.length ∧ ob.length < 2 ^ 31 ∧ ∀ (j : Nat) (v : MV), ob[j]? = some v → ∃ w, scr.slots[j]? = some w ∧ vr ρ v w
  | _ => False
def Sim (base E0 : Nat) (D : va_G) (ρ : Nat → List Nat) (β : Nat → Nat → Nat) (h : Hp) (U : State) (H : Heap) : Prop :=
  va_K D vcl [] U ∧ (∀ s, (ρ s).length = (h.1 s).length) ∧ InjR ρ ∧
  (∀ (s i s' i' a : Nat), sk s = (2, 0) → i < (ρ s).length → base ≤ β s i → (sk s').1 < 3 → (ρ s')[i']? = some a → β s i ≠ a) ∧
  (∀ (s i s' i' : Nat), sk s = (2, 0) → sk s' = (2, 0) → i < (ρ s).length → i' < (ρ s').length → base ≤ β s i → β s i = β s' i' → s = s' ∧ i = i') ∧
  E0 < base ∧ base ≤ H.size ∧
  ∀ (s i : Nat) (ob : Ob) (a : Nat), hget h s i = some ob → (ρ s)[i]? = some a → ob_at D U ρ β base E0 s i ob a H
theorem Sim.ad {base E0 : Nat} {D : va_G} {ρ : Nat → List Nat} {β : Nat → Nat → Nat} {h : Hp} {U : State} {H : Heap} (S : Sim base E0 D ρ β h U H) {s i : Nat} {ob : Ob} (hg : hget h s i = some ob) : ∃ a, (ρ s)[i]? = some a ∧ ob_at D U ρ β base E0 s i ob a H := by
  have h1 : i < (h.1 s).length := (List.getElem?_eq_some_iff.mp hg).1
  rw [← S.2.1 s] at h1
  exact ⟨_, List.getElem?_eq_getElem h1, S.2.2.2.2.2.2.2 s i ob _ hg (List.getElem?_eq_getElem h1)⟩
theorem ob_at.lt {D : va_G} {U : State} {ρ : Nat → List Nat} {β : Nat → Nat → Nat} {base E0 s i : Nat} {ob : Ob} {a : Nat} {H : Heap} (h : ob_at D U ρ β base E0 s i ob a H) (hs : (sk s).1 < 3) : a < H.size := by
  unfold ob_at at h
  split at h
  · obtain ⟨-, -, vs, -, h2⟩ := h; exact h2.lt
  · obtain ⟨-, cA, f, h2, -⟩ := h; exact (Array.getElem?_eq_some_iff.mp h2).1
  · obtain ⟨-, ⟨k, h2⟩, -⟩ := h; exact h2.lt
  · rename_i e; rw [e] at hs; exact absurd hs (by simp)
  · rename_i e; rw [e] at hs; exact absurd hs (by simp)
  · exact h.elim
theorem ob_at.ge {D : va_G} {U : State} {ρ : Nat → List Nat} {β : Nat → Nat → Nat} {base E0 s i : Nat} {ob : Ob} {a : Nat} {H : Heap} (h : ob_at D U ρ β base E0 s i ob a H) (hs : (sk s).1 < 3) : base ≤ a := by
  unfold ob_at at h
  split at h
  · exact h.2.1
  · exact h.1
  · exact h.1
  · rename_i e; rw [e] at hs; exact absurd hs (by simp)
  · rename_i e; rw [e] at hs; exact absurd hs (by simp)
  · exact h.elim
theorem ob_at.bk {D : va_G} {U : State} {ρ : Nat → List Nat} {β : Nat → Nat → Nat} {base E0 s i : Nat} {ob : Ob} {a : Nat} {H : Heap} (h : ob_at D U ρ β base E0 s i ob a H) (hs : sk s = (2, 0)) (he : E0 < base) (hb : base ≤ β s i) : β s i < H.size := by
  unfold ob_at at h
  rw [hs] at h
  obtain ⟨-, -, -, h3⟩ := h
  rcases h3 with ⟨h3, -⟩ | ⟨-, -, cap, f, cO, h2, -⟩
  · omega
  · exact h2.lt
/-- what stands at a place stands there still, where its cells and its values' places do -/
theorem ob_at.kept {D : va_G} {U : State} {ρ ρ' : Nat → List Nat} {β β' : Nat → Nat → Nat} {base E0 s i : Nat} {ob : Ob} {a : Nat} {H H' : Heap} (h : ob_at D U ρ β base E0 s i ob a H) (hE : Ext ρ ρ') (ha : sk s ≠ (3, 0) → H'[a]? = H[a]?) (hb : sk s = (2, 0) → β' s i = β s i ∧ (base ≤ β s i → H'[β s i]? = H[β s i]?)) (hk : sk s = (2, 0) ∨ (sk s).1 ≠ 2) (h3 : sk s = (3, 0) ∨ (sk s).1 ≠ 3) : ob_at D U ρ' β' base E0 s i ob a H' := by
  unfold ob_at at h ⊢
  split at h
  · rename_i ci e
    rw [e] at ha
    obtain ⟨h1, h2, vs, h3, h4⟩ := h
    exact ⟨h1, h2, vs, srel_mono hE h3, h4.kept (ha (by simp))⟩
  · rename_i t e
    rw [e] at ha
    obtain ⟨h1, cA, f, h2, h3, h4, h5⟩ := h
    exact ⟨h1, cA, f, by rw [ha (by simp)]; exact h2, h3, h4, fun j v hj => vr_mono hE (h5 j v hj)⟩
  · rename_i z e
    have e2 : sk s = (2, 0) := hk.resolve_right (by rw [e]; simp)
    rw [e2] at ha
    obtain ⟨h1, ⟨k, g1⟩, g2, g3⟩ := h
    obtain ⟨b1, b2⟩ := hb e2
    refine ⟨h1, ⟨k, ?_⟩, g2, ?_⟩
    · rw [b1]; exact g1.kept (ha (by simp))
    · rw [b1]
      rcases g3 with g3 | ⟨x1, x2, cap, f, cO, x3, x4, x5, x6, x7, x8, x9⟩
      · exact Or.inl g3
      · exact Or.inr ⟨x1, x2, cap, f, cO, x3.kept (b2 x1), x4, x5, x6, x7, x8, fun j v hj => vr_mono hE (x9 j v hj)⟩
  · rename_i z e
    trivial
  · rename_i z e
    rw [e] at ha
    obtain ⟨h0, scr, h1, h2, h3, h4, h6, h5⟩ := h
    exact ⟨h0, scr, by rw [ha (by simp)]; exact h1, h2, h3, h4, h6, fun j v hj => by obtain ⟨w, x1, x2⟩ := h5 j v hj; exact ⟨w, x1, vr_mono hE x2⟩⟩
  · exact h.elim
theorem sk_fm (s : Nat) : (sk s = (2, 0) ∨ (sk s).1 ≠ 2) ∧ (sk s = (3, 0) ∨ (sk s).1 ≠ 3) := by
  have h : ∀ q ∈ sktab, (q = (2, 0) ∨ q.1 ≠ 2) ∧ (q = (3, 0) ∨ q.1 ≠ 3) := by decide
  unfold sk
  rw [List.getD_eq_getElem?_getD]
  cases hs : sktab[s]? with
  | none => simp
  | some q => exact h q (List.mem_of_getElem? hs)
theorem ob_at.keep {D : va_G} {U : State} {ρ ρ' : Nat → List Nat} {β β' : Nat → Nat → Nat} {base E0 s i : Nat} {ob : Ob} {a : Nat} {H H' : Heap} (h : ob_at D U ρ β base E0 s i ob a H) (hE : Ext ρ ρ') (ha : sk s ≠ (3, 0) → H'[a]? = H[a]?) (hb : sk s = (2, 0) → β' s i = β s i ∧ (base ≤ β s i → H'[β s i]? = H[β s i]?)) : ob_at D U ρ' β' base E0 s i ob a H' :=
  h.kept hE ha hb (sk_fm s).1 (sk_fm s).2
theorem ob_at.moved {D : va_G} {u U : State} {ρ : Nat → List Nat} {β : Nat → Nat → Nat} {base E0 s i : Nat} {ob : Ob} {a : Nat} {H : Heap} (hvm : u.vm.Alike U.vm) (h : ob_at D u ρ β base E0 s i ob a H) : ob_at D U ρ β base E0 s i ob a H := by
  unfold ob_at at h ⊢
  split at h
  · exact h
  · obtain ⟨h1, cA, f, h2, h3, h4, h5⟩ := h
    exact ⟨h1, cA, f, h2, arrOfT_moved hvm h3, h4.moved hvm, h5⟩
  · obtain ⟨h1, g1, g2, g3⟩ := h
    refine ⟨h1, g1, g2, g3.imp id ?_⟩
    rintro ⟨x1, x2, cap, f, cO, x3, x4, x5, x6⟩
    exact ⟨x1, x2, cap, f, cO, x3, arrOfT_moved hvm x4, x5.moved hvm, x6⟩
  · trivial
  · obtain ⟨h0, scr, h1, h2, h3, h4, h6, h5⟩ := h
    exact ⟨h0, scr, h1, State.isArrayOf_alike hvm h2, h3, h4, h6, h5⟩
  · exact h.elim
theorem Sim.moved {base E0 : Nat} {D : va_G} {ρ : Nat → List Nat} {β : Nat → Nat → Nat} {h : Hp} {u U : State} {H : Heap} (hvm : u.vm.Alike U.vm) (S : Sim base E0 D ρ β h u H) : Sim base E0 D ρ β h U H := by
  obtain ⟨h1, h2, h3, h4, h5, h6, h7, h8⟩ := S
  exact ⟨va_K.moved hvm h1, h2, h3, h4, h5, h6, h7, fun s i ob a x y => (h8 s i ob a x y).moved hvm⟩
/-- the script's cell stands below base; all else that is looked at stands from base on, or is the empty row -/
theorem Sim.scr {base E0 : Nat} {D : va_G} {ρ : Nat → List Nat} {β : Nat → Nat → Nat} {h : Hp} {U : State} {H : Heap} (_ : Sim base E0 D ρ β h U H) : True := trivial
/-- more cells: nothing that stands is changed -/
theorem Sim.grown {base E0 : Nat} {D : va_G} {ρ : Nat → List Nat} {β : Nat → Nat → Nat} {h : Hp} {U : State} {H H' : Heap} (S : Sim base E0 D ρ β h U H) (hz : H.size ≤ H'.size) (ho : ∀ q, q < H.size → H'[q]? = H[q]?) : Sim base E0 D ρ β h U H' := by
  obtain ⟨h1, h2, h3, h4, h5, h6, h7, h8⟩ := S
  refine ⟨h1, h2, h3, h4, h5, h6, Nat.le_trans h7 hz, fun s i ob a x y => ?_⟩
  have ha := h8 s i ob a x y
  refine ha.keep Ext.rf (fun hn => ho a ?_) (fun hs => ⟨rfl, fun hb => ho _ (ha.bk hs h6 hb)⟩)
  by_cases hs : (sk s).1 < 3
  · exact ha.lt hs
  · unfold ob_at at ha
    split at ha
    · rename_i e; rw [e] at hs; exact absurd (by simp) hs
    · rename_i e; rw [e] at hs; exact absurd (by simp) hs
    · rename_i e; rw [e] at hs; exact absurd (by simp) hs
    · rename_i z e
      have e2 : sk s = (3, 0) := (sk_fm s).2.resolve_right (by rw [e]; simp)
      exact absurd e2 hn
    · obtain ⟨-, scr, g1, -⟩ := ha; exact (Array.getElem?_eq_some_iff.mp g1).1
    · exact ha.elim
theorem Sim.cost {base E0 : Nat} {D : va_G} {ρ : Nat → List Nat} {β : Nat → Nat → Nat} {h : Hp} {U : State} {H : Heap} (S : Sim base E0 D ρ β h U H) (c n : Nat) : Sim base E0 D ρ β (hcst h c n) U H := S
