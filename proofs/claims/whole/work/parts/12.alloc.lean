/-! new objects and arrays -/
def radds (ρ : Nat → List Nat) (s0 : Nat) (as : List Nat) : Nat → List Nat := fun t => if t = s0 then ρ s0 ++ as else ρ t
def badds (β : Nat → Nat → Nat) (s0 k E0 : Nat) : Nat → Nat → Nat := fun t i => if t = s0 ∧ k ≤ i then E0 else β t i
def Fresh (base : Nat) (ρ : Nat → List Nat) (β : Nat → Nat → Nat) (a : Nat) : Prop := (∀ (s i b : Nat), (sk s).1 < 3 → (ρ s)[i]? = some b → b ≠ a) ∧ ∀ (s i : Nat), sk s = (2, 0) → i < (ρ s).length → base ≤ β s i → β s i ≠ a
theorem radds_ext {ρ : Nat → List Nat} {s0 : Nat} {as : List Nat} : Ext ρ (radds ρ s0 as) := by
  intro s i a h
  unfold radds
  split
  · rename_i e
    subst e
    rw [List.getElem?_append_left (sz_lt h)]
    exact h
  · exact h
theorem radds_inv {ρ : Nat → List Nat} {s0 s i a : Nat} {as : List Nat} (h : (radds ρ s0 as s)[i]? = some a) : (ρ s)[i]? = some a ∨ (s = s0 ∧ (ρ s0).length ≤ i ∧ as[i - (ρ s0).length]? = some a) := by
  unfold radds at h
  split at h
  · rename_i e
    subst e
    by_cases hl : i < (ρ s).length
    · rw [List.getElem?_append_left hl] at h
      exact Or.inl h
    · rw [List.getElem?_append_right (by omega)] at h
      exact Or.inr ⟨rfl, by omega, h⟩
  · exact Or.inl h
theorem Sim.adr {base E0 : Nat} {D : va_G} {ρ : Nat → List Nat} {β : Nat → Nat → Nat} {h : Hp} {U : State} {H : Heap} (S : Sim base E0 D ρ β h U H) {s i a : Nat} (ha : (ρ s)[i]? = some a) : ∃ ob, hget h s i = some ob ∧ ob_at D U ρ β base E0 s i ob a H := by
  have h1 : i < (ρ s).length := sz_lt ha
  rw [S.2.1 s] at h1
  exact ⟨_, List.getElem?_eq_getElem h1, S.2.2.2.2.2.2.2 s i _ a (List.getElem?_eq_getElem h1) ha⟩
theorem Sim.fresh {base E0 : Nat} {D : va_G} {ρ : Nat → List Nat} {β : Nat → Nat → Nat} {h : Hp} {U : State} {H : Heap} (S : Sim base E0 D ρ β h U H) {a : Nat} (hz : H.size ≤ a) : Fresh base ρ β a := by
  refine ⟨fun s i b hs hb e => ?_, fun s i hs hi hb e => ?_⟩
  · obtain ⟨ob, h1, h2⟩ := S.adr hb
    have := h2.lt hs
    omega
  · obtain ⟨ob, h1, h2⟩ := S.adr (List.getElem?_eq_getElem hi)
    have := h2.bk hs S.2.2.2.2.2.1 hb
    omega
theorem Sim.adds {base E0 : Nat} {D : va_G} {ρ : Nat → List Nat} {β : Nat → Nat → Nat} {h : Hp} {U : State} {H : Heap} (S : Sim base E0 D ρ β h U H) {s0 : Nat} {as : List Nat} {obs : List Ob} (h3 : (sk s0).1 < 3) (hlen : as.length = obs.length) (hnd : ∀ (i j a : Nat), as[i]? = some a → as[j]? = some a → i = j) (hf : ∀ a ∈ as, Fresh base ρ β a)
    (hn : ∀ (j : Nat) (ob : Ob) (a : Nat), obs[j]? = some ob → as[j]? = some a → ob_at D U (radds ρ s0 as) (badds β s0 (h.1 s0).length E0) base E0 s0 ((h.1 s0).length + j) ob a H) (c n : Nat) : Sim base E0 D (radds ρ s0 as) (badds β s0 (h.1 s0).length E0) (hnew h s0 obs c n) U H := by
  have S0 := S
  obtain ⟨k1, k2, k3, k4, k5, k6, k7, k8⟩ := S
  have hold : ∀ (s i : Nat), base ≤ badds β s0 (h.1 s0).length E0 s i → i < (radds ρ s0 as s).length → badds β s0 (h.1 s0).length E0 s i = β s i ∧ i < (ρ s).length := by
    intro s i hb hi
    unfold badds at hb ⊢
    split at hb
    · omega
    · rename_i e
      refine ⟨if_neg e, ?_⟩
      unfold radds at hi
      split at hi
      · rename_i e2
        subst e2
        have := k2 s
        have : ¬ (h.1 s).length ≤ i := fun z => e ⟨rfl, z⟩
        omega
      · exact hi
  refine ⟨k1, fun s => ?_, ?_, ?_, ?_, k6, k7, ?_⟩
  · show _ = (if s = s0 then h.1 s0 ++ obs else h.1 s).length
    unfold radds
    split
    · rw [List.length_append, List.length_append, k2 s0, hlen]
    · exact k2 s
  · intro s i s' i' a hs hs' x0 y0
    rcases radds_inv x0 with x | ⟨ex, x1, x2⟩
    · rcases radds_inv y0 with y | ⟨ey, y1, y2⟩
      · exact k3 s i s' i' a hs hs' x y
      · exact absurd rfl ((hf a (List.mem_of_getElem? y2)).1 _ _ _ hs x)
    · rcases radds_inv y0 with y | ⟨ey, y1, y2⟩
      · exact absurd rfl ((hf a (List.mem_of_getElem? x2)).1 _ _ _ hs' y)
      · have := hnd _ _ _ x2 y2
        exact ⟨ex.trans ey.symm, by omega⟩
  · intro s i s' i' a hs hi hb hs' y
    obtain ⟨e1, e2⟩ := hold s i hb hi
    rw [e1] at hb ⊢
    rcases radds_inv y with y | ⟨rfl, y1, y2⟩
    · exact k4 s i s' i' a hs e2 hb hs' y
    · exact (hf a (List.mem_of_getElem? y2)).2 _ _ hs e2 hb
  · intro s i s' i' hs hs' hi hi' hb he
    obtain ⟨e1, e2⟩ := hold s i hb hi
    have hb' : base ≤ badds β s0 (h.1 s0).length E0 s' i' := by rw [← he]; exact hb
    obtain ⟨e3, e4⟩ := hold s' i' hb' hi'
    rw [e1] at hb he
    rw [e3] at he
    exact k5 s i s' i' hs hs' e2 e4 hb he
  · intro s i ob a x y
    rcases radds_inv y with y | ⟨rfl, y1, y2⟩
    · have hi : i < (h.1 s).length := by rw [← k2 s]; exact sz_lt y
      have hx : hget h s i = some ob := by
        have x' : (if s = s0 then h.1 s0 ++ obs else h.1 s)[i]? = some ob := x
        split at x'
        · rename_i e
          subst e
          rw [List.getElem?_append_left hi] at x'
          exact x'
        · exact x'
      refine (k8 s i ob a hx y).keep radds_ext (fun _ => rfl) (fun hs => ⟨?_, fun _ => rfl⟩)
      unfold badds
      rw [if_neg]
      rintro ⟨rfl, z⟩
      omega
    · have x' : (if s = s then h.1 s ++ obs else h.1 s)[i]? = some ob := x
      rw [if_pos rfl, List.getElem?_append_right (by rw [← k2 s]; exact y1)] at x'
      rw [k2 s] at y1 y2
      have h9 := hn _ _ _ x' y2
      rw [show (h.1 s).length + (i - (h.1 s).length) = i by omega] at h9
      exact h9
theorem Sim.cong {base E0 : Nat} {D : va_G} {ρ : Nat → List Nat} {β : Nat → Nat → Nat} {h h' : Hp} {U : State} {H : Heap} (S : Sim base E0 D ρ β h U H) (e : ∀ t, h'.1 t = h.1 t) : Sim base E0 D ρ β h' U H := by
  obtain ⟨k1, k2, k3, k4, k5, k6, k7, k8⟩ := S
  exact ⟨k1, fun s => by rw [e s]; exact k2 s, k3, k4, k5, k6, k7, fun s i ob a x y => k8 s i ob a (by unfold hget at x ⊢; rw [e s] at x; exact x) y⟩
theorem Sim.one {base E0 : Nat} {D : va_G} {ρ : Nat → List Nat} {β : Nat → Nat → Nat} {h : Hp} {U : State} {H H1 : Heap} (S : Sim base E0 D ρ β h U H) {s0 : Nat} {ob : Ob} (h3 : (sk s0).1 < 3) (hz : H.size ≤ H1.size) (ho : ∀ q, q < H.size → H1[q]? = H[q]?) (hn : ob_at D U (radds ρ s0 [H.size]) (badds β s0 (h.1 s0).length E0) base E0 s0 (h.1 s0).length ob H.size H1) (c n : Nat) : Sim base E0 D (radds ρ s0 [H.size]) (badds β s0 (h.1 s0).length E0) (hnew h s0 [ob] c n) U H1 := by
  refine (S.grown hz ho).adds h3 rfl (fun i j a x y => ?_) (fun a ha => ?_) (fun j ob2 a x y => ?_) c n
  · have := sz_lt x
    have := sz_lt y
    simp at *
    omega
  · rw [List.mem_singleton.mp ha]
    exact S.fresh (Nat.le_refl _)
  · have hj := sz_lt x
    simp at hj
    subst hj
    simp at x y
    subst x; subst y
    exact hn
section AL
variable {p : Program} {l : Launch} {e : Env} {R : Room} {s : State} {m : MethodId} {args : Array Value} {below : List Frame} {meth : Method} {c : Code} {H : Heap} {locs : List Loc} {cells slots : Nat} {Q : State → Prop}
variable {cc : ByteArray} {pc : Nat} {ls : Array Slot} {st' : List Value} {ρ : Nat → List Nat} {β : Nat → Nat → Nat} {nL base E0 : Nat} {L : Lo} {st : List MV} {h : Hp} {D : va_G}
theorem tdf_ok (ty : FieldType) : vr ρ (tdf ty) (defaultValue ty) := by cases ty <;> rfl
theorem srel_map {α : Type} (f : α → MV) (g : α → Value) (hfg : ∀ x, vr ρ (f x) (g x)) : ∀ l : List α, srel ρ (l.map f) (l.map g)
  | [] => rfl
  | x :: l => ⟨_, _, rfl, hfg x, srel_map f g hfg l⟩
theorem getD_rm (T : Nat → Value) {n j : Nat} (h : j < n) : ((List.range n).map T).getD j .null = T j := by
  rw [List.getD_eq_getElem?_getD, List.getElem?_map, List.getElem?_range h]
  rfl
set_option maxRecDepth 100000 in
theorem inst_all : (List.range 10).all (fun ci => decide (Cond.instantiable (cnm ci) (fN ci) ∈ lw_tbl) && decide (Cond.initialized (cnm ci) ∈ lw_tbl)) = true := by decide +kernel
theorem inst_ws {ci : Nat} (h : ci < 10) : Cond.instantiable (cnm ci) (fN ci) ∈ WS ∧ Cond.initialized (cnm ci) ∈ WS := by
  have h1 := List.all_eq_true.mp inst_all ci (List.mem_range.mpr h)
  simp only [Bool.and_eq_true, decide_eq_true_eq] at h1
  exact ⟨List.mem_filter.mpr ⟨h1.1, rfl⟩, List.mem_filter.mpr ⟨h1.2, rfl⟩⟩
set_option maxHeartbeats 4000000 in
theorem new_ok {y : Nat} (C0 : Ctx y p s m args meth c nL) (S : Sim base E0 D ρ β h s H) {H0 : Heap} (hS : va_S (fun q => base ≤ q) H0 H locs) {idx ci : Nat} (hci : ci < 10) (hsk : sk ci = (0, ci)) (hcl : cl (mcl y) idx = some ci) (hcells : cells + 1 ≤ R.cells) (hslots : slots + fN ci ≤ R.slots) (hd : dec y pc = some (.new idx, 3)) (n2 c2 : Nat)
    (k : ∀ (H1 : Heap) (ρ1 : Nat → List Nat) (β1 : Nat → Nat → Nat) (a : Nat), Ext ρ ρ1 → (ρ1 ci)[(h.1 ci).length]? = some a → Sim base E0 D ρ1 β1 (hnew h ci [odf ci] c2 n2) s H1 → va_S (fun q => base ≤ q) H0 H1 locs → W p l e R s m args below meth c H1 locs (cells + 1) (slots + fN ci) Q (F0 m (pc + 3) ls (.ref a :: st'))) : W p l e R s m args below meth c H locs cells slots Q (F0 m pc ls st') := by
  obtain ⟨r, hr, hx, hb, hml, -, -, hown, -, -, hts, -⟩ := C0
  obtain ⟨cq, g1, g2, g3, g4, g5⟩ := vcl_at (ci := ci) (by omega)
  obtain ⟨w1, w2⟩ := inst_ws hci
  have hlk := cl_spec hcl
  rw [← g4 hci] at hlk w1 w2
  have hKn := S.1.1 ci _ g1
  obtain ⟨hty, hnm⟩ := vcl_zip _ g5
  refine W.newcK (n := fN ci) hx hb hown (hts _ hlk) (hts _ w1) (hts _ w2) rfl (dec_inv hr hd) hcells hslots hKn.2.1 rfl fun H1 kC hkC e1 z1 o1 => ?_
  have hbs := S.2.2.2.2.2.2.1
  refine k H1 (radds ρ ci [H.size]) (badds β ci (h.1 ci).length E0) H.size radds_ext ?_ (S.one (by rw [hsk]; simp) (by omega) o1 ?_ _ _) ⟨by have := hS.1; omega, fun q q1 q2 => (o1 q (by have := hS.1; omega)).trans (hS.2.1 q q1 q2), hS.2.2⟩
  · unfold radds
    rw [if_pos rfl, List.getElem?_append_right (by rw [S.2.1 ci]; exact Nat.le_refl _), S.2.1 ci]
    simp
  · unfold ob_at
    rw [hsk]
    refine ⟨by simp [odf], hbs, (List.range (fN ci)).map (fun k => defaultValue ((vtys.getD ci (fun _ => .int)) k)), srel_map _ _ (fun k => tdf_ok _) _, ?_⟩
    refine ⟨cq, g1, (u_born _ hts (vcl_ws g1) hKn hkC e1 hty).to fun j hj => ?_⟩
    have hj2 : j < fN ci := by rw [← g3]; exact hj
    exact (getD_rm (fun k => defaultValue ((vtys.getD ci (fun _ => .int)) k)) hj2).symm
def atw (t : Nat) : Bool := decide (Cond.arrayClass (aty t) ∈ lw_tbl)
set_option maxRecDepth 100000 in
theorem atw_all : (List.range 5).all atw = true := by decide +kernel
theorem arrc_ws {t : Nat} (h : t < 5) : Cond.arrayClass (aty t) ∈ WS := by
  have h1 := List.all_eq_true.mp atw_all t (List.mem_range.mpr h)
  exact List.mem_filter.mpr ⟨by simpa [atw] using h1, rfl⟩
theorem adf_ok {t : Nat} (h : t < 5) : vr ρ (adf t) (defaultValue (aty t)) := by
  match t, h with
  | 0, _ => rfl
  | 1, _ => rfl
  | 2, _ => rfl
  | 3, _ => rfl
  | 4, _ => rfl
  | n + 5, h => omega
theorem aty_RA {t : Nat} (h : t < 5) {U : State} {cA : ClassId} (hf : U.vm.findClass ("[" ++ (aty t).toString) = some cA) : va_RA U cA (aty t) := by
  match t, h with
  | 0, _ => exact hf
  | 1, _ => exact hf
  | 2, _ => exact hf
  | 3, _ => exact hf
  | 4, _ => exact hf
  | n + 5, h => omega
theorem aty_cb {t : Nat} (h : t < 5) : componentBytes (aty t) ≤ 8 := by
  match t, h with
  | 0, _ => decide
  | 1, _ => decide
  | 2, _ => decide
  | 3, _ => decide
  | 4, _ => decide
  | n + 5, h => omega
set_option maxHeartbeats 4000000 in
theorem newa_ok {y : Nat} (C0 : Ctx y p s m args meth c nL) (S : Sim base E0 D ρ β h s H) {H0 : Heap} (hS : va_S (fun q => base ≤ q) H0 H locs) {at1 : ArrayType} {s0 t : Nat} (ht : t < 5) (hsk : sk s0 = (1, t)) (hat : newarray.typeOf at1 = aty t) {n : Int32} (h0 : ¬ n < 0) (hn : n.toNatClampNeg ≤ 60000) (hcells : cells + 1 ≤ R.cells) (hslots : slots + n.toNatClampNeg ≤ R.slots) (hd : dec y pc = some (.newarray at1, 2)) (n2 c2 : Nat)
    (k : ∀ (H1 : Heap) (ρ1 : Nat → List Nat) (β1 : Nat → Nat → Nat) (a : Nat), Ext ρ ρ1 → (ρ1 s0)[(h.1 s0).length]? = some a → Sim base E0 D ρ1 β1 (hnew h s0 [List.replicate n.toNatClampNeg (adf t)] c2 n2) s H1 → va_S (fun q => base ≤ q) H0 H1 locs → W p l e R s m args below meth c H1 locs (cells + 1) (slots + n.toNatClampNeg) Q (F0 m (pc + 2) ls (.ref a :: st'))) : W p l e R s m args below meth c H locs cells slots Q (F0 m pc ls (.int n :: st')) := by
  obtain ⟨r, hr, hx, hb, hml, -, -, hown, -, -, hts, -⟩ := C0
  have hbs := S.2.2.2.2.2.2.1
  have hw := hts _ (arrc_ws ht)
  rw [← hat] at hw
  have hcb : n.toNatClampNeg * componentBytes (newarray.typeOf at1) ≤ 536870912 := by
    rw [hat]
    have := aty_cb ht
    calc _ ≤ 60000 * 8 := Nat.mul_le_mul hn this
      _ ≤ _ := by decide
  refine va_newaK (g := F0 m pc ls (.int n :: st')) hx hb hw rfl (dec_inv hr hd) rfl h0 rfl hcb hcells hslots rfl fun H1 cA e1 z1 o1 hAr hNm => ?_
  rw [hat] at e1 hAr hNm
  refine k H1 (radds ρ s0 [H.size]) (badds β s0 (h.1 s0).length E0) H.size radds_ext ?_ (S.one (by rw [hsk]; simp) (by omega) o1 ?_ _ _) ⟨by have := hS.1; omega, fun q q1 q2 => (o1 q (by have := hS.1; omega)).trans (hS.2.1 q q1 q2), hS.2.2⟩
  · unfold radds
    rw [if_pos rfl, List.getElem?_append_right (by rw [S.2.1 s0]; exact Nat.le_refl _), S.2.1 s0]
    simp
  · unfold ob_at
    rw [hsk]
    refine ⟨hbs, cA, fun _ => defaultValue (aty t), ?_, hAr, aty_RA ht hNm, fun j v hj => ?_⟩
    · rw [List.length_replicate]; exact e1
    · have := List.eq_of_mem_replicate (List.mem_of_getElem? hj)
      subst this
      exact adf_ok ht
end AL
