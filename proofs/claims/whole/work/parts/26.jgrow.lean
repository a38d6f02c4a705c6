/-! the JDK's lists: more room -/
abbrev oO : FieldType := .object "java/lang/Object"
abbrev gC : MethodName := ⟨"java/lang/Object", "getClass", "()Ljava/lang/Class;"⟩
/-- the cells that a list's member may change -/
abbrev AX (base a b sz : Nat) : Nat → Prop := fun q => q = a ∨ (base ≤ b ∧ q = b) ∨ sz ≤ q
/-- an object that may stand in a list -/
def El (D : va_G) (X : Nat → Prop) (H : Heap) (y : Nat) : Prop := ¬ X y ∧ ∃ (ci : Nat) (vs : List Value), ci < 10 ∧ va_at D vcl (y, .inr (ci, vs)) H
theorem El.keep {D : va_G} {X A : Nat → Prop} {H H1 : Heap} {y : Nat} (h : El D X H y) (hA : ∀ q, A q → X q ∨ H.size ≤ q) (hk : ∀ q : Nat, q < H.size → ¬ A q → H1[q]? = H[q]?) : El D X H1 y := by
  obtain ⟨h1, ci, vs, h2, h3⟩ := h
  refine ⟨h1, ci, vs, h2, h3.kept (hk y h3.lt fun z => ?_)⟩
  rcases hA y z with w | w
  · exact h1 w
  · have := h3.lt
    exact absurd this (Nat.not_lt.mpr w)
set_option maxRecDepth 100000 in
theorem cast_all : (List.range 10).all (fun ci => decide (Cond.castable (cnm ci) "java/lang/Object" ∈ lw_tbl)) = true := by decide +kernel
theorem P2 {D : va_G} {cl : List vw_C} {x y : Nat × va_E} {H : Heap} (h1 : va_at D cl x H) (h2 : va_at D cl y H) : va_P D cl [x, y] H := fun k q hk => by
  match k, hk with
  | 0, hk => cases hk; exact h1
  | 1, hk => cases hk; exact h2
  | k + 2, hk => simp at hk
theorem P1 {D : va_G} {cl : List vw_C} {x : Nat × va_E} {H : Heap} (h1 : va_at D cl x H) : va_P D cl [x] H := fun k q hk => by
  match k, hk with
  | 0, hk => cases hk; exact h1
  | k + 1, hk => simp at hk
theorem D2 {A : Nat → Prop} {x y : Nat × va_E} (h : x.1 ≠ y.1) (h1 : A x.1) (h2 : A y.1) : va_D A [x, y] := ⟨fun i j p q hp hq e => by
  match i, j, hp, hq with
  | 0, 0, _, _ => rfl
  | 1, 1, _, _ => rfl
  | 0, 1, hp, hq => cases hp; cases hq; exact absurd e h
  | 1, 0, hp, hq => cases hp; cases hq; exact absurd e.symm h
  | i + 2, _, hp, _ => simp at hp
  | _, j + 2, _, hq => simp at hq, fun k q hk => by
  match k, hk with
  | 0, hk => cases hk; exact h1
  | 1, hk => cases hk; exact h2
  | k + 2, hk => simp at hk⟩
theorem D1 {A : Nat → Prop} {x : Nat × va_E} (h1 : A x.1) : va_D A [x] := ⟨fun i j p q hp hq e => by
  match i, j, hp, hq with
  | 0, 0, _, _ => rfl
  | i + 1, _, hp, _ => simp at hp
  | _, j + 1, _, hq => simp at hq, fun k q hk => by
  match k, hk with
  | 0, hk => cases hk; exact h1
  | k + 1, hk => simp at hk⟩
theorem El.any {D : va_G} {X : Nat → Prop} {H : Heap} {y base E0 : Nat} {s : State} {tys : List (ClassId × FieldType)} (h : El D X H y) (hK : va_K D vcl tys s) (hE : EnvW base E0 s s.heap) : va_Any "java/lang/Object" s H y := by
  obtain ⟨-, ci, vs, h2, h3⟩ := h
  obtain ⟨cq, g1, -, -, g4, -⟩ := vcl_at (ci := ci) (by omega)
  have hc := List.all_eq_true.mp cast_all ci (List.mem_range.mpr h2)
  simp only [decide_eq_true_eq] at hc
  have hN := hE.2.2.2.2.2.2.2.2.2 _ hc rfl
  rw [← g4 h2] at hN
  exact va_rAny hK (P1 h3) (q0 := 0) rfl g1 (vb_asgC hN)
set_option maxRecDepth 100000 in
theorem decl_gC : Cond.declares gC ∈ lw_tbl := by decide +kernel
theorem copy_words : nativeFrameWords "java/lang/System" "arraycopy" 5 ≤ 20 := by decide
section JG
variable {l : Launch} {base E0 mi : Nat} {D : va_G} {tys : List (ClassId × FieldType)} {H : Heap}
/-- what a copy comes back with -/
def Cp (D : va_G) (H : Heap) (b : Nat) (cO : ClassId) (cap : Nat) (f : Nat → Option Nat) (N : Nat) : ClassId → Nat → State → Prop := fun cA ra t =>
  va_at D vcl (RW b cO cap f) t.heap ∧ va_at D vcl (RW ra cA N (va_cpy f (fun _ => none) 0 0 cap)) t.heap ∧ va_K D vcl [(cA, oO)] t ∧ H.size ≤ ra
set_option maxHeartbeats 4000000 in
theorem k_CP3 {b cap N i3 : Nat} {cO : ClassId} {f : Nat → Option Nat} (hb0 : va_at D vcl (RW b cO cap f) H) (hi3 : tys[i3]? = some (cO, oO)) (hN : cap ≤ N) (hN2 : N ≤ 100000) (hbb : base ≤ b) (hbs : base ≤ H.size) (hel : ∀ i, i < cap → ∀ y, f i = some y → El D (fun q => q = b) H y) :
    JM l yCP3 cCP3 4 (some (.array oO)) 2 1 N base E0 mi D tys H [.ref b, .int (nI N), .ref mi] (va_Qr (S := ClassId) (fun _ => True) (Cp D H b cO cap f N) (AX base b b H.size)) (AX base b b H.size) :=
  JM.mk (by decide) (Nat.le_of_ble_eq_true rfl) fun p e s m below meth c ls C hH hK hE hM0 hl => by
  obtain ⟨hx, hb, hml, hr, hown, hlk, hnm, hts⟩ := id C
  subst hH
  have hl : lv_has ls 4 [(0, .ref b), (1, .int (nI N)), (2, .ref mi)] := hl
  have hS : va_S (AX base b b s.heap.size) s.heap s.heap [] := va_S.rf
  have hA : ∀ q, s.heap.size ≤ q → AX base b b s.heap.size q := fun q h => Or.inr (Or.inr h)
  have hD : va_D (AX base b b s.heap.size) [RW b cO cap f] := D1 (Or.inl rfl)
  refine lv_aload_n hx hb eCP3_0 rfl (lv_at hl 2 rfl) ?_
  refine va_ldcM hx hb hown (hts _ q_172) hM0 eCP3_1 ?_
  refine lv_acmp_ne (rx := some mi) (ry := some mi) (tgt := 13) hx hb eCP3_3 rfl (fun h => absurd rfl h) (fun _ => ?_)
  refine lv_iload_n hx hb eCP3_6 rfl (lv_at hl 1 rfl) ?_
  refine va_newq (N' := N) hx hb hown (hts _ q_174) hE.2.1 hK (P1 hb0) hD hS hA (nI_pos (by omega)) (nI_clamp (by omega)) (by omega) (by show 0 + 1 ≤ 1; omega) (by show 0 + N ≤ N; omega) eCP3_7 fun ra cA H1 hK1 hP1 hD1 hS1 => ?_
  have hP1 : va_P D vcl [RW b cO cap f, RW ra cA N (fun _ => none)] H1 := hP1
  have hD1 : va_D (AX base b b s.heap.size) [RW b cO cap f, RW ra cA N (fun _ => none)] := hD1
  have hne : b ≠ ra := fun z => by have := hD1.1 0 1 _ _ rfl rfl z; cases this
  have hra : s.heap.size ≤ ra := by
    rcases hD1.2 1 _ rfl with z | z | z
    · exact absurd z.symm hne
    · exact absurd z.2.symm hne
    · exact z
  refine lv_goto (tgt := 24) hx hb eCP3_10 rfl ?_
  refine lv_astore_n (lv' := [(3, .ref ra), (0, .ref b), (1, .int (nI N)), (2, .ref mi)]) hx hb eCP3_24 rfl hl (by decide) rfl (fun ls hl => ?_)
  refine lv_aload_n hx hb eCP3_25 rfl (lv_at hl 1 rfl) ?_
  refine lv_iconst (v := 0) hx hb eCP3_26 (by decide) ?_
  refine lv_aload_n hx hb eCP3_27 rfl (lv_at hl 0 rfl) ?_
  refine lv_iconst (v := 0) hx hb eCP3_28 (by decide) ?_
  refine lv_aload_n hx hb eCP3_29 rfl (lv_at hl 1 rfl) ?_
  have ht3 : (tys ++ [(cA, oO)])[i3]? = some (cO, oO) := by
    rw [List.getElem?_append_left (List.getElem?_eq_some_iff.mp hi3).1]
    exact hi3
  refine va_alen (v := nI cap) hx hb hK1 hP1 0 i3 rfl ht3 rfl eCP3_30 ?_
  refine lv_iload_n hx hb eCP3_31 rfl (lv_at hl 2 rfl) ?_
  refine va_mmin hx hb (by rw [hml]; exact hl.1.symm) hown (hts _ q_175) (hts _ q_176) (hts _ q_8) (hts _ q_177) (show 1 ≤ 2 by decide) (Nat.le_of_ble_eq_true rfl) (show 0 + 1 ≤ 1 by omega) (show 0 + N ≤ N by omega) eCP3_32 ?_
  rw [show (if nI N < nI cap then nI N else nI cap) = nI cap from if_neg (nI_nlt hN (by omega))]
  refine va_copyM (q0 := 0) (q1 := 1) (t0 := i3) (t1 := tys.length) hx hb (by rw [hml]; exact hl.1.symm) hown (hts _ q_178) (hts _ q_180) (hts _ q_179) (hts _ q_10) hK1 (E0 := "java/lang/Object") (E1 := "java/lang/Object") hP1 hD1 hS1 rfl rfl ht3 (by simp) (by decide) (by decide) (nI_pos (by omega)) (by rw [nI_clamp (by omega)]; show 0 + cap ≤ cap; omega) (by rw [nI_clamp (by omega)]; show 0 + cap ≤ N; omega) (fun i hi y hy => ?_) (show 1 ≤ 2 by decide) (by have := copy_words; show 0 + _ ≤ 200; omega) eCP3_35 (fun H2 locs2 hP2 hD2 hS2 => ?_)
  · rw [nI_clamp (by omega)] at hi
    have h9 : f i = some y := by
      rw [show (0 : Int32).toNatClampNeg + i = i by show 0 + i = i; omega] at hy
      exact hy
    refine ((hel i hi y h9).keep (A := AX base b b s.heap.size) (fun q z => ?_) hS1.2.1).any hK1 hE
    rcases z with z | z | z
    · exact Or.inl z
    · exact Or.inl z.2
    · exact Or.inr z
  refine lv_aload_n hx hb eCP3_38 rfl (lv_at hl 0 rfl) ?_
  have e9 : va_cpy f (fun _ => none) (0 : Int32).toNatClampNeg (0 : Int32).toNatClampNeg (nI cap).toNatClampNeg = va_cpy f (fun _ => none) 0 0 cap := by rw [nI_clamp (by omega)]; rfl
  rw [e9] at hP2
  have k0 : va_at D vcl (RW b cO cap f) H2 := hP2 0 _ rfl
  have k1 : va_at D vcl (RW ra cA N (va_cpy f (fun _ => none) 0 0 cap)) H2 := hP2 1 _ rfl
  refine W.widen (k := 1) (n := N) (by omega) (by omega) ?_
  exact W.aret hx hb hr (Or.inr ⟨_, rfl⟩) (Or.inr ⟨ra, rfl⟩) (fun t e1 e2 => ⟨⟨cA, ra, rfl, trivial, by rw [e1]; exact k0, by rw [e1]; exact k1, va_K.moved e2.alike ⟨hK1.1, fun k q hk => by
    match k, hk with
    | 0, hk => cases hk; exact hK1.2 tys.length _ (by simp)
    | k + 1, hk => simp at hk⟩, hra⟩, hS2.F e1⟩) (fun q h => hS2.2.2 q h) eCP3_39 hlk
theorem jb_CP3 : JB "java/util/Arrays" 300 yCP3 cCP3 4 (some (.array oO)) 3 := ⟨q_169, q_9, q_171, by decide, by decide +kernel, by decide⟩
theorem jb_CP2 : JB "java/util/ArrayList" 66 yCP2 cCP2 2 (some (.array oO)) 2 := ⟨q_142, q_9, q_144, by decide, by decide +kernel, by decide⟩
set_option maxHeartbeats 4000000 in
theorem k_CP2 {b cap N i3 : Nat} {cO : ClassId} {f : Nat → Option Nat} (hb0 : va_at D vcl (RW b cO cap f) H) (hi3 : tys[i3]? = some (cO, oO)) (hN : cap ≤ N) (hN2 : N ≤ 100000) (hbb : base ≤ b) (hbs : base ≤ H.size) (hel : ∀ i, i < cap → ∀ y, f i = some y → El D (fun q => q = b) H y) :
    JM l yCP2 cCP2 2 (some (.array oO)) 3 1 N base E0 mi D tys H [.ref b, .int (nI N)] (va_Qr (S := ClassId) (fun _ => True) (Cp D H b cO cap f N) (AX base b b H.size)) (AX base b b H.size) :=
  JM.mk (by decide) (Nat.le_of_ble_eq_true rfl) fun p e s m below meth c ls C hH hK hE hM0 hl => by
  obtain ⟨hx, hb, hml, hr, hown, hlk, hnm, hts⟩ := id C
  subst hH
  have hl : lv_has ls 2 [(0, .ref b), (1, .int (nI N))] := hl
  have hAb : ∀ q, AX base b b s.heap.size q → base ≤ q := fun q h => by rcases h with z | z | z <;> omega
  refine lv_aload_n hx hb eCP2_0 rfl (lv_at hl 0 rfl) ?_
  refine lv_iload_n hx hb eCP2_1 rfl (lv_at hl 1 rfl) ?_
  refine lv_aload_n hx hb eCP2_2 rfl (lv_at hl 0 rfl) ?_
  refine va_getC (C := "[Ljava/lang/Object;") hx hb (by rw [hml]; exact hl.1.symm) hown (hts _ q_145) (va_Nw.use rfl (hE.2.2.2.2.2.2.2.2.2 _ decl_gC rfl)) (hts _ q_1733) (hts _ q_146) (hts _ q_168) hM0 ⟨_, hb0, rfl, va_nmO (hK.2 i3 _ hi3).2 (by decide +kernel)⟩ (show 1 ≤ 3 by decide) (Nat.le_of_ble_eq_true rfl) eCP2_3 ?_
  refine va_callr (jcallS (rest := []) C.fix (k_CP3 (H := s.heap) hb0 hi3 hN hN2 hbb hbs hel) jb_CP3 q_170 (show 2 + 1 ≤ 3 by decide) (show 100 * 2 + 30 ≤ 300 by decide) (A := AX base b b s.heap.size) hAb hK hE hM0 va_S.rf rfl hl.1 (by decide) eCP2_6 ⟨by show 0 + 1 ≤ 1; omega, by show 0 + N ≤ N; omega⟩ rfl) (A0 := AX base b b s.heap.size) va_S.rf (fun _ _ h => h) (fun _ h => h) fun cA ra t H1 locs1 e1 e2 e3 e4 e5 e6 hS => ?_
  obtain ⟨g1, g2, g3, g4⟩ := e4
  rw [e1] at g1 g2
  have gK : va_K D vcl [(cA, oO)] s := va_K.moved e2.symm g3
  refine W.widen (k := 1) (n := N) (by omega) (by omega) ?_
  exact W.aret hx hb hr (Or.inr ⟨_, rfl⟩) (Or.inr ⟨ra, rfl⟩) (fun t e1 e2 => ⟨⟨cA, ra, rfl, trivial, by rw [e1]; exact g1, by rw [e1]; exact g2, va_K.moved e2.alike gK, g4⟩, hS.F e1⟩) (fun q h => hS.2.2 q h) eCP2_9 hlk
end JG
