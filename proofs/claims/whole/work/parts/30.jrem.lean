/-! the JDK's lists: remove, clear, the constructors -/
section JR
variable {l : Launch} {base E0 mi : Nat} {D : va_G} {tys : List (ClassId × FieldType)} {H : Heap}
theorem jb_FR : JB "java/util/ArrayList" 144 yFR cFR 4 none 2 := ⟨q_556, q_4, q_559, by decide, by decide +kernel, by decide⟩
set_option maxHeartbeats 4000000 in
theorem k_FR {a b n i cap : Nat} {k : Int32} {f g : Nat → Option Nat} {cO : ClassId} (hLO : va_at D vcl (LO a k b n) H) (hba : base ≤ a) (hbs : base ≤ H.size) (hbb : base ≤ b) (hab : a ≠ b) (hRW : va_at D vcl (RW b cO cap f) H) (hty : tys = [(cO, oO)]) (hnc : n ≤ cap) (hc2 : 2 ≤ cap) (hc6 : cap ≤ 60000) (hfg : ∀ j, j < n → f j = g j) (hi : i < n) (hel : ∀ j, j < n → ∀ y, g j = some y → El D (fun q => q = a ∨ q = b) H y) :
    JM l yFR cFR 4 none 2 0 0 base E0 mi D tys H [.ref a, .ref b, .int (nI i)] (va_Qv (S := Unit) (fun _ => True) (fun _ t => Lp D base E0 H a b (n - 1) (del g i) t) (AX base a b H.size)) (AX base a b H.size) :=
  JM.mk (by decide) (Nat.le_of_ble_eq_true rfl) fun p e s m below meth c ls C hH hK hE hM0 hl => by
  obtain ⟨hx, hb, hml, hr, hown, hlk, hnm, hts⟩ := id C
  subst hH; subst hty
  have hl : lv_has ls 4 [(0, .ref a), (1, .ref b), (2, .int (nI i))] := hl
  have hX : ∀ q, AX base a b s.heap.size q → (q = a ∨ q = b) ∨ s.heap.size ≤ q := fun q h => AX_X h
  have hDD : ∀ (z : Int32) n' f', va_D (AX base a b s.heap.size) [LO a z b n', RW b cO cap f'] := fun z n' f' => D2 hab (Or.inl rfl) (Or.inr (Or.inl ⟨hbb, rfl⟩))
  refine lv_aload_n hx hb eFR_0 rfl (lv_at hl 0 rfl) ?_
  refine lv_dup hx hb eFR_1 rfl ?_
  refine va_get hx hb hts lo_ws hown hK (P1 hLO) 0 rfl rfl 0 (by decide) (hts _ q_62) (lo_same0 hts) rfl eFR_2 ?_
  refine lv_iconst (v := 1) hx hb eFR_5 (by decide) ?_
  refine lv_iadd hx hb eFR_6 ?_
  refine va_put (A := AX base a b s.heap.size) hx hb hts lo_ws _ lo_ty lo_nm hown hK (P2 hLO hRW) (hDD _ _ _) va_S.rf 0 rfl rfl 0 (by decide) (hts _ q_62) (lo_same0 hts) rfl lo_d0 rfl rfl (Nat.le_of_ble_eq_true rfl) eFR_7 fun H1 locs1 hP1 hD1 hS1 => ?_
  have hP1 : va_P D vcl [LO a (k + 1) b n, RW b cO cap f] H1 := hP1
  refine lv_aload_n hx hb eFR_10 rfl (lv_at hl 0 rfl) ?_
  refine va_get hx hb hts lo_ws hown hK hP1 0 rfl rfl 2 (by decide) (hts _ q_60) (fun _ h => h) rfl eFR_11 ?_
  refine lv_iconst (v := 1) hx hb eFR_14 (by decide) ?_
  refine lv_isub hx hb eFR_15 ?_
  have e1 : nI n - 1 = nI (n - 1) := pk_sub (a := n) (b := 1) (by omega)
  rw [e1]
  refine lv_dup hx hb eFR_16 rfl ?_
  refine lv_istore_n (lv' := [(3, .int (nI (n - 1))), (0, .ref a), (1, .ref b), (2, .int (nI i))]) hx hb eFR_17 rfl hl (by decide) rfl (fun ls hl => ?_)
  have tail : ∀ (H2 : Heap) (locs2 : List Loc) (f1 : Nat → Option Nat), va_P D vcl [LO a (k + 1) b n, RW b cO cap f1] H2 → va_S (AX base a b s.heap.size) s.heap H2 locs2 → (∀ j, j < n - 1 → f1 j = del g i j) →
      W p l e (rmJ 2 0 0) s m #[.ref a, .ref b, .int (nI i)] below meth c H2 locs2 0 0 (MQ below (va_Qv (S := Unit) (fun _ => True) (fun _ t => Lp D base E0 s.heap a b (n - 1) (del g i) t) (AX base a b s.heap.size)) #[.ref a, .ref b, .int (nI i)] s 0 0 (AX base a b s.heap.size)) (F0 m 34 ls []) := by
    intro H2 locs2 f1 hP hS hf
    refine lv_aload_n hx hb eFR_34 rfl (lv_at hl 2 rfl) ?_
    refine lv_aload_n hx hb eFR_35 rfl (lv_at hl 1 rfl) ?_
    refine lv_iload_n hx hb eFR_36 rfl (lv_at hl 0 rfl) ?_
    refine lv_dup_x1 hx hb eFR_37 rfl rfl ?_
    refine va_put hx hb hts lo_ws _ lo_ty lo_nm hown hK hP (hDD _ _ _) hS 0 rfl rfl 2 (by decide) (hts _ q_60) (fun _ h => h) rfl lo_d2 rfl rfl (Nat.le_of_ble_eq_true rfl) eFR_38 fun H3 locs3 hP3 hD3 hS3 => ?_
    have hP3 : va_P D vcl [LO a (k + 1) b (n - 1), RW b cO cap f1] H3 := hP3
    refine lv_null hx hb eFR_41 ?_
    refine va_astqN hx hb hK hP3 (hDD _ _ _) hS3 1 0 rfl rfl (vp_in_nI (by omega) (by omega)) eFR_42 fun H4 locs4 hP4 hD4 hS4 => ?_
    rw [nI_clamp (by omega)] at hP4
    have k1 : va_at D vcl (LO a (k + 1) b (n - 1)) H4 := hP4 0 _ rfl
    have k2 : va_at D vcl (RW b cO cap (va_up f1 (n - 1) none)) H4 := hP4 1 _ rfl
    refine W.vret hx hb hr (fun t e1 e2 => ⟨⟨(), rfl, trivial, k + 1, b, [(cO, oO)], ⟨by rw [e1]; exact k1, hba, by rw [e1]; exact Nat.le_trans hbs hS4.1, Or.inr ⟨hbb, hab, cap, _, cO, rfl, by rw [e1]; exact k2, by omega, hc2, hc6, fun j hj => ?_⟩⟩, va_K.moved e2.alike hK, Or.inl rfl⟩, hS4.F e1⟩) (fun q h => hS4.2.2 q h) eFR_43 hlk
    unfold va_up
    rw [if_neg (by omega)]
    exact hf j hj
  refine lv_iload_n hx hb eFR_18 rfl (lv_at hl 3 rfl) ?_
  refine lv_icmp_le (tgt := 34) hx hb eFR_19 rfl (fun h => ?_) (fun h => ?_)
  · have h9 : n - 1 ≤ i := (nI_leI (by omega) (by omega)).mp h
    exact tail H1 locs1 f hP1 hS1 fun j hj => by
      unfold del
      rw [if_pos (by omega)]
      exact hfg j (by omega)
  · have h9 : i < n - 1 := Nat.lt_of_not_le fun z => h ((nI_leI (by omega) (by omega)).mpr z)
    refine lv_aload_n hx hb eFR_22 rfl (lv_at hl 2 rfl) ?_
    refine lv_iload_n hx hb eFR_23 rfl (lv_at hl 3 rfl) ?_
    refine lv_iconst (v := 1) hx hb eFR_24 (by decide) ?_
    refine lv_iadd hx hb eFR_25 ?_
    rw [nI_1]
    refine lv_aload_n hx hb eFR_26 rfl (lv_at hl 2 rfl) ?_
    refine lv_iload_n hx hb eFR_27 rfl (lv_at hl 3 rfl) ?_
    refine lv_iload_n hx hb eFR_28 rfl (lv_at hl 0 rfl) ?_
    refine lv_iload_n hx hb eFR_29 rfl (lv_at hl 3 rfl) ?_
    refine lv_isub hx hb eFR_30 ?_
    rw [pk_sub (a := n - 1) (b := i) (by omega)]
    refine va_copyM (q0 := 1) (q1 := 1) (t0 := 0) (t1 := 0) hx hb (by rw [hml]; exact hl.1.symm) hown (hts _ q_560) (hts _ q_180) (hts _ q_179) (hts _ q_10) hK (E0 := "java/lang/Object") (E1 := "java/lang/Object") hP1 (hDD _ _ _) hS1 rfl rfl rfl rfl (nI_pos (by omega)) (nI_pos (by omega)) (nI_pos (by omega)) (by rw [nI_clamp (by omega), nI_clamp (by omega)]; omega) (by rw [nI_clamp (by omega), nI_clamp (by omega)]; omega) (fun j hj y hy => ?_) (show 1 ≤ 2 by decide) (by have := copy_words; show 0 + _ ≤ 200; omega) eFR_31 (fun H3 locs3 hP3 hD3 hS3 => ?_)
    · rw [nI_clamp (by omega)] at hj hy
      have hj2 : i + 1 + j < n := by omega
      exact ((hel (i + 1 + j) hj2 y ((hfg _ hj2).symm.trans hy)).keep (A := AX base a b s.heap.size) hX hS1.2.1).any hK hE
    rw [nI_clamp (by omega), nI_clamp (by omega), nI_clamp (by omega)] at hP3
    refine tail H3 locs3 (va_cpy f f (i + 1) i (n - 1 - i)) hP3 hS3 fun j hj => ?_
    unfold va_cpy del
    by_cases c1 : j < i
    · rw [if_neg (by omega), if_pos c1]
      exact hfg j (by omega)
    · rw [if_pos (by omega), if_neg c1, hfg _ (by omega)]
      congr 1
      omega
set_option maxHeartbeats 4000000 in
theorem k_RM {a b n i y : Nat} {k : Int32} {g : Nat → Option Nat} (hL : Lr D base E0 tys a k b n g H) (hi : i < n) (hy : g i = some y) (hel : ∀ j, j < n → ∀ y, g j = some y → El D (fun q => q = a ∨ q = b) H y) :
    JM l yRM cRM 4 (some oO) 3 0 0 base E0 mi D tys H [.ref a, .int (nI i)] (va_Qr (S := Unit) (fun _ => True) (fun _ ra t => ra = y ∧ Lp D base E0 H a b (n - 1) (del g i) t) (AX base a b H.size)) (AX base a b H.size) :=
  JM.mk (by decide) (Nat.le_of_ble_eq_true rfl) fun p e s m below meth c ls C hH hK hE hM0 hl => by
  obtain ⟨hx, hb, hml, hr, hown, hlk, hnm, hts⟩ := id C
  subst hH
  obtain ⟨hLO, hba, hbs, hcase⟩ := hL
  have hl : lv_has ls 4 [(0, .ref a), (1, .int (nI i))] := hl
  have hAb : ∀ q, AX base a b s.heap.size q → base ≤ q := fun q h => by rcases h with z | z | z <;> omega
  rcases hcase with ⟨-, -, hn0, -⟩ | ⟨hbb, hab, cap, f, cO, rfl, hRW, hnc, hc2, hc6, hfg⟩
  · omega
  refine lv_iload_n hx hb eRM_0 rfl (lv_at hl 1 rfl) ?_
  refine lv_aload_n hx hb eRM_1 rfl (lv_at hl 0 rfl) ?_
  refine va_get hx hb hts lo_ws hown hK (P1 hLO) 0 rfl rfl 2 (by decide) (hts _ q_60) (fun _ h => h) rfl eRM_2 ?_
  refine va_calli (jcallS (rest := []) C.fix (k_CI2 (H := s.heap) (nI_pos (by omega)) (nI_lt hi (by omega))) jb_CI2 q_229 (show 2 + 1 ≤ 3 by decide) (show 100 * 2 + 30 ≤ 300 by decide) (A := AX base a b s.heap.size) hAb hK hE hM0 va_S.rf rfl hl.1 (by decide) eRM_5 ⟨show 0 + 0 ≤ 0 by omega, show 0 + 0 ≤ 0 by omega⟩ rfl) (A0 := AX base a b s.heap.size) va_S.rf (fun _ _ h => h.elim) (fun _ h => h.elim) fun r u t H1 locs1 e1 e2 e3 e4 e5 e6 hS => ?_
  have hH1 : H1 = s.heap := e1.symm.trans e4
  subst hH1
  refine lv_pop hx hb eRM_8 rfl ?_
  refine lv_aload_n hx hb eRM_9 rfl (lv_at hl 0 rfl) ?_
  refine va_get hx hb hts lo_ws hown hK (P1 hLO) 0 rfl rfl 1 (by decide) (hts _ q_59) (fun _ h => h) rfl eRM_10 ?_
  refine lv_astore_n (lv' := [(2, .ref b), (0, .ref a), (1, .int (nI i))]) hx hb eRM_13 rfl hl (by decide) rfl (fun ls hl => ?_)
  refine lv_aload_n hx hb eRM_14 rfl (lv_at hl 0 rfl) ?_
  refine lv_iload_n hx hb eRM_15 rfl (lv_at hl 2 rfl) ?_
  refine va_aldq hx hb hK (P1 hRW) 0 0 rfl rfl (vp_in_nI (by omega) (by omega)) eRM_16 ?_
  rw [nI_clamp (by omega), hfg i hi, hy]
  refine lv_astore_n (x := y) (lv' := [(3, .ref y), (2, .ref b), (0, .ref a), (1, .int (nI i))]) hx hb eRM_17 rfl hl (by decide) rfl (fun ls hl => ?_)
  refine lv_aload_n hx hb eRM_18 rfl (lv_at hl 2 rfl) ?_
  refine lv_aload_n hx hb eRM_19 rfl (lv_at hl 1 rfl) ?_
  refine lv_iload_n hx hb eRM_20 rfl (lv_at hl 3 rfl) ?_
  refine va_callv (jcallV (rest := []) C.fix (k_FR (H := s.heap) hLO hba hbs hbb hab hRW rfl hnc hc2 hc6 hfg hi hel) jb_FR q_558 p_21 (show 2 + 1 ≤ 3 by decide) (show 100 * 2 + 30 ≤ 300 by decide) (A := AX base a b s.heap.size) hAb hK hE hM0 hS (va_recv hK (P1 hLO) (q0 := 0) rfl rfl) rfl hl.1 (by decide) eRM_21 ⟨show 0 + 0 + 0 ≤ 0 by omega, show 0 + 0 + 0 ≤ 0 by omega⟩ rfl) (A0 := AX base a b s.heap.size) hS (fun _ _ h => h) (fun _ h => h) fun u t H2 locs2 e1 e2 e3 e4 e5 e6 hS2 => ?_
  refine lv_aload_n hx hb eRM_24 rfl (lv_at hl 0 rfl) ?_
  exact W.aret hx hb hr (Or.inl ⟨_, rfl⟩) (Or.inr ⟨y, rfl⟩) (fun t2 f1 f2 => ⟨⟨(), y, rfl, trivial, rfl, e4.le (Nat.le_refl _) (f1.trans e1.symm) (e2.symm.trans f2.alike)⟩, hS2.F f1⟩) (fun q h => hS2.2.2 q h) eRM_25 hlk
end JR
