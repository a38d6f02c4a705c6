/-! the JDK's lists: clear, the constructors -/
section JK
variable {l : Launch} {base E0 mi : Nat} {D : va_G} {tys : List (ClassId × FieldType)} {H : Heap}
set_option maxHeartbeats 4000000 in
theorem k_CL {a b n : Nat} {k : Int32} {g : Nat → Option Nat} (hL : Lr D base E0 tys a k b n g H) :
    JM l yCL cCL 4 none 1 0 0 base E0 mi D tys H [.ref a] (va_Qv (S := Unit) (fun _ => True) (fun _ t => Lp D base E0 H a b 0 g t) (AX base a b H.size)) (AX base a b H.size) :=
  JM.mk (by decide) (Nat.le_of_ble_eq_true rfl) fun p e s m below meth c ls C hH hK hE hM0 hl => by
  obtain ⟨hx, hb, hml, hr, hown, hlk, hnm, hts⟩ := id C
  subst hH
  obtain ⟨hLO, hba, hbs, hcase⟩ := hL
  have hl : lv_has ls 4 [(0, .ref a)] := hl
  refine lv_aload_n hx hb eCL_0 rfl (lv_at hl 0 rfl) ?_
  refine lv_dup hx hb eCL_1 rfl ?_
  refine va_get hx hb hts lo_ws hown hK (P1 hLO) 0 rfl rfl 0 (by decide) (hts _ q_62) (lo_same0 hts) rfl eCL_2 ?_
  refine lv_iconst (v := 1) hx hb eCL_5 (by decide) ?_
  refine lv_iadd hx hb eCL_6 ?_
  rcases hcase with ⟨rfl, hE0, rfl, rfl⟩ | ⟨hbb, hab, cap, f, cO, rfl, hRW, hnc, hc2, hc6, hfg⟩
  · refine va_put (A := AX base a b s.heap.size) hx hb hts lo_ws _ lo_ty lo_nm hown hK (P1 hLO) (D1 (Or.inl rfl)) va_S.rf 0 rfl rfl 0 (by decide) (hts _ q_62) (lo_same0 hts) rfl lo_d0 rfl rfl (Nat.le_of_ble_eq_true rfl) eCL_7 fun H1 locs1 hP1 hD1 hS1 => ?_
    have hP1 : va_P D vcl [LO a (k + 1) b 0] H1 := hP1
    refine lv_aload_n hx hb eCL_10 rfl (lv_at hl 0 rfl) ?_
    refine va_get hx hb hts lo_ws hown hK hP1 0 rfl rfl 1 (by decide) (hts _ q_59) (fun _ h => h) rfl eCL_11 ?_
    refine lv_astore_n (lv' := [(1, .ref b), (0, .ref a)]) hx hb eCL_14 rfl hl (by decide) rfl (fun ls hl => ?_)
    refine lv_aload_n hx hb eCL_15 rfl (lv_at hl 1 rfl) ?_
    refine va_get hx hb hts lo_ws hown hK hP1 0 rfl rfl 2 (by decide) (hts _ q_60) (fun _ h => h) rfl eCL_16 ?_
    refine lv_istore_n (lv' := [(2, .int (nI 0)), (1, .ref b), (0, .ref a)]) hx hb eCL_19 rfl hl (by decide) rfl (fun ls hl => ?_)
    refine lv_aload_n hx hb eCL_20 rfl (lv_at hl 2 rfl) ?_
    refine lv_iconst (v := nI 0) hx hb eCL_21 (by decide) ?_
    refine lv_dup_x1 hx hb eCL_22 rfl rfl ?_
    refine va_put hx hb hts lo_ws _ lo_ty lo_nm hown hK hP1 (D1 (Or.inl rfl)) hS1 0 rfl rfl 2 (by decide) (hts _ q_60) (fun _ h => h) rfl lo_d2 rfl rfl (Nat.le_of_ble_eq_true rfl) eCL_23 fun H2 locs2 hP2 hD2 hS2 => ?_
    have k1 : va_at D vcl (LO a (k + 1) b 0) H2 := hP2 0 _ rfl
    refine lv_istore_n (lv' := [(3, .int (nI 0)), (2, .int (nI 0)), (1, .ref b), (0, .ref a)]) hx hb eCL_26 rfl hl (by decide) rfl (fun ls hl => ?_)
    refine lv_iload_n hx hb eCL_27 rfl (lv_at hl 0 rfl) ?_
    refine lv_iload_n hx hb eCL_28 rfl (lv_at hl 1 rfl) ?_
    refine lv_icmp_ge (tgt := 42) hx hb eCL_29 rfl (fun _ => ?_) (fun h => absurd (Int32.le_refl _) h)
    exact W.vret hx hb hr (fun t e1 e2 => ⟨⟨(), rfl, trivial, k + 1, b, [], ⟨by rw [e1]; exact k1, hba, by rw [e1]; exact Nat.le_trans hbs hS2.1, Or.inl ⟨rfl, hE0, rfl, rfl⟩⟩, va_K.moved e2.alike hK, Or.inl rfl⟩, hS2.F e1⟩) (fun q h => hS2.2.2 q h) eCL_42 hlk
  · have hDD : ∀ (z : Int32) n' f', va_D (AX base a b s.heap.size) [LO a z b n', RW b cO cap f'] := fun z n' f' => D2 hab (Or.inl rfl) (Or.inr (Or.inl ⟨hbb, rfl⟩))
    refine va_put (A := AX base a b s.heap.size) hx hb hts lo_ws _ lo_ty lo_nm hown hK (P2 hLO hRW) (hDD _ _ _) va_S.rf 0 rfl rfl 0 (by decide) (hts _ q_62) (lo_same0 hts) rfl lo_d0 rfl rfl (Nat.le_of_ble_eq_true rfl) eCL_7 fun H1 locs1 hP1 hD1 hS1 => ?_
    have hP1 : va_P D vcl [LO a (k + 1) b n, RW b cO cap f] H1 := hP1
    refine lv_aload_n hx hb eCL_10 rfl (lv_at hl 0 rfl) ?_
    refine va_get hx hb hts lo_ws hown hK hP1 0 rfl rfl 1 (by decide) (hts _ q_59) (fun _ h => h) rfl eCL_11 ?_
    refine lv_astore_n (lv' := [(1, .ref b), (0, .ref a)]) hx hb eCL_14 rfl hl (by decide) rfl (fun ls hl => ?_)
    refine lv_aload_n hx hb eCL_15 rfl (lv_at hl 1 rfl) ?_
    refine va_get hx hb hts lo_ws hown hK hP1 0 rfl rfl 2 (by decide) (hts _ q_60) (fun _ h => h) rfl eCL_16 ?_
    refine lv_istore_n (lv' := [(2, .int (nI n)), (1, .ref b), (0, .ref a)]) hx hb eCL_19 rfl hl (by decide) rfl (fun ls hl => ?_)
    refine lv_aload_n hx hb eCL_20 rfl (lv_at hl 2 rfl) ?_
    refine lv_iconst (v := nI 0) hx hb eCL_21 (by decide) ?_
    refine lv_dup_x1 hx hb eCL_22 rfl rfl ?_
    refine va_put hx hb hts lo_ws _ lo_ty lo_nm hown hK hP1 (hDD _ _ _) hS1 0 rfl rfl 2 (by decide) (hts _ q_60) (fun _ h => h) rfl lo_d2 rfl rfl (Nat.le_of_ble_eq_true rfl) eCL_23 fun H2 locs2 hP2 hD2 hS2 => ?_
    have hP2 : va_P D vcl [LO a (k + 1) b 0, RW b cO cap f] H2 := hP2
    refine lv_istore_n (lv' := [(3, .int (nI 0)), (2, .int (nI n)), (1, .ref b), (0, .ref a)]) hx hb eCL_26 rfl hl (by decide) rfl (fun ls hl => ?_)
    have loop : ∀ (d j : Nat) (H3 : Heap) (locs3 : List Loc) (f3 : Nat → Option Nat) (ls3 : Array Slot), j + d = n → va_P D vcl [LO a (k + 1) b 0, RW b cO cap f3] H3 → va_S (AX base a b s.heap.size) s.heap H3 locs3 → lv_has ls3 4 [(3, .int (nI j)), (2, .int (nI n)), (1, .ref b), (0, .ref a)] →
        W p l e (rmJ 1 0 0) s m #[.ref a] below meth c H3 locs3 0 0 (MQ below (va_Qv (S := Unit) (fun _ => True) (fun _ t => Lp D base E0 s.heap a b 0 g t) (AX base a b s.heap.size)) #[.ref a] s 0 0 (AX base a b s.heap.size)) (F0 m 27 ls3 []) := by
      intro d
      induction d with
      | zero =>
        intro j H3 locs3 f3 ls3 hj hP hS hl
        refine lv_iload_n hx hb eCL_27 rfl (lv_at hl 0 rfl) ?_
        refine lv_iload_n hx hb eCL_28 rfl (lv_at hl 1 rfl) ?_
        have hj : j = n := by omega
        subst hj
        refine lv_icmp_ge (tgt := 42) hx hb eCL_29 rfl (fun _ => ?_) (fun h => absurd (Int32.le_refl _) h)
        have k1 : va_at D vcl (LO a (k + 1) b 0) H3 := hP 0 _ rfl
        have k2 : va_at D vcl (RW b cO cap f3) H3 := hP 1 _ rfl
        exact W.vret hx hb hr (fun t e1 e2 => ⟨⟨(), rfl, trivial, k + 1, b, [(cO, oO)], ⟨by rw [e1]; exact k1, hba, by rw [e1]; exact Nat.le_trans hbs hS.1, Or.inr ⟨hbb, hab, cap, _, cO, rfl, by rw [e1]; exact k2, Nat.zero_le _, hc2, hc6, fun j hj => absurd hj (Nat.not_lt_zero _)⟩⟩, va_K.moved e2.alike hK, Or.inl rfl⟩, hS.F e1⟩) (fun q h => hS.2.2 q h) eCL_42 hlk
      | succ d ih =>
        intro j H3 locs3 f3 ls3 hj hP hS hl
        refine lv_iload_n hx hb eCL_27 rfl (lv_at hl 0 rfl) ?_
        refine lv_iload_n hx hb eCL_28 rfl (lv_at hl 1 rfl) ?_
        refine lv_icmp_ge (tgt := 42) hx hb eCL_29 rfl (fun h => absurd h (nI_ge (by omega) (by omega))) (fun _ => ?_)
        refine lv_aload_n hx hb eCL_32 rfl (lv_at hl 2 rfl) ?_
        refine lv_iload_n hx hb eCL_33 rfl (lv_at hl 0 rfl) ?_
        refine lv_null hx hb eCL_34 ?_
        refine va_astqN hx hb hK hP (hDD _ _ _) hS 1 0 rfl rfl (vp_in_nI (by omega) (by omega)) eCL_35 fun H4 locs4 hP4 hD4 hS4 => ?_
        refine lv_iinc (v := nI (j + 1)) (lv' := [(3, .int (nI (j + 1))), (2, .int (nI n)), (1, .ref b), (0, .ref a)]) hx hb eCL_36 hl (k := 0) rfl (nI_1 j) (by decide) rfl (fun ls hl => ?_)
        refine lv_goto (tgt := 27) hx hb eCL_39 rfl ?_
        exact ih (j + 1) H4 locs4 _ ls (by omega) hP4 hS4 hl
    exact loop n 0 H2 locs2 f ls (by omega) hP2 hS2 hl
theorem jb_IC : JB "java/util/AbstractList" 1 yIC cIC 1 none 0 := ⟨q_53, q_2, q_55, by decide, by decide +kernel, by decide⟩
theorem jb_IL : JB "java/util/ArrayList" 1 yIL cIL 1 none 0 := ⟨q_50, q_3, q_52, by decide, by decide +kernel, by decide⟩
set_option maxRecDepth 100000 in
theorem w_obj : Cond.code Lib.objectInit ⟨#[0xb1]⟩ 1 none ∈ WS := ws_of (i := 105) (by decide +kernel) rfl
theorem k_IC {a : Nat} : JM l yIC cIC 1 none 2 0 0 base E0 mi D tys H [.ref a] (va_Qv (S := Unit) (fun _ => True) (fun _ t => t.heap = H) NoA) NoA :=
  JM.mk (by decide) (Nat.le_of_ble_eq_true rfl) fun p e s m below meth c ls C hH hK hE hM0 hl => by
  obtain ⟨hx, hb, hml, hr, hown, hlk, hnm, hts⟩ := id C
  subst hH
  have hl : lv_has ls 1 [(0, .ref a)] := hl
  refine lv_aload_n hx hb eIC_0 rfl (lv_at hl 0 rfl) ?_
  refine W.objInit hx hb hown (hts _ q_56) (hts _ q_43) (hts _ w_obj) rfl (by rw [hml]; exact hl.1) rfl eIC_1 (Nat.le_of_ble_eq_true rfl) (Nat.le_of_ble_eq_true rfl) ?_
  refine W.eq (g2 := F0 m 4 ls []) rfl ?_
  exact W.vret hx hb hr (fun t e1 e2 => ⟨⟨(), rfl, trivial, e1⟩, va_S.rf.F e1⟩) (fun _ h => nomatch h) eIC_4 hlk
/-- a list's object, whatever its fields hold -/
abbrev LV (a : Nat) (vs : List Value) : Nat × va_E := (a, .inr (10, vs))
theorem k_IL {a : Nat} {v0 v1 v2 : Value} (hLO : va_at D vcl (LV a [v0, v1, v2]) H) (hba : base ≤ a) :
    JM l yIL cIL 1 none 3 0 0 base E0 mi D tys H [.ref a] (va_Qv (S := Unit) (fun _ => True) (fun _ t => va_at D vcl (LV a [.int 0, v1, v2]) t.heap) (fun q => q = a)) (fun q => q = a) :=
  JM.mk (by decide) (Nat.le_of_ble_eq_true rfl) fun p e s m below meth c ls C hH hK hE hM0 hl => by
  obtain ⟨hx, hb, hml, hr, hown, hlk, hnm, hts⟩ := id C
  subst hH
  have hl : lv_has ls 1 [(0, .ref a)] := hl
  refine lv_aload_n hx hb eIL_0 rfl (lv_at hl 0 rfl) ?_
  refine va_callv (jcallI (rest := []) C.fix (k_IC (H := s.heap)) jb_IC q_54 rfl (show 2 + 1 ≤ 3 by decide) (show 100 * 2 + 30 ≤ 300 by decide) (A := fun q => q = a) (fun q h => by subst h; exact hba) hK hE hM0 va_S.rf rfl hl.1 (by decide) eIL_1 ⟨by decide, by decide⟩ rfl) (A0 := fun q => q = a) va_S.rf (fun _ _ h => h.elim) (fun _ h => h.elim) fun u t H1 locs1 e1 e2 e3 e4 e5 e6 hS => ?_
  have hH1 : H1 = s.heap := e1.symm.trans e4
  subst hH1
  refine lv_aload_n hx hb eIL_4 rfl (lv_at hl 0 rfl) ?_
  refine lv_iconst (v := 0) hx hb eIL_5 (by decide) ?_
  refine va_put (A := fun q => q = a) hx hb hts lo_ws _ lo_ty lo_nm hown hK (P1 hLO) (D1 rfl) hS 0 rfl rfl 0 (by decide) (hts _ q_61) (fun _ h => h) rfl lo_d0 rfl rfl (Nat.le_of_ble_eq_true rfl) eIL_6 fun H2 locs2 hP2 hD2 hS2 => ?_
  have k1 : va_at D vcl (LV a [.int 0, v1, v2]) H2 := hP2 0 _ rfl
  exact W.vret hx hb hr (fun t e1 e2 => ⟨⟨(), rfl, trivial, by show va_at _ _ _ t.heap; rw [e1]; exact k1⟩, hS2.F e1⟩) (fun q h => hS2.2.2 q h) eIL_9 hlk
theorem k_IN {a : Nat} {v0 v1 v2 : Value} (hLO : va_at D vcl (LV a [v0, v1, v2]) H) (hba : base ≤ a) :
    JM l yIN cIN 1 none 4 0 0 base E0 mi D tys H [.ref a] (va_Qv (S := Unit) (fun _ => True) (fun _ t => va_at D vcl (LV a [.int 0, .ref E0, v2]) t.heap) (fun q => q = a)) (fun q => q = a) :=
  JM.mk (by decide) (Nat.le_of_ble_eq_true rfl) fun p e s m below meth c ls C hH hK hE hM0 hl => by
  obtain ⟨hx, hb, hml, hr, hown, hlk, hnm, hts⟩ := id C
  subst hH
  have hl : lv_has ls 1 [(0, .ref a)] := hl
  refine lv_aload_n hx hb eIN_0 rfl (lv_at hl 0 rfl) ?_
  refine va_callv (jcallI (rest := []) C.fix (k_IL (H := s.heap) hLO hba) jb_IL q_51 rfl (show 3 + 1 ≤ 4 by decide) (show 100 * 3 + 30 ≤ 400 by decide) (A := fun q => q = a) (fun q h => by subst h; exact hba) hK hE hM0 va_S.rf rfl hl.1 (by decide) eIN_1 ⟨by decide, by decide⟩ rfl) (A0 := fun q => q = a) va_S.rf (fun _ _ h => h) (fun _ h => h) fun u t H1 locs1 e1 e2 e3 e4 e5 e6 hS => ?_
  have e4 : va_at D vcl (LV a [.int 0, v1, v2]) H1 := by rw [← e1]; exact e4
  refine lv_aload_n hx hb eIN_4 rfl (lv_at hl 0 rfl) ?_
  refine va_gets hx hb hE.2.2.2.2.2.1 (hS.weak (B := fun q => base ≤ q) (fun q h => by subst h; exact hba)) hown (hts _ q_57) (fun _ h => h) eIN_5 ?_
  refine va_put (A := fun q => q = a) hx hb hts lo_ws _ lo_ty lo_nm hown hK (P1 e4) (D1 rfl) hS 0 rfl rfl 1 (by decide) (hts _ q_59) (fun _ h => h) rfl lo_d1 rfl rfl (Nat.le_of_ble_eq_true rfl) eIN_8 fun H2 locs2 hP2 hD2 hS2 => ?_
  have k1 : va_at D vcl (LV a [.int 0, .ref E0, v2]) H2 := hP2 0 _ rfl
  exact W.vret hx hb hr (fun t e1 e2 => ⟨⟨(), rfl, trivial, by show va_at _ _ _ t.heap; rw [e1]; exact k1⟩, hS2.F e1⟩) (fun q h => hS2.2.2 q h) eIN_11 hlk
end JK
