/-! the JDK's lists: add -/
section JA
variable {l : Launch} {base E0 mi : Nat} {D : va_G} {tys : List (ClassId × FieldType)} {H : Heap}
/-- a list of n elements, g its elements -/
def Lr (D : va_G) (base E0 : Nat) (tys : List (ClassId × FieldType)) (a : Nat) (k : Int32) (b n : Nat) (g : Nat → Option Nat) (H : Heap) : Prop :=
  va_at D vcl (LO a k b n) H ∧ base ≤ a ∧ base ≤ H.size ∧ ((b = E0 ∧ E0 < base ∧ n = 0 ∧ tys = []) ∨ (base ≤ b ∧ a ≠ b ∧ ∃ (cap : Nat) (f : Nat → Option Nat) (cO : ClassId), tys = [(cO, oO)] ∧ va_at D vcl (RW b cO cap f) H ∧ n ≤ cap ∧ 2 ≤ cap ∧ cap ≤ 60000 ∧ ∀ j, j < n → f j = g j))
def Lp (D : va_G) (base E0 : Nat) (H : Heap) (a b n : Nat) (g : Nat → Option Nat) (t : State) : Prop :=
  ∃ (k : Int32) (b' : Nat) (tys' : List (ClassId × FieldType)), Lr D base E0 tys' a k b' n g t.heap ∧ va_K D vcl tys' t ∧ (b' = b ∨ H.size ≤ b')
theorem K1 {s : State} {cO : ClassId} (h : va_K D vcl [(cO, oO)] s) : va_K D vcl [(cO, oO)] s := h
theorem AX_X {a b sz q : Nat} (h : AX base a b sz q) : (q = a ∨ q = b) ∨ sz ≤ q := by
  rcases h with z | z | z
  · exact Or.inl (Or.inl z)
  · exact Or.inl (Or.inr z.2)
  · exact Or.inr z
theorem va_S.weak {A B : Nat → Prop} {H0 H1 : Heap} {locs : List Loc} (h : va_S A H0 H1 locs) (hAB : ∀ q, A q → B q) : va_S B H0 H1 locs := ⟨h.1, fun q h1 h2 => h.2.1 q h1 (fun z => h2 (hAB q z)), fun q h1 => hAB _ (h.2.2 q h1)⟩
set_option maxHeartbeats 4000000 in
theorem k_A3 {a b n v : Nat} {k : Int32} {g : Nat → Option Nat} (hL : Lr D base E0 tys a k b n g H) (hn : n < 30000) (hel : ∀ j, j < n → ∀ y, g j = some y → El D (fun q => q = a ∨ q = b) H y) (hv : El D (fun q => q = a ∨ q = b) H v) :
    JM l yA3 cA3 4 none 7 1 (2 * n + 10) base E0 mi D tys H [.ref a, .ref v, .ref b, .int (nI n)] (va_Qv (S := Unit) (fun _ => True) (fun _ t => Lp D base E0 H a b (n + 1) (va_up g n (some v)) t) (AX base a b H.size)) (AX base a b H.size) :=
  JM.mk (by decide) (Nat.le_of_ble_eq_true rfl) fun p e s m below meth c ls C hH hK hE hM0 hl => by
  obtain ⟨hx, hb, hml, hr, hown, hlk, hnm, hts⟩ := id C
  subst hH
  obtain ⟨hLO, hba, hbs, hcase⟩ := hL
  have hl : lv_has ls 4 [(0, .ref a), (1, .ref v), (2, .ref b), (3, .int (nI n))] := hl
  have hAb : ∀ q, AX base a b s.heap.size q → base ≤ q := fun q h => by rcases h with z | z | z <;> omega
  have hA : ∀ q, s.heap.size ≤ q → AX base a b s.heap.size q := fun q h => Or.inr (Or.inr h)
  have hal : a < s.heap.size := hLO.lt
  have hX : ∀ q, AX base a b s.heap.size q → (q = a ∨ q = b) ∨ s.heap.size ≤ q := fun q h => AX_X h
  have tail : ∀ (H1 : Heap) (locs1 : List Loc) (b1 cap1 : Nat) (cO1 : ClassId) (f1 : Nat → Option Nat) (ls1 : Array Slot) (cells1 slots1 : Nat), va_at D vcl (LO a k b1 n) H1 → va_at D vcl (RW b1 cO1 cap1 f1) H1 → va_K D vcl [(cO1, oO)] s → va_S (AX base a b s.heap.size) s.heap H1 locs1 → a ≠ b1 → AX base a b s.heap.size b1 → (b1 = b ∨ s.heap.size ≤ b1) → n < cap1 → 2 ≤ cap1 → cap1 ≤ 60000 → (∀ j, j < n → f1 j = g j) → lv_has ls1 4 [(2, .ref b1), (0, .ref a), (1, .ref v), (3, .int (nI n))] → cells1 ≤ 1 → slots1 ≤ 2 * n + 10 →
      W p l e (rmJ 7 1 (2 * n + 10)) s m #[.ref a, .ref v, .ref b, .int (nI n)] below meth c H1 locs1 cells1 slots1 (MQ below (va_Qv (S := Unit) (fun _ => True) (fun _ t => Lp D base E0 s.heap a b (n + 1) (va_up g n (some v)) t) (AX base a b s.heap.size)) #[.ref a, .ref v, .ref b, .int (nI n)] s 1 (2 * n + 10) (AX base a b s.heap.size)) (F0 m 11 ls1 []) := by
    intro H1 locs1 b1 cap1 cO1 f1 ls1 cells1 slots1 g1 g2 gK hS hab gA gb gn gc2 gc6 gf hl hc1 hs1
    refine lv_aload_n hx hb eA3_11 rfl (lv_at hl 0 rfl) ?_
    refine lv_iload_n hx hb eA3_12 rfl (lv_at hl 3 rfl) ?_
    refine lv_aload_n hx hb eA3_13 rfl (lv_at hl 2 rfl) ?_
    refine va_astqM hx hb gK (P2 g1 g2) (D2 hab (Or.inl rfl) gA) hS 1 0 rfl rfl ((hv.keep hX hS.2.1).any gK hE) (vp_in_nI gn (by omega)) eA3_14 fun H2 locs2 hP2 hD2 hS2 => ?_
    have hP2 : va_P D vcl [LO a k b1 n, RW b1 cO1 cap1 (va_up f1 (nI n).toNatClampNeg (some v))] H2 := hP2
    have hD2 : va_D (AX base a b s.heap.size) [LO a k b1 n, RW b1 cO1 cap1 (va_up f1 (nI n).toNatClampNeg (some v))] := hD2
    rw [nI_clamp (by omega)] at hP2 hD2
    refine lv_aload_n hx hb eA3_15 rfl (lv_at hl 1 rfl) ?_
    refine lv_iload_n hx hb eA3_16 rfl (lv_at hl 3 rfl) ?_
    refine lv_iconst (v := 1) hx hb eA3_17 (by decide) ?_
    refine lv_iadd hx hb eA3_18 ?_
    rw [nI_1]
    refine va_put hx hb hts lo_ws _ lo_ty lo_nm hown gK hP2 hD2 hS2 0 rfl rfl 2 (by decide) (hts _ q_60) (fun _ h => h) rfl lo_d2 rfl rfl (Nat.le_of_ble_eq_true rfl) eA3_19 fun H3 locs3 hP3 hD3 hS3 => ?_
    have k1 : va_at D vcl (LO a k b1 (n + 1)) H3 := hP3 0 _ rfl
    have k2 : va_at D vcl (RW b1 cO1 cap1 (va_up f1 n (some v))) H3 := hP3 1 _ rfl
    refine W.widen (k := 1) (n := 2 * n + 10) hc1 hs1 ?_
    refine W.vret hx hb hr (fun t e1 e2 => ⟨⟨(), rfl, trivial, k, b1, [(cO1, oO)], ⟨by rw [e1]; exact k1, hba, by rw [e1]; exact Nat.le_trans hbs hS3.1, Or.inr ⟨hAb _ gA, hab, cap1, _, cO1, rfl, by rw [e1]; exact k2, gn, gc2, gc6, fun j hj => ?_⟩⟩, va_K.moved e2.alike gK, gb⟩, hS3.F e1⟩) (fun q h => hS3.2.2 q h) eA3_22 hlk
    unfold va_up
    split
    · rfl
    · exact gf j (by omega)
  have grow : Lg D base E0 tys a b n g s.heap → W p l e (rmJ 7 1 (2 * n + 10)) s m #[.ref a, .ref v, .ref b, .int (nI n)] below meth c s.heap [] 0 0 (MQ below (va_Qv (S := Unit) (fun _ => True) (fun _ t => Lp D base E0 s.heap a b (n + 1) (va_up g n (some v)) t) (AX base a b s.heap.size)) #[.ref a, .ref v, .ref b, .int (nI n)] s 1 (2 * n + 10) (AX base a b s.heap.size)) (F0 m 6 ls []) := by
    intro hG
    refine lv_aload_n hx hb eA3_6 rfl (lv_at hl 0 rfl) ?_
    refine va_callr (jcallV (rest := []) C.fix (k_GR (H := s.heap) hLO hba hbs hG hel) jb_GR q_126 p_1 (show 6 + 1 ≤ 7 by decide) (show 100 * 6 + 30 ≤ 700 by decide) (A := AX base a b s.heap.size) hAb hK hE hM0 va_S.rf (va_recv hK (P1 hLO) (q0 := 0) rfl rfl) rfl hl.1 (by decide) eA3_7 ⟨show 0 + 1 ≤ 1 by omega, show 0 + (2 * n + 10) ≤ 2 * n + 10 by omega⟩ rfl) (A0 := AX base a b s.heap.size) va_S.rf (fun _ _ h => h) (fun _ h => h) fun u ra t H1 locs1 e1 e2 e3 e4 e5 e6 hS => ?_
    obtain ⟨g1, g2, g3, g4, g5, g6, g7, g8⟩ := e4
    rw [e1] at g1 g2
    have gK : va_K D vcl [(u.1, oO)] s := va_K.moved e2.symm g3
    refine lv_astore_n (lv' := [(2, .ref ra), (0, .ref a), (1, .ref v), (3, .int (nI n))]) hx hb eA3_10 rfl hl (by decide) rfl (fun ls hl => ?_)
    exact tail H1 locs1 ra u.2.1 u.1 u.2.2 ls _ _ g1 g2 gK hS (by omega) (hA _ g4) (Or.inr g4) g5 g6 g7 g8 hl (by omega) (by omega)
  refine lv_iload_n hx hb eA3_0 rfl (lv_at hl 3 rfl) ?_
  refine lv_aload_n hx hb eA3_1 rfl (lv_at hl 2 rfl) ?_
  rcases hcase with ⟨rfl, hE0, rfl, rfl⟩ | ⟨hbb, hab, cap, f, cO, rfl, hRW, hnc, hc2, hc6, hfg⟩
  · refine va_tlen (v := 0) hx hb hE.2.2.2.2.2.2.1 (va_S.rf (A := fun q => base ≤ q)) rfl eA3_2 ?_
    refine lv_icmp_ne (tgt := 11) hx hb eA3_3 rfl (fun h => absurd rfl h) (fun _ => ?_)
    exact grow (Or.inl ⟨rfl, hE0, rfl, rfl⟩)
  · refine va_alen (v := nI cap) hx hb hK (P1 hRW) 0 0 rfl rfl rfl eA3_2 ?_
    refine lv_icmp_ne (tgt := 11) hx hb eA3_3 rfl (fun h => ?_) (fun h => ?_)
    · have hne : n ≠ cap := fun z => h (by rw [z])
      exact tail s.heap [] b cap cO f ls 0 0 hLO hRW hK va_S.rf hab (Or.inr (Or.inl ⟨hbb, rfl⟩)) (Or.inl rfl) (by omega) hc2 hc6 hfg (lv_sub hl [2, 0, 1, 3] rfl) (by omega) (by omega)
    · have hcn : n = cap := (nI_eq (by omega) (by omega)).mp h
      subst hcn
      exact grow (Or.inr ⟨hbb, hab, f, cO, rfl, hRW, hc2, by omega, hfg⟩)
theorem jb_A3 : JB "java/util/ArrayList" 131 yA3 cA3 4 none 3 := ⟨q_120, q_4, q_123, by decide, by decide +kernel, by decide⟩
theorem lo_same0 {s : State} {args : Array Value} (hts : ∀ w ∈ WS, w.before args s = true) : ∀ x, s.fieldFound? (TJx4a65c 0).1 (TJx4a65c 0).2.1 (TJx4a65c 0).2.2.1 = some x → s.fieldFound? "java/util/ArrayList" (TJx4a65c 0).2.1 (TJx4a65c 0).2.2.1 = some x := fun x h => u_same (hts _ q_63) x h
theorem lo_n0 (k : Int32) : narrow .int (.int k) = .int k := rfl
/-- the counter up by one: what a list is stays -/
theorem Lr.bump {a b n : Nat} {k k' : Int32} {g : Nat → Option Nat} {H1 : Heap} {locs : List Loc} (hL : Lr D base E0 tys a k b n g H) (h1 : va_at D vcl (LO a k' b n) H1) (hS : va_S (fun q => q = a) H H1 locs) : Lr D base E0 tys a k' b n g H1 := by
  obtain ⟨h2, h3, h4, h5⟩ := hL
  refine ⟨h1, h3, Nat.le_trans h4 hS.1, h5.imp id ?_⟩
  rintro ⟨x1, x2, cap, f, cO, x3, x4, x5⟩
  exact ⟨x1, x2, cap, f, cO, x3, x4.kept (hS.2.1 b x4.lt (Ne.symm x2)), x5⟩
theorem El.a {a b y : Nat} {H1 : Heap} {locs : List Loc} (h : El D (fun q => q = a ∨ q = b) H y) (hS : va_S (fun q => q = a) H H1 locs) : El D (fun q => q = a ∨ q = b) H1 y := h.keep (A := fun q => q = a) (fun q z => Or.inl (Or.inl z)) hS.2.1
theorem AX_le {a b sz sz' q : Nat} (h : AX base a b sz' q) (hz : sz ≤ sz') : AX base a b sz q := by
  rcases h with z | z | z
  · exact Or.inl z
  · exact Or.inr (Or.inl z)
  · exact Or.inr (Or.inr (Nat.le_trans hz z))
theorem Lp.le {a b n : Nat} {g : Nat → Option Nat} {t t' : State} {H0 : Heap} (h : Lp D base E0 H a b n g t) (hz : H0.size ≤ H.size) (ht : t'.heap = t.heap) (hvm : t.vm.Alike t'.vm) : Lp D base E0 H0 a b n g t' := by
  obtain ⟨k, b', tys', h1, h2, h3⟩ := h
  exact ⟨k, b', tys', by rw [ht]; exact h1, va_K.moved hvm h2, h3.imp id (Nat.le_trans hz)⟩
set_option maxHeartbeats 4000000 in
theorem k_A1 {a b n v : Nat} {k : Int32} {g : Nat → Option Nat} (hL : Lr D base E0 tys a k b n g H) (hn : n < 30000) (hel : ∀ j, j < n → ∀ y, g j = some y → El D (fun q => q = a ∨ q = b) H y) (hv : El D (fun q => q = a ∨ q = b) H v) :
    JM l yA1 cA1 2 (some .boolean) 8 1 (2 * n + 10) base E0 mi D tys H [.ref a, .ref v] (va_Qi (S := Unit) (fun r _ => r = 1) (fun _ t => Lp D base E0 H a b (n + 1) (va_up g n (some v)) t) (AX base a b H.size)) (AX base a b H.size) :=
  JM.mk (by decide) (Nat.le_of_ble_eq_true rfl) fun p e s m below meth c ls C hH hK hE hM0 hl => by
  obtain ⟨hx, hb, hml, hr, hown, hlk, hnm, hts⟩ := id C
  subst hH
  have hLO := hL.1
  have hba := hL.2.1
  have hbs := hL.2.2.1
  have hl : lv_has ls 2 [(0, .ref a), (1, .ref v)] := hl
  have hAb : ∀ q, AX base a b s.heap.size q → base ≤ q := fun q h => by rcases h with z | z | z <;> omega
  refine lv_aload_n hx hb eA1_0 rfl (lv_at hl 0 rfl) ?_
  refine lv_dup hx hb eA1_1 rfl ?_
  refine va_get hx hb hts lo_ws hown hK (P1 hLO) 0 rfl rfl 0 (by decide) (hts _ q_62) (lo_same0 hts) rfl eA1_2 ?_
  refine lv_iconst (v := 1) hx hb eA1_5 (by decide) ?_
  refine lv_iadd hx hb eA1_6 ?_
  refine va_put (A := fun q => q = a) hx hb hts lo_ws _ lo_ty lo_nm hown hK (P1 hLO) (D1 rfl) va_S.rf 0 rfl rfl 0 (by decide) (hts _ q_62) (lo_same0 hts) rfl lo_d0 rfl rfl (Nat.le_of_ble_eq_true rfl) eA1_7 fun H1 locs1 hP1 hD1 hSa => ?_
  have g1 : va_at D vcl (LO a (k + 1) b n) H1 := hP1 0 _ rfl
  have hL1 := hL.bump g1 hSa
  have hS1 : va_S (AX base a b s.heap.size) s.heap H1 locs1 := hSa.weak fun q z => Or.inl z
  refine lv_aload_n hx hb eA1_10 rfl (lv_at hl 0 rfl) ?_
  refine lv_aload_n hx hb eA1_11 rfl (lv_at hl 1 rfl) ?_
  refine lv_aload_n hx hb eA1_12 rfl (lv_at hl 0 rfl) ?_
  refine va_get hx hb hts lo_ws hown hK (P1 g1) 0 rfl rfl 1 (by decide) (hts _ q_59) (fun _ h => h) rfl eA1_13 ?_
  refine lv_aload_n hx hb eA1_16 rfl (lv_at hl 0 rfl) ?_
  refine va_get hx hb hts lo_ws hown hK (P1 g1) 0 rfl rfl 2 (by decide) (hts _ q_60) (fun _ h => h) rfl eA1_17 ?_
  refine va_callv (jcallV (rest := []) C.fix (k_A3 (H := H1) hL1 hn (fun j hj y hy => (hel j hj y hy).a hSa) (hv.a hSa)) jb_A3 q_122 p_0 (show 7 + 1 ≤ 8 by decide) (show 100 * 7 + 30 ≤ 800 by decide) (A := AX base a b s.heap.size) hAb hK hE hM0 hS1 (va_recv hK (P1 g1) (q0 := 0) rfl rfl) rfl hl.1 (by decide) eA1_20 ⟨show 0 + 1 ≤ 1 by omega, show 0 + (2 * n + 10) ≤ 2 * n + 10 by omega⟩ rfl) (A0 := AX base a b s.heap.size) hS1 (fun _ _ h => AX_le h hS1.1) (fun _ h => AX_le h hS1.1) fun u t H2 locs2 e1 e2 e3 e4 e5 e6 hS => ?_
  refine lv_iconst (v := 1) hx hb eA1_23 (by decide) ?_
  refine W.widen (k := 1) (n := 2 * n + 10) (by omega) (by omega) ?_
  exact W.zret (ty := .boolean) hx hb hr rfl (fun t2 f1 f2 => ⟨⟨1, (), rfl, rfl, e4.le hS1.1 (f1.trans e1.symm) (e2.symm.trans f2.alike)⟩, hS.F f1⟩) (fun q h => hS.2.2 q h) eA1_24 hlk
end JA
