/-! the JDK's lists: add(int, E) -/
section JN
variable {l : Launch} {base E0 mi : Nat} {D : va_G} {tys : List (ClassId × FieldType)} {H : Heap}
def ins (g : Nat → Option Nat) (i : Nat) (v : Nat) : Nat → Option Nat := fun j => if j < i then g j else if j = i then some v else g (j - 1)
def del (g : Nat → Option Nat) (i : Nat) : Nat → Option Nat := fun j => if j < i then g j else g (j + 1)
theorem jb_RC : JB "java/util/ArrayList" 135 yRC cRC 2 none 1 := ⟨q_584, q_4, q_587, by decide, by decide +kernel, by decide⟩
set_option maxHeartbeats 4000000 in
theorem k_AI {a b n i v : Nat} {k : Int32} {g : Nat → Option Nat} (hL : Lr D base E0 tys a k b n g H) (hi : i ≤ n) (hn : n < 30000) (hel : ∀ j, j < n → ∀ y, g j = some y → El D (fun q => q = a ∨ q = b) H y) (hv : El D (fun q => q = a ∨ q = b) H v) :
    JM l yAI cAI 5 none 7 1 (2 * n + 10) base E0 mi D tys H [.ref a, .int (nI i), .ref v] (va_Qv (S := Unit) (fun _ => True) (fun _ t => Lp D base E0 H a b (n + 1) (ins g i v) t) (AX base a b H.size)) (AX base a b H.size) :=
  JM.mk (by decide) (Nat.le_of_ble_eq_true rfl) fun p e s m below meth c ls C hH hK hE hM0 hl => by
  obtain ⟨hx, hb, hml, hr, hown, hlk, hnm, hts⟩ := id C
  subst hH
  have hLO := hL.1
  have hba := hL.2.1
  have hbs := hL.2.2.1
  have hl : lv_has ls 5 [(0, .ref a), (1, .int (nI i)), (2, .ref v)] := hl
  have hAb : ∀ q, AX base a b s.heap.size q → base ≤ q := fun q h => by rcases h with z | z | z <;> omega
  have hA : ∀ q, s.heap.size ≤ q → AX base a b s.heap.size q := fun q h => Or.inr (Or.inr h)
  have hal : a < s.heap.size := hLO.lt
  refine lv_aload_n hx hb eAI_0 rfl (lv_at hl 0 rfl) ?_
  refine lv_iload_n hx hb eAI_1 rfl (lv_at hl 1 rfl) ?_
  refine va_callv (jcallV (rest := []) C.fix (k_RC (H := s.heap) (P1 hLO) (i := 0) rfl hi (by omega)) jb_RC q_586 p_24 (show 1 + 1 ≤ 7 by decide) (show 100 * 1 + 30 ≤ 700 by decide) (A := fun q => q = a) (fun q h => by subst h; exact hba) hK hE hM0 va_S.rf (va_recv hK (P1 hLO) (q0 := 0) rfl rfl) rfl hl.1 (by decide) eAI_2 ⟨show 0 + 0 ≤ 1 by omega, show 0 + 0 ≤ 2 * n + 10 by omega⟩ rfl) (A0 := fun q => q = a) va_S.rf (fun _ _ h => h.elim) (fun _ h => h.elim) fun u0 t0 H0 locs0 x1 x2 x3 x4 x5 x6 hS0 => ?_
  have hH0 : H0 = s.heap := x1.symm.trans x4
  subst hH0
  refine lv_aload_n hx hb eAI_5 rfl (lv_at hl 0 rfl) ?_
  refine lv_dup hx hb eAI_6 rfl ?_
  refine va_get hx hb hts lo_ws hown hK (P1 hLO) 0 rfl rfl 0 (by decide) (hts _ q_62) (lo_same0 hts) rfl eAI_7 ?_
  refine lv_iconst (v := 1) hx hb eAI_10 (by decide) ?_
  refine lv_iadd hx hb eAI_11 ?_
  refine va_put (A := fun q => q = a) hx hb hts lo_ws _ lo_ty lo_nm hown hK (P1 hLO) (D1 rfl) hS0 0 rfl rfl 0 (by decide) (hts _ q_62) (lo_same0 hts) rfl lo_d0 rfl rfl (Nat.le_of_ble_eq_true rfl) eAI_12 fun H1 locs1 hP1 hD1 hSa => ?_
  have g1 : va_at D vcl (LO a (k + 1) b n) H1 := hP1 0 _ rfl
  have hL1 := hL.bump g1 hSa
  have hS1 : va_S (AX base a b s.heap.size) s.heap H1 locs1 := hSa.weak fun q z => Or.inl z
  have hel1 : ∀ j, j < n → ∀ y, g j = some y → El D (fun q => q = a ∨ q = b) H1 y := fun j hj y hy => (hel j hj y hy).a hSa
  have hX : ∀ q, AX base a b s.heap.size q → (q = a ∨ q = b) ∨ s.heap.size ≤ q := fun q h => AX_X h
  refine lv_aload_n hx hb eAI_15 rfl (lv_at hl 0 rfl) ?_
  refine va_get hx hb hts lo_ws hown hK (P1 g1) 0 rfl rfl 2 (by decide) (hts _ q_60) (fun _ h => h) rfl eAI_16 ?_
  refine lv_dup hx hb eAI_19 rfl ?_
  refine lv_istore_n (lv' := [(3, .int (nI n)), (0, .ref a), (1, .int (nI i)), (2, .ref v)]) hx hb eAI_20 rfl hl (by decide) rfl (fun ls hl => ?_)
  refine lv_aload_n hx hb eAI_21 rfl (lv_at hl 1 rfl) ?_
  refine va_get hx hb hts lo_ws hown hK (P1 g1) 0 rfl rfl 1 (by decide) (hts _ q_59) (fun _ h => h) rfl eAI_22 ?_
  refine lv_dup hx hb eAI_25 rfl ?_
  refine lv_astore (lv' := [(4, .ref b), (3, .int (nI n)), (0, .ref a), (1, .int (nI i)), (2, .ref v)]) hx hb eAI_26 hl (by decide) rfl (fun ls hl => ?_)
  have tail : ∀ (H2 : Heap) (locs2 : List Loc) (b1 cap1 : Nat) (cO1 : ClassId) (f1 : Nat → Option Nat) (ls1 : Array Slot) (cells1 slots1 : Nat), va_at D vcl (LO a (k + 1) b1 n) H2 → va_at D vcl (RW b1 cO1 cap1 f1) H2 → va_K D vcl [(cO1, oO)] s → va_S (AX base a b s.heap.size) s.heap H2 locs2 → a ≠ b1 → AX base a b s.heap.size b1 → (b1 = b ∨ s.heap.size ≤ b1) → n < cap1 → 2 ≤ cap1 → cap1 ≤ 60000 → (∀ j, j < n → f1 j = g j) → lv_has ls1 5 [(4, .ref b1), (3, .int (nI n)), (0, .ref a), (1, .int (nI i)), (2, .ref v)] → cells1 ≤ 1 → slots1 ≤ 2 * n + 10 →
      W p l e (rmJ 7 1 (2 * n + 10)) s m #[.ref a, .int (nI i), .ref v] below meth c H2 locs2 cells1 slots1 (MQ below (va_Qv (S := Unit) (fun _ => True) (fun _ t => Lp D base E0 s.heap a b (n + 1) (ins g i v) t) (AX base a b s.heap.size)) #[.ref a, .int (nI i), .ref v] s 1 (2 * n + 10) (AX base a b s.heap.size)) (F0 m 38 ls1 []) := by
    intro H2 locs2 b1 cap1 cO1 f1 ls1 cells1 slots1 g1 g2 gK hS hab gA gb gn gc2 gc6 gf hl hc1 hs1
    have hDD : ∀ f, va_D (AX base a b s.heap.size) [LO a (k + 1) b1 n, RW b1 cO1 cap1 f] := fun f => D2 hab (Or.inl rfl) gA
    refine lv_aload hx hb eAI_38 (lv_at hl 0 rfl) ?_
    refine lv_iload_n hx hb eAI_40 rfl (lv_at hl 3 rfl) ?_
    refine lv_aload hx hb eAI_41 (lv_at hl 0 rfl) ?_
    refine lv_iload_n hx hb eAI_43 rfl (lv_at hl 3 rfl) ?_
    refine lv_iconst (v := 1) hx hb eAI_44 (by decide) ?_
    refine lv_iadd hx hb eAI_45 ?_
    rw [nI_1]
    refine lv_iload_n hx hb eAI_46 rfl (lv_at hl 1 rfl) ?_
    refine lv_iload_n hx hb eAI_47 rfl (lv_at hl 3 rfl) ?_
    refine lv_isub hx hb eAI_48 ?_
    rw [pk_sub hi]
    refine va_copyM (q0 := 1) (q1 := 1) (t0 := 0) (t1 := 0) hx hb (by rw [hml]; exact hl.1.symm) hown (hts _ q_560) (hts _ q_180) (hts _ q_179) (hts _ q_10) gK (E0 := "java/lang/Object") (E1 := "java/lang/Object") (P2 g1 g2) (hDD _) hS rfl rfl rfl rfl (nI_pos (by omega)) (nI_pos (by omega)) (nI_pos (by omega)) (by rw [nI_clamp (by omega), nI_clamp (by omega)]; omega) (by rw [nI_clamp (by omega), nI_clamp (by omega)]; omega) (fun j hj y hy => ?_) (show 1 ≤ 7 by decide) (by have := copy_words; show 0 + _ ≤ 700; omega) eAI_49 (fun H3 locs3 hP3 hD3 hS3 => ?_)
    · rw [nI_clamp (by omega)] at hj hy
      have hj2 : i + j < n := by omega
      exact ((hel (i + j) hj2 y ((gf _ hj2).symm.trans hy)).keep (A := AX base a b s.heap.size) hX hS.2.1).any gK hE
    rw [nI_clamp (by omega), nI_clamp (by omega), nI_clamp (by omega)] at hP3 hD3
    have hP3 : va_P D vcl [LO a (k + 1) b1 n, RW b1 cO1 cap1 (va_cpy f1 f1 i (i + 1) (n - i))] H3 := hP3
    have hD3 := hDD (va_cpy f1 f1 i (i + 1) (n - i))
    refine lv_aload hx hb eAI_52 (lv_at hl 0 rfl) ?_
    refine lv_iload_n hx hb eAI_54 rfl (lv_at hl 3 rfl) ?_
    refine lv_aload_n hx hb eAI_55 rfl (lv_at hl 4 rfl) ?_
    refine va_astqM hx hb gK hP3 hD3 hS3 1 0 rfl rfl ((hv.keep hX hS3.2.1).any gK hE) (vp_in_nI (by omega) (by omega)) eAI_56 fun H4 locs4 hP4 hD4 hS4 => ?_
    rw [nI_clamp (by omega)] at hP4 hD4
    have hP4 : va_P D vcl [LO a (k + 1) b1 n, RW b1 cO1 cap1 (va_up (va_cpy f1 f1 i (i + 1) (n - i)) i (some v))] H4 := hP4
    have hD4 := hDD (va_up (va_cpy f1 f1 i (i + 1) (n - i)) i (some v))
    refine lv_aload_n hx hb eAI_57 rfl (lv_at hl 2 rfl) ?_
    refine lv_iload_n hx hb eAI_58 rfl (lv_at hl 1 rfl) ?_
    refine lv_iconst (v := 1) hx hb eAI_59 (by decide) ?_
    refine lv_iadd hx hb eAI_60 ?_
    rw [nI_1]
    refine va_put hx hb hts lo_ws _ lo_ty lo_nm hown gK hP4 hD4 hS4 0 rfl rfl 2 (by decide) (hts _ q_60) (fun _ h => h) rfl lo_d2 rfl rfl (Nat.le_of_ble_eq_true rfl) eAI_61 fun H5 locs5 hP5 hD5 hS5 => ?_
    have k1 : va_at D vcl (LO a (k + 1) b1 (n + 1)) H5 := hP5 0 _ rfl
    have k2 : va_at D vcl (RW b1 cO1 cap1 (va_up (va_cpy f1 f1 i (i + 1) (n - i)) i (some v))) H5 := hP5 1 _ rfl
    refine W.widen (k := 1) (n := 2 * n + 10) hc1 hs1 ?_
    refine W.vret hx hb hr (fun t e1 e2 => ⟨⟨(), rfl, trivial, k + 1, b1, [(cO1, oO)], ⟨by rw [e1]; exact k1, hba, by rw [e1]; exact Nat.le_trans hbs hS5.1, Or.inr ⟨hAb _ gA, hab, cap1, _, cO1, rfl, by rw [e1]; exact k2, gn, gc2, gc6, fun j hj => ?_⟩⟩, va_K.moved e2.alike gK, gb⟩, hS5.F e1⟩) (fun q h => hS5.2.2 q h) eAI_64 hlk
    unfold va_up va_cpy ins
    by_cases c1 : j = i
    · rw [if_pos c1, if_neg (by omega), if_pos c1]
    · rw [if_neg c1]
      by_cases c2 : j < i
      · rw [if_neg (by omega), if_pos c2]
        exact gf j (by omega)
      · rw [if_pos (by omega), if_neg c2, if_neg c1, gf _ (by omega)]
        congr 1
        omega
  have grow : Lg D base E0 tys a b n g H1 → W p l e (rmJ 7 1 (2 * n + 10)) s m #[.ref a, .int (nI i), .ref v] below meth c H1 locs1 (0 + 0) (0 + 0) (MQ below (va_Qv (S := Unit) (fun _ => True) (fun _ t => Lp D base E0 s.heap a b (n + 1) (ins g i v) t) (AX base a b s.heap.size)) #[.ref a, .int (nI i), .ref v] s 1 (2 * n + 10) (AX base a b s.heap.size)) (F0 m 32 ls []) := by
    intro hG
    refine lv_aload_n hx hb eAI_32 rfl (lv_at hl 2 rfl) ?_
    refine va_callr (jcallV (rest := []) C.fix (k_GR (H := H1) g1 hba hL1.2.2.1 hG hel1) jb_GR q_126 p_1 (show 6 + 1 ≤ 7 by decide) (show 100 * 6 + 30 ≤ 700 by decide) (A := AX base a b s.heap.size) hAb hK hE hM0 hS1 (va_recv hK (P1 g1) (q0 := 0) rfl rfl) rfl hl.1 (by decide) eAI_33 ⟨show 0 + 0 + 1 ≤ 1 by omega, show 0 + 0 + (2 * n + 10) ≤ 2 * n + 10 by omega⟩ rfl) (A0 := AX base a b s.heap.size) hS1 (fun _ _ h => AX_le h hS1.1) (fun _ h => AX_le h hS1.1) fun u ra t H2 locs2 e1 e2 e3 e4 e5 e6 hS => ?_
    obtain ⟨g1, g2, g3, g4, g5, g6, g7, g8⟩ := e4
    rw [e1] at g1 g2
    have gK : va_K D vcl [(u.1, oO)] s := va_K.moved e2.symm g3
    have g4' : s.heap.size ≤ ra := Nat.le_trans hS1.1 g4
    refine lv_astore (lv' := [(4, .ref ra), (3, .int (nI n)), (0, .ref a), (1, .int (nI i)), (2, .ref v)]) hx hb eAI_36 hl (by decide) rfl (fun ls hl => ?_)
    exact tail H2 locs2 ra u.2.1 u.1 u.2.2 ls _ _ g1 g2 gK hS (by omega) (hA _ g4') (Or.inr g4') g5 g6 g7 g8 hl (by omega) (by omega)
  obtain ⟨-, -, -, hcase⟩ := hL1
  rcases hcase with ⟨rfl, hE0, rfl, rfl⟩ | ⟨hbb, hab, cap, f, cO, rfl, hRW, hnc, hc2, hc6, hfg⟩
  · refine va_tlen (v := 0) hx hb hE.2.2.2.2.2.2.1 (hS1.weak hAb) rfl eAI_28 ?_
    refine lv_icmp_ne (tgt := 38) hx hb eAI_29 rfl (fun h => absurd rfl h) (fun _ => ?_)
    exact grow (Or.inl ⟨rfl, hE0, rfl, rfl⟩)
  · refine va_alen (v := nI cap) hx hb hK (P1 hRW) 0 0 rfl rfl rfl eAI_28 ?_
    refine lv_icmp_ne (tgt := 38) hx hb eAI_29 rfl (fun h => ?_) (fun h => ?_)
    · have hne : n ≠ cap := fun z => h (by rw [z])
      exact tail H1 locs1 b cap cO f ls _ _ g1 hRW hK hS1 hab (Or.inr (Or.inl ⟨hbb, rfl⟩)) (Or.inl rfl) (by omega) hc2 hc6 hfg hl (by omega) (by omega)
    · have hcn : n = cap := (nI_eq (by omega) (by omega)).mp h
      subst hcn
      exact grow (Or.inr ⟨hbb, hab, f, cO, rfl, hRW, hc2, by omega, hfg⟩)
end JN
