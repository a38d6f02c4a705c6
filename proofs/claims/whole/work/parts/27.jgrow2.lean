/-! the JDK's lists: grow -/
section JG
variable {l : Launch} {base E0 mi : Nat} {D : va_G} {tys : List (ClassId × FieldType)} {H : Heap}
/-- a list without room -/
def Lg (D : va_G) (base E0 : Nat) (tys : List (ClassId × FieldType)) (a b n : Nat) (g : Nat → Option Nat) (H : Heap) : Prop :=
  (b = E0 ∧ E0 < base ∧ n = 0 ∧ tys = []) ∨ (base ≤ b ∧ a ≠ b ∧ ∃ (f : Nat → Option Nat) (cO : ClassId), tys = [(cO, oO)] ∧ va_at D vcl (RW b cO n f) H ∧ 2 ≤ n ∧ n ≤ 40000 ∧ ∀ j, j < n → f j = g j)
def Gp (D : va_G) (H : Heap) (a : Nat) (k : Int32) (n : Nat) (g : Nat → Option Nat) : ClassId × Nat × (Nat → Option Nat) → Nat → State → Prop := fun u ra t =>
  va_at D vcl (LO a k ra n) t.heap ∧ va_at D vcl (RW ra u.1 u.2.1 u.2.2) t.heap ∧ va_K D vcl [(u.1, oO)] t ∧ H.size ≤ ra ∧ n < u.2.1 ∧ 2 ≤ u.2.1 ∧ u.2.1 ≤ 60000 ∧ ∀ j, j < n → u.2.2 j = g j
theorem lo_new {a n b b' : Nat} {k : Int32} : [LO a k b n].set 0 (a, .inr (10, ([.int k, .ref b, .int (nI n)] : List Value).set 1 (.ref b'))) = [LO a k b' n] := rfl
theorem lo_ty : ∀ k, k < 3 → parseFieldDescriptor (TJx4a65c k).2.2.1 = some (tyJx4a65c k) := by decide +kernel
theorem lo_nm : ∀ a, a < 3 → ∀ b, b < 3 → a ≠ b → (TJx4a65c a).2.1 ≠ (TJx4a65c b).2.1 := by decide +kernel
theorem lo_d0 : parseFieldDescriptor (TJx4a65c 0).2.2.1 = some .int := by decide +kernel
theorem lo_d1 : parseFieldDescriptor (TJx4a65c 1).2.2.1 = some (.array oO) := by decide +kernel
theorem lo_d2 : parseFieldDescriptor (TJx4a65c 2).2.2.1 = some .int := by decide +kernel
set_option maxHeartbeats 4000000 in
theorem k_GI {a b n : Nat} {k : Int32} {g : Nat → Option Nat} (hLO : va_at D vcl (LO a k b n) H) (hba : base ≤ a) (hbs : base ≤ H.size) (hG : Lg D base E0 tys a b n g H) (hel : ∀ j, j < n → ∀ y, g j = some y → El D (fun q => q = a ∨ q = b) H y) :
    JM l yGI cGI 4 (some (.array oO)) 5 1 (2 * n + 10) base E0 mi D tys H [.ref a, .int (nI (n + 1))] (va_Qr (S := ClassId × Nat × (Nat → Option Nat)) (fun _ => True) (Gp D H a k n g) (AX base a b H.size)) (AX base a b H.size) :=
  JM.mk (by decide) (Nat.le_of_ble_eq_true rfl) fun p e s m below meth c ls C hH hK hE hM0 hl => by
  obtain ⟨hx, hb, hml, hr, hown, hlk, hnm, hts⟩ := id C
  subst hH
  have hl : lv_has ls 4 [(0, .ref a), (1, .int (nI (n + 1)))] := hl
  have hAb : ∀ q, AX base a b s.heap.size q → base ≤ q := fun q h => by rcases h with z | z | z <;> omega
  have hA : ∀ q, s.heap.size ≤ q → AX base a b s.heap.size q := fun q h => Or.inr (Or.inr h)
  have hal : a < s.heap.size := hLO.lt
  refine lv_aload_n hx hb eGI_0 rfl (lv_at hl 0 rfl) ?_
  refine va_get hx hb hts lo_ws hown hK (P1 hLO) 0 rfl rfl 1 (by decide) (hts _ q_59) (fun _ h => h) rfl eGI_1 ?_
  rcases hG with ⟨rfl, hE0, rfl, rfl⟩ | ⟨hbb, hab, f, cO, rfl, hRW, hn2, hn4, hfg⟩
  · have hT := hE.2.2.2.2.2.2.1
    refine va_tlen (v := 0) hx hb hT (va_S.rf (A := fun q => base ≤ q)) rfl eGI_4 ?_
    refine lv_istore_n (lv' := [(2, .int 0), (0, .ref a), (1, .int (nI 1))]) hx hb eGI_5 rfl hl (by decide) rfl (fun ls hl => ?_)
    refine lv_iload_n hx hb eGI_6 rfl (lv_at hl 0 rfl) ?_
    refine lv_if_gt (tgt := 20) hx hb eGI_7 rfl (fun h => absurd h (by decide)) (fun _ => ?_)
    refine lv_aload_n hx hb eGI_10 rfl (lv_at hl 1 rfl) ?_
    refine va_get hx hb hts lo_ws hown hK (P1 hLO) 0 rfl rfl 1 (by decide) (hts _ q_59) (fun _ h => h) rfl eGI_11 ?_
    refine va_gets hx hb hE.2.2.2.2.2.1 (va_S.rf (A := fun q => base ≤ q)) hown (hts _ q_57) (fun _ h => h) eGI_14 ?_
    refine lv_acmp_eq (rx := some b) (ry := some b) (tgt := 45) hx hb eGI_17 rfl (fun _ => ?_) (fun h => absurd rfl h)
    refine lv_aload_n hx hb eGI_45 rfl (lv_at hl 1 rfl) ?_
    refine lv_bipush (v := 10) hx hb eGI_46 (by decide) ?_
    refine lv_iload_n hx hb eGI_48 rfl (lv_at hl 2 rfl) ?_
    refine va_mmax hx hb (by rw [hml]; exact hl.1.symm) hown (hts _ q_181) (hts _ q_136) (hts _ q_8) (hts _ q_137) (show 1 ≤ 5 by decide) (Nat.le_of_ble_eq_true rfl) (show 0 ≤ 1 by omega) (show 0 ≤ 2 * 0 + 10 by omega) eGI_49 ?_
    rw [show (if (10 : Int32) < nI 1 then nI 1 else 10) = 10 by decide]
    have hS : va_S (AX base a b s.heap.size) s.heap s.heap [] := va_S.rf
    refine va_newq (N' := 10) hx hb hown (hts _ q_182) hE.2.1 hK (P1 hLO) (D1 (Or.inl rfl)) hS hA (by decide) (by decide) (by decide) (show 0 + 1 ≤ 1 by omega) (show 0 + 10 ≤ 2 * 0 + 10 by omega) eGI_52 fun ra cA H1 hK1 hP1 hD1 hS1 => ?_
    have hP1 : va_P D vcl [LO a k b 0, RW ra cA 10 (fun _ => none)] H1 := hP1
    have hD1 : va_D (AX base a b s.heap.size) [LO a k b 0, RW ra cA 10 (fun _ => none)] := hD1
    have hne : a ≠ ra := fun z => by have := hD1.1 0 1 _ _ rfl rfl z; cases this
    have hra : s.heap.size ≤ ra := by
      rcases hD1.2 1 _ rfl with z | z | z
      · exact absurd z.symm hne
      · exact absurd z.1 (Nat.not_le.mpr hE0)
      · exact z
    refine lv_dup_x1 hx hb eGI_55 rfl rfl ?_
    refine va_put hx hb hts lo_ws _ lo_ty lo_nm hown hK1 hP1 hD1 hS1 0 rfl rfl 1 (by decide) (hts _ q_59) (fun _ h => h) rfl lo_d1 rfl rfl (Nat.le_of_ble_eq_true rfl) eGI_56 fun H2 locs2 hP2 hD2 hS2 => ?_
    have g1 : va_at D vcl (LO a k ra 0) H2 := hP2 0 _ rfl
    have g2 : va_at D vcl (RW ra cA 10 (fun _ => none)) H2 := hP2 1 _ rfl
    refine W.widen (k := 1) (n := 2 * 0 + 10) (by omega) (by omega) ?_
    exact W.aret hx hb hr (Or.inr ⟨_, rfl⟩) (Or.inr ⟨ra, rfl⟩) (fun t e1 e2 => ⟨⟨(cA, 10, fun _ => none), ra, rfl, trivial, by rw [e1]; exact g1, by rw [e1]; exact g2, va_K.moved e2.alike hK1, hra, show 0 < 10 by decide, show 2 ≤ 10 by decide, show 10 ≤ 60000 by decide, fun j hj => absurd hj (Nat.not_lt_zero _)⟩, hS2.F e1⟩) (fun q h => hS2.2.2 q h) eGI_59 hlk
  · refine va_alen (v := nI n) hx hb hK (P1 hRW) 0 0 rfl rfl rfl eGI_4 ?_
    refine lv_istore_n (lv' := [(2, .int (nI n)), (0, .ref a), (1, .int (nI (n + 1)))]) hx hb eGI_5 rfl hl (by decide) rfl (fun ls hl => ?_)
    refine lv_iload_n hx hb eGI_6 rfl (lv_at hl 0 rfl) ?_
    refine lv_if_gt (tgt := 20) hx hb eGI_7 rfl (fun _ => ?_) (fun h => absurd (nI_lt (a := 0) (by omega) (by omega)) h)
    refine lv_iload_n hx hb eGI_20 rfl (lv_at hl 0 rfl) ?_
    refine lv_iload_n hx hb eGI_21 rfl (lv_at hl 2 rfl) ?_
    refine lv_iload_n hx hb eGI_22 rfl (lv_at hl 0 rfl) ?_
    refine lv_isub hx hb eGI_23 ?_
    rw [pk_sub (a := n + 1) (b := n) (by omega), Nat.add_sub_cancel_left]
    refine lv_iload_n hx hb eGI_24 rfl (lv_at hl 0 rfl) ?_
    refine lv_iconst (v := 1) hx hb eGI_25 (by decide) ?_
    refine lv_ishr hx hb eGI_26 ?_
    have es : nI n >>> ((1 : Int32) &&& 31) = nI (n / 2) := by
      have k := pk_shrN (n := n) (by omega) ((1 : Int32) &&& 31) 1 (by decide)
      rw [Nat.pow_one] at k
      exact k
    rw [es]
    have el : nI n + (if nI 1 < nI (n / 2) then nI (n / 2) else nI 1) = nI (n + n / 2) := by
      by_cases c : 1 < n / 2
      · rw [if_pos (nI_lt c (by omega))]
        exact nI_add n (n / 2)
      · rw [if_neg (nI_nlt (by omega) (by decide))]
        have hd : n / 2 = 1 := by omega
        rw [hd]
        exact nI_add n 1
    have hS0 : va_S (AX base a b s.heap.size) s.heap s.heap [] := va_S.rf
    refine va_calli (jcallS (rest := []) C.fix (k_NL (H := s.heap) el (nI_lt (a := 0) (by omega) (by omega)) (nI_le (b := 2147483639) (by omega) (by decide))) jb_NL q_133 (show 2 + 1 ≤ 5 by decide) (show 100 * 2 + 30 ≤ 500 by decide) (A := AX base a b s.heap.size) hAb hK hE hM0 hS0 rfl hl.1 (by decide) eGI_27 ⟨show 0 + 0 ≤ 1 by omega, show 0 + 0 ≤ 2 * n + 10 by omega⟩ rfl) (A0 := AX base a b s.heap.size) hS0 (fun _ _ h => h.elim) (fun _ h => h.elim) fun r u t H1 locs1 e1 e2 e3 e4 e5 e6 hS => ?_
    have hH1 : H1 = s.heap := e1.symm.trans e4
    subst hH1
    subst e3
    refine lv_istore_n (lv' := [(3, .int (nI (n + n / 2))), (2, .int (nI n)), (0, .ref a), (1, .int (nI (n + 1)))]) hx hb eGI_30 rfl hl (by decide) rfl (fun ls hl => ?_)
    refine lv_aload_n hx hb eGI_31 rfl (lv_at hl 2 rfl) ?_
    refine lv_aload_n hx hb eGI_32 rfl (lv_at hl 2 rfl) ?_
    refine va_get hx hb hts lo_ws hown hK (P1 hLO) 0 rfl rfl 1 (by decide) (hts _ q_59) (fun _ h => h) rfl eGI_33 ?_
    refine lv_iload_n hx hb eGI_36 rfl (lv_at hl 0 rfl) ?_
    refine va_callr (jcallS (rest := [.ref a]) C.fix (k_CP2 (H := s.heap) (N := n + n / 2) (i3 := 0) hRW rfl (by omega) (by omega) hbb hbs (fun i hi y hy => by
      obtain ⟨z1, z2⟩ := hel i hi y ((hfg i hi).symm.trans hy)
      exact ⟨fun z => z1 (Or.inr z), z2⟩)) jb_CP2 q_143 (show 3 + 1 ≤ 5 by decide) (show 100 * 3 + 30 ≤ 500 by decide) (A := AX base a b s.heap.size) hAb hK hE hM0 hS rfl hl.1 (Nat.le_of_ble_eq_true rfl) eGI_37 ⟨show 0 + 0 + 1 ≤ 1 by omega, show 0 + 0 + (n + n / 2) ≤ 2 * n + 10 by omega⟩ rfl) (A0 := AX base a b s.heap.size) hS (fun q _ h => by
        rcases h with z | z | z
        · exact Or.inr (Or.inl ⟨hbb, z⟩)
        · exact Or.inr (Or.inl z)
        · exact Or.inr (Or.inr z)) (fun q h => by
        rcases h with z | z | z
        · exact Or.inr (Or.inl ⟨hbb, z⟩)
        · exact Or.inr (Or.inl z)
        · exact Or.inr (Or.inr z)) fun cA ra t2 H2 locs2 f1 f2 f3 f4 f5 f6 hS2 => ?_
    obtain ⟨g1, g2, g3, g4⟩ := f4
    rw [f1] at g1 g2
    have gK : va_K D vcl [(cA, oO)] s := va_K.moved f2.symm g3
    have gLO : va_at D vcl (LO a k b n) H2 := hLO.kept (f6 a hal fun z => by rcases z with z | z | z <;> omega)
    have hne : a ≠ ra := by omega
    refine lv_dup_x1 hx hb eGI_40 rfl rfl ?_
    refine va_put hx hb hts lo_ws _ lo_ty lo_nm hown gK (P2 gLO g2) (D2 hne (Or.inl rfl) (hA _ g4)) hS2 0 rfl rfl 1 (by decide) (hts _ q_59) (fun _ h => h) rfl lo_d1 rfl rfl (Nat.le_of_ble_eq_true rfl) eGI_41 fun H3 locs3 hP3 hD3 hS3 => ?_
    have k1 : va_at D vcl (LO a k ra n) H3 := hP3 0 _ rfl
    have k2 : va_at D vcl (RW ra cA (n + n / 2) (va_cpy f (fun _ => none) 0 0 n)) H3 := hP3 1 _ rfl
    refine W.widen (k := 1) (n := 2 * n + 10) (by omega) (by omega) ?_
    exact W.aret hx hb hr (Or.inr ⟨_, rfl⟩) (Or.inr ⟨ra, rfl⟩) (fun t e1 e2 => ⟨⟨(cA, n + n / 2, va_cpy f (fun _ => none) 0 0 n), ra, rfl, trivial, by rw [e1]; exact k1, by rw [e1]; exact k2, va_K.moved e2.alike gK, g4, show n < n + n / 2 by omega, show 2 ≤ n + n / 2 by omega, show n + n / 2 ≤ 60000 by omega, fun j hj => by
      show va_cpy f (fun _ => none) 0 0 n j = g j
      unfold va_cpy
      rw [if_pos ⟨Nat.zero_le _, by omega⟩, Nat.zero_add, Nat.sub_zero]
      exact hfg j hj⟩, hS3.F e1⟩) (fun q h => hS3.2.2 q h) eGI_44 hlk
theorem jb_GI : JB "java/util/ArrayList" 69 yGI cGI 4 (some (.array oO)) 1 := ⟨q_128, q_4, q_131, by decide, by decide +kernel, by decide⟩
theorem jb_GR : JB "java/util/ArrayList" 129 yGR cGR 1 (some (.array oO)) 0 := ⟨q_124, q_4, q_127, by decide, by decide +kernel, by decide⟩
set_option maxHeartbeats 4000000 in
theorem k_GR {a b n : Nat} {k : Int32} {g : Nat → Option Nat} (hLO : va_at D vcl (LO a k b n) H) (hba : base ≤ a) (hbs : base ≤ H.size) (hG : Lg D base E0 tys a b n g H) (hel : ∀ j, j < n → ∀ y, g j = some y → El D (fun q => q = a ∨ q = b) H y) :
    JM l yGR cGR 1 (some (.array oO)) 6 1 (2 * n + 10) base E0 mi D tys H [.ref a] (va_Qr (S := ClassId × Nat × (Nat → Option Nat)) (fun _ => True) (Gp D H a k n g) (AX base a b H.size)) (AX base a b H.size) :=
  JM.mk (by decide) (Nat.le_of_ble_eq_true rfl) fun p e s m below meth c ls C hH hK hE hM0 hl => by
  obtain ⟨hx, hb, hml, hr, hown, hlk, hnm, hts⟩ := id C
  subst hH
  have hl : lv_has ls 1 [(0, .ref a)] := hl
  have hAb : ∀ q, AX base a b s.heap.size q → base ≤ q := fun q h => by rcases h with z | z | z <;> omega
  refine lv_aload_n hx hb eGR_0 rfl (lv_at hl 0 rfl) ?_
  refine lv_aload_n hx hb eGR_1 rfl (lv_at hl 0 rfl) ?_
  refine va_get hx hb hts lo_ws hown hK (P1 hLO) 0 rfl rfl 2 (by decide) (hts _ q_60) (fun _ h => h) rfl eGR_2 ?_
  refine lv_iconst (v := 1) hx hb eGR_5 (by decide) ?_
  refine lv_iadd hx hb eGR_6 ?_
  rw [nI_1]
  refine va_callr (jcallV (rest := []) C.fix (k_GI (H := s.heap) hLO hba hbs hG hel) jb_GI q_130 p_2 (show 5 + 1 ≤ 6 by decide) (show 100 * 5 + 30 ≤ 600 by decide) (A := AX base a b s.heap.size) hAb hK hE hM0 va_S.rf (va_recv hK (P1 hLO) (q0 := 0) rfl rfl) rfl hl.1 (by decide) eGR_7 ⟨show 0 + 1 ≤ 1 by omega, show 0 + (2 * n + 10) ≤ 2 * n + 10 by omega⟩ rfl) (A0 := AX base a b s.heap.size) va_S.rf (fun _ _ h => h) (fun _ h => h) fun u ra t H1 locs1 e1 e2 e3 e4 e5 e6 hS => ?_
  obtain ⟨g1, g2, g3, g4, g5⟩ := e4
  rw [e1] at g1 g2
  have gK : va_K D vcl [(u.1, oO)] s := va_K.moved e2.symm g3
  refine W.widen (k := 1) (n := 2 * n + 10) (by omega) (by omega) ?_
  exact W.aret hx hb hr (Or.inr ⟨_, rfl⟩) (Or.inr ⟨ra, rfl⟩) (fun t e1 e2 => ⟨⟨u, ra, rfl, trivial, by rw [e1]; exact g1, by rw [e1]; exact g2, va_K.moved e2.alike gK, g4, g5⟩, hS.F e1⟩) (fun q h => hS.2.2 q h) eGR_10 hlk
end JG
