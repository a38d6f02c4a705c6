/-! the JDK's lists: what only reads -/
def NoA : Nat → Prop := fun _ => False
section JI
variable {l : Launch} {base E0 mi : Nat} {D : va_G} {tys : List (ClassId × FieldType)} {H : Heap}
theorem k_CI3 {x n : Int32} (h0 : ¬ x < 0) (h1 : x < n) : JM l yCI3 cCI3 3 (some .int) 1 0 0 base E0 mi D tys H [.int x, .int n, .null] (va_Qi (S := Unit) (fun r _ => r = x) (fun _ t => t.heap = H) NoA) NoA :=
  JM.mk (by decide) (Nat.le_of_ble_eq_true rfl) fun p e s m below meth c ls C hH hK hE hM0 hl => by
  obtain ⟨hx, hb, hml, hr, hown, hlk, hnm, hts⟩ := C
  have hl : lv_has ls 3 [(0, .int x), (1, .int n), (2, .null)] := hl
  refine lv_iload_n hx hb eCI3_0 rfl (lv_at hl 0 rfl) ?_
  refine lv_if_lt (tgt := 9) hx hb eCI3_1 rfl (fun h => absurd h h0) (fun _ => ?_)
  refine lv_iload_n hx hb eCI3_4 rfl (lv_at hl 0 rfl) ?_
  refine lv_iload_n hx hb eCI3_5 rfl (lv_at hl 1 rfl) ?_
  refine lv_icmp_lt (tgt := 16) hx hb eCI3_6 rfl (fun _ => ?_) (fun h => absurd h1 h)
  refine lv_iload_n hx hb eCI3_16 rfl (lv_at hl 0 rfl) ?_
  exact W.iret hx hb hr (fun t e1 e2 => ⟨⟨x, (), rfl, rfl, e1.trans hH⟩, va_S.rf.F e1⟩) (fun _ h => nomatch h) eCI3_17 hlk
theorem jb_CI3 : JB "java/util/Objects" 105 yCI3 cCI3 3 (some .int) 3 := ⟨q_231, q_17, q_233, by decide, by decide +kernel, by decide⟩
theorem k_CI2 {x n : Int32} (h0 : ¬ x < 0) (h1 : x < n) : JM l yCI2 cCI2 2 (some .int) 2 0 0 base E0 mi D tys H [.int x, .int n] (va_Qi (S := Unit) (fun r _ => r = x) (fun _ t => t.heap = H) NoA) NoA :=
  JM.mk (by decide) (Nat.le_of_ble_eq_true rfl) fun p e s m below meth c ls C hH hK hE hM0 hl => by
  obtain ⟨hx, hb, hml, hr, hown, hlk, hnm, hts⟩ := id C
  have hl : lv_has ls 2 [(0, .int x), (1, .int n)] := hl
  refine lv_iload_n hx hb eCI2_0 rfl (lv_at hl 0 rfl) ?_
  refine lv_iload_n hx hb eCI2_1 rfl (lv_at hl 1 rfl) ?_
  refine lv_null hx hb eCI2_2 ?_
  refine va_calli (jcallS (rest := []) C.fix (k_CI3 (H := s.heap) h0 h1) jb_CI3 q_232 (by decide) (by decide) (A := NoA) (fun q h => h.elim) hK hE hM0 va_S.rf rfl hl.1 (by decide) eCI2_3 ⟨by decide, by decide⟩ rfl) (A0 := NoA) va_S.rf (fun _ _ h => h) (fun _ h => h) fun r u t H1 locs1 e1 e2 e3 e4 e5 e6 hS => ?_
  subst e3
  have hH1 : H1 = s.heap := e1.symm.trans e4
  subst hH1
  exact W.iret hx hb hr (fun t e1 e2 => ⟨⟨_, (), rfl, rfl, e1.trans hH⟩, hS.F e1⟩) (fun q h => hS.2.2 q h) eCI2_6 hlk
theorem k_NL {o g f r : Int32} (h1 : o + (if g < f then f else g) = r) (h2 : 0 < r) (h3 : r ≤ 2147483639) : JM l yNL cNL 4 (some .int) 2 0 0 base E0 mi D tys H [.int o, .int g, .int f] (va_Qi (S := Unit) (fun v _ => v = r) (fun _ t => t.heap = H) NoA) NoA :=
  JM.mk (by decide) (Nat.le_of_ble_eq_true rfl) fun p e s m below meth c ls C hH hK hE hM0 hl => by
  obtain ⟨hx, hb, hml, hr, hown, hlk, hnm, hts⟩ := id C
  have hl : lv_has ls 4 [(0, .int o), (1, .int g), (2, .int f)] := hl
  refine lv_iload_n hx hb eNL_0 rfl (lv_at hl 0 rfl) ?_
  refine lv_iload_n hx hb eNL_1 rfl (lv_at hl 1 rfl) ?_
  refine lv_iload_n hx hb eNL_2 rfl (lv_at hl 2 rfl) ?_
  refine va_mmax hx hb (by rw [hml]; exact hl.1.symm) hown (hts _ q_135) (hts _ q_136) (hts _ q_8) (hts _ q_137) (by decide) (Nat.le_of_ble_eq_true rfl) (by decide) (by decide) eNL_3 ?_
  refine lv_iadd hx hb eNL_6 ?_
  rw [h1]
  refine lv_istore_n (lv' := [(3, .int r), (0, .int o), (1, .int g), (2, .int f)]) hx hb eNL_7 rfl hl (by decide) rfl (fun ls hl => ?_)
  refine lv_iconst (v := 0) hx hb eNL_8 (by decide) ?_
  refine lv_iload_n hx hb eNL_9 rfl (lv_at hl 0 rfl) ?_
  refine lv_icmp_ge (tgt := 21) hx hb eNL_10 rfl (fun h => absurd h2 (Int32.not_lt.mpr h)) (fun _ => ?_)
  refine lv_iload_n hx hb eNL_13 rfl (lv_at hl 0 rfl) ?_
  refine lv_ldc hx hb hown (hts _ q_138) eNL_14 ?_
  refine lv_icmp_gt (tgt := 21) hx hb eNL_16 rfl (fun h => absurd h3 (Int32.not_le.mpr h)) (fun _ => ?_)
  refine lv_iload_n hx hb eNL_19 rfl (lv_at hl 0 rfl) ?_
  exact W.iret hx hb hr (fun t e1 e2 => ⟨⟨r, (), rfl, rfl, e1.trans hH⟩, va_S.rf.F e1⟩) (fun _ h => nomatch h) eNL_20 hlk
theorem jb_NL : JB "java/util/ArrayList" 73 yNL cNL 4 (some .int) 3 := ⟨q_132, q_7, q_134, by decide, by decide +kernel, by decide⟩
theorem jb_CI2 : JB "java/util/ArrayList" 118 yCI2 cCI2 2 (some .int) 2 := ⟨q_228, q_16, q_230, by decide, by decide +kernel, by decide⟩
/-- the list's object: its counter, its row, its size -/
abbrev LO (a : Nat) (k : Int32) (b n : Nat) : Nat × va_E := (a, .inr (10, [.int k, .ref b, .int (nI n)]))
abbrev RW (b : Nat) (cO : ClassId) (cap : Nat) (f : Nat → Option Nat) : Nat × va_E := (b, .inl (cO, cap, .inr (.inr (.inr (.inr f)))))
theorem lo_ws : ∀ w ∈ u_ws RJx4a65c TJx4a65c 3, w ∈ WS := vcl_ws (ci := 10) rfl
theorem k_SZ {a b n : Nat} {k : Int32} {ws : va_W} (hP : va_P D vcl ws H) {i : Nat} (hi : ws[i]? = some (LO a k b n)) : JM l ySZ cSZ 1 (some .int) 1 0 0 base E0 mi D tys H [.ref a] (va_Qi (S := Unit) (fun v _ => v = nI n) (fun _ t => t.heap = H) NoA) NoA :=
  JM.mk (by decide) (Nat.le_of_ble_eq_true rfl) fun p e s m below meth c ls C hH hK hE hM0 hl => by
  obtain ⟨hx, hb, hml, hr, hown, hlk, hnm, hts⟩ := id C
  subst hH
  have hl : lv_has ls 1 [(0, .ref a)] := hl
  refine lv_aload_n hx hb eSZ_0 rfl (lv_at hl 0 rfl) ?_
  refine va_get hx hb hts lo_ws hown hK hP i hi rfl 2 (by decide) (hts _ q_60) (fun _ h => h) rfl eSZ_1 ?_
  exact W.iret hx hb hr (fun t e1 e2 => ⟨⟨_, (), rfl, rfl, e1⟩, va_S.rf.F e1⟩) (fun _ h => nomatch h) eSZ_4 hlk
theorem k_ED {a b n cap j : Nat} {k : Int32} {cO : ClassId} {f : Nat → Option Nat} {ws : va_W} (hP : va_P D vcl ws H) {i i2 i3 : Nat} (hi : ws[i]? = some (LO a k b n)) (hi2 : ws[i2]? = some (RW b cO cap f)) (hi3 : tys[i3]? = some (cO, .object "java/lang/Object")) (hj : j < cap) (hc : cap < 2 ^ 31) : JM l yED cED 2 (some (.object "java/lang/Object")) 1 0 0 base E0 mi D tys H [.ref a, .int (nI j)] (va_Qq (S := Unit) (fun v _ => v = f j) (fun _ t => t.heap = H) NoA) NoA :=
  JM.mk (by decide) (Nat.le_of_ble_eq_true rfl) fun p e s m below meth c ls C hH hK hE hM0 hl => by
  obtain ⟨hx, hb, hml, hr, hown, hlk, hnm, hts⟩ := id C
  subst hH
  have hl : lv_has ls 2 [(0, .ref a), (1, .int (nI j))] := hl
  refine lv_aload_n hx hb eED_0 rfl (lv_at hl 0 rfl) ?_
  refine va_get hx hb hts lo_ws hown hK hP i hi rfl 1 (by decide) (hts _ q_59) (fun _ h => h) rfl eED_1 ?_
  refine lv_iload_n hx hb eED_4 rfl (lv_at hl 1 rfl) ?_
  refine va_aldq hx hb hK hP i2 i3 hi2 hi3 (vp_in_nI hj hc) eED_5 ?_
  rw [nI_clamp (by omega)]
  exact W.aret hx hb hr (Or.inl ⟨_, rfl⟩) (va_rf_or _) (fun t e1 e2 => ⟨⟨_, (), rfl, rfl, e1⟩, va_S.rf.F e1⟩) (fun _ h => nomatch h) eED_6 hlk
theorem jb_ED : JB "java/util/ArrayList" 123 yED cED 2 (some (.object "java/lang/Object")) 1 := ⟨q_234, q_4, q_237, by decide, by decide +kernel, by decide⟩
theorem k_GT {a b n cap j : Nat} {k : Int32} {cO : ClassId} {f : Nat → Option Nat} {ws : va_W} (hP : va_P D vcl ws H) {i i2 i3 : Nat} (hi : ws[i]? = some (LO a k b n)) (hi2 : ws[i2]? = some (RW b cO cap f)) (hi3 : tys[i3]? = some (cO, .object "java/lang/Object")) (hj : j < n) (hn : n ≤ cap) (hc : cap < 2 ^ 31) : JM l yGT cGT 2 (some (.object "java/lang/Object")) 3 0 0 base E0 mi D tys H [.ref a, .int (nI j)] (va_Qq (S := Unit) (fun v _ => v = f j) (fun _ t => t.heap = H) NoA) NoA :=
  JM.mk (by decide) (Nat.le_of_ble_eq_true rfl) fun p e s m below meth c ls C hH hK hE hM0 hl => by
  obtain ⟨hx, hb, hml, hr, hown, hlk, hnm, hts⟩ := id C
  subst hH
  have hl : lv_has ls 2 [(0, .ref a), (1, .int (nI j))] := hl
  refine lv_iload_n hx hb eGT_0 rfl (lv_at hl 1 rfl) ?_
  refine lv_aload_n hx hb eGT_1 rfl (lv_at hl 0 rfl) ?_
  refine va_get hx hb hts lo_ws hown hK hP i hi rfl 2 (by decide) (hts _ q_60) (fun _ h => h) rfl eGT_2 ?_
  refine va_calli (jcallS (rest := []) C.fix (k_CI2 (H := s.heap) (nI_pos (by omega)) (nI_lt hj (by omega))) jb_CI2 q_229 (by decide) (by decide) (A := NoA) (fun q h => h.elim) hK hE hM0 va_S.rf rfl hl.1 (by decide) eGT_5 ⟨by decide, by decide⟩ rfl) (A0 := NoA) va_S.rf (fun _ _ h => h) (fun _ h => h) fun r u t H1 locs1 e1 e2 e3 e4 e5 e6 hS => ?_
  have hH1 : H1 = s.heap := e1.symm.trans e4
  subst hH1
  refine lv_pop hx hb eGT_8 rfl ?_
  refine lv_aload_n hx hb eGT_9 rfl (lv_at hl 0 rfl) ?_
  refine lv_iload_n hx hb eGT_10 rfl (lv_at hl 1 rfl) ?_
  refine va_callq (jcallV (rest := []) C.fix (k_ED (H := s.heap) hP hi hi2 hi3 (by omega) hc) jb_ED q_235 q_236 (by decide) (by decide) (A := NoA) (fun q h => h.elim) hK hE hM0 hS (va_recv hK hP rfl hi) rfl hl.1 (by decide) eGT_11 ⟨by decide, by decide⟩ rfl) (A0 := NoA) hS (fun _ _ h => h) (fun _ h => h) fun r2 u2 t2 H2 locs2 g1 g2 g3 g4 g5 g6 hS2 => ?_
  have hH2 : H2 = s.heap := g1.symm.trans g4
  subst hH2
  subst g3
  exact W.aret hx hb hr (Or.inl ⟨_, rfl⟩) (va_rf_or _) (fun t e1 e2 => ⟨⟨_, (), rfl, rfl, e1⟩, hS2.F e1⟩) (fun q h => hS2.2.2 q h) eGT_14 hlk
theorem k_RC {a b n j : Nat} {k : Int32} {ws : va_W} (hP : va_P D vcl ws H) {i : Nat} (hi : ws[i]? = some (LO a k b n)) (hj : j ≤ n) (hn : n < 2 ^ 31) : JM l yRC cRC 2 none 1 0 0 base E0 mi D tys H [.ref a, .int (nI j)] (va_Qv (S := Unit) (fun _ => True) (fun _ t => t.heap = H) NoA) NoA :=
  JM.mk (by decide) (Nat.le_of_ble_eq_true rfl) fun p e s m below meth c ls C hH hK hE hM0 hl => by
  obtain ⟨hx, hb, hml, hr, hown, hlk, hnm, hts⟩ := id C
  subst hH
  have hl : lv_has ls 2 [(0, .ref a), (1, .int (nI j))] := hl
  refine lv_iload_n hx hb eRC_0 rfl (lv_at hl 1 rfl) ?_
  refine lv_aload_n hx hb eRC_1 rfl (lv_at hl 0 rfl) ?_
  refine va_get hx hb hts lo_ws hown hK hP i hi rfl 2 (by decide) (hts _ q_60) (fun _ h => h) rfl eRC_2 ?_
  refine lv_icmp_gt (tgt := 12) hx hb eRC_5 rfl (fun h => absurd h (nI_nlt hj hn)) (fun _ => ?_)
  refine lv_iload_n hx hb eRC_8 rfl (lv_at hl 1 rfl) ?_
  refine lv_if_ge (tgt := 25) hx hb eRC_9 rfl (fun _ => ?_) (fun h => absurd (nI_pos' (by omega)) h)
  exact W.vret hx hb hr (fun t e1 e2 => ⟨⟨(), rfl, trivial, e1⟩, va_S.rf.F e1⟩) (fun _ h => nomatch h) eRC_25 hlk
end JI
