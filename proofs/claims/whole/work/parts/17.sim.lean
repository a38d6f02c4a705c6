/-! the small machine's runs are the JVM's -/
set_option maxRecDepth 100000 in
set_option maxHeartbeats 4000000 in
theorem mt_all : ((mtab.zip (mclt.zip mfct)).take 216).all okM = true := by decide +kernel
set_option maxRecDepth 100000 in
set_option maxHeartbeats 4000000 in
theorem mt_app : mtab.take 216 = mtab_0 ++ (mtab_1 ++ (mtab_2 ++ (mtab_3 ++ (mtab_4 ++ (mtab_5 ++ (mtab_6 ++ (mtab_7 ++ mtab_8))))))) := rfl
theorem mt_words : ∀ r ∈ mtab.take 216, mword r ∈ lw_tbl := by
  intro r hr
  rw [mt_app] at hr
  simp only [List.mem_append] at hr
  rcases hr with h | h | h | h | h | h | h | h | h
  · exact mc_0 r h
  · exact mc_1 r h
  · exact mc_2 r h
  · exact mc_3 r h
  · exact mc_4 r h
  · exact mc_5 r h
  · exact mc_6 r h
  · exact mc_7 r h
  · exact mc_8 r h
theorem mword_good (r : MRow) : goodWord (mword r) = true := by
  obtain ⟨a, b, c, d, hh⟩ := r
  cases hh <;> rfl
/-- what the tables say of a method -/
theorem mt_spec {y : Nat} {r : MRow} (hr : mrow y = some r) (hy : y < 216) : ∃ f, mfct[y]? = some f ∧ mword r ∈ WS ∧ r.1.cls = cnm (mcl y) ∧ mcl y < 11 ∧ (if f.2.1 = 0 then Cond.static r.1 else Cond.instanceMethod r.1) ∈ WS ∧ Cond.initialized r.1.cls ∈ WS ∧ (f.2.1 = 2 → Cond.selects r.1.cls r.1 r.1 ∈ WS) ∧ (f.2.1 = 1 → r.1.name = "<init>" ∧ r.2.2.2.1 = none) ∧ (parseMethodDescriptor r.1.desc).map (fun d => d.parameters.length) = some f.2.2.2.2.2 ∧ plainName r.1.cls = true ∧ f.2.1 ≤ 2 ∧ r.2.2.1 ≤ 20 ∧ (r.1.cls ≠ "java/lang/invoke/MethodHandle" ∧ r.1.cls ≠ "java/lang/invoke/VarHandle") := by
  have hr' : mtab[y]? = some r := hr
  have l1 : y < mclt.length := by rw [mt_len.2.1]; omega
  have l2 : y < mfct.length := by rw [mt_len.2.2]; omega
  obtain ⟨f, hf⟩ : ∃ f, mfct[y]? = some f := ⟨_, List.getElem?_eq_getElem l2⟩
  have ho : mclt[y]? = some (mcl y) := by
    unfold mcl
    rw [List.getD_eq_getElem?_getD, List.getElem?_eq_getElem l1]
    rfl
  have hz : (mtab.zip (mclt.zip mfct))[y]? = some (r, mcl y, f) := List.getElem?_zip_eq_some.mpr ⟨hr', List.getElem?_zip_eq_some.mpr ⟨ho, hf⟩⟩
  have hz2 : ((mtab.zip (mclt.zip mfct)).take 216)[y]? = some (r, mcl y, f) := by rw [List.getElem?_take_of_lt hy]; exact hz
  have h1 := List.all_eq_true.mp mt_all _ (List.mem_of_getElem? hz2)
  have hw : mword r ∈ lw_tbl := mt_words r (List.mem_of_getElem? (i := y) (by rw [List.getElem?_take_of_lt hy]; exact hr'))
  obtain ⟨pc, kd, pk, pi, ps, n⟩ := f
  simp only [okM, Bool.and_eq_true, decide_eq_true_eq, Bool.or_eq_true, bne_iff_ne, ne_eq] at h1
  obtain ⟨⟨⟨⟨⟨⟨⟨⟨⟨g1, g2⟩, g3⟩, g4⟩, g5⟩, g6⟩, g7⟩, g8⟩, g9⟩, g10⟩ := h1
  refine ⟨(pc, kd, pk, pi, ps, n), hf, List.mem_filter.mpr ⟨hw, mword_good r⟩, g1, g2, ws_of g3 (by dsimp only; split <;> rfl), ws_of g4 rfl, fun e => ws_of (g5.resolve_left (fun z => z e)) rfl, fun e => g6.resolve_left (fun z => z e), g7, g8, g9, g10, ?_⟩
  have hn : ∀ o, o < 11 → cnm o ≠ "java/lang/invoke/MethodHandle" ∧ cnm o ≠ "java/lang/invoke/VarHandle" := by decide
  rw [g1]
  exact hn _ g2
theorem ml_spec {o idx y2 : Nat} {r : MRow} (h : ml o idx = some y2) (hr : mrow y2 = some r) : Cond.methodLink (cnm o) idx r.1 ∈ WS := by
  unfold ml at h
  obtain ⟨q, h1, rfl⟩ := omap_inv h
  have h2 := List.find?_some h1
  have h3 := List.all_eq_true.mp ml_ok q (List.mem_of_find?_eq_some h1)
  obtain ⟨a, b, c, d⟩ := q
  simp only [Bool.and_eq_true, beq_iff_eq] at h2
  obtain ⟨rfl, rfl⟩ := h2
  have hr' : mtab[c]? = some r := hr
  simp only [okL, hr', decide_eq_true_eq] at h3
  exact ws_of h3 rfl
theorem ml_lt {o idx y2 : Nat} (h : ml o idx = some y2) : y2 < 216 := by
  have hm : ∀ q ∈ mltab, q.2.2.1 < 216 := by decide +kernel
  unfold ml at h
  obtain ⟨q, h1, rfl⟩ := omap_inv h
  exact hm q (List.mem_of_find?_eq_some h1)
theorem exl_spec {o idx E : Nat} (h : exl o idx = some E) : Cond.classLink (cnm o) idx (exnm E) ∈ WS ∧ E < 6 := by
  unfold exl at h
  obtain ⟨q, h1, rfl⟩ := omap_inv h
  have h2 := List.find?_some h1
  have h3 := List.all_eq_true.mp ex_ok q (List.mem_of_find?_eq_some h1)
  obtain ⟨a, b, c, d⟩ := q
  simp only [Bool.and_eq_true, beq_iff_eq] at h2
  obtain ⟨rfl, rfl⟩ := h2
  simp only [Bool.and_eq_true, decide_eq_true_eq] at h3
  exact ⟨ws_of h3.1 rfl, h3.2⟩
/-- the rows of the tables of handlers name exceptions that are known -/
theorem hh_ok : (mtab.zip mclt).all (fun q => q.1.2.2.2.2.all (fun x => (exl q.2 x.2.2.2).isSome && decide (x.2.2.2 ≠ 0))) = true := by decide +kernel
set_option maxRecDepth 100000 in
theorem cast_ok : (List.range 6).all (fun E => decide (Cond.castable (exnm E) (exnm E) ∈ lw_tbl)) = true := by decide +kernel
