/-! what the tables of entries say, as words that hold; then the instructions that read -/
theorem ws_of {w : Cond} {i : Nat} (h : lw_tbl[i]? = some w) (hg : goodWord w = true) : w ∈ WS := List.mem_filter.mpr ⟨List.mem_of_getElem? h, hg⟩
theorem fl_spec {o idx : Nat} {z : Nat × Nat} (h : fl o idx = some z) : Cond.fieldLink (cnm o) idx (fT z.1 z.2).1 (fT z.1 z.2).2.1 (fT z.1 z.2).2.2.1 ∈ WS ∧ z.2 < fN z.1 ∧ z.1 < 10 := by
  unfold fl at h
  obtain ⟨q, h1, rfl⟩ := omap_inv h
  have h2 := List.find?_some h1
  have h3 := List.all_eq_true.mp fl_ok q (List.mem_of_find?_eq_some h1)
  obtain ⟨a, b, c, d, e⟩ := q
  simp only [Bool.and_eq_true, beq_iff_eq] at h2
  obtain ⟨rfl, rfl⟩ := h2
  simp only [okF, Bool.and_eq_true, decide_eq_true_eq] at h3
  exact ⟨ws_of h3.1.1 rfl, h3.1.2, h3.2⟩
theorem cl_spec {o idx c : Nat} (h : cl o idx = some c) : Cond.classLink (cnm o) idx (cnm c) ∈ WS := by
  unfold cl at h
  obtain ⟨q, h1, rfl⟩ := omap_inv h
  have h2 := List.find?_some h1
  have h3 := List.all_eq_true.mp cl_ok q (List.mem_of_find?_eq_some h1)
  obtain ⟨a, b, c, d⟩ := q
  simp only [Bool.and_eq_true, beq_iff_eq] at h2
  obtain ⟨rfl, rfl⟩ := h2
  simp only [okC, decide_eq_true_eq] at h3
  have e : (if c = 11 then 11 else c) = c := by split <;> simp_all
  rw [e] at h3
  exact ws_of h3 rfl
theorem co_spec {o idx : Nat} {v : Int32} (h : co o idx = some v) : Cond.constant (cnm o) idx v ∈ WS := by
  unfold co at h
  obtain ⟨q, h1, rfl⟩ := omap_inv h
  have h2 := List.find?_some h1
  have h3 := List.all_eq_true.mp co_ok q (List.mem_of_find?_eq_some h1)
  obtain ⟨a, b, c, d⟩ := q
  simp only [Bool.and_eq_true, beq_iff_eq] at h2
  obtain ⟨rfl, rfl⟩ := h2
  simp only [decide_eq_true_eq] at h3
  exact ws_of h3 rfl
theorem coL_spec {o idx : Nat} {v : Int64} (h : coL o idx = some v) : Cond.constantLong (cnm o) idx v ∈ WS := by
  unfold coL at h
  obtain ⟨q, h1, rfl⟩ := omap_inv h
  have h2 := List.find?_some h1
  have h3 := List.all_eq_true.mp coL_ok q (List.mem_of_find?_eq_some h1)
  obtain ⟨a, b, c, d⟩ := q
  simp only [Bool.and_eq_true, beq_iff_eq] at h2
  obtain ⟨rfl, rfl⟩ := h2
  simp only [decide_eq_true_eq] at h3
  exact ws_of h3 rfl
theorem coF_spec {o idx : Nat} {v : UInt32} (h : coF o idx = some v) : Cond.constantFloat (cnm o) idx v ∈ WS := by
  unfold coF at h
  obtain ⟨q, h1, rfl⟩ := omap_inv h
  have h2 := List.find?_some h1
  have h3 := List.all_eq_true.mp coF_ok q (List.mem_of_find?_eq_some h1)
  obtain ⟨a, b, c, d⟩ := q
  simp only [Bool.and_eq_true, beq_iff_eq] at h2
  obtain ⟨rfl, rfl⟩ := h2
  simp only [decide_eq_true_eq] at h3
  exact ws_of h3 rfl
set_option maxRecDepth 100000 in
set_option maxHeartbeats 4000000 in
theorem vcl_all : (vcl.all (fun q => (u_ws q.1 q.2.1 q.2.2).all (fun w => goodWord w && decide (w ∈ lw_tbl)))) = true := by decide +kernel
theorem vcl_ws {ci : Nat} {q : vw_C} (h : vcl[ci]? = some q) : ∀ w ∈ u_ws q.1 q.2.1 q.2.2, w ∈ WS := fun w hw => by
  have h1 := List.all_eq_true.mp (List.all_eq_true.mp vcl_all q (List.mem_of_getElem? h)) w hw
  simp only [Bool.and_eq_true, decide_eq_true_eq] at h1
  exact List.mem_filter.mpr ⟨h1.2, h1.1⟩
theorem vcl_zip : ∀ q ∈ vcl.zip vtys, (∀ k, k < q.1.2.2 → parseFieldDescriptor (q.1.2.1 k).2.2.1 = some (q.2 k)) ∧ (∀ a, a < q.1.2.2 → ∀ b, b < q.1.2.2 → a ≠ b → (q.1.2.1 a).2.1 ≠ (q.1.2.1 b).2.1) := by
  intro q hq
  simp only [vcl, vtys, List.zip_cons_cons, List.zip_nil_right, List.mem_cons, List.not_mem_nil, or_false] at hq
  rcases hq with rfl | rfl | rfl | rfl | rfl | rfl | rfl | rfl | rfl | rfl | rfl
  · exact ⟨tyX0_ok, nmX0⟩
  · exact ⟨tyX1_ok, nmX1⟩
  · exact ⟨tyX2_ok, nmX2⟩
  · exact ⟨tyX3_ok, nmX3⟩
  · exact ⟨tyX4_ok, nmX4⟩
  · exact ⟨tyX5_ok, nmX5⟩
  · exact ⟨tyX6_ok, nmX6⟩
  · exact ⟨tyX7_ok, nmX7⟩
  · exact ⟨tyX8_ok, nmX8⟩
  · exact ⟨tyX9_ok, nmX9⟩
  · exact ⟨tyJx4a65c_ok, nmJx4a65c⟩
theorem vcl_at {ci : Nat} (h : ci < 11) : ∃ q, vcl[ci]? = some q ∧ (∀ k, q.2.1 k = fT ci k) ∧ q.2.2 = fN ci ∧ (ci < 10 → q.1 = cnm ci) ∧ (q, vtys.getD ci (fun _ => .int)) ∈ vcl.zip vtys := by
  have hl : vcl.length = 11 := rfl
  obtain ⟨q, hq⟩ : ∃ q, vcl[ci]? = some q := ⟨_, List.getElem?_eq_getElem (by rw [hl]; exact h)⟩
  refine ⟨q, hq, ?_, ?_, ?_, ?_⟩
  · intro k; unfold fT; rw [hq]
  · unfold fN; rw [hq]
  · intro h2
    match ci, h2 with
    | 0, _ => cases hq; rfl
    | 1, _ => cases hq; rfl
    | 2, _ => cases hq; rfl
    | 3, _ => cases hq; rfl
    | 4, _ => cases hq; rfl
    | 5, _ => cases hq; rfl
    | 6, _ => cases hq; rfl
    | 7, _ => cases hq; rfl
    | 8, _ => cases hq; rfl
    | 9, _ => cases hq; rfl
    | n + 10, h2 => omega
  · have hl2 : vtys.length = 11 := rfl
    obtain ⟨t, ht⟩ : ∃ t, vtys[ci]? = some t := ⟨_, List.getElem?_eq_getElem (by rw [hl2]; exact h)⟩
    have hz : (vcl.zip vtys)[ci]? = some (q, t) := List.getElem?_zip_eq_some.mpr ⟨hq, ht⟩
    rw [List.getD_eq_getElem?_getD, ht]
    exact List.mem_of_getElem? hz
/-- where a method of the tables stands: its row, the machine, its code, its class, the words -/
def Ctx (y : Nat) (p : Program) (s : State) (m : MethodId) (args : Array Value) (meth : Method) (c : Code) (nL : Nat) : Prop := ∃ r : MRow, mrow y = some r ∧ p.tables.exec = Jvm.exec ∧ c.code = r.2.1 ∧ c.maxLocals = nL ∧ nL = r.2.2.1 ∧ meth.sig.returnType = r.2.2.2.1 ∧ s.vm.findClass (cnm (mcl y)) = some m.cls ∧ meth.locks = false ∧ meth.name = r.1.name ∧ (∀ w ∈ WS, w.before args s = true) ∧ c.exceptionTable.toList = tableOf r.2.2.2.2
theorem dec_inv {y pc : Nat} {r : MRow} {q : Instr × Nat} (hr : mrow y = some r) (h : dec y pc = some q) : decode r.2.1 pc = .ok q := by
  unfold dec at h
  rw [hr] at h
  simp only at h
  split at h
  · rename_i z hz; cases h; exact hz
  · cases h
theorem parr_inv {ok : Nat × Nat → Bool} {len pc : Nat} {L : Lo} {st : List MV} {h : Hp} {z} (hh : parr ok len pc L st h = some z) : ∃ j q st1 ob v, st = .inl j :: .inr (.inr (.inr (.inr (some q)))) :: st1 ∧ len = 1 ∧ hget h q.1 q.2 = some ob ∧ ok (sk q.1) = true ∧ ¬ j < 0 ∧ ob[j.toNatClampNeg]? = some v ∧ z = (pc + 1, L, v :: st1) := by
  unfold parr at hh
  split at hh
  · split at hh
    · rename_i ob hg
      split at hh
      · rename_i e
        obtain ⟨v, h1, h2⟩ := omap_inv hh
        exact ⟨_, _, _, ob, v, rfl, e.1, hg, e.2.1, e.2.2, h1, h2⟩
      · cases hh
    · cases hh
  · cases hh
theorem sz_lt {α : Type} {ob : List α} {j : Nat} {v : α} (h : ob[j]? = some v) : j < ob.length := (List.getElem?_eq_some_iff.mp h).1
section RD
variable {p : Program} {l : Launch} {e : Env} {R : Room} {s : State} {m : MethodId} {args : Array Value} {below : List Frame} {meth : Method} {c : Code} {H : Heap} {locs : List Loc} {cells slots : Nat} {Q : State → Prop}
variable {cc : ByteArray} {pc : Nat} {ls : Array Slot} {st' : List Value} {ρ : Nat → List Nat} {β : Nat → Nat → Nat} {nL base E0 : Nat} {L : Lo} {st : List MV} {h : Hp} {D : va_G}
theorem vr_ref {q : Nat × Nat} {w : Value} {a : Nat} (ha : (ρ q.1)[q.2]? = some a) (hv : vr ρ (.inr (.inr (.inr (.inr (some q))))) w) : w = .ref a := by
  obtain ⟨b, h1, rfl⟩ := hv
  rw [Option.some.inj (ha.symm.trans h1)]
/-- a component of an array: the cell, its class, the place -/
theorem arr_at (S : Sim base E0 D ρ β h s H) {q : Nat × Nat} {ob : Ob} (hg : hget h q.1 q.2 = some ob) {t : Nat} (hk : sk q.1 = (1, t)) : ∃ a cA f, (ρ q.1)[q.2]? = some a ∧ H[a]? = some (arrV cA ob.length f) ∧ ArrOfT s cA (aty t) ∧ va_RA s cA (aty t) ∧ base ≤ a ∧ ∀ (j : Nat) (v : MV), ob[j]? = some v → vr ρ v (f j) := by
  obtain ⟨a, ha, ho⟩ := S.ad hg
  unfold ob_at at ho
  rw [hk] at ho
  obtain ⟨h1, cA, f, h2, h3, h4, h5⟩ := ho
  exact ⟨a, cA, f, ha, h2, h3, h4, h1, h5⟩
theorem scr_at (S : Sim base E0 D ρ β h s H) {q : Nat × Nat} {ob : Ob} (hg : hget h q.1 q.2 = some ob) (hk : sk q.1 = (4, 0)) : ∃ a scr, (ρ q.1)[q.2]? = some a ∧ H[a]? = some scr ∧ s.isArrayOf scr .int ∧ scr.vm ≠ .unknown ∧ scr.slots.size = ob.length ∧ ob.length < 2 ^ 31 ∧ ∀ (j : Nat) (v : MV), ob[j]? = some v → ∃ w, scr.slots[j]? = some w ∧ vr ρ v w := by
  obtain ⟨a, ha, ho⟩ := S.ad hg
  unfold ob_at at ho
  rw [hk] at ho
  obtain ⟨-, scr, h2, h3, h4, h5⟩ := ho
  exact ⟨a, scr, ha, h2, h3, h4, h5⟩
theorem obj_at (S : Sim base E0 D ρ β h s H) {q : Nat × Nat} {ob : Ob} (hg : hget h q.1 q.2 = some ob) {ci : Nat} (hk : sk q.1 = (0, ci)) : ∃ a vs, (ρ q.1)[q.2]? = some a ∧ base ≤ a ∧ ob.length = fN ci ∧ srel ρ ob vs ∧ va_at D vcl (a, .inr (ci, vs)) H := by
  obtain ⟨a, ha, ho⟩ := S.ad hg
  unfold ob_at at ho
  rw [hk] at ho
  obtain ⟨h1, h2, vs, h3, h4⟩ := ho
  exact ⟨a, vs, ha, h2, h1, h3, h4⟩
theorem one_P {q : Nat × va_E} {cl : List vw_C} (h : va_at D cl q H) : va_P D cl [q] H := fun k x hk => by
  cases k with
  | zero => simp at hk; subst hk; exact h
  | succ k => simp at hk
set_option maxHeartbeats 4000000 in
/-- reading a field -/
theorem get_ok {y : Nat} (C0 : Ctx y p s m args meth c nL) (S : Sim base E0 D ρ β h s H) {idx : Nat} {z : Nat × Nat} (hf : fl (mcl y) idx = some z) {q : Nat × Nat} {ob : Ob} (hg : hget h q.1 q.2 = some ob) (hk : sk q.1 = (0, z.1)) {v : MV} (hv : ob[z.2]? = some v) {w : Value} (hw : vr ρ (.inr (.inr (.inr (.inr (some q))))) w)
    (hd : dec y pc = some (.getfield idx, 3)) (k : ∀ w2, vr ρ v w2 → W p l e R s m args below meth c H locs cells slots Q (F0 m (pc + 3) ls (w2 :: st'))) : W p l e R s m args below meth c H locs cells slots Q (F0 m pc ls (w :: st')) := by
  obtain ⟨r, hr, hx, hb, hml, -, -, hown, -, -, hts, -⟩ := C0
  obtain ⟨a, vs, ha, -, hlen, hsr, hat⟩ := obj_at S hg hk
  rw [vr_ref ha hw]
  obtain ⟨h1, h2, h3⟩ := fl_spec hf
  obtain ⟨cq, g1, g2, g3, g4, g5⟩ := vcl_at (ci := z.1) (by omega)
  obtain ⟨w2, x1, x2⟩ := srel_at hsr hv
  have e := g2 z.2
  rw [← e] at h1
  exact va_get (C := cq.1) (T := cq.2.1) (N := cq.2.2) (ci := z.1) (cl := vcl) (D := D) (tys := []) (Ts := WS) (ws := [(a, .inr (z.1, vs))]) hx hb hts (vcl_ws g1) hown S.1 (one_P hat) 0 rfl g1 z.2 (by rw [g3]; exact h2) (hts _ h1) (fun _ z => z) x1 (dec_inv hr hd) (k w2 x2)
theorem rd_in {j : Int32} {n : Nat} (h0 : ¬ j < 0) (h : j.toNatClampNeg < n) : ¬ (j < 0 ∨ n ≤ j.toNatClampNeg) := fun q => q.elim h0 (fun z => by omega)
set_option maxHeartbeats 4000000 in
/-- reading a component, or a length -/
theorem ald_ok {y : Nat} (C0 : Ctx y p s m args meth c nL) (S : Sim base E0 D ρ β h s H) {i : Instr} {ok : Nat × Nat → Bool} {len : Nat} {z : Nat × Lo × List MV} (hh : parr ok len pc L st h = some z) (hd : dec y pc = some (i, len)) (hs : srel ρ st st')
    (hi : (i = .iaload ∧ ok = (fun k => k == (1, 0) || k == (4, 0))) ∨ (i = .laload ∧ ok = (fun k => k == (1, 1))) ∨ (i = .baload ∧ ok = (fun k => k == (1, 2))) ∨ (i = .caload ∧ ok = (fun k => k == (1, 3))) ∨ (i = .daload ∧ ok = (fun k => k == (1, 4))) ∨ (i = .aaload ∧ ok = (fun k => k == (1, 5) || k == (1, 6) || k == (1, 7))))
    (k : ∀ (st2 : List Value), z.2.1 = L → srel ρ z.2.2 st2 → W p l e R s m args below meth c H locs cells slots Q (F0 m z.1 ls st2)) : W p l e R s m args below meth c H locs cells slots Q (F0 m pc ls st') := by
  obtain ⟨r, hr, hx, hb, hml, -, -, hown, -, -, hts, -⟩ := C0
  obtain ⟨j, q, st1, ob, v, rfl, rfl, hg, hok, h0, hv, rfl⟩ := parr_inv hh
  obtain ⟨_, _, rfl, rfl, w, st2, rfl, hw, h5⟩ := hs
  have hdd := dec_inv hr hd
  have hin := rd_in h0 (sz_lt hv)
  have go : ∀ w2, vr ρ v w2 → W p l e R s m args below meth c H locs cells slots Q (F0 m (pc + 1) ls (w2 :: st2)) := fun w2 h2 => k _ rfl ⟨_, _, rfl, h2, h5⟩
  rcases hi with ⟨rfl, rfl⟩ | ⟨rfl, rfl⟩ | ⟨rfl, rfl⟩ | ⟨rfl, rfl⟩ | ⟨rfl, rfl⟩ | ⟨rfl, rfl⟩
  · simp only [Bool.or_eq_true, beq_iff_eq] at hok
    rcases hok with hk | hk
    · obtain ⟨a, cA, f, ha, h1, h2, h3, -, h4⟩ := arr_at S hg hk
      rw [vr_ref ha hw]
      exact W.iald hx hb h1 (h2 _ _) (fun q => by cases q) (by rw [arrV_size]; exact hin) (arrV_read _ _ (sz_lt hv)) rfl rfl hdd (go _ (h4 _ _ hv))
    · obtain ⟨a, scr, ha, h1, h2, h3, h4, -, h5⟩ := scr_at S hg hk
      rw [vr_ref ha hw]
      obtain ⟨w2, x1, x2⟩ := h5 _ _ hv
      exact W.iald hx hb h1 h2 h3 (by rw [h4]; exact hin) x1 rfl rfl hdd (go _ x2)
  · obtain ⟨a, cA, f, ha, h1, h2, h3, -, h4⟩ := arr_at S hg (by simpa using hok)
    rw [vr_ref ha hw]
    exact W.lald hx hb h1 (h2 _ _) (fun q => by cases q) (by rw [arrV_size]; exact hin) (arrV_read _ _ (sz_lt hv)) rfl rfl hdd (go _ (h4 _ _ hv))
  · obtain ⟨a, cA, f, ha, h1, h2, h3, -, h4⟩ := arr_at S hg (by simpa using hok)
    rw [vr_ref ha hw]
    exact W.zald hx hb h1 (h2 _ _) (fun q => by cases q) (by rw [arrV_size]; exact hin) (arrV_read _ _ (sz_lt hv)) rfl rfl hdd (go _ (h4 _ _ hv))
  · obtain ⟨a, cA, f, ha, h1, h2, h3, -, h4⟩ := arr_at S hg (by simpa using hok)
    rw [vr_ref ha hw]
    exact W.cald hx hb h1 (h2 _ _) (fun q => by cases q) (by rw [arrV_size]; exact hin) (arrV_read _ _ (sz_lt hv)) rfl rfl hdd (go _ (h4 _ _ hv))
  · obtain ⟨a, cA, f, ha, h1, h2, h3, -, h4⟩ := arr_at S hg (by simpa using hok)
    rw [vr_ref ha hw]
    exact W.dald hx hb h1 (h2 _ _) (fun q => by cases q) (by rw [arrV_size]; exact hin) (arrV_read _ _ (sz_lt hv)) rfl rfl hdd (go _ (h4 _ _ hv))
  · obtain ⟨t, hk, ht⟩ : ∃ t, sk q.1 = (1, t) ∧ (aty t).isReference = true := by
      simp only [Bool.or_eq_true, beq_iff_eq] at hok
      rcases hok with (hk | hk) | hk
      · exact ⟨5, hk, rfl⟩
      · exact ⟨6, hk, rfl⟩
      · exact ⟨7, hk, rfl⟩
    obtain ⟨a, cA, f, ha, h1, h2, h3, -, h4⟩ := arr_at S hg hk
    rw [vr_ref ha hw]
    exact W.aald hx hb h1 (h2 _ _) ht (fun q => by cases q) (by rw [arrV_size]; exact hin) (arrV_read _ _ (sz_lt hv)) rfl rfl hdd (go _ (h4 _ _ hv))
end RD
