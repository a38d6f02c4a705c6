/-! new T[n][k] -/
set_option maxRecDepth 100000 in
theorem mat_all : matab.all (fun q => decide (lw_tbl[q.2.2.2]? = some (.classLink (cnm q.1) q.2.1 ("[" ++ (aty q.2.2.1).toString))) && decide (q.2.2.1 = 5 ∨ q.2.2.1 = 6 ∨ q.2.2.1 = 7) && decide (Cond.arrayOver (aty q.2.2.1) ∈ lw_tbl)) = true := by decide +kernel
theorem mat_spec {o idx t : Nat} (h : mat o idx = some t) : Cond.classLink (cnm o) idx ("[" ++ (aty t).toString) ∈ WS ∧ (t = 5 ∨ t = 6 ∨ t = 7) ∧ Cond.arrayOver (aty t) ∈ lw_tbl := by
  unfold mat at h
  obtain ⟨q, h1, rfl⟩ := omap_inv h
  have h2 := List.find?_some h1
  have h3 := List.all_eq_true.mp mat_all q (List.mem_of_find?_eq_some h1)
  obtain ⟨a, b, c, d⟩ := q
  simp only [Bool.and_eq_true, beq_iff_eq] at h2
  obtain ⟨rfl, rfl⟩ := h2
  simp only [Bool.and_eq_true, decide_eq_true_eq] at h3
  exact ⟨ws_of h3.1.1 rfl, h3.1.2, h3.2⟩
theorem over_ty : ∀ t, t = 5 ∨ t = 6 ∨ t = 7 → aty t = .array (aty (ity t)) ∧ ity t < 5 := by
  rintro t (rfl | rfl | rfl) <;> exact ⟨rfl, by decide⟩
def AOs (U : State) : Prop := ∀ t, t = 5 ∨ t = 6 ∨ t = 7 → (Cond.arrayOver (aty t)).before #[] U = true
section MU
variable {p : Program} {l : Launch} {e : Env} {R : Room} {s : State} {m : MethodId} {args : Array Value} {below : List Frame} {meth : Method} {c : Code} {H : Heap} {locs : List Loc} {cells slots : Nat} {Q : State → Prop}
variable {cc : ByteArray} {pc : Nat} {ls : Array Slot} {st' : List Value} {ρ : Nat → List Nat} {β : Nat → Nat → Nat} {nL base E0 : Nat} {L : Lo} {st : List MV} {h : Hp} {D : va_G}
set_option maxHeartbeats 4000000 in
theorem mna_ok {y : Nat} (C0 : Ctx y p s m args meth c nL) (hAO : AOs s) (S : Sim base E0 D ρ β h s H) {H0 : Heap} (hS : va_S (fun q => base ≤ q) H0 H locs) {idx s0 t : Nat} (hm : mat (mcl y) idx = some t) (hsk : sk s0 = (1, t)) (hsk2 : sk (s0 + 1) = (1, ity t)) {n k : Int32} (hn0 : ¬ n < 0) (hk0 : ¬ k < 0) (hn : n.toNatClampNeg ≤ 60000) (hkk : k.toNatClampNeg ≤ 60000) (hcells : cells + (1 + n.toNatClampNeg) ≤ R.cells) (hslots : slots + (n.toNatClampNeg + n.toNatClampNeg * k.toNatClampNeg) ≤ R.slots) (hd : dec y pc = some (.multianewarray idx 2, 4)) (c1 n1 c2 n2 : Nat)
    (kk : ∀ (H1 : Heap) (ρ1 : Nat → List Nat) (β1 : Nat → Nat → Nat) (a : Nat), Ext ρ ρ1 → (ρ1 s0)[(h.1 s0).length]? = some a → Sim base E0 D ρ1 β1 (hnew (hnew h s0 [(List.range n.toNatClampNeg).map (fun j => vR (s0 + 1) ((h.1 (s0 + 1)).length + j))] c1 n1) (s0 + 1) (List.replicate n.toNatClampNeg (List.replicate k.toNatClampNeg (adf (ity t)))) c2 n2) s H1 → va_S (fun q => base ≤ q) H0 H1 locs →
      W p l e R s m args below meth c H1 locs (cells + 1 + n.toNatClampNeg) (slots + n.toNatClampNeg + n.toNatClampNeg * k.toNatClampNeg) Q (F0 m (pc + 4) ls (.ref a :: st'))) : W p l e R s m args below meth c H locs cells slots Q (F0 m pc ls (.int k :: .int n :: st')) := by
  obtain ⟨r, hr, hx, hb, hml, -, -, hown, -, -, hts, -⟩ := C0
  obtain ⟨hlk, ht, -⟩ := mat_spec hm
  obtain ⟨hty, hi5⟩ := over_ty t ht
  have hbs := S.2.2.2.2.2.2.1
  have hover : (Cond.arrayOver (aty t)).before args s = true := hAO t ht
  rw [hty] at hlk hover
  have harr := hts _ (arrc_ws hi5)
  have hcb : k.toNatClampNeg * componentBytes (aty (ity t)) ≤ 536870912 := by
    calc _ ≤ 60000 * 8 := Nat.mul_le_mul hkk (aty_cb hi5)
      _ ≤ _ := by decide
  have hdf : fits (aty (ity t)) (defaultValue (aty (ity t))) = true ∧ (defaultValue (aty (ity t))).isDefault = true := by
    rcases ht with rfl | rfl | rfl <;> exact ⟨by decide, by decide⟩
  intro T hT Xs
  obtain ⟨vm₁, cA, cy, -, fA, fC, hO, hIn, X', step⟩ := Xs.multianewarray2F hx hown (hts _ hlk) hover harr (g := F0 m pc ls (.int k :: .int n :: st')) rfl (by rw [hb]; exact dec_inv hr hd) rfl hn0 hk0 (by omega) hcb (by omega) hdf.1 hdf.2 hcells hslots
  generalize hF : Jvm.Free.Multi.fill (T.setVm vm₁) cA cy n.toNatClampNeg k.toNatClampNeg (defaultValue (aty (ity t))) n.toNatClampNeg = F at X' step
  have hTh : (T.setVm vm₁).heap = H := hT
  obtain ⟨f1, f2, -, -⟩ := Jvm.Free.Multi.fill_facts (T.setVm vm₁) cA cy n.toNatClampNeg k.toNatClampNeg (defaultValue (aty (ity t))) n.toNatClampNeg
  rw [hF, hTh] at f1 f2
  have hold : ∀ x : Nat, x < H.size → F.heap[x]? = H[x]? := fun x hx => by
    have := Jvm.Free.Multi.fill_old (T.setVm vm₁) cA cy n.toNatClampNeg k.toNatClampNeg (defaultValue (aty (ity t))) (a := x) (by rw [hTh]; exact hx) n.toNatClampNeg
    rw [hF, hTh] at this
    exact this
  have hrow : ∀ j : Nat, j < n.toNatClampNeg → F.heap[H.size + 1 + j]? = some (arrV cy k.toNatClampNeg (fun _ => defaultValue (aty (ity t)))) := fun j hj => by
    have := Jvm.Free.Multi.fill_inner (T.setVm vm₁) cA cy n.toNatClampNeg k.toNatClampNeg (defaultValue (aty (ity t))) n.toNatClampNeg j hj
    rw [hF, hTh] at this
    rw [this]
    unfold Jvm.Free.Multi.innerC
    rw [arrV_new]
  rw [vr_outer] at f2
  have hArO : ArrOfT s cA (aty t) := fun N9 z9 => by
    rw [hty]
    obtain ⟨-, k9, hk9, cm9, hkk9⟩ := (hO 0 0 0).1
    exact ⟨(fun q hq => by cases hq), k9, hk9, cm9, hkk9⟩
  have hArI : ArrOfT s cy (aty (ity t)) := fun N9 z9 => by
    obtain ⟨-, k9, hk9, cm9, hkk9⟩ := (hIn 0 .null).1
    exact ⟨(fun q hq => by cases hq), k9, hk9, cm9, hkk9⟩
  have hRO : va_RA s cA (aty t) := by rw [hty]; exact fA
  have hRI : va_RA s cy (aty (ity t)) := aty_RA hi5 fC
  have S1 : Sim base E0 D ρ β h s F.heap := S.grown (by rw [f1]; omega) hold
  have hasl : ∀ (j a : Nat), ((List.range n.toNatClampNeg).map (fun i => H.size + 1 + i))[j]? = some a → j < n.toNatClampNeg ∧ a = H.size + 1 + j := fun j a hj => by
    have h1 := sz_lt hj
    simp only [List.length_map, List.length_range] at h1
    rw [List.getElem?_map, List.getElem?_range h1] at hj
    exact ⟨h1, (Option.some.inj hj).symm⟩
  have S2 := S1.adds (s0 := s0 + 1) (as := (List.range n.toNatClampNeg).map (fun i => H.size + 1 + i)) (obs := List.replicate n.toNatClampNeg (List.replicate k.toNatClampNeg (adf (ity t)))) (by rw [hsk2]; simp) (by simp) (fun i j a x y => by
      have := (hasl _ _ x).2
      have := (hasl _ _ y).2
      omega) (fun a ha => by
      obtain ⟨i, -, rfl⟩ := List.mem_map.mp ha
      exact S.fresh (by omega)) (fun j ob a x y => by
      obtain ⟨hj, rfl⟩ := hasl _ _ y
      have e1 := List.eq_of_mem_replicate (List.mem_of_getElem? x)
      subst e1
      unfold ob_at
      rw [hsk2]
      refine ⟨by omega, cy, fun _ => defaultValue (aty (ity t)), ?_, hArI, hRI, fun i v hi => ?_⟩
      · rw [List.length_replicate]; exact hrow j hj
      · have := List.eq_of_mem_replicate (List.mem_of_getElem? hi)
        subst this
        exact adf_ok hi5) c2 n2
  have hρ : ∀ j, j < n.toNatClampNeg → (radds ρ (s0 + 1) ((List.range n.toNatClampNeg).map (fun i => H.size + 1 + i)) (s0 + 1))[(h.1 (s0 + 1)).length + j]? = some (H.size + 1 + j) := fun j hj => by
    unfold radds
    rw [if_pos rfl, List.getElem?_append_right (by rw [S.2.1]; omega), S.2.1]
    rw [show (h.1 (s0 + 1)).length + j - (h.1 (s0 + 1)).length = j by omega, List.getElem?_map, List.getElem?_range hj]
    rfl
  have S3 := S2.adds (s0 := s0) (as := [H.size]) (obs := [(List.range n.toNatClampNeg).map (fun j => vR (s0 + 1) ((h.1 (s0 + 1)).length + j))]) (by rw [hsk]; simp) rfl (fun i j a x y => by
      have := sz_lt x
      have := sz_lt y
      simp at *
      omega) (fun a ha => by
      rw [List.mem_singleton.mp ha]
      have hfr := S.fresh (Nat.le_refl H.size)
      refine ⟨fun s i b hs hb => ?_, fun s i hs hi hb2 => ?_⟩
      · rcases radds_inv hb with hb | ⟨-, -, hb⟩
        · exact hfr.1 _ _ _ hs hb
        · have := (hasl _ _ hb).2
          omega
      · have hns : s ≠ s0 + 1 := fun z => by subst z; rw [hsk2] at hs; cases hs
        have e1 : badds β (s0 + 1) (h.1 (s0 + 1)).length E0 s i = β s i := if_neg (fun z => hns z.1)
        have e2 : radds ρ (s0 + 1) ((List.range n.toNatClampNeg).map (fun i => H.size + 1 + i)) s = ρ s := if_neg hns
        rw [e1] at hb2 ⊢
        rw [e2] at hi
        exact hfr.2 _ _ hs hi hb2) (fun j ob a x y => by
      have hj := sz_lt x
      simp at hj
      subst hj
      simp at x y
      subst x; subst y
      unfold ob_at
      rw [hsk]
      refine ⟨hbs, cA, fun j => va_rf (if j < n.toNatClampNeg then some (H.size + 1 + j) else none), ?_, hArO, hRO, fun i v hi => ?_⟩
      · rw [List.length_map, List.length_range]; exact f2
      · have hi1 := sz_lt hi
        simp only [List.length_map, List.length_range] at hi1
        rw [List.getElem?_map, List.getElem?_range hi1] at hi
        cases hi
        show vr _ _ (va_rf (if i < n.toNatClampNeg then some (H.size + 1 + i) else none))
        rw [if_pos hi1]
        exact ⟨_, radds_ext _ _ _ (hρ i hi1), rfl⟩) c1 n1
  have hne : s0 ≠ s0 + 1 := by omega
  have hl0 : ((hnew h (s0 + 1) (List.replicate n.toNatClampNeg (List.replicate k.toNatClampNeg (adf (ity t)))) c2 n2).1 s0) = h.1 s0 := if_neg hne
  obtain ⟨tt, a1, b1⟩ := kk F.heap _ _ H.size (radds_ext.tr radds_ext) (by
      unfold radds
      rw [if_pos rfl, if_neg hne, List.getElem?_append_right (by rw [S.2.1 s0]; exact Nat.le_refl _), S.2.1 s0]
      simp) (S3.cong (fun u => by
      show (if u = s0 + 1 then (if s0 + 1 = s0 then _ else h.1 (s0 + 1)) ++ _ else (if u = s0 then h.1 s0 ++ _ else h.1 u)) = (if u = s0 then (if s0 = s0 + 1 then _ else h.1 s0) ++ _ else (if u = s0 + 1 then h.1 (s0 + 1) ++ _ else h.1 u))
      by_cases e1 : u = s0 + 1
      · rw [if_pos e1, if_neg (show ¬ u = s0 by omega), if_pos e1, if_neg (show ¬ s0 + 1 = s0 by omega)]
      · rw [if_neg e1, if_neg e1, if_neg hne])) ⟨by rw [f1]; have := hS.1; omega, fun x h1 h2 => (hold x (Nat.lt_of_lt_of_le h1 hS.1)).trans (hS.2.1 x h1 h2), hS.2.2⟩ F rfl X'
  refine ⟨tt, step tt ?_, b1⟩
  have e : T.heap.size = H.size := by rw [hT]
  rw [e]
  exact a1
end MU
