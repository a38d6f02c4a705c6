/-! the main theorem: every run of the small machine is the JVM's -/
theorem cst_inv {y : Nat} {i : Instr} {len pc : Nat} {L : Lo} {st : List MV} {h : Hp} {z} (hh : cst y i len pc L st h = some z) : ∃ kd idx y2 f as rest, ml (mcl y) idx = some y2 ∧ mfct[y2]? = some f ∧ len = 3 ∧ f.2.1 = kd ∧ ent y2 as = some z.1 ∧ z.2 = (y, pc, L, rest) ∧ (rest.map mcat).sum ≤ 8 ∧
    ((kd = 0 ∧ i = .invokestatic idx ∧ st = as.reverse ++ rest ∧ as.length = f.2.2.2.2.2) ∨ (∃ (q : Nat × Nat) (bs : List MV), as = vR q.1 q.2 :: bs ∧ st = bs.reverse ++ vR q.1 q.2 :: rest ∧ bs.length = f.2.2.2.2.2 ∧ sk q.1 = (0, mcl y2) ∧ (hget h q.1 q.2).isSome = true ∧ ((kd = 1 ∧ i = .invokespecial idx) ∨ (kd = 2 ∧ i = .invokevirtual idx)))) := by
  unfold cst at hh
  split at hh
  · rename_i kd idx hki
    split at hh
    · rename_i y2 hy2
      split at hh
      · rename_i f hf
        split at hh
        · rename_i g
          obtain ⟨rfl, g2, g3⟩ := g
          have hlt : (st.take f.2.2.2.2.2).length = f.2.2.2.2.2 := by rw [List.length_take]; omega
          split at hh
          · rename_i k0
            split at hh
            · rename_i g4
              obtain ⟨fr, h1, rfl⟩ := omap_inv hh
              refine ⟨kd, idx, y2, f, (st.take f.2.2.2.2.2).reverse, st.drop f.2.2.2.2.2, hy2, hf, rfl, g2, h1, rfl, g4, Or.inl ⟨k0, ?_, ?_, ?_⟩⟩
              · subst k0
                split at hki <;> cases hki
                rfl
              · rw [List.reverse_reverse, List.take_append_drop]
              · rw [List.length_reverse]; exact hlt
            · cases hh
          · rename_i k0
            split at hh
            · rename_i q rest hdr
              split at hh
              · rename_i g4
                obtain ⟨fr, h1, rfl⟩ := omap_inv hh
                refine ⟨kd, idx, y2, f, _, rest, hy2, hf, rfl, g2, h1, rfl, g4.1, Or.inr ⟨q, _, rfl, ?_, ?_, g4.2.1, g4.2.2, ?_⟩⟩
                · rw [List.reverse_reverse]
                  have e := List.take_append_drop f.2.2.2.2.2 st
                  rw [hdr] at e
                  exact e.symm
                · rw [List.length_reverse]; exact hlt
                · split at hki <;> cases hki
                  · exact absurd rfl k0
                  · exact Or.inl ⟨rfl, rfl⟩
                  · exact Or.inr ⟨rfl, rfl⟩
              · cases hh
            · cases hh
        · cases hh
      · cases hh
    · cases hh
  · cases hh
theorem hnd_some {y pc E t : Nat} {r : MRow} (hr : mrow y = some r) (h : hnd y pc E = some (some t)) : ∃ pre x suf, r.2.2.2.2 = pre ++ x :: suf ∧ (∀ z ∈ pre, (decide (z.1 ≤ pc) && decide (pc < z.2.1) && decide (exl (mcl y) z.2.2.2 = some E)) = false) ∧ (x.1 ≤ pc ∧ pc < x.2.1 ∧ exl (mcl y) x.2.2.2 = some E) ∧ t = x.2.2.1 := by
  unfold hnd at h
  rw [hr] at h
  simp only at h
  split at h
  · cases h
  · split at h
    · rename_i hh _ q hq
      cases h
      obtain ⟨hp, as, bs, he, hn⟩ := List.find?_eq_some_iff_append.mp hq
      simp only [Bool.and_eq_true, decide_eq_true_eq] at hp
      exact ⟨as, q, bs, he, fun z hz => by have := hn z hz; rw [Bool.not_eq_true'] at this; exact this, ⟨hp.1.1, hp.1.2, hp.2⟩, rfl⟩
    · cases h
theorem hh_spec {y : Nat} {r : MRow} (hr : mrow y = some r) {x : Nat × Nat × Nat × Nat} (hx : x ∈ r.2.2.2.2) : (∃ E, exl (mcl y) x.2.2.2 = some E) ∧ x.2.2.2 ≠ 0 := by
  have hr' : mtab[y]? = some r := hr
  have l1 : y < mclt.length := by
    have := sz_lt hr'
    rw [mt_len.2.1]
    rw [mt_len.1] at this
    exact this
  have ho : mclt[y]? = some (mcl y) := by
    unfold mcl
    rw [List.getD_eq_getElem?_getD, List.getElem?_eq_getElem l1]
    rfl
  have hz : (mtab.zip mclt)[y]? = some (r, mcl y) := List.getElem?_zip_eq_some.mpr ⟨hr', ho⟩
  have h1 := List.all_eq_true.mp hh_ok _ (List.mem_of_getElem? hz)
  have h2 := List.all_eq_true.mp h1 _ hx
  simp only [Bool.and_eq_true, decide_eq_true_eq] at h2
  exact ⟨Option.isSome_iff_exists.mp h2.1, h2.2⟩
theorem tab_hh : ((mtab.zip mfct).take 216).all (fun q => decide (q.2.2.1 = 0) || q.1.2.2.2.2.isEmpty) = true := by decide +kernel
theorem hh_nil {y : Nat} {r : MRow} {f : Nat × Nat × Nat × Nat × Nat × Nat} (hr : mrow y = some r) (hf : mfct[y]? = some f) (hy : y < 216) (h0 : f.2.1 ≠ 0) : r.2.2.2.2 = [] := by
  have hz : (mtab.zip mfct)[y]? = some (r, f) := List.getElem?_zip_eq_some.mpr ⟨hr, hf⟩
  have hz2 : ((mtab.zip mfct).take 216)[y]? = some (r, f) := by rw [List.getElem?_take_of_lt hy]; exact hz
  have h1 := List.all_eq_true.mp tab_hh _ (List.mem_of_getElem? hz2)
  simp only [Bool.or_eq_true, decide_eq_true_eq] at h1
  exact List.isEmpty_iff.mp (h1.resolve_left h0)
theorem PcU_blind {base E0 : Nat} {D : va_G} {ρ : Nat → List Nat} {β : Nat → Nat → Nat} {h : Hp} {H : Heap} {vs : List Value} : FrameBlind (PcU base E0 D ρ β h H vs) := by
  intro a U g mk q
  obtain ⟨q1, q2, q3, q4⟩ := q
  exact ⟨q1, q2, Sim.moved (u := U) (U := U.calling g mk a) (Vm.Alike.refl U.vm) q3, EnvW.moved (u := U) (U := U.calling g mk a) (State.WarmedH.refl U) q4⟩
section CL
variable {p : Program} {l : Launch} {e : Env} {R : Room} {s : State} {m : MethodId} {args : Array Value} {below : List Frame} {meth : Method} {c : Code} {H : Heap} {locs : List Loc} {cells slots : Nat}
variable {pc : Nat} {ls : Array Slot} {st' : List Value} {ρ : Nat → List Nat} {β : Nat → Nat → Nat} {nL base E0 : Nat} {L : Lo} {st : List MV} {h : Hp} {D : va_G}
set_option maxHeartbeats 4000000 in
/-- a call, up to what comes back -/
theorem call_ok (htr : l.stackTraces = false) {n : Nat} (hP : PN l n) {y : Nat} (C0 : Ctx y p s m args meth c nL) {d : Nat} (hRD : RmD (d + 1) R) (hE : EnvW base E0 s s.heap) (S : Sim base E0 D ρ β h s H) (hS : va_S (fun q => base ≤ q) s.heap H locs) {i : Instr} {len : Nat} (hd : dec y pc = some (i, len)) (hl : lrel ρ ls L nL) (hs : srel ρ st st') {z : Fr × (Nat × Nat × Lo × List MV)} (hc : cst y i len pc L st h = some z) {r1 : Re} {h1 : Hp} (hrun : run d n z.1 h = some (r1, h1)) (hc1 : cells + h1.2.1 ≤ R.cells + h.2.1) (hc2 : slots + h1.2.2 ≤ R.slots + h.2.2) :
    ∃ (rest : List MV) (rest' : List Value) (a9 : Array Value), z.2 = (y, pc, L, rest) ∧ srel ρ rest rest' ∧ vx_Run p l e R s m args below meth c H locs cells slots (h1.2.1 - h.2.1) (h1.2.2 - h.2.2) (F0 m pc ls st') rest' (QcU base E0 D ρ H r1 h1 a9) (XcU base E0 D ρ H r1 h1) (fun q => base ≤ q) := by
  obtain ⟨kd, idx, y2, f, as, rest, hml2, hf, rfl, hk, he, hz, hcat, hcase⟩ := cst_inv hc
  have hy2 := ml_lt hml2
  have hcost := run_cost hrun
  obtain ⟨row, hr, hx, hb, hml, hnl, hret, hown, hlk, hname, hts, htab⟩ := C0
  have hl2 : y2 < mtab.length := by rw [mt_len.1]; omega
  obtain ⟨row2, hr2⟩ : ∃ r, mrow y2 = some r := ⟨_, List.getElem?_eq_getElem hl2⟩
  obtain ⟨f', hf', hw2, hcls2, ho2, hkd2, hini2, hsel2, hin2, hdesc2, hpl2, hkle, hmx2, hmh2⟩ := mt_spec hr2 hy2
  cases hf.symm.trans hf'
  have hlink := ml_spec hml2 hr2
  have hd' := dec_inv hr hd
  have hsz : (F0 m pc ls st').locals.size = nL := hl.1
  have hfix : CallFix p m c row.2.1 nL s args WS (cnm (mcl y)) := ⟨hx, hb, hml, hown, hts⟩
  have hwarm : ∀ w ∈ mword row2 :: WS, ∀ (a' : Array Value) (U : State), s.WarmedH U.vm → w.before a' U = true := fun w hw a' U hW => by
    have hw' : w ∈ WS := by
      rcases List.mem_cons.mp hw with rfl | h9
      · exact hw2
      · exact h9
    exact word_at hW (WS_good w hw') (hts w hw')
  have hEH : EnvW base E0 s H := hE.kept hS.2.1
  have hpre : ∀ (vs : List Value) (U : State), U.heap = H → s.WarmedH U.vm → PcU base E0 D ρ β h H vs vs.toArray U := fun vs U hU hW => ⟨rfl, hU, by rw [hU]; exact S.moved hW.alike, by rw [hU]; exact hEH.moved hW⟩
  have hrf : (rmU d (h1.2.1 - h.2.1) (h1.2.2 - h.2.2)).frames + 1 ≤ R.frames := by have := hRD.1; show 14 + d + 1 ≤ _; omega
  have hrl : 8 + (row2.2.2.1 + 11) + (rmU d (h1.2.1 - h.2.1) (h1.2.2 - h.2.2)).locals ≤ R.locals := by have := hRD.2; show 8 + (row2.2.2.1 + 11) + (900 + 60 * d) ≤ _; omega
  have hroom : cells + (h1.2.1 - h.2.1) ≤ R.cells ∧ slots + (h1.2.2 - h.2.2) ≤ R.slots := ⟨by omega, by omega⟩
  have hsig : ∀ sig, parseMethodDescriptor row2.1.desc = some sig → f.2.2.2.2.2 = sig.parameters.length := fun sig h9 => by
    rw [h9] at hdesc2
    exact (Option.some.inj hdesc2).symm
  have hcode : ∀ (hh : row2.2.2.2.2 = []), mword row2 = Cond.code row2.1 row2.2.1 row2.2.2.1 row2.2.2.2.1 := fun hh => by
    obtain ⟨a, b, c, d, hh'⟩ := row2
    dsimp only at hh
    subst hh
    rfl
  have hB : ∀ (hh : row2.2.2.2.2 = []), CallB R s args (cnm (mcl y)) idx row2.1 row2.2.1 row2.2.2.1 row2.2.2.2.1 (mword row2 :: WS) (rmU d (h1.2.1 - h.2.1) (h1.2.2 - h.2.2)) (h1.2.1 - h.2.1) (h1.2.2 - h.2.2) f.2.2.2.2.2 := fun hh =>
    ⟨rfl, rfl, hrf, hrl, hwarm, by rw [← hcode hh]; exact List.mem_cons_self, by rw [← hcode hh]; exact hts _ hw2, hts _ hini2, hmh2, hsig, hts _ hlink⟩
  rcases hcase with ⟨k0, rfl, rfl, hlen⟩ | ⟨q, bs, rfl, rfl, hlen, hsk, hal, hki⟩
  · -- static
    rw [hk] at hkd2
    rw [if_pos k0] at hkd2
    have hsp := srel_take as.reverse.length hs
    rw [List.take_left' rfl, List.drop_left' rfl] at hsp
    obtain ⟨hs1, hs2⟩ := hsp
    obtain ⟨A, B, rfl, hA, hBl⟩ : ∃ A B, st' = A ++ B ∧ srel ρ as.reverse A ∧ srel ρ rest B := ⟨_, _, (List.take_append_drop as.reverse.length st').symm, hs1, hs2⟩
    have hvs : srel ρ as A.reverse := by
      have := srel_rev hA
      rw [List.reverse_reverse] at this
      exact this
    have hM := met_of (β := β) (H := H) (base := base) (E0 := E0) (D := D) htr hP hrun he hr2 hy2 hvs
    have hstack : (F0 m pc ls (A ++ B)).stack = A.reverse.reverse ++ B := by rw [List.reverse_reverse]
    have hlenA : A.reverse.length = f.2.2.2.2.2 := by rw [srel_len hvs]; exact hlen
    have hcB : 2 * (F0 m pc ls (A ++ B)).monitorRoom + (B.map fun v => v.category).sum ≤ 8 := lv_room (by rw [srel_cat hBl]; exact hcat)
    refine ⟨rest, B, A.reverse.toArray, hz, hBl, ?_⟩
    cases hh : row2.2.2.2.2 with
    | nil => exact vx_runS hfix hM ⟨hB hh, hts _ hkd2⟩ ⟨PcU_blind, hpre _⟩ rfl hlenA hsz hstack hcB hd' hroom
    | cons x t =>
      have hcw : mword row2 = Cond.codeWith row2.1 row2.2.1 row2.2.2.1 row2.2.2.2.1 (x :: t) := by
        obtain ⟨a, b, c, d, hh'⟩ := row2
        dsimp only at hh
        subst hh
        rfl
      exact vx_runSX (hh := x :: t) (bytes := row2.2.1) (maxL := row2.2.2.1) (ret := row2.2.2.2.1) hfix hM ⟨⟨rfl, rfl, hrf, hrl, hwarm, by rw [← hcw]; exact List.mem_cons_self⟩, by rw [← hcw]; exact hts _ hw2, hts _ hini2, hmh2, hsig, hts _ hlink, hts _ hkd2⟩ ⟨PcU_blind, hpre _⟩ rfl hlenA hsz hstack hcB hd' hroom
  · have hk0 : f.2.1 ≠ 0 := by rcases hki with ⟨e, -⟩ | ⟨e, -⟩ <;> omega
    have hh := hh_nil hr2 hf hy2 hk0
    rw [if_neg hk0] at hkd2
    have hsp := srel_take bs.reverse.length hs
    rw [List.take_left' rfl, List.drop_left' rfl] at hsp
    obtain ⟨hs1, hs2⟩ := hsp
    obtain ⟨A, B, rfl, hA, hBl⟩ : ∃ A B, st' = A ++ B ∧ srel ρ bs.reverse A ∧ srel ρ (vR q.1 q.2 :: rest) B := ⟨_, _, (List.take_append_drop bs.reverse.length st').symm, hs1, hs2⟩
    obtain ⟨w, B, rfl, hw, hB2⟩ := hBl
    obtain ⟨ob, hg⟩ := Option.isSome_iff_exists.mp hal
    obtain ⟨a, vs0, ha, hba, hlen0, hsr, hat⟩ := obj_at S hg hsk
    obtain rfl := vr_ref ha hw
    have hvs : srel ρ (vR q.1 q.2 :: bs) (.ref a :: A.reverse) := by
      have := srel_rev hA
      rw [List.reverse_reverse] at this
      exact ⟨_, _, rfl, hw, this⟩
    have hM := met_of (β := β) (H := H) (base := base) (E0 := E0) (D := D) htr hP hrun he hr2 hy2 hvs
    have hstack : (F0 m pc ls (A ++ .ref a :: B)).stack = A.reverse.reverse ++ .ref a :: B := by rw [List.reverse_reverse]
    have hlenA : A.reverse.length = f.2.2.2.2.2 := by
      rw [List.length_reverse, srel_len hA, List.length_reverse]
      exact hlen
    have hcB : 2 * (F0 m pc ls (A ++ .ref a :: B)).monitorRoom + (B.map fun v => v.category).sum ≤ 8 := lv_room (by rw [srel_cat hB2]; exact hcat)
    refine ⟨rest, B, (Value.ref a :: A.reverse).toArray, hz, hB2, ?_⟩
    rcases hki with ⟨e1, rfl⟩ | ⟨e2, rfl⟩
    · obtain ⟨hi1, hi2⟩ := hin2 (hk.trans e1)
      have hB' := hB hh
      rw [hi2] at hB'
      exact vx_runI hfix hM ⟨hB', hi1, hts _ hkd2⟩ ⟨PcU_blind, hpre _⟩ rfl hlenA hsz hstack hcB hd' hroom
    · have hsel := hts _ (hsel2 (hk.trans e2))
      have hrecv : ∃ cellB : Cell, H[a]? = some cellB ∧ cellB.vm.isStatics = false ∧ s.vm.findClass row2.1.cls = some cellB.cls := by
        obtain ⟨rr, x1, cell, x2, x3, x4, -⟩ := hat
        have hk10 : mcl y2 < 10 := by
          have h9 : ∀ u ∈ sktab, u.1 = 0 → u.2 < 10 := by decide
          have hsk2 := hsk
          unfold sk at hsk2
          rw [List.getD_eq_getElem?_getD] at hsk2
          cases hx9 : sktab[q.1]? with
          | none => rw [hx9] at hsk2; simp at hsk2
          | some u =>
            rw [hx9] at hsk2
            have hu : u = (0, mcl y2) := hsk2
            have := h9 u (List.mem_of_getElem? hx9) (by rw [hu])
            rw [hu] at this
            exact this
        obtain ⟨cq, g1, -, -, g4, -⟩ := vcl_at (ci := mcl y2) (by omega)
        cases Option.some.inj (x1.symm.trans g1)
        have hkn := S.1.1 (mcl y2) _ g1
        refine ⟨cell, x2, by rw [x4]; rfl, ?_⟩
        rw [hcls2, ← g4 hk10, x3]
        exact hkn.2.1
      exact vx_runV (C := row2.1.cls) hfix hM ⟨hB hh, hts _ hkd2, hsel⟩ ⟨PcU_blind, hrecv, hpre _⟩ rfl hlenA hsz hstack hcB hd' hroom
end CL
theorem Sim.opq {base E0 : Nat} {D : va_G} {ρ : Nat → List Nat} {β : Nat → Nat → Nat} {h : Hp} {U : State} {H : Heap} (S : Sim base E0 D ρ β h U H) (q c n : Nat) : Sim base E0 D (radds ρ sX [q]) β (hnew h sX [[]] c n) U H := by
  have hsk : sk sX = (3, 0) := rfl
  obtain ⟨k1, k2, k3, k4, k5, k6, k7, k8⟩ := S
  have old : ∀ (s i a : Nat), (sk s).1 < 3 → (radds ρ sX [q] s)[i]? = some a → (ρ s)[i]? = some a := fun s i a hs ha => by
    rcases radds_inv ha with z | ⟨z, -, -⟩
    · exact z
    · subst z; rw [hsk] at hs; exact absurd hs (by simp)
  have hl : ∀ s : Nat, sk s = (2, 0) → radds ρ sX [q] s = ρ s := fun s hs => if_neg (fun z => by subst z; rw [hsk] at hs; cases hs)
  refine ⟨k1, fun s => ?_, fun s i s' i' a hs hs' x y => k3 s i s' i' a hs hs' (old _ _ _ hs x) (old _ _ _ hs' y), fun s i s' i' a hs hi hb hs' y => k4 s i s' i' a hs (by rw [hl s hs] at hi; exact hi) hb hs' (old _ _ _ hs' y), fun s i s' i' hs hs' hi hi' => k5 s i s' i' hs hs' (by rw [hl s hs] at hi; exact hi) (by rw [hl s' hs'] at hi'; exact hi'), k6, k7, fun s i ob a x y => ?_⟩
  · show _ = (if s = sX then h.1 sX ++ [[]] else h.1 s).length
    unfold radds
    split
    · rw [List.length_append, List.length_append, k2 sX]; rfl
    · exact k2 s
  · by_cases e : s = sX
    · subst e
      unfold ob_at
      rw [hsk]
      trivial
    · have x' : hget h s i = some ob := by
        have x2 : (if s = sX then h.1 sX ++ [[]] else h.1 s)[i]? = some ob := x
        rw [if_neg e] at x2
        exact x2
      have y' : (ρ s)[i]? = some a := by
        unfold radds at y
        rw [if_neg e] at y
        exact y
      exact (k8 s i ob a x' y').keep radds_ext (fun _ => rfl) (fun _ => ⟨rfl, fun _ => rfl⟩)
set_option maxHeartbeats 8000000 in
theorem run_ok {l : Launch} (htr : l.stackTraces = false) (hL : LstOK l) : ∀ n, PN l n
  | 0 => by
    intro d fr h r h' hrun
    unfold run at hrun
    cases hrun
  | n + 1 => by
    have IH := run_ok htr hL n
    intro d fr h r h' hrun p e R s m args below meth c H locs cells slots Q ls st' ρ β nL base E0 D C0 hnm hRD hE S hS hc1 hc2 hl hs hEnd
    have hR := hRD.rm
    obtain ⟨y, pc, L, st⟩ := fr
    dsimp only at C0 hnm hl hs hEnd ⊢
    have C1 := C0
    obtain ⟨row, hr, hx, hb, hml, hnl, hret, hown, hlk, hname, hts, htab⟩ := C0
    unfold run at hrun
    split at hrun
    · cases hrun
    · rename_i q hq
      cases hrun
      obtain ⟨i, len, hd, h1 | ⟨-, h1 | h1 | h1 | h1 | h1⟩⟩ := stp_inv hq
      · obtain ⟨E, g1, g2, g3⟩ := h1
        cases g3
        dsimp only at g1 g2
        subst g2
        obtain rfl : st' = [] := hs
        exact hEnd.2.1 E pc h H locs ρ β ls cells slots rfl g1 rfl Ext.rf S hS hl.1 rfl rfl
      · obtain ⟨z, -, g⟩ := h1; cases g
      · obtain ⟨z, -, g⟩ := h1; cases g
      · obtain ⟨z, -, g⟩ := h1; cases g
      · obtain ⟨v, g1, g2⟩ := h1
        cases g2
        exact hEnd.1 v i len pc st H locs ρ β ls st' cells slots rfl hd g1 Ext.rf S hS hs rfl rfl
      · obtain ⟨z, -, g⟩ := h1; cases g
    · rename_i w hq
      obtain ⟨i, len, hd, h1 | ⟨-, h1 | h1 | h1 | h1 | h1⟩⟩ := stp_inv hq
      · obtain ⟨E, -, -, g⟩ := h1; cases g
      · obtain ⟨z, g1, g2⟩ := h1
        cases g2
        refine pin_ok hx hb S.2.2.1 g1 (dec_inv hr hd) hl hs fun ls2 st2 k1 k2 => ?_
        exact IH d _ _ _ _ hrun C1 hnm hRD hE S hS hc1 hc2 k1 k2 hEnd
      · obtain ⟨z, g1, g2⟩ := h1
        cases g2
        have hcst := run_cost hrun
        dsimp only at hcst
        by_cases hv : ∃ idx, i = .invokevirtual idx
        · obtain ⟨idx, rfl⟩ := hv
          refine hL (z := (z.1, z.2.1, z.2.2, h)) C1 hR hE S hS ?_ ?_ hd hl hs (Or.inl ⟨idx, z, rfl, g1, rfl⟩) ?_
          · show cells + h.2.1 ≤ _
            omega
          · show slots + h.2.2 ≤ _
            omega
          · intro H1 locs1 ρ1 β1 ls2 st2 cells1 slots1 k1 k2 k3 k4 k5 k6 k7
            have e1 : cells1 = cells := by dsimp only at k6; omega
            have e2 : slots1 = slots := by dsimp only at k7; omega
            subst e1; subst e2
            exact IH d _ _ _ _ hrun C1 hnm hRD hE k2 k3 hc1 hc2 k4 k5 (hEnd.step k1 rfl rfl)
        · refine hrd_ok C1 hR ⟨by omega, by omega⟩ S (fun idx z => hv ⟨idx, z⟩) g1 hd hl hs fun st2 k1 k2 => ?_
          exact IH d _ _ _ _ hrun C1 hnm hRD hE S hS hc1 hc2 (by dsimp only; rw [k1]; exact hl) k2 hEnd
      · obtain ⟨z, g1, g2⟩ := h1
        cases g2
        have hcst := run_cost hrun
        refine hwr_ok hL C1 hnm hR hE S hS ?_ ?_ g1 hd hl hs ?_
        · have := hcst.1
          dsimp only at this
          omega
        · have := hcst.2
          dsimp only at this
          omega
        · intro H1 locs1 ρ1 β1 ls2 st2 cells1 slots1 k1 k2 k3 k4 k5 k6 k7
          exact IH d _ _ _ _ hrun C1 hnm hRD hE k2 k3 (by dsimp only; omega) (by dsimp only; omega) k4 k5 (hEnd.step k1 k6 k7)
      · obtain ⟨v, -, g⟩ := h1; cases g
      · obtain ⟨z, -, g⟩ := h1; cases g
    · rename_i w hq
      obtain ⟨i, len, hd, h1 | ⟨-, h1 | h1 | h1 | h1 | h1⟩⟩ := stp_inv hq
      · obtain ⟨E, -, -, g⟩ := h1; cases g
      · obtain ⟨z, -, g⟩ := h1; cases g
      · obtain ⟨z, -, g⟩ := h1; cases g
      · obtain ⟨z, -, g⟩ := h1; cases g
      · obtain ⟨v, -, g⟩ := h1; cases g
      · obtain ⟨z, g1, g2⟩ := h1
        cases g2
        split at hrun
        · cases hrun
        · rename_i d'
          split at hrun
          · cases hrun
          · rename_i r1 hr1
            have hcst1 := run_cost (r := r1.1) (h' := r1.2) hr1
            have hroom : cells + r1.2.2.1 ≤ R.cells + h.2.1 ∧ slots + r1.2.2.2 ≤ R.slots + h.2.2 := by
              split at hrun
              · cases hrun
              · rename_i x hx9
                cases hrun
                have := (aft_cost hx9).1 _ rfl
                dsimp only at this
                rw [← this]
                exact ⟨hc1, hc2⟩
              · rename_i x hx9
                have h3 := (aft_cost hx9).2 _ rfl
                have h4 := run_cost hrun
                rw [h3] at h4
                exact ⟨by omega, by omega⟩
            obtain ⟨rest, rest', a9, hz2, hB2, hR9⟩ := call_ok htr IH C1 hRD hE S hS hd hl hs g1 (r1 := r1.1) (h1 := r1.2) hr1 hroom.1 hroom.2
            intro T hT X
            have mkS : ∀ {L' : List Loc} {t T' : State}, (∀ q ∈ L', base ≤ q.base) → T'.heap = t.heap → kpt base H t → va_S (fun q => base ≤ q) s.heap T'.heap (locs ++ L') := by
              intro L' t T' hL' e1 hk
              refine ⟨by rw [e1]; exact Nat.le_trans hS.1 hk.1, fun q q1 q2 => by rw [e1]; exact (hk.2 q (Nat.lt_of_lt_of_le q1 hS.1) q2).trans (hS.2.1 q q1 q2), fun q hq => ?_⟩
              rcases List.mem_append.mp hq with h9 | h9
              · exact hS.2.2 q h9
              · exact hL' q h9
            rcases hR9 T hT X with ⟨v, st₀, t, T', L', h0, X', hL', e1, e2, hq9, st⟩ | ⟨q, st₀, t, T', L', E', ce, h0, X', hL', e1, e2, hx9, hce, hcv, hcl, st9⟩
            · obtain ⟨v1, w1, ρ1, β1, b1, b2, b3, b4, b5, b6⟩ := hq9
              cases b2
              rw [b1, hz2] at hrun
              have S1 : Sim base E0 D ρ1 β1 r1.2 s T'.heap := by
                rw [e1]
                exact b5.moved (by rw [← e2]; exact X'.warmed.alike.symm)
              simp only [aft] at hrun
              obtain ⟨t2, c1, c2⟩ := IH (d' + 1) _ _ _ _ hrun (st' := v.toList ++ rest') C1 hnm hRD hE S1 (mkS hL' e1 b6) (cells := cells + (r1.2.2.1 - h.2.1)) (slots := slots + (r1.2.2.2 - h.2.2)) (by omega) (by omega) (lrel_mono b4 hl) (srel_app (vro_list b3) (srel_mono b4 hB2)) (hEnd.step b4 (by omega) (by omega)) T' rfl X'
              exact ⟨t2, st t2 c1, c2⟩
            · obtain ⟨E, ρ1, β1, b1, b2, b4, b5, b6⟩ := hx9
              subst b2
              have S1 : Sim base E0 D ρ1 β1 r1.2 s T'.heap := by
                rw [e1]
                exact b5.moved (by rw [← e2]; exact X'.warmed.alike.symm)
              have hce' : T'.heap[q]? = some ce := by rw [e1]; exact hce
              rw [b1, hz2] at hrun
              simp only [aft] at hrun
              cases hh9 : hnd y pc E with
              | none => rw [hh9] at hrun; cases hrun
              | some o =>
                rw [hh9] at hrun
                cases o with
                | none =>
                  cases hrun
                  obtain ⟨t2, c1, c2⟩ := hEnd.2.2 E pc T'.heap (locs ++ L') ρ1 β1 ls rest' q ce (cells + (r1.2.2.1 - h.2.1)) (slots + (r1.2.2.2 - h.2.2)) rfl hh9 b4 S1 (mkS hL' e1 b6) hce' hcv hcl (by omega) (by omega) T' rfl X'
                  exact ⟨t2, st9.trans c1, c2⟩
                | some tg =>
                  dsimp only at hrun
                  obtain ⟨pre, x, suf, f1, f2, f3, rfl⟩ := hnd_some hr hh9
                  have S2 := S1.opq q 0 0
                  have E2 : Ext ρ (radds ρ1 sX [q]) := b4.tr radds_ext
                  have K : W p l e R s m args below meth c T'.heap (locs ++ L') (cells + (r1.2.2.1 - h.2.1)) (slots + (r1.2.2.2 - h.2.2)) Q (F0 m x.2.2.1 ls [.ref q]) := by
                    refine IH (d' + 1) _ _ _ _ hrun C1 hnm hRD hE S2 (mkS hL' e1 b6) ?_ ?_ (lrel_mono E2 hl) ⟨_, [], rfl, ⟨q, ?_, rfl⟩, rfl⟩ (hEnd.step E2 ?_ ?_)
                    · show cells + (r1.2.2.1 - h.2.1) + h'.2.1 ≤ R.cells + (r1.2.2.1 + 0)
                      have := run_cost hrun
                      omega
                    · show slots + (r1.2.2.2 - h.2.2) + h'.2.2 ≤ R.slots + (r1.2.2.2 + 0)
                      omega
                    · unfold radds
                      rw [if_pos rfl, List.getElem?_append_right (by rw [S1.2.1 sX]; exact Nat.le_refl _), S1.2.1 sX]
                      simp
                    · show cells + (r1.2.2.1 - h.2.1) + h.2.1 = cells + (r1.2.2.1 + 0)
                      omega
                    · show slots + (r1.2.2.2 - h.2.2) + h.2.2 = slots + (r1.2.2.2 + 0)
                      omega
                  obtain ⟨hl1, hl6⟩ := exl_spec f3.2.2
                  have hx0 := hh_spec hr (x := x) (by rw [f1]; simp)
                  have hcast : (Cond.castable (exnm E) (exnm E)).before args s = true := by
                    have h1 := List.all_eq_true.mp cast_ok E (List.mem_range.mpr hl6)
                    exact va_Nw.use rfl (hE.2.2.2.2.2.2.2.2.2 _ (by simpa using h1) rfl)
                  have KX : vx_W p l e R s m args below meth c T'.heap (locs ++ L') (cells + (r1.2.2.1 - h.2.1)) (slots + (r1.2.2.2 - h.2.2)) Q (F0 m pc ls rest') q := by
                    refine vx_catch hown (tableOf pre) ⟨x.1, x.2.1, x.2.2.1, x.2.2.2⟩ (tableOf suf) (by rw [htab, f1]; simp [tableOf]) (fun z hz => ?_) (by simp [covers, f3.1, f3.2.1]) hx0.2 (hts _ hl1) hcast hce' hcv hcl K
                    unfold tableOf at hz
                    obtain ⟨u, hu, rfl⟩ := List.mem_map.mp hz
                    have hu2 := f2 u hu
                    obtain ⟨⟨Eu, hEu⟩, hu0⟩ := hh_spec hr (x := u) (by rw [f1]; exact List.mem_append_left _ hu)
                    simp only [Bool.and_eq_false_iff, decide_eq_false_iff_not] at hu2
                    rcases hu2 with (hu2 | hu2) | hu2
                    · exact Or.inl (by simp [covers]; omega)
                    · exact Or.inl (by simp [covers]; omega)
                    · obtain ⟨hlu, hlu6⟩ := exl_spec hEu
                      refine Or.inr ⟨hu0, exnm Eu, hts _ hlu, hE.2.2.2.2.2.2.2.2.1 E Eu hl6 hlu6 (fun z9 => hu2 (by rw [hEu, z9]))⟩
                  obtain ⟨t2, c1, c2⟩ := KX T' rfl X'
                  exact ⟨t2, st9.trans c1, c2⟩
