/-! the main theorem: every run of the small machine is the JVM's -/
theorem cst_inv {y : Nat} {i : Instr} {len pc : Nat} {L : Lo} {st : List MV} {h : Hp} {z} (hh : cst y i len pc L st h = some z) : ∃ kd idx y2 f as rest, ml (mcl y) idx = some y2 ∧ mfct[y2]? = some f ∧ len = 3 ∧ f.2.1 = kd ∧ ent y2 as = some z.1 ∧ z.2 = (y, pc, L, rest) ∧ (rest.map mcat).sum ≤ 8 ∧
    ((kd = 0 ∧ i = .invokestatic idx ∧ st = as.reverse ++ rest ∧ as.length = f.2.2.2.2.2) ∨ (∃ q bs, as = vR q.1 q.2 :: bs ∧ st = bs.reverse ++ vR q.1 q.2 :: rest ∧ bs.length = f.2.2.2.2.2 ∧ sk q.1 = (0, mcl y2) ∧ (hget h q.1 q.2).isSome = true ∧ ((kd = 1 ∧ i = .invokespecial idx) ∨ (kd = 2 ∧ i = .invokevirtual idx)))) := by
  unfold cst at hh
  split at hh
  · rename_i kd idx hki
    split at hh
    · rename_i y2 hy2
      split at hh
      · rename_i f hf
        split at hh
        · rename_i g
          obtain ⟨rfl, g2, g3⟩ := g
          have hlt : (st.take f.2.2.2.2.2).length = f.2.2.2.2.2 := by rw [List.length_take]; omega
          split at hh
          · rename_i k0
            split at hh
            · rename_i g4
              obtain ⟨fr, h1, rfl⟩ := omap_inv hh
              refine ⟨kd, idx, y2, f, (st.take f.2.2.2.2.2).reverse, st.drop f.2.2.2.2.2, hy2, hf, rfl, g2, h1, rfl, g4, Or.inl ⟨k0, ?_, ?_, ?_⟩⟩
              · subst k0
                split at hki <;> cases hki
                rfl
              · rw [List.reverse_reverse, List.take_append_drop]
              · rw [List.length_reverse]; exact hlt
            · cases hh
          · rename_i k0
            split at hh
            · rename_i q rest hdr
              split at hh
              · rename_i g4
                obtain ⟨fr, h1, rfl⟩ := omap_inv hh
                refine ⟨kd, idx, y2, f, _, rest, hy2, hf, rfl, g2, h1, rfl, g4.1, Or.inr ⟨q, _, rfl, ?_, ?_, g4.2.1, g4.2.2, ?_⟩⟩
                · rw [List.reverse_reverse]
                  have e := List.take_append_drop f.2.2.2.2.2 st
                  rw [hdr] at e
                  exact e.symm
                · rw [List.length_reverse]; exact hlt
                · split at hki <;> cases hki
                  · exact absurd rfl k0
                  · exact Or.inl ⟨rfl, rfl⟩
                  · exact Or.inr ⟨rfl, rfl⟩
              · cases hh
            · cases hh
        · cases hh
      · cases hh
    · cases hh
  · cases hh
theorem hnd_some {y pc E t : Nat} {r : MRow} (hr : mrow y = some r) (h : hnd y pc E = some (some t)) : ∃ pre x suf, r.2.2.2.2 = pre ++ x :: suf ∧ (∀ z ∈ pre, (decide (z.1 ≤ pc) && decide (pc < z.2.1) && decide (exl (mcl y) z.2.2.2 = some E)) = false) ∧ (x.1 ≤ pc ∧ pc < x.2.1 ∧ exl (mcl y) x.2.2.2 = some E) ∧ t = x.2.2.1 := by
  unfold hnd at h
  rw [hr] at h
  simp only at h
  split at h
  · cases h
  · split at h
    · rename_i hh _ q hq
      cases h
      obtain ⟨hp, as, bs, he, hn⟩ := List.find?_eq_some_iff_append.mp hq
      simp only [Bool.and_eq_true, decide_eq_true_eq] at hp
      exact ⟨as, q, bs, he, fun z hz => by simpa using hn z hz, ⟨hp.1.1, hp.1.2, hp.2⟩, rfl⟩
    · cases h
theorem hh_spec {y : Nat} {r : MRow} (hr : mrow y = some r) {x : Nat × Nat × Nat × Nat} (hx : x ∈ r.2.2.2.2) : (∃ E, exl (mcl y) x.2.2.2 = some E) ∧ x.2.2.2 ≠ 0 := by
  have hr' : mtab[y]? = some r := hr
  have l1 : y < mclt.length := by
    have := sz_lt hr'
    rw [mt_len.2.1]
    rw [mt_len.1] at this
    exact this
  have ho : mclt[y]? = some (mcl y) := by
    unfold mcl
    rw [List.getD_eq_getElem?_getD, List.getElem?_eq_getElem l1]
    rfl
  have hz : (mtab.zip mclt)[y]? = some (r, mcl y) := List.getElem?_zip_eq_some.mpr ⟨hr', ho⟩
  have h1 := List.all_eq_true.mp hh_ok _ (List.mem_of_getElem? hz)
  have h2 := List.all_eq_true.mp h1 _ hx
  simp only [Bool.and_eq_true, decide_eq_true_eq] at h2
  exact ⟨Option.isSome_iff_exists.mp h2.1, h2.2⟩
set_option maxHeartbeats 8000000 in
theorem run_ok {l : Launch} (htr : l.stackTraces = false) (hL : LstOK l) : ∀ n, PN l n
  | 0 => by
    intro d fr h r h' hrun
    unfold run at hrun
    cases hrun
  | n + 1 => by
    have IH := run_ok htr hL n
    intro d fr h r h' hrun p e R s m args below meth c H locs cells slots Q ls st' ρ β nL base E0 D C0 hnm hRD hE S hS hc1 hc2 hl hs hEnd
    have hR := hRD.rm
    obtain ⟨y, pc, L, st⟩ := fr
    dsimp only at C0 hnm hl hs hEnd ⊢
    have C1 := C0
    obtain ⟨row, hr, hx, hb, hml, hnl, hret, hown, hlk, hname, hts, htab⟩ := C0
    unfold run at hrun
    split at hrun
    · cases hrun
    · rename_i q hq
      cases hrun
      obtain ⟨i, len, hd, h1 | ⟨-, h1 | h1 | h1 | h1 | h1⟩⟩ := stp_inv hq
      · obtain ⟨E, g1, g2, g3⟩ := h1
        cases g3
        dsimp only at g1 g2
        subst g2
        obtain rfl : st' = [] := hs
        exact hEnd.2.1 E pc h H locs ρ β ls cells slots rfl g1 rfl Ext.rf S hS hl.1 rfl rfl
      · obtain ⟨z, -, g⟩ := h1; cases g
      · obtain ⟨z, -, g⟩ := h1; cases g
      · obtain ⟨z, -, g⟩ := h1; cases g
      · obtain ⟨v, g1, g2⟩ := h1
        cases g2
        exact hEnd.1 v i len pc st H locs ρ β ls st' cells slots rfl hd g1 Ext.rf S hS hs rfl rfl
      · obtain ⟨z, -, g⟩ := h1; cases g
    · rename_i w hq
      obtain ⟨i, len, hd, h1 | ⟨-, h1 | h1 | h1 | h1 | h1⟩⟩ := stp_inv hq
      · obtain ⟨E, -, -, g⟩ := h1; cases g
      · obtain ⟨z, g1, g2⟩ := h1
        cases g2
        refine pin_ok hx hb S.2.2.1 g1 (dec_inv hr hd) hl hs fun ls2 st2 k1 k2 => ?_
        exact IH d _ _ _ _ hrun C1 hnm hRD hE S hS hc1 hc2 k1 k2 hEnd
      · obtain ⟨z, g1, g2⟩ := h1
        cases g2
        have hcst := run_cost hrun
        by_cases hv : ∃ idx, i = .invokevirtual idx
        · obtain ⟨idx, rfl⟩ := hv
          refine hL (z := (z.1, z.2.1, z.2.2, h)) C1 hR hE S hS ?_ ?_ hd hl hs (Or.inl ⟨idx, z, rfl, g1, rfl⟩) ?_
          · show cells + h.2.1 ≤ _
            omega
          · show slots + h.2.2 ≤ _
            omega
          · intro H1 locs1 ρ1 β1 ls2 st2 cells1 slots1 k1 k2 k3 k4 k5 k6 k7
            have e1 : cells1 = cells := by dsimp only at k6; omega
            have e2 : slots1 = slots := by dsimp only at k7; omega
            subst e1; subst e2
            exact IH d _ _ _ _ hrun C1 hnm hRD hE k2 k3 hc1 hc2 k4 k5 (hEnd.step k1 rfl rfl)
        · refine hrd_ok C1 hR ⟨by omega, by omega⟩ S (fun idx z => hv ⟨idx, z⟩) g1 hd hl hs fun st2 k1 k2 => ?_
          exact IH d _ _ _ _ hrun C1 hnm hRD hE S hS hc1 hc2 (by dsimp only; rw [k1]; exact hl) k2 hEnd
      · obtain ⟨z, g1, g2⟩ := h1
        cases g2
        have hcst := run_cost hrun
        refine hwr_ok hL C1 hnm hR hE S hS ?_ ?_ g1 hd hl hs ?_
        · have := hcst.1
          dsimp only at this
          omega
        · have := hcst.2
          dsimp only at this
          omega
        · intro H1 locs1 ρ1 β1 ls2 st2 cells1 slots1 k1 k2 k3 k4 k5 k6 k7
          exact IH d _ _ _ _ hrun C1 hnm hRD hE k2 k3 (by dsimp only; omega) (by dsimp only; omega) k4 k5 (hEnd.step k1 k6 k7)
      · obtain ⟨v, -, g⟩ := h1; cases g
      · obtain ⟨z, -, g⟩ := h1; cases g
    · rename_i w hq
      obtain ⟨i, len, hd, h1 | ⟨-, h1 | h1 | h1 | h1 | h1⟩⟩ := stp_inv hq
      · obtain ⟨E, -, -, g⟩ := h1; cases g
      · obtain ⟨z, -, g⟩ := h1; cases g
      · obtain ⟨z, -, g⟩ := h1; cases g
      · obtain ⟨z, -, g⟩ := h1; cases g
      · obtain ⟨v, -, g⟩ := h1; cases g
      · obtain ⟨z, g1, g2⟩ := h1
        cases g2
        sorry
