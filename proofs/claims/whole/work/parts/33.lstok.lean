/-! every call of a list -/
section LK
variable {p : Program} {l : Launch} {e : Env} {R : Room} {s : State} {m : MethodId} {args : Array Value} {below : List Frame} {meth : Method} {c : Code} {H : Heap} {locs : List Loc} {cells slots : Nat} {Q : State → Prop}
variable {pc : Nat} {ls : Array Slot} {st' : List Value} {ρ : Nat → List Nat} {β : Nat → Nat → Nat} {nL base E0 : Nat} {L : Lo} {st : List MV} {h : Hp} {D : va_G}
theorem ctx_fix {y : Nat} (C0 : Ctx y p s m args meth c nL) : ∃ r, mrow y = some r ∧ CallFix p m c r.2.1 nL s args WS (cnm (mcl y)) := by
  obtain ⟨r, hr, hx, hb, hml, -, -, hown, -, -, hts, -⟩ := C0
  exact ⟨r, hr, hx, hb, hml, hown, hts⟩
theorem cat8 {rest : List MV} {rest' : List Value} (h : srel ρ rest rest') (hc : (rest.map mcat).sum ≤ 8) : (rest'.map fun v => v.category).sum ≤ 8 := by
  rw [srel_cat h]; exact hc
theorem AXb {a b : Nat} (hba : base ≤ a) (hbs : base ≤ H.size) : ∀ q, AX base a b H.size q → base ≤ q := fun q h => by rcases h with z | z | z <;> omega
theorem i32_nI {j : Int32} (h : ¬ j < 0) : j = nI j.toNatClampNeg ∧ j.toNatClampNeg < 2 ^ 31 := by
  obtain ⟨n, hn, rfl⟩ := nI_of h
  rw [nI_clamp hn]
  exact ⟨rfl, hn⟩
theorem tg_at {w : Value} {q : Nat × Nat} (hw : vr ρ (.inr (.inr (.inr (.inr (some q))))) w) : ∃ a, (ρ q.1)[q.2]? = some a ∧ w = .ref a := hw
theorem w_instAL : Cond.instantiable RJx4a65c 3 ∈ WS := List.mem_filter.mpr ⟨by obtain ⟨-, -, -, -, -, -, h⟩ := tb_1; exact h, rfl⟩
set_option maxHeartbeats 8000000 in
theorem lst_ok (l : Launch) : LstOK l := by
  intro p e R s m args below meth c H locs cells slots Q pc ls st' ρ β nL base E0 L st h D y i len z C0 hR hE S hS hc1 hc2 hd hl hs hcase hk
  obtain ⟨r, hr, F⟩ := ctx_fix C0
  obtain ⟨mi, hM⟩ := hE.2.2.2.2.2.2.2.1
  have hts := F.2.2.2.2
  have hS0 : va_S (fun q => base ≤ q) s.heap H locs := hS
  have hsz : ls.size = nL := hl.1
  rcases hcase with ⟨idx, w, rfl, hh, rfl⟩ | ⟨idx, k, rfl, hjl, hh⟩ | ⟨idx, s0, rfl, rfl, hnl, rfl⟩
  · -- get, size
    simp only [hrd] at hh
    split at hh
    · rename_i j q st1
      split at hh
      · rename_i ob hg
        split at hh
        · rename_i g
          obtain ⟨rfl, g2, g3, g4, g5⟩ := g
          obtain ⟨v, hv, rfl⟩ := omap_inv hh
          obtain ⟨_, _, rfl, rfl, wr, st2, rfl, hw, h5⟩ := hs
          obtain ⟨a, k, tys, ha, hL, hK, hel, hvr⟩ := lst_facts S hg g4
          rw [vr_ref ha hw]
          obtain ⟨e1, e2⟩ := i32_nI g5
          rw [e1]
          have hj := sz_lt hv
          obtain ⟨yv, y1, y2, -⟩ := hvr _ _ hv
          obtain ⟨hLO, hba, hbs, hc⟩ := hL
          rcases hc with ⟨-, -, hn0, -⟩ | ⟨hbb, hab, cap, f, cO, rfl, hRW, hnc, hc2', hc6, hfg⟩
          · omega
          have hlink : JB (cnm (mcl y)) idx yGT cGT 2 (some oO) 1 := ⟨jl_spec g3, q_4, q_227, by decide, by decide +kernel, by decide⟩
          refine va_callq (jcallV (rest := st2) F (k_GT (l := l) (H := H) (P2 hLO hRW) (i := 0) (i2 := 1) (i3 := 0) rfl rfl rfl hj hnc (by omega)) hlink q_225 q_226 (by have := hR.1; omega) (by have := hR.2; omega) (A := fun q => base ≤ q) (fun _ h => h) hK hE hM hS (va_recv hK (P1 hLO) (q0 := 0) rfl rfl) rfl hsz (cat8 h5 g2) (dec_inv hr hd) ⟨by show cells + 0 ≤ _; have : cells + h.2.1 ≤ R.cells + h.2.1 := hc1; omega, by show slots + 0 ≤ _; have : slots + h.2.2 ≤ R.slots + h.2.2 := hc2; omega⟩ rfl) (A0 := fun q => base ≤ q) hS (fun _ _ h => h.elim) (fun _ h => h.elim) fun r2 u t H1 locs1 e1 e2 e3 e4 e5 e6 hS1 => ?_
          have hH1 : H1 = H := e1.symm.trans e4
          subst hH1
          subst e3
          rw [hfg _ hj, y1]
          exact hk _ _ ρ β _ _ _ _ Ext.rf S hS1 hl ⟨_, _, rfl, y2, h5⟩ rfl rfl
        · cases hh
      · cases hh
    · rename_i q st1 _
      split at hh
      · rename_i ob hg
        split at hh
        · rename_i g
          obtain ⟨rfl, g2, g3, g4⟩ := g
          cases hh
          obtain ⟨wr, st2, rfl, hw, h5⟩ := hs
          obtain ⟨a, k, tys, ha, hL, hK, hel, hvr⟩ := lst_facts S hg g4
          rw [vr_ref ha hw]
          have hlink : JB (cnm (mcl y)) idx ySZ cSZ 1 (some .int) 0 := ⟨jl_spec g3, q_4, q_219, by decide, by decide +kernel, by decide⟩
          refine va_calli (jcallV (rest := st2) F (k_SZ (l := l) (H := H) (P1 hL.1) (i := 0) rfl) hlink q_217 q_218 (by have := hR.1; omega) (by have := hR.2; omega) (A := fun q => base ≤ q) (fun _ h => h) hK hE hM hS (va_recv hK (P1 hL.1) (q0 := 0) rfl rfl) rfl hsz (cat8 h5 g2) (dec_inv hr hd) ⟨by show cells + 0 ≤ _; have : cells + h.2.1 ≤ R.cells + h.2.1 := hc1; omega, by show slots + 0 ≤ _; have : slots + h.2.2 ≤ R.slots + h.2.2 := hc2; omega⟩ rfl) (A0 := fun q => base ≤ q) hS (fun _ _ h => h.elim) (fun _ h => h.elim) fun r2 u t H1 locs1 e1 e2 e3 e4 e5 e6 hS1 => ?_
          have hH1 : H1 = H := e1.symm.trans e4
          subst hH1
          subst e3
          exact hk _ _ ρ β _ _ _ _ Ext.rf S hS1 hl ⟨_, _, rfl, rfl, h5⟩ rfl rfl
        · cases hh
      · cases hh
    · cases hh
  · -- writers
    unfold wls at hh
    split at hh
    · -- add
      split at hh
      · rename_i zq q st1
        split at hh
        · rename_i ob hg
          split at hh
          · rename_i g
            obtain ⟨rfl, g2, g3, g4, g5, g6⟩ := g
            cases hh
            obtain ⟨wv, _, rfl, hv, wr, st2, rfl, hw, h5⟩ := hs
            obtain ⟨a, k, tys, ha, hL, hK, hel, hvr⟩ := lst_facts S hg g3
            rw [vr_ref ha hw]
            obtain ⟨av, hav, rfl⟩ := tg_at hv
            obtain ⟨ci, hci, hle⟩ := les_ok g3
            have hEl := elem_El S hg g3 ha (by rw [g5]; exact hle) hci hav
            have hlink : JB (cnm (mcl y)) idx yA1 cA1 2 (some .boolean) 1 := ⟨jl_spec hjl, q_4, q_119, by decide, by decide +kernel, by decide⟩
            have hc1' : cells + (h.2.1 + 1) ≤ R.cells + h.2.1 := hc1
            have hc2' : slots + (h.2.2 + (2 * ob.length + 10)) ≤ R.slots + h.2.2 := hc2
            refine va_calli (jcallV (rest := st2) F (k_A1 (l := l) (H := H) hL g6 hel hEl) hlink q_117 q_118 (by have := hR.1; omega) (by have := hR.2; omega) (A := fun q => base ≤ q) (fun _ h => h) hK hE hM hS (va_recv hK (P1 hL.1) (q0 := 0) rfl rfl) rfl hsz (cat8 h5 g2) (dec_inv hr hd) ⟨by omega, by omega⟩ rfl) (A0 := fun q => base ≤ q) hS (fun q _ h => AXb hL.2.1 hL.2.2.1 q h) (fun q h => AXb hL.2.1 hL.2.2.1 q h) fun r2 u t H1 locs1 e1 e2 e3 e4 e5 e6 hS1 => ?_
            subst e3
            obtain ⟨β', S'⟩ := S.lch (ob' := ob ++ [vR zq.1 zq.2]) hg g3 ha e1 e2 e5 e6 (by rw [List.length_append]; exact e4) (fun v hv => by
              rcases List.mem_append.mp hv with h9 | h9
              · obtain ⟨j, hj⟩ := List.mem_iff_getElem?.mp h9
                obtain ⟨_, _, _, h8⟩ := hvr j v hj
                exact h8
              · rw [List.mem_singleton.mp h9]
                exact ⟨zq.2, by rw [g5]⟩) (fun j v hv => by
              unfold va_up
              by_cases hj : j < ob.length
              · rw [List.getElem?_append_left hj] at hv
                obtain ⟨yy, h7, h8, -⟩ := hvr j v hv
                rw [if_neg (by omega), h7]
                exact h8
              · have hj2 := sz_lt hv
                simp at hj2
                have hj3 : j = ob.length := by omega
                subst hj3
                rw [if_pos rfl]
                simp at hv
                subst hv
                exact ⟨av, hav, rfl⟩)
            exact hk _ _ ρ β' _ _ _ _ Ext.rf (S'.cong (fun _ => rfl)) hS1 hl ⟨_, _, rfl, rfl, h5⟩ (by show cells + 1 + h.2.1 = cells + (h.2.1 + 1); omega) (by show slots + (2 * ob.length + 10) + h.2.2 = slots + (h.2.2 + (2 * ob.length + 10)); omega)
          · cases hh
        · cases hh
      · cases hh
    · -- remove
      split at hh
      · rename_i j q st1
        split at hh
        · rename_i ob hg
          split at hh
          · rename_i g
            obtain ⟨rfl, g2, g3, g4⟩ := g
            obtain ⟨v, hv, rfl⟩ := omap_inv hh
            obtain ⟨_, _, rfl, rfl, wr, st2, rfl, hw, h5⟩ := hs
            obtain ⟨a, k, tys, ha, hL, hK, hel, hvr⟩ := lst_facts S hg g3
            rw [vr_ref ha hw]
            obtain ⟨e1, e2⟩ := i32_nI g4
            rw [e1]
            have hj := sz_lt hv
            obtain ⟨yv, y1, y2, -⟩ := hvr _ _ hv
            have hlink : JB (cnm (mcl y)) idx yRM cRM 4 (some oO) 1 := ⟨jl_spec hjl, q_4, q_555, by decide, by decide +kernel, by decide⟩
            have hc1' : cells + h.2.1 ≤ R.cells + h.2.1 := hc1
            have hc2' : slots + h.2.2 ≤ R.slots + h.2.2 := hc2
            refine va_callr (jcallV (rest := st2) F (k_RM (l := l) (H := H) hL hj y1 hel) hlink q_553 q_554 (by have := hR.1; omega) (by have := hR.2; omega) (A := fun q => base ≤ q) (fun _ h => h) hK hE hM hS (va_recv hK (P1 hL.1) (q0 := 0) rfl rfl) rfl hsz (cat8 h5 g2) (dec_inv hr hd) ⟨by omega, by omega⟩ rfl) (A0 := fun q => base ≤ q) hS (fun q _ h => AXb hL.2.1 hL.2.2.1 q h) (fun q h => AXb hL.2.1 hL.2.2.1 q h) fun u ra t H1 locs1 e1 e2 e3 e4 e5 e6 hS1 => ?_
            obtain ⟨rfl, e4⟩ := e4
            obtain ⟨β', S'⟩ := S.lch (ob' := ob.eraseIdx j.toNatClampNeg) hg g3 ha e1 e2 e5 e6 (by rw [List.length_eraseIdx_of_lt hj]; exact e4) (fun v hv => by
              obtain ⟨j2, hj2⟩ := List.mem_iff_getElem?.mp (List.mem_of_mem_eraseIdx hv)
              obtain ⟨_, _, _, h8⟩ := hvr j2 v hj2
              exact h8) (fun j2 v hv => by
              rw [List.getElem?_eraseIdx] at hv
              unfold del
              split at hv
              · rename_i h9
                obtain ⟨yy, h7, h8, -⟩ := hvr j2 v hv
                rw [if_pos h9, h7]
                exact h8
              · rename_i h9
                obtain ⟨yy, h7, h8, -⟩ := hvr (j2 + 1) v hv
                rw [if_neg h9, h7]
                exact h8)
            exact hk _ _ ρ β' _ _ _ _ Ext.rf S' hS1 hl ⟨_, _, rfl, y2, h5⟩ rfl rfl
          · cases hh
        · cases hh
      · cases hh
    · -- clear
      split at hh
      · rename_i q st1
        split at hh
        · rename_i ob hg
          split at hh
          · rename_i g
            obtain ⟨rfl, g2, g3⟩ := g
            cases hh
            obtain ⟨wr, st2, rfl, hw, h5⟩ := hs
            obtain ⟨a, k, tys, ha, hL, hK, hel, hvr⟩ := lst_facts S hg g3
            rw [vr_ref ha hw]
            have hlink : JB (cnm (mcl y)) idx yCL cCL 4 none 0 := ⟨jl_spec hjl, q_4, q_564, by decide, by decide +kernel, by decide⟩
            have hc1' : cells + h.2.1 ≤ R.cells + h.2.1 := hc1
            have hc2' : slots + h.2.2 ≤ R.slots + h.2.2 := hc2
            refine va_callv (jcallV (rest := st2) F (k_CL (l := l) (H := H) hL) hlink q_562 q_563 (by have := hR.1; omega) (by have := hR.2; omega) (A := fun q => base ≤ q) (fun _ h => h) hK hE hM hS (va_recv hK (P1 hL.1) (q0 := 0) rfl rfl) rfl hsz (cat8 h5 g2) (dec_inv hr hd) ⟨by omega, by omega⟩ rfl) (A0 := fun q => base ≤ q) hS (fun q _ h => AXb hL.2.1 hL.2.2.1 q h) (fun q h => AXb hL.2.1 hL.2.2.1 q h) fun u t H1 locs1 e1 e2 e3 e4 e5 e6 hS1 => ?_
            obtain ⟨β', S'⟩ := S.lch (ob' := []) hg g3 ha e1 e2 e5 e6 e4 (fun v hv => by cases hv) (fun j2 v hv => by simp at hv)
            exact hk _ _ ρ β' _ _ _ _ Ext.rf S' hS1 hl h5 rfl rfl
          · cases hh
        · cases hh
      · cases hh
    · -- insert
      split at hh
      · rename_i zq j q st1
        split at hh
        · rename_i ob hg
          split at hh
          · rename_i g
            obtain ⟨rfl, g2, g3, g4, g5, g6, g7, g8⟩ := g
            cases hh
            obtain ⟨wv, _, rfl, hv, _, _, rfl, rfl, wr, st2, rfl, hw, h5⟩ := hs
            obtain ⟨a, k, tys, ha, hL, hK, hel, hvr⟩ := lst_facts S hg g3
            rw [vr_ref ha hw]
            obtain ⟨e1, e2⟩ := i32_nI g6
            obtain ⟨av, hav, rfl⟩ := tg_at hv
            obtain ⟨ci, hci, hle⟩ := les_ok g3
            have hEl := elem_El S hg g3 ha (by rw [g5]; exact hle) hci hav
            have hlink : JB (cnm (mcl y)) idx yAI cAI 5 none 2 := ⟨jl_spec hjl, q_4, q_583, by decide, by decide +kernel, by decide⟩
            have hc1' : cells + (h.2.1 + 1) ≤ R.cells + h.2.1 := hc1
            have hc2' : slots + (h.2.2 + (2 * ob.length + 10)) ≤ R.slots + h.2.2 := hc2
            refine va_callv (jcallV (rest := st2) F (k_AI (l := l) (H := H) hL g7 g8 hel hEl) hlink q_581 q_582 (by have := hR.1; omega) (by have := hR.2; omega) (A := fun q => base ≤ q) (fun _ h => h) hK hE hM hS (va_recv hK (P1 hL.1) (q0 := 0) rfl rfl) rfl hsz (cat8 h5 g2) (dec_inv hr hd) ⟨by omega, by omega⟩ (by rw [← e1]; rfl)) (A0 := fun q => base ≤ q) hS (fun q _ h => AXb hL.2.1 hL.2.2.1 q h) (fun q h => AXb hL.2.1 hL.2.2.1 q h) fun u t H1 locs1 e1 e2 e3 e4 e5 e6 hS1 => ?_
            obtain ⟨β', S'⟩ := S.lch (ob' := ob.insertIdx j.toNatClampNeg (vR zq.1 zq.2)) hg g3 ha e1 e2 e5 e6 (by rw [List.length_insertIdx_of_le_length g7]; exact e4) (fun v hv => by
              rcases (List.mem_insertIdx g7).mp hv with h9 | h9
              · rw [h9]
                exact ⟨zq.2, by rw [g5]⟩
              · obtain ⟨j2, hj2⟩ := List.mem_iff_getElem?.mp h9
                obtain ⟨_, _, _, h8⟩ := hvr j2 v hj2
                exact h8) (fun j2 v hv => by
              rw [List.getElem?_insertIdx] at hv
              unfold ins
              split at hv
              · rename_i h9
                obtain ⟨yy, h7, h8, -⟩ := hvr j2 v hv
                rw [if_pos h9, h7]
                exact h8
              · rename_i h9
                rw [if_neg h9]
                split at hv
                · rename_i h10
                  rw [if_pos h10]
                  split at hv
                  · cases hv
                    exact ⟨av, hav, rfl⟩
                  · cases hv
                · rename_i h10
                  obtain ⟨yy, h7, h8, -⟩ := hvr _ v hv
                  rw [if_neg h10, h7]
                  exact h8)
            exact hk _ _ ρ β' _ _ _ _ Ext.rf (S'.cong (fun _ => rfl)) hS1 hl h5 (by show cells + 1 + h.2.1 = cells + (h.2.1 + 1); omega) (by show slots + (2 * ob.length + 10) + h.2.2 = slots + (h.2.2 + (2 * ob.length + 10)); omega)
          · cases hh
        · cases hh
      · cases hh
    · cases hh
  · -- a new list
    obtain ⟨n1, n2, n3, n4, n5, i2, n6, n7⟩ := hnl
    have hKn := S.1.1 10 _ (show vcl[10]? = some (RJx4a65c, TJx4a65c, 3) from rfl)
    have hbs := S.2.2.2.2.2.2.1
    have hc1' : cells + (h.2.1 + 1) ≤ R.cells + h.2.1 := hc1
    have hc2' : slots + (h.2.2 + 3) ≤ R.slots + h.2.2 := hc2
    refine W.newcK (n := 3) (C := RJx4a65c) F.1 F.2.1 F.2.2.2.1 (hts _ (cl_spec n3)) (hts _ w_instAL) (hts _ q_4) rfl (dec_inv hr hd) (by omega) (by omega) hKn.2.1 rfl fun H1 kC hkC e1 z1 o1 => ?_
    have hLV : va_at D vcl (LV H.size [.int 0, .null, .int 0]) H1 := by
      refine ⟨_, rfl, (u_born _ hts lo_ws hKn hkC e1 lo_ty).to fun j hj => ?_⟩
      match j, hj with
      | 0, _ => rfl
      | 1, _ => rfl
      | 2, _ => rfl
      | j + 3, hj => exact absurd hj (by show ¬ j + 3 < 3; omega)
    have hS1 : va_S (fun q => base ≤ q) s.heap H1 locs := ⟨by have := hS.1; omega, fun q q1 q2 => (o1 q (by have := hS.1; omega)).trans (hS.2.1 q q1 q2), hS.2.2⟩
    refine lv_dup F.1 F.2.1 (dec_inv hr n5) rfl ?_
    have hlink : JB (cnm (mcl y)) i2 yIN cIN 1 none 0 := ⟨jl_spec n7, q_4, q_49, by decide, by decide +kernel, by decide⟩
    have hcat : ((Value.ref H.size :: st').map fun v => v.category).sum ≤ 8 := by
      show 1 + (st'.map fun v => v.category).sum ≤ 8
      have := srel_cat hs
      omega
    refine va_callv (jcallI (rest := .ref H.size :: st') (tys := []) F (k_IN (l := l) (E0 := E0) (mi := mi) (base := base) (H := H1) hLV hbs) hlink q_48 rfl (by have := hR.1; omega) (by have := hR.2; omega) (A := fun q => base ≤ q) (fun _ h => h) S.1 hE hM hS1 rfl hsz hcat (dec_inv hr n6) ⟨by show cells + 1 + 0 ≤ _; omega, by show slots + 3 + 0 ≤ _; omega⟩ rfl) (A0 := fun q => base ≤ q) hS1 (fun q _ h => by subst h; exact hbs) (fun q h => by subst h; exact hbs) fun u t H2 locs2 f1 f2 f3 f4 f5 f6 hS2 => ?_
    have f4 : va_at D vcl (LV H.size [.int 0, .ref E0, .int 0]) H2 := by rw [← f1]; exact f4
    have ho2 : ∀ q, q < H.size → H2[q]? = H[q]? := fun q hq => (f6 q (by omega) (by omega)).trans (o1 q hq)
    refine hk H2 locs2 (radds ρ s0 [H.size]) (badds β s0 (h.1 s0).length E0) ls _ _ _ radds_ext (S.one (by rw [n2]; simp) (by omega) ho2 ?_ 1 3) hS2 (lrel_mono radds_ext hl) ⟨_, _, rfl, ⟨H.size, ?_, rfl⟩, srel_mono radds_ext hs⟩ (by show cells + 1 + 0 + h.2.1 = cells + (h.2.1 + 1); omega) (by show slots + 3 + 0 + h.2.2 = slots + (h.2.2 + 3); omega)
    · unfold ob_at
      rw [n2]
      have eb : badds β s0 (h.1 s0).length E0 s0 (h.1 s0).length = E0 := if_pos ⟨rfl, Nat.le_refl _⟩
      have hv0 : ∀ v ∈ ([] : Ob), ∃ i, v = vR (les s0) i := fun v hv => absurd hv List.not_mem_nil
      have hat : ∃ k : Int32, va_at D vcl (H.size, .inr (10, [.int k, .ref (badds β s0 (h.1 s0).length E0 s0 (h.1 s0).length), .int (nI ([] : Ob).length)])) H2 := ⟨0, by rw [eb]; exact f4⟩
      exact ⟨hbs, hat, hv0, Or.inl ⟨eb, rfl⟩⟩
    · unfold radds
      rw [if_pos rfl, List.getElem?_append_right (by rw [S.2.1 s0]; exact Nat.le_refl _), S.2.1 s0]
      simp
end LK
