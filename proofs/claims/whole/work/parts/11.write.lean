/-! writes -/
/-- one object's cells change, nothing else that stands -/
theorem Sim.ch {base E0 : Nat} {D : va_G} {ρ : Nat → List Nat} {β : Nat → Nat → Nat} {h : Hp} {U : State} {H H' : Heap} (S : Sim base E0 D ρ β h U H) {s0 i0 : Nat} {ob ob' : Ob} {a : Nat} (hg : hget h s0 i0 = some ob) (ha : (ρ s0)[i0]? = some a) (h3 : (sk s0).1 < 3) (h2 : (sk s0).1 ≠ 2)
    (hz : H'.size = H.size) (ho : ∀ q, q ≠ a → H'[q]? = H[q]?) (hn : ob_at D U ρ β base E0 s0 i0 ob' a H') : Sim base E0 D ρ β (hput h s0 i0 ob') U H' := by
  obtain ⟨k1, k2, k3, k4, k5, k6, k7, k8⟩ := S
  have ha0 := k8 s0 i0 ob a hg ha
  refine ⟨k1, fun s => ?_, k3, k4, k5, k6, by rw [hz]; exact k7, fun s i ob2 a2 x y => ?_⟩
  · rw [k2 s]
    show _ = (if s = s0 then (h.1 s0).set i0 ob' else h.1 s).length
    split
    · rename_i e; subst e; simp
    · rfl
  · by_cases e : s = s0 ∧ i = i0
    · obtain ⟨rfl, rfl⟩ := e
      have e2 : a2 = a := Option.some.inj (y.symm.trans ha)
      subst e2
      have hx : hget (hput h s i ob') s i = some ob' := by
        show (if s = s then (h.1 s).set i ob' else h.1 s)[i]? = some ob'
        rw [if_pos rfl, List.getElem?_set]
        have : i < (h.1 s).length := sz_lt hg
        simp [this]
      rw [hx] at x
      cases x
      exact hn
    · have hx : hget (hput h s0 i0 ob') s i = hget h s i := by
        show (if s = s0 then (h.1 s0).set i0 ob' else h.1 s)[i]? = (h.1 s)[i]?
        split
        · rename_i e1
          subst e1
          rw [List.getElem?_set, if_neg (fun z => e ⟨rfl, z.symm⟩)]
        · rfl
      rw [hx] at x
      have hb2 := k8 s i ob2 a2 x y
      refine hb2.keep Ext.rf (fun hn3 => ho a2 (fun z => ?_)) (fun hs => ⟨rfl, fun hb => ho _ (fun z => ?_)⟩)
      · by_cases hs3 : (sk s).1 < 3
        · subst z
          exact e (k3 _ _ _ _ _ hs3 h3 y ha)
        · -- the script stands below base
          unfold ob_at at hb2
          split at hb2
          · rename_i e4; rw [e4] at hs3; exact absurd (by simp) hs3
          · rename_i e4; rw [e4] at hs3; exact absurd (by simp) hs3
          · rename_i e4; rw [e4] at hs3; exact absurd (by simp) hs3
          · rename_i z4 e4
            exact hn3 ((sk_fm s).2.resolve_right (by rw [e4]; simp))
          · have := hb2.1
            have := ha0.ge h3
            omega
          · exact hb2.elim
      · exact k4 s i s0 i0 a hs (sz_lt y) hb h3 ha z
theorem fT_own : ∀ {ci k : Nat}, ci < 10 → k < fN ci → (fT ci k).1 = cnm ci := by
  have h : ∀ ci, ci < 10 → ∀ k, k < fN ci → (fT ci k).1 = cnm ci := by decide +kernel
  intro ci k h1 h2
  exact h _ h1 _ h2
section WR
variable {p : Program} {l : Launch} {e : Env} {R : Room} {s : State} {m : MethodId} {args : Array Value} {below : List Frame} {meth : Method} {c : Code} {H : Heap} {locs : List Loc} {cells slots : Nat} {Q : State → Prop}
variable {cc : ByteArray} {pc : Nat} {ls : Array Slot} {st' : List Value} {ρ : Nat → List Nat} {β : Nat → Nat → Nat} {nL base E0 : Nat} {L : Lo} {st : List MV} {h : Hp} {D : va_G}
theorem pfit_ok {ty : FieldType} {v : MV} {w : Value} (h : pfit ty v = true) (hv : vr ρ v w) : narrow ty w = w ∧ fits ty w = true := by
  rcases v with x | x | x | x | (_ | q)
  · obtain rfl : w = .int x := hv
    cases ty with
    | boolean =>
      simp only [pfit, Bool.or_eq_true, decide_eq_true_eq] at h
      rcases h with rfl | rfl
      · exact ⟨rfl, rfl⟩
      · exact ⟨rfl, rfl⟩
    | char =>
      simp only [pfit, Bool.and_eq_true, decide_eq_true_eq] at h
      refine ⟨congrArg Value.int h.1.1, ?_⟩
      simp [fits, h.1.2, h.2]
    | int => exact ⟨rfl, rfl⟩
    | _ => simp [pfit] at h
  · obtain rfl : w = .long x := hv
    cases ty with
    | long => exact ⟨rfl, rfl⟩
    | _ => simp [pfit] at h
  · cases ty <;> simp [pfit] at h
  · cases ty <;> simp [pfit] at h
  · obtain rfl : w = .null := hv
    cases ty with
    | object n => exact ⟨rfl, rfl⟩
    | array t => exact ⟨rfl, rfl⟩
    | _ => simp [pfit] at h
  · obtain ⟨a, -, rfl⟩ := hv
    cases ty with
    | object n => exact ⟨rfl, rfl⟩
    | array t => exact ⟨rfl, rfl⟩
    | _ => simp [pfit] at h
theorem srel_len2 {l : List MV} {vs : List Value} (hh : srel ρ l vs) {k : Nat} (hk : k < l.length) : k < vs.length := by rw [srel_len hh]; exact hk
set_option maxHeartbeats 4000000 in
/-- writing a field -/
theorem put_ok {y : Nat} (C0 : Ctx y p s m args meth c nL) (S : Sim base E0 D ρ β h s H) {H0 : Heap} (hS : va_S (fun q => base ≤ q) H0 H locs) {idx : Nat} {z : Nat × Nat} (hf : fl (mcl y) idx = some z) {q : Nat × Nat} {ob : Ob} (hg : hget h q.1 q.2 = some ob) (hk : sk q.1 = (0, z.1)) {v : MV} {w wr : Value} (hv : vr ρ v w) (hw : vr ρ (.inr (.inr (.inr (.inr (some q))))) wr)
    (hfit : pfit ((vtys.getD z.1 (fun _ => .int)) z.2) v = true) (hfin : (fT z.1 z.2).2.2.2 = false ∨ (meth.name = "<init>" ∧ mcl y = z.1)) (hd : dec y pc = some (.putfield idx, 3))
    (k : ∀ (H1 : Heap) (locs1 : List Loc), Sim base E0 D ρ β (hput h q.1 q.2 (ob.set z.2 v)) s H1 → va_S (fun q => base ≤ q) H0 H1 locs1 → W p l e R s m args below meth c H1 locs1 cells slots Q (F0 m (pc + 3) ls st')) : W p l e R s m args below meth c H locs cells slots Q (F0 m pc ls (w :: wr :: st')) := by
  obtain ⟨r, hr, hx, hb, hml, -, -, hown, -, -, hts, -⟩ := C0
  obtain ⟨a, vs, ha, hba, hlen, hsr, hat⟩ := obj_at S hg hk
  rw [vr_ref ha hw]
  obtain ⟨h1, h2, h3⟩ := fl_spec hf
  obtain ⟨cq, g1, g2, g3, g4, g5⟩ := vcl_at (ci := z.1) (by omega)
  have e := g2 z.2
  rw [← e] at h1 hfin
  have hz : z.2 < cq.2.2 := by rw [g3]; exact h2
  obtain ⟨hty, hnm⟩ := vcl_zip _ g5
  obtain ⟨hn, hft⟩ := pfit_ok hfit hv
  have hkl : z.2 < vs.length := srel_len2 hsr (by rw [hlen]; exact h2)
  have fin : ∀ (H1 : Heap), va_at D vcl (a, .inr (z.1, vs.set z.2 w)) H1 → H1.size = H.size → (∀ q, q ≠ a → H1[q]? = H[q]?) → Sim base E0 D ρ β (hput h q.1 q.2 (ob.set z.2 v)) s H1 := by
    intro H1 x1 x2 x3
    refine S.ch hg ha (by rw [hk]; simp) (by rw [hk]; simp) x2 x3 ?_
    unfold ob_at
    rw [hk]
    exact ⟨by rw [List.length_set]; exact hlen, hba, vs.set z.2 w, srel_set hsr z.2 hv, x1⟩
  have hts' : ∀ w ∈ WS, w.before args s = true := hts
  have hap := va_apart (cl := vcl) (D := D) (ci := z.1) (own := cnm (mcl y)) hts' (vcl_ws g1) ((vtys.getD z.1 (fun _ => .int))) hty hnm S.1 g1
  have hat2 := hat
  obtain ⟨rr, y1, cell, q1, q2, q3, q4⟩ := hat2
  have hr2 : rr = cq := Option.some.inj (y1.symm.trans g1)
  subst hr2
  obtain ⟨hSl, hfc, kC, hkC, hkind⟩ := S.1.1 z.1 _ g1
  obtain ⟨cf, kf, fi, f, hi, hsl⟩ := hSl z.2 hz
  have hlay := hts _ (vcl_ws g1 _ (u_in_lay hz))
  have hst := (u_facts hfc hkC (u_lays hts (vcl_ws g1) hz) hi).1
  have mk : ∀ H1 : Heap, H1[a]? = some (cell.setSlot f.slot w) → va_at D vcl (a, .inr (z.1, vs.set z.2 w)) H1 := by
    intro H1 e1
    rw [hsl] at e1
    exact ⟨rr, y1, t_OB.to (V := updV (vp_V vs) z.2 w) ⟨_, e1, q2, q3, t_set q4 hap hz w⟩ (fun j _ => vp_updV_set hkl w j)⟩
  rcases Bool.eq_false_or_eq_true (rr.2.1 z.2).2.2.2 with hF | hF
  · have hin2 := hfin.resolve_left (by rw [hF]; decide)
    unfold u_lay at hlay
    rw [if_pos hF] at hlay
    have hcf : m.cls = cf := by
      obtain ⟨_, _, c', _, _, _, -, -, hf', -, -, -, hown2, -⟩ := Cond.laysFinal_spec hlay
      have e1 : c' = cf := by have := hi.symm.trans hf'; simp at this; exact this.1.symm
      have hdecl : (rr.2.1 z.2).1 = cnm (mcl y) := by
        rw [hin2.2, e]
        exact fT_own h3 h2
      rw [hdecl] at hown2
      rw [← e1]; exact Option.some.inj (hown.symm.trans hown2)
    have h6 := u_fits hfc hkC hkind (Or.inr hlay) hi (hty _ hz) hn hft
    refine W.putFinK hx hb hown (hts _ h1) hi hst hcf hin2.1 (by rw [q2]; exact h6) q1 q3 (by rw [hsl]; exact k2_hasslot (q4 z.2 hz)) rfl rfl (dec_inv hr hd) fun H' e1 e2 e3 => ?_
    exact k H' _ (fin H' (mk H' e1) e2 e3) (hS.put e2 e3 hba)
  · unfold u_lay at hlay
    rw [if_neg (by rw [hF]; decide)] at hlay
    have h6 := u_store hfc hkC hkind hlay hi (hty _ hz) hn hft
    refine W.putK hx hb (f := f) ⟨hown, hts _ h1, ⟨_, _, _, hi⟩, hst⟩ (by rw [q2]; exact h6) q1 q3 (by rw [hsl]; exact k2_hasslot (q4 z.2 hz)) rfl rfl (dec_inv hr hd) fun H' e1 e2 e3 => ?_
    exact k H' _ (fin H' (mk H' e1) e2 e3) (hS.put e2 e3 hba)
theorem wst_inv {t : Nat} {cv : MV → Option MV} {len pc : Nat} {L : Lo} {st : List MV} {h : Hp} {z} (hh : wst t cv len pc L st h = some z) : ∃ v j q st1 ob w, st = v :: .inl j :: .inr (.inr (.inr (.inr (some q)))) :: st1 ∧ len = 1 ∧ hget h q.1 q.2 = some ob ∧ sk q.1 = (1, t) ∧ ¬ j < 0 ∧ j.toNatClampNeg < ob.length ∧ cv v = some w ∧ z = (pc + 1, L, st1, hput h q.1 q.2 (ob.set j.toNatClampNeg w)) := by
  unfold wst at hh
  split at hh
  · split at hh
    · rename_i ob hg
      split at hh
      · rename_i e
        obtain ⟨w, h1, h2⟩ := omap_inv hh
        exact ⟨_, _, _, _, ob, w, rfl, e.1, hg, e.2.1, e.2.2.1, e.2.2.2, h1, h2⟩
      · cases hh
    · cases hh
  · cases hh
theorem arr_ch (S : Sim base E0 D ρ β h s H) {q : Nat × Nat} {ob : Ob} {a t j : Nat} {cA : ClassId} {f : Nat → Value} {v : MV} {w : Value} (hg : hget h q.1 q.2 = some ob) (hk : sk q.1 = (1, t)) (ha : (ρ q.1)[q.2]? = some a) (hba : base ≤ a) (h2 : ArrOfT s cA (aty t)) (h3 : va_RA s cA (aty t)) (h4 : ∀ (j : Nat) (v : MV), ob[j]? = some v → vr ρ v (f j)) (hv : vr ρ v w)
    {H1 : Heap} (e1 : H1[a]? = some ((arrV cA ob.length f).setSlot j w)) (e2 : H1.size = H.size) (e3 : ∀ q, q ≠ a → H1[q]? = H[q]?) : Sim base E0 D ρ β (hput h q.1 q.2 (ob.set j v)) s H1 := by
  refine S.ch hg ha (by rw [hk]; simp) (by rw [hk]; simp) e2 e3 ?_
  unfold ob_at
  rw [hk]
  refine ⟨hba, cA, updV f j w, ?_, h2, h3, fun i u hu => ?_⟩
  · rw [e1, arrV_store, List.length_set]
  · rw [List.getElem?_set] at hu
    unfold updV
    split at hu
    · rename_i e
      subst e
      split at hu
      · cases hu; rw [if_pos rfl]; exact hv
      · cases hu
    · rename_i e
      rw [if_neg (fun z => e z.symm)]
      exact h4 _ _ hu
set_option maxHeartbeats 4000000 in
/-- storing a component -/
theorem ast_ok {y : Nat} (C0 : Ctx y p s m args meth c nL) (S : Sim base E0 D ρ β h s H) {H0 : Heap} (hS : va_S (fun q => base ≤ q) H0 H locs) {i : Instr} {len : Nat} {z : Nat × Lo × List MV × Hp} (hh : hwr y i len pc L st h = some z) (hi : i = .iastore ∨ i = .lastore ∨ i = .bastore ∨ i = .castore ∨ i = .dastore) (hd : dec y pc = some (i, len)) (hs : srel ρ st st')
    (k : ∀ (H1 : Heap) (locs1 : List Loc) (st2 : List Value), z.2.1 = L → srel ρ z.2.2.1 st2 → Sim base E0 D ρ β z.2.2.2 s H1 → va_S (fun q => base ≤ q) H0 H1 locs1 → W p l e R s m args below meth c H1 locs1 cells slots Q (F0 m z.1 ls st2)) : W p l e R s m args below meth c H locs cells slots Q (F0 m pc ls st') := by
  obtain ⟨r, hr, hx, hb, hml, -, -, hown, -, -, hts, -⟩ := C0
  rcases hi with rfl | rfl | rfl | rfl | rfl <;> simp only [hwr] at hh <;> obtain ⟨v, j, q, st1, ob, w, rfl, rfl, hg, hk, h0, hj, hcv, rfl⟩ := wst_inv hh <;> split at hcv <;> cases hcv <;>
    obtain ⟨_, _, rfl, rfl, _, _, rfl, rfl, w, st2, rfl, hw, h5⟩ := hs <;> have hdd := dec_inv hr hd <;> obtain ⟨a, cA, f, ha, h1, h2, h3, hba, h4⟩ := arr_at S hg hk <;> rw [vr_ref ha hw]
  · exact W.iast hx hb h1 (h2 _ _) (fun q => by cases q) (by rw [arrV_size]; exact rd_in h0 hj) rfl rfl hdd fun H1 e1 e2 e3 => k H1 _ _ rfl h5 (arr_ch (v := vI _) (w := .int _) S hg hk ha hba h2 h3 h4 rfl e1 e2 e3) (hS.put e2 e3 hba)
  · exact W.last hx hb h1 (h2 _ _) (fun q => by cases q) (by rw [arrV_size]; exact rd_in h0 hj) rfl rfl hdd fun H1 e1 e2 e3 => k H1 _ _ rfl h5 (arr_ch (v := vL _) (w := .long _) S hg hk ha hba h2 h3 h4 rfl e1 e2 e3) (hS.put e2 e3 hba)
  · exact W.zast hx hb h1 (h2 _ _) (fun q => by cases q) (by rw [arrV_size]; exact rd_in h0 hj) rfl rfl hdd fun H1 e1 e2 e3 => k H1 _ _ rfl h5 (arr_ch (v := vI (_ &&& 1)) (w := .int (_ &&& 1)) S hg hk ha hba h2 h3 h4 rfl e1 e2 e3) (hS.put e2 e3 hba)
  · exact W.cast hx hb h1 (h2 _ _) (fun q => by cases q) (by rw [arrV_size]; exact rd_in h0 hj) rfl rfl hdd fun H1 e1 e2 e3 => k H1 _ _ rfl h5 (arr_ch (v := vI (_ : Int32).toUInt32.toUInt16.toUInt32.toInt32) (w := .int (_ : Int32).toUInt32.toUInt16.toUInt32.toInt32) S hg hk ha hba h2 h3 h4 rfl e1 e2 e3) (hS.put e2 e3 hba)
  · exact W.dast hx hb h1 (h2 _ _) (fun q => by cases q) (by rw [arrV_size]; exact rd_in h0 hj) rfl rfl hdd fun H1 e1 e2 e3 => k H1 _ _ rfl h5 (arr_ch (v := vD _) (w := .double _) S hg hk ha hba h2 h3 h4 rfl e1 e2 e3) (hS.put e2 e3 hba)
end WR
