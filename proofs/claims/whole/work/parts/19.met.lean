section RT
variable {p : Program} {l : Launch} {e : Env} {R : Room} {s : State} {m : MethodId} {args : Array Value} {below : List Frame} {meth : Method} {c : Code} {H : Heap} {locs : List Loc} {cells slots : Nat}
variable {cc : ByteArray} {pc : Nat} {ls : Array Slot} {ρ : Nat → List Nat}
set_option maxHeartbeats 4000000 in
/-- a return -/
theorem ret_ok {rt : Option FieldType} (hx : p.tables.exec = Jvm.exec) (hb : c.code = cc) (hrt : meth.sig.returnType = rt) (hlk : meth.locks = false) {i : Instr} {len : Nat} (hd : decode cc pc = .ok (i, len)) {st1 : List MV} {v : Option MV} (hr : rst i len st1 rt = some v) {st2 : List Value} (hs : srel ρ st1 st2) {Qc : Array Value → State → Outcome → State → Prop} {free : Addr → Prop}
    (hq : ∀ (t : State) (w : Option Value), t.heap = H → s.WarmedH t.vm → vro ρ v w → Qc args s (.returned w) t) (hf : ∀ q ∈ locs, free q.base) : W p l e R s m args below meth c H locs cells slots (MQ below Qc args s cells slots free) (F0 m pc ls st2) := by
  cases i with
  | ireturn =>
    simp only [rst] at hr
    split at hr
    · split at hr
      · rename_i g
        cases hr
        obtain ⟨rfl, g⟩ := g
        obtain ⟨_, _, rfl, rfl, rfl⟩ := hs
        rcases g with rfl | ⟨rfl, g⟩ | ⟨rfl, g⟩
        · exact W.iret hx hb hrt (fun t a b => hq t _ a b ⟨_, rfl, rfl⟩) hf hd hlk
        · exact W.zret (ty := .boolean) hx hb hrt (congrArg Value.int g) (fun t a b => hq t _ a b ⟨_, rfl, rfl⟩) hf hd hlk
        · exact W.zret (ty := .char) hx hb hrt (congrArg Value.int g) (fun t a b => hq t _ a b ⟨_, rfl, rfl⟩) hf hd hlk
      · cases hr
    · cases hr
  | lreturn =>
    simp only [rst] at hr
    split at hr
    · split at hr
      · rename_i g
        cases hr
        obtain ⟨rfl, rfl⟩ := g
        obtain ⟨_, _, rfl, rfl, rfl⟩ := hs
        exact W.lret hx hb hrt (fun t a b => hq t _ a b ⟨_, rfl, rfl⟩) hf hd hlk
      · cases hr
    · cases hr
  | freturn =>
    simp only [rst] at hr
    split at hr
    · split at hr
      · rename_i g
        cases hr
        obtain ⟨rfl, rfl⟩ := g
        obtain ⟨_, _, rfl, rfl, rfl⟩ := hs
        exact W.fret hx hb hrt (fun t a b => hq t _ a b ⟨_, rfl, rfl⟩) hf hd hlk
      · cases hr
    · cases hr
  | dreturn =>
    simp only [rst] at hr
    split at hr
    · split at hr
      · rename_i g
        cases hr
        obtain ⟨rfl, rfl⟩ := g
        obtain ⟨_, _, rfl, rfl, rfl⟩ := hs
        exact W.dret hx hb hrt (fun t a b => hq t _ a b ⟨_, rfl, rfl⟩) hf hd hlk
      · cases hr
    · cases hr
  | areturn =>
    simp only [rst] at hr
    split at hr
    · rename_i q
      split at hr
      · rename_i g
        cases hr
        obtain ⟨rfl, g⟩ := g
        obtain ⟨w, _, rfl, hw, rfl⟩ := hs
        have hv : w = .null ∨ ∃ a, w = .ref a := (mkd_r hw rfl).2
        have hrt2 : ∃ t, rt = some t ∧ ((∃ n, t = .object n) ∨ ∃ u, t = .array u) := by
          unfold isRt at g
          split at g
          · exact ⟨_, rfl, Or.inl ⟨_, rfl⟩⟩
          · exact ⟨_, rfl, Or.inr ⟨_, rfl⟩⟩
          · cases g
        obtain ⟨t, rfl, ht⟩ := hrt2
        exact W.aret hx hb hrt ht hv (fun t a b => hq t _ a b ⟨_, rfl, hw⟩) hf hd hlk
      · cases hr
    · cases hr
  | return_ =>
    simp only [rst] at hr
    split at hr
    · split at hr
      · rename_i g
        cases hr
        obtain ⟨rfl, rfl⟩ := g
        obtain rfl : st2 = [] := hs
        exact W.vret hx hb hrt (fun t a b => hq t _ a b rfl) hf hd hlk
      · cases hr
    · cases hr
  | _ => simp [rst] at hr
end RT
theorem hnd_none {y pc E : Nat} {r : MRow} (hr : mrow y = some r) (h : hnd y pc E = some none) : r.2.2.2.2 = [] := by
  unfold hnd at h
  rw [hr] at h
  simp only at h
  split at h
  · assumption
  · split at h <;> cases h
set_option maxHeartbeats 4000000 in
/-- the contract of a callee, out of its run -/
theorem met_of {l : Launch} (htr : l.stackTraces = false) {n : Nat} (hP : PN l n) {d y : Nat} {as : List MV} {fr : Fr} {h h1 : Hp} {r1 : Re} {row : MRow} {ρ : Nat → List Nat} {β : Nat → Nat → Nat} {H : Heap} {vs : List Value} {base E0 : Nat} {D : va_G} (hrun : run d n fr h = some (r1, h1)) (he : ent y as = some fr) (hr : mrow y = some row) (hy : y < 216) (hs : srel ρ as vs) :
    vx_Met l row.1 (mword row :: WS) (rmU d (h1.2.1 - h.2.1) (h1.2.2 - h.2.2)) (PcU base E0 D ρ β h H vs) (QcU base E0 D ρ H r1 h1) (XcU base E0 D ρ H r1 h1) (h1.2.1 - h.2.1) (h1.2.2 - h.2.2) (fun q => base ≤ q) := by
  obtain ⟨f, hf, hw, hcls, ho, -, -, -, hin, -, hpl, -, -, -⟩ := mt_spec hr hy
  have hcost := run_cost hrun
  have body : ∀ p e s m args below meth c s₁, BodyLoose p l row.1 (headSpec (mword row :: WS) (rmU d (h1.2.1 - h.2.1) (h1.2.2 - h.2.2))) row.2.1 row.2.2.1 row.2.2.2.1 e s m args below meth c s₁ → c.maxLocals = row.2.2.1 → c.exceptionTable.toList = tableOf row.2.2.2.2 → PcU base E0 D ρ β h H vs args s →
      W p l e (headSpec (mword row :: WS) (rmU d (h1.2.1 - h.2.1) (h1.2.2 - h.2.2))).room s m args below meth c s.heap [] 0 0 (vx_MQ below (QcU base E0 D ρ H r1 h1) (XcU base E0 D ρ H r1 h1) args s (h1.2.1 - h.2.1) (h1.2.2 - h.2.2) (fun q => base ≤ q)) (entryFrame m args row.2.2.1) := by
    intro p e s m args below meth c s₁ B hml htab hPc
    obtain ⟨rfl, hH, hSim, hEnv⟩ := hPc
    subst hH
    have hts : ∀ w ∈ mword row :: WS, w.before vs.toArray s = true := atoms_spec B.pre
    have hCtx : Ctx y p s m vs.toArray meth c row.2.2.1 := ⟨row, hr, B.exec, B.bytes, hml, rfl, B.returns, by rw [← hcls]; exact findClass_of_methodNamed B.named, B.notSynchronized, (name_of_methodNamed B.named B.method).1, fun w hw => hts w (List.mem_cons_of_mem _ hw), htab⟩
    obtain ⟨e1, e2, e3, e4⟩ := ent_ok he hr hs
    obtain ⟨ls, e5, e6⟩ := e4 m
    rw [e5]
    have hS0 : va_S (fun q => base ≤ q) s.heap s.heap [] := va_S.rf
    have hnm : (mfct[fr.1]?).map (fun f => f.2.1) = some 1 → meth.name = "<init>" := by
      rw [e1, hf]
      intro z
      rw [(name_of_methodNamed B.named B.method).1]
      exact (hin (Option.some.inj z)).1
    have hRD : RmD d (headSpec (mword row :: WS) (rmU d (h1.2.1 - h.2.1) (h1.2.2 - h.2.2))).room := ⟨Nat.le_refl _, Nat.le_refl _⟩
    have hRm : Rm (headSpec (mword row :: WS) (rmU d (h1.2.1 - h.2.1) (h1.2.2 - h.2.2))).room := hRD.rm
    suffices K : W p l e (headSpec (mword row :: WS) (rmU d (h1.2.1 - h.2.1) (h1.2.2 - h.2.2))).room s m vs.toArray below meth c s.heap [] 0 0 (vx_MQ below (QcU base E0 D ρ s.heap r1 h1) (XcU base E0 D ρ s.heap r1 h1) vs.toArray s (h1.2.1 - h.2.1) (h1.2.2 - h.2.2) (fun q => base ≤ q)) (F0 m fr.2.1 ls []) by
      rw [e2] at K
      exact K
    refine hP d fr h r1 h1 hrun (β := β) (by rw [e1]; exact hCtx) hnm hRD hEnv hSim hS0 ?_ ?_ e6 (by rw [e3]; rfl) ?_
    · show 0 + h1.2.1 ≤ (h1.2.1 - h.2.1) + h.2.1
      omega
    · show 0 + h1.2.2 ≤ (h1.2.2 - h.2.2) + h.2.2
      omega
    · rw [e1]
      refine ⟨?_, ?_, ?_⟩
      · intro v i len pc1 st1 H1 locs1 ρ1 β1 ls2 st2 cells1 slots1 a1 a2 a3 a4 a5 a6 a7 a8 a9
        have c1 : cells1 = h1.2.1 - h.2.1 := by omega
        have c2 : slots1 = h1.2.2 - h.2.2 := by omega
        subst c1; subst c2
        rw [hr] at a3
        refine vx_ret (ret_ok B.exec B.bytes B.returns B.notSynchronized (dec_inv hr a2) a3 a7 (fun t w b1 b2 b3 => ?_) a6.2.2)
        exact ⟨v, w, ρ1, β1, a1, rfl, b3, a4, by rw [b1]; exact a5.moved b2.alike, by rw [b1]; exact a6.1, fun q q1 q2 => by rw [b1]; exact a6.2.1 q q1 q2⟩
      · intro E pc1 hx H1 locs1 ρ1 β1 ls2 cells1 slots1 a1 a2 a3 a4 a5 a6 a7 a8 a9
        have c0 : h1.2.1 = hx.2.1 + 1 ∧ h1.2.2 = hx.2.2 + 6 := by rw [a3]; exact ⟨rfl, rfl⟩
        refine thr_ok htr hCtx hRm hEnv a6 a2 a7 ?_ ?_ ?_ ?_ ?_
        · show cells1 + 1 ≤ h1.2.1 - h.2.1
          omega
        · show slots1 + 6 ≤ h1.2.2 - h.2.2
          omega
        · omega
        · omega
        · intro t b1 b2 b3
          refine ⟨E, ρ1, β1, a1, rfl, a4, ?_, Nat.le_trans a6.1 b2, fun q q1 q2 => (b3 q (Nat.lt_of_lt_of_le q1 a6.1)).trans (a6.2.1 q q1 q2)⟩
          rw [a3]
          exact ((a5.grown b2 b3).moved b1).cost 1 6
      · intro E pc1 H1 locs1 ρ1 β1 ls2 rest q ce cells1 slots1 a1 a2 a3 a4 a5 a6 a7 a8 a9 a10
        have hh := hnd_none hr a2
        refine vx_out (fun x hx => ?_) B.notSynchronized a6 a7 a8 (fun t b1 b2 => ?_) a5.2.2 (by omega) (by omega)
        · rw [htab, hh] at hx
          simp [tableOf] at hx
        · exact ⟨E, ρ1, β1, a1, rfl, a3, by rw [b1]; exact a4.moved b2, by rw [b1]; exact a5.1, fun q q1 q2 => by rw [b1]; exact a5.2.1 q q1 q2⟩
  obtain ⟨nm, bytes, maxL, ret, hh⟩ := row
  cases hh with
  | nil =>
    refine vx_ofW (cc := bytes) (maxL := maxL) (ret := ret) (ws' := WS) hpl rfl ?_
    intro p e s m args below meth c s₁ B hml hx hPc
    refine body p e s m args below meth c s₁ B hml ?_ hPc
    cases hl : c.exceptionTable.toList with
    | nil => rfl
    | cons x t => exact (hx x (by rw [hl]; exact List.mem_cons_self)).elim
  | cons x t =>
    refine vx_ofWH (cc := bytes) (maxL := maxL) (ret := ret) (hh := x :: t) (ws' := WS) hpl rfl ?_
    intro p e s m args below meth c s₁ B hml hPc
    refine body p e s m args below meth c s₁ B hml ?_ hPc
    exact vx_table (x := nm) B (atoms_spec (ws := mword (nm, bytes, maxL, ret, x :: t) :: WS) B.pre _ List.mem_cons_self)
