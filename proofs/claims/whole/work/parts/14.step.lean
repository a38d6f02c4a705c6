/-! what holds of the launch wherever the system stands; one step that writes -/
def cdw : Cond → Bool
  | .castable _ _ => true
  | .declares _ => true
  | _ => false
def EnvW (base E0 : Nat) (U : State) (H : Heap) : Prop :=
  AOs U ∧ va_AO "java/lang/Object" U ∧ (∀ q ∈ thtab, ∃ sa, vk_R "Lendlathe" q.2.2.2.2.1 q.2.2.2.2.2.2.2.1 sa U) ∧
  vx_Zq Bundle.tN "UNASSIGNED_STACK" Bundle.steD (fun q => base ≤ q) U H ∧ vx_Zq Bundle.tN "SUPPRESSED_SENTINEL" Bundle.listD (fun q => base ≤ q) U H ∧
  va_Z "java/util/ArrayList" "DEFAULTCAPACITY_EMPTY_ELEMENTDATA" "[Ljava/lang/Object;" (.ref E0) (fun q => base ≤ q) U H ∧
  va_T (.object "java/lang/Object") E0 0 (fun _ => .null) (fun q => base ≤ q) U H ∧
  (∃ mi, va_Mi "[Ljava/lang/Object;" mi U) ∧
  (∀ i j, i < 6 → j < 6 → i ≠ j → va_Nc (exnm i) (exnm j) U) ∧ ∀ w ∈ lw_tbl, cdw w = true → va_Nw w U
theorem AO_moved {t : FieldType} {u U : State} (hvm : u.vm.Alike U.vm) (h : (Cond.arrayOver (.array t)).before #[] u = true) : (Cond.arrayOver (.array t)).before #[] U = true := by
  unfold Cond.before Cond.holds at h ⊢
  simp only [Cond.value, beq_iff_eq] at h ⊢
  cases hc : u.vm.findClass (FieldType.array t).toString with
  | none => simp [hc] at h
  | some comp =>
    simp only [hc, Option.bind_some, Option.bind_eq_some_iff, Option.map_eq_some_iff] at h
    obtain ⟨c, h2, k, h3, h4⟩ := h
    obtain ⟨k', hk', he⟩ := hvm.2.2 _ _ h3
    have hi : (U.vm.classes.findIdx? fun (x : Class) => match x.kind with | .array component _ => component == comp | _ => false) = some c := by
      have e1 := va_idx_bare U.vm comp
      have e2 := va_idx_bare u.vm comp
      rw [hvm.bare_eq] at e1
      exact (e1.symm.trans e2).trans h2
    have hkind : k'.kind = k.kind := by rw [he]
    rw [hvm.findClass, hc, Option.bind_some, Option.bind_eq_some_iff]
    refine ⟨c, hi, ?_⟩
    rw [hk', Option.map_some, hkind, hvm.findClass]
    exact congrArg some h4
theorem EnvW.moved {base E0 : Nat} {u U : State} {H : Heap} (hW : u.WarmedH U.vm) (h : EnvW base E0 u H) : EnvW base E0 U H := by
  obtain ⟨h1, h2, h3, h4, h5, h6, h7, ⟨mi, h8⟩, h9, h10⟩ := h
  have hvm := hW.alike
  exact ⟨fun t ht => by have h := h1 t ht; rw [(over_ty t ht).1] at h ⊢; exact AO_moved hvm h, va_AO.moved hvm h2, fun q hq => by obtain ⟨sa, h⟩ := h3 q hq; exact ⟨sa, vk_R.warm hW h⟩, h4.moved hvm, h5.moved hvm, h6.moved hvm, h7.moved hvm, ⟨mi, h8.moved hvm⟩, fun i j x y z => (h9 i j x y z).moved hvm, fun w hw hc => by
    have h := h10 w hw hc
    cases w with
    | castable C T => exact h.warmC hW
    | declares x => exact h.warmD hW
    | _ => cases hc⟩
theorem EnvW.kept {base E0 : Nat} {U : State} {H H1 : Heap} (h : EnvW base E0 U H) (hq : ∀ a : Nat, a < H.size → ¬ base ≤ a → H1[a]? = H[a]?) : EnvW base E0 U H1 := by
  obtain ⟨h1, h2, h3, h4, h5, h6, h7, h8, h9⟩ := h
  exact ⟨h1, h2, h3, h4.kept hq, h5.kept hq, h6.kept hq, h7.kept hq, h8, h9⟩
/-- the walk goes on from the place pc1 of the small machine -/
def Nx (p : Program) (l : Launch) (e : Env) (R : Room) (s : State) (m : MethodId) (args : Array Value) (below : List Frame) (meth : Method) (c : Code) (Q : State → Prop) (base E0 : Nat) (D : va_G) (nL cells slots : Nat) (ρ : Nat → List Nat) (h : Hp) (pc1 : Nat) (L1 : Lo) (st1 : List MV) (h1 : Hp) : Prop :=
  ∀ (H1 : Heap) (locs1 : List Loc) (ρ1 : Nat → List Nat) (β1 : Nat → Nat → Nat) (ls2 : Array Slot) (st2 : List Value) (cells1 slots1 : Nat), Ext ρ ρ1 → Sim base E0 D ρ1 β1 h1 s H1 → va_S (fun q => base ≤ q) s.heap H1 locs1 → lrel ρ1 ls2 L1 nL → srel ρ1 st1 st2 → cells1 + h.2.1 = cells + h1.2.1 → slots1 + h.2.2 = slots + h1.2.2 →
    W p l e R s m args below meth c H1 locs1 cells1 slots1 Q (F0 m pc1 ls2 st2)
/-- 'new ArrayList(); dup; ArrayList()' at a site of lists -/
def isNL (y pc idx s0 : Nat) (st : List MV) : Prop := al y pc = some s0 ∧ sk s0 = (2, 0) ∧ cl (mcl y) idx = some 11 ∧ (st.map mcat).sum ≤ 6 ∧ dec y (pc + 3) = some (.dup, 1) ∧ ∃ i2, dec y (pc + 4) = some (.invokespecial i2, 3) ∧ jl (mcl y) i2 = some 0
/-- what the JDK's lists are held to -/
def LstOK (l : Launch) : Prop := ∀ {p : Program} {e : Env} {R : Room} {s : State} {m : MethodId} {args : Array Value} {below : List Frame} {meth : Method} {c : Code} {H : Heap} {locs : List Loc} {cells slots : Nat} {Q : State → Prop} {pc : Nat} {ls : Array Slot} {st' : List Value} {ρ : Nat → List Nat} {β : Nat → Nat → Nat} {nL base E0 : Nat} {L : Lo} {st : List MV} {h : Hp} {D : va_G} {y : Nat} {i : Instr} {len : Nat} {z : Nat × Lo × List MV × Hp},
  Ctx y p s m args meth c nL → Rm R → EnvW base E0 s s.heap → Sim base E0 D ρ β h s H → va_S (fun q => base ≤ q) s.heap H locs → cells + z.2.2.2.2.1 ≤ R.cells + h.2.1 → slots + z.2.2.2.2.2 ≤ R.slots + h.2.2 → dec y pc = some (i, len) → lrel ρ ls L nL → srel ρ st st' →
  ((∃ idx w, i = .invokevirtual idx ∧ hrd (mcl y) i len pc L st h = some w ∧ z = (w.1, w.2.1, w.2.2, h)) ∨ (∃ idx k, i = .invokevirtual idx ∧ jl (mcl y) idx = some k ∧ wls k len pc L st h = some z) ∨ (∃ idx s0, i = .new idx ∧ len = 3 ∧ isNL y pc idx s0 st ∧ z = (pc + 7, L, vR s0 (h.1 s0).length :: st, hnew h s0 [[]] 1 3))) →
  Nx p l e R s m args below meth c Q base E0 D nL cells slots ρ h z.1 z.2.1 z.2.2.1 z.2.2.2 → W p l e R s m args below meth c H locs cells slots Q (F0 m pc ls st')
section ST
variable {p : Program} {l : Launch} {e : Env} {R : Room} {s : State} {m : MethodId} {args : Array Value} {below : List Frame} {meth : Method} {c : Code} {H : Heap} {locs : List Loc} {cells slots : Nat} {Q : State → Prop}
variable {pc : Nat} {ls : Array Slot} {st' : List Value} {ρ : Nat → List Nat} {β : Nat → Nat → Nat} {nL base E0 : Nat} {L : Lo} {st : List MV} {h : Hp} {D : va_G}
set_option maxHeartbeats 4000000 in
theorem hwr_ok (hL : LstOK l) {y : Nat} (C0 : Ctx y p s m args meth c nL) (hnm : (mfct[y]?).map (fun f => f.2.1) = some 1 → meth.name = "<init>") (hR : Rm R) (hE : EnvW base E0 s s.heap) (S : Sim base E0 D ρ β h s H) (hS : va_S (fun q => base ≤ q) s.heap H locs) {i : Instr} {len : Nat} {z : Nat × Lo × List MV × Hp} (hc1 : cells + z.2.2.2.2.1 ≤ R.cells + h.2.1) (hc2 : slots + z.2.2.2.2.2 ≤ R.slots + h.2.2) (hh : hwr y i len pc L st h = some z) (hd : dec y pc = some (i, len)) (hl : lrel ρ ls L nL) (hs : srel ρ st st')
    (k : Nx p l e R s m args below meth c Q base E0 D nL cells slots ρ h z.1 z.2.1 z.2.2.1 z.2.2.2) : W p l e R s m args below meth c H locs cells slots Q (F0 m pc ls st') := by
  cases i with
  | putfield idx =>
    simp only [hwr] at hh
    split at hh
    · rename_i v q st1
      split at hh
      · rename_i f hf
        split at hh
        · rename_i ob hg
          split at hh
          · rename_i g
            cases hh
            obtain ⟨rfl, g2, g3, g4, g5⟩ := g
            obtain ⟨w, _, rfl, hv, wr, st2, rfl, hw, h5⟩ := hs
            exact put_ok C0 S hS hf hg g2 hv hw g4 (g5.imp id (fun z => ⟨hnm z.1, z.2⟩)) hd fun H1 locs1 S1 hS1 => k H1 locs1 ρ β ls st2 cells slots Ext.rf S1 hS1 hl h5 rfl rfl
          · cases hh
        · cases hh
      · cases hh
    · cases hh
  | iastore => exact ast_ok C0 S hS hh (Or.inl rfl) hd hs fun H1 locs1 st2 e1 h5 S1 hS1 => k H1 locs1 ρ β ls st2 cells slots Ext.rf S1 hS1 (by rw [e1]; exact hl) h5 (by obtain ⟨v, j, q, st1, ob, w, rfl, rfl, hg, hk, h0, hj, hcv, rfl⟩ := wst_inv hh; rfl) (by obtain ⟨v, j, q, st1, ob, w, rfl, rfl, hg, hk, h0, hj, hcv, rfl⟩ := wst_inv hh; rfl)
  | lastore => exact ast_ok C0 S hS hh (Or.inr (Or.inl rfl)) hd hs fun H1 locs1 st2 e1 h5 S1 hS1 => k H1 locs1 ρ β ls st2 cells slots Ext.rf S1 hS1 (by rw [e1]; exact hl) h5 (by obtain ⟨v, j, q, st1, ob, w, rfl, rfl, hg, hk, h0, hj, hcv, rfl⟩ := wst_inv hh; rfl) (by obtain ⟨v, j, q, st1, ob, w, rfl, rfl, hg, hk, h0, hj, hcv, rfl⟩ := wst_inv hh; rfl)
  | bastore => exact ast_ok C0 S hS hh (Or.inr (Or.inr (Or.inl rfl))) hd hs fun H1 locs1 st2 e1 h5 S1 hS1 => k H1 locs1 ρ β ls st2 cells slots Ext.rf S1 hS1 (by rw [e1]; exact hl) h5 (by obtain ⟨v, j, q, st1, ob, w, rfl, rfl, hg, hk, h0, hj, hcv, rfl⟩ := wst_inv hh; rfl) (by obtain ⟨v, j, q, st1, ob, w, rfl, rfl, hg, hk, h0, hj, hcv, rfl⟩ := wst_inv hh; rfl)
  | castore => exact ast_ok C0 S hS hh (Or.inr (Or.inr (Or.inr (Or.inl rfl)))) hd hs fun H1 locs1 st2 e1 h5 S1 hS1 => k H1 locs1 ρ β ls st2 cells slots Ext.rf S1 hS1 (by rw [e1]; exact hl) h5 (by obtain ⟨v, j, q, st1, ob, w, rfl, rfl, hg, hk, h0, hj, hcv, rfl⟩ := wst_inv hh; rfl) (by obtain ⟨v, j, q, st1, ob, w, rfl, rfl, hg, hk, h0, hj, hcv, rfl⟩ := wst_inv hh; rfl)
  | dastore => exact ast_ok C0 S hS hh (Or.inr (Or.inr (Or.inr (Or.inr rfl)))) hd hs fun H1 locs1 st2 e1 h5 S1 hS1 => k H1 locs1 ρ β ls st2 cells slots Ext.rf S1 hS1 (by rw [e1]; exact hl) h5 (by obtain ⟨v, j, q, st1, ob, w, rfl, rfl, hg, hk, h0, hj, hcv, rfl⟩ := wst_inv hh; rfl) (by obtain ⟨v, j, q, st1, ob, w, rfl, rfl, hg, hk, h0, hj, hcv, rfl⟩ := wst_inv hh; rfl)
  | invokevirtual idx =>
    simp only [hwr] at hh
    split at hh
    · rename_i k1 hk1
      exact hL C0 hR hE S hS hc1 hc2 hd hl hs (Or.inr (Or.inl ⟨idx, k1, rfl, hk1, hh⟩)) k
    · cases hh
  | new idx =>
    simp only [hwr] at hh
    split at hh
    · rename_i s0 hal
      split at hh
      · rename_i g
        cases hh
        obtain ⟨rfl, g2, g3, g4, g5⟩ := g
        have e1 : sk s0 = (0, s0) := Prod.ext g2 g3
        have hc1' : cells + (h.2.1 + 1) ≤ R.cells + h.2.1 := hc1
        have hc2' : slots + (h.2.2 + fN s0) ≤ R.slots + h.2.2 := hc2
        exact new_ok C0 S hS g4 e1 g5 (by omega) (by omega) hd _ _ fun H1 ρ1 β1 a hE1 ha S1 hS1 => k H1 locs ρ1 β1 ls _ _ _ hE1 S1 hS1 (lrel_mono hE1 hl) ⟨_, _, rfl, ⟨a, ha, rfl⟩, srel_mono hE1 hs⟩ (by show _ = cells + (h.2.1 + 1); omega) (by show _ = slots + (h.2.2 + fN s0); omega)
      · split at hh
        · rename_i g
          cases hh
          obtain ⟨rfl, g6⟩ := g
          have hnl : isNL y pc idx s0 st := by
            simp only [nlb, Bool.and_eq_true, decide_eq_true_eq] at g6
            obtain ⟨⟨⟨⟨g2, g3⟩, g4⟩, g5⟩, g6⟩ := g6
            refine ⟨hal, g2, g3, g4, g5, ?_⟩
            split at g6
            · rename_i i2 hi2
              exact ⟨i2, hi2, by simpa using g6⟩
            · cases g6
          exact hL C0 hR hE S hS hc1 hc2 hd hl hs (Or.inr (Or.inr ⟨idx, s0, rfl, rfl, hnl, rfl⟩)) k
        · cases hh
    · cases hh
  | newarray t =>
    simp only [hwr] at hh
    split at hh
    · rename_i s0 hal
      split at hh
      · rename_i n st1
        split at hh
        · rename_i g
          cases hh
          obtain ⟨rfl, g2, g3, g4, g5, g6⟩ := g
          have e1 : sk s0 = (1, (sk s0).2) := Prod.ext g2 rfl
          obtain ⟨_, st2, rfl, rfl, h5⟩ := hs
          have hc1' : cells + (h.2.1 + 1) ≤ R.cells + h.2.1 := hc1
          have hc2' : slots + (h.2.2 + n.toNatClampNeg) ≤ R.slots + h.2.2 := hc2
          exact newa_ok C0 S hS g3 e1 g4 g5 g6 (by omega) (by omega) hd _ _ fun H1 ρ1 β1 a hE1 ha S1 hS1 => k H1 locs ρ1 β1 ls _ _ _ hE1 S1 hS1 (lrel_mono hE1 hl) ⟨_, _, rfl, ⟨a, ha, rfl⟩, srel_mono hE1 h5⟩ (by show _ = cells + (h.2.1 + 1); omega) (by show _ = slots + (h.2.2 + n.toNatClampNeg); omega)
        · cases hh
      · cases hh
    · cases hh
  | multianewarray idx dims =>
    simp only [hwr] at hh
    split at hh
    · rename_i s0 hal
      split at hh
      · rename_i kq n st1
        split at hh
        · rename_i g
          cases hh
          obtain ⟨rfl, rfl, g1, g2, g3, g4, g5, g6, g7, g8⟩ := g
          have e1 : sk s0 = (1, (sk s0).2) := Prod.ext g2 rfl
          have e2 : sk (s0 + 1) = (1, ity (sk s0).2) := g4
          obtain ⟨_, _, rfl, rfl, _, st2, rfl, rfl, h5⟩ := hs
          have hc1' : cells + (h.2.1 + 1 + n.toNatClampNeg) ≤ R.cells + h.2.1 := hc1
          have hc2' : slots + (h.2.2 + n.toNatClampNeg + n.toNatClampNeg * kq.toNatClampNeg) ≤ R.slots + h.2.2 := hc2
          refine mna_ok C0 hE.1 S hS g1 e1 e2 g5 g6 g7 g8 (by omega) (by omega) hd 1 n.toNatClampNeg n.toNatClampNeg (n.toNatClampNeg * kq.toNatClampNeg) fun H1 ρ1 β1 a hE1 ha S1 hS1 => k H1 locs ρ1 β1 ls _ _ _ hE1 ?_ hS1 (lrel_mono hE1 hl) ⟨_, _, rfl, ⟨a, ha, rfl⟩, srel_mono hE1 h5⟩ (by show _ = cells + (h.2.1 + 1 + n.toNatClampNeg); omega) (by show _ = slots + (h.2.2 + n.toNatClampNeg + n.toNatClampNeg * kq.toNatClampNeg); omega)
          rw [e2]
          exact S1
        · cases hh
      · cases hh
    · cases hh
  | _ => simp [hwr] at hh
end ST
