/-! calls: a run of the callee gives its contract; then every run -/
def kpt (base : Nat) (H : Heap) (t : State) : Prop := H.size ≤ t.heap.size ∧ ∀ q, q < H.size → ¬ base ≤ q → t.heap[q]? = H[q]?
def vro (ρ : Nat → List Nat) : Option MV → Option Value → Prop
  | none, w => w = none
  | some v, w => ∃ x, w = some x ∧ vr ρ v x
theorem vro_list {ρ : Nat → List Nat} {v : Option MV} {w : Option Value} (h : vro ρ v w) : srel ρ v.toList w.toList := by
  cases v with
  | none => rw [show w = none from h]; rfl
  | some v => obtain ⟨x, rfl, h1⟩ := h; exact ⟨x, [], rfl, h1, rfl⟩
def PcU (base E0 : Nat) (D : va_G) (ρ : Nat → List Nat) (β : Nat → Nat → Nat) (h : Hp) (H : Heap) (as : List Value) : Array Value → State → Prop := va_Pc as (fun U => U.heap = H ∧ Sim base E0 D ρ β h U U.heap ∧ EnvW base E0 U U.heap)
def QcU (base E0 : Nat) (D : va_G) (ρ : Nat → List Nat) (H : Heap) (r1 : Re) (h1 : Hp) : Array Value → State → Outcome → State → Prop := fun _ _ o t => ∃ v w ρ1 β1, r1 = .inl v ∧ o = .returned w ∧ vro ρ1 v w ∧ Ext ρ ρ1 ∧ Sim base E0 D ρ1 β1 h1 t t.heap ∧ kpt base H t
def XcU (base E0 : Nat) (D : va_G) (ρ : Nat → List Nat) (H : Heap) (r1 : Re) (h1 : Hp) : String → State → State → Prop := fun En _ t => ∃ E ρ1 β1, r1 = .inr E ∧ En = exnm E ∧ Ext ρ ρ1 ∧ Sim base E0 D ρ1 β1 h1 t t.heap ∧ kpt base H t
def rmU (d mc ms : Nat) : Room := { frames := 14 + d, cells := mc, slots := ms, locals := 900 + 60 * d }
def RmD (d : Nat) (R : Room) : Prop := 14 + d ≤ R.frames ∧ 900 + 60 * d ≤ R.locals
theorem RmD.rm {d : Nat} {R : Room} (h : RmD d R) : Rm R := ⟨by have := h.1; omega, by have := h.2; omega⟩
/-- how a run may end, for the walk -/
def EndR (p : Program) (l : Launch) (e : Env) (R : Room) (s : State) (m : MethodId) (args : Array Value) (below : List Frame) (meth : Method) (c : Code) (Q : State → Prop) (base E0 : Nat) (D : va_G) (nL y : Nat) (cells slots : Nat) (ρ : Nat → List Nat) (h : Hp) (r : Re) (h' : Hp) : Prop :=
  (∀ (v : Option MV) (i : Instr) (len pc1 : Nat) (st1 : List MV) (H1 : Heap) (locs1 : List Loc) (ρ1 : Nat → List Nat) (β1 : Nat → Nat → Nat) (ls2 : Array Slot) (st2 : List Value) (cells1 slots1 : Nat), r = .inl v → dec y pc1 = some (i, len) → rst i len st1 ((mrow y).bind (fun r => r.2.2.2.1)) = some v → Ext ρ ρ1 → Sim base E0 D ρ1 β1 h' s H1 → va_S (fun q => base ≤ q) s.heap H1 locs1 → srel ρ1 st1 st2 → cells1 + h.2.1 = cells + h'.2.1 → slots1 + h.2.2 = slots + h'.2.2 → W p l e R s m args below meth c H1 locs1 cells1 slots1 Q (F0 m pc1 ls2 st2)) ∧
  (∀ (E pc1 : Nat) (hx : Hp) (H1 : Heap) (locs1 : List Loc) (ρ1 : Nat → List Nat) (β1 : Nat → Nat → Nat) (ls2 : Array Slot) (cells1 slots1 : Nat), r = .inr E → th y pc1 = some E → h' = hcst hx 1 6 → Ext ρ ρ1 → Sim base E0 D ρ1 β1 hx s H1 → va_S (fun q => base ≤ q) s.heap H1 locs1 → ls2.size = nL → cells1 + h.2.1 = cells + hx.2.1 → slots1 + h.2.2 = slots + hx.2.2 → W p l e R s m args below meth c H1 locs1 cells1 slots1 Q (F0 m pc1 ls2 [])) ∧
  (∀ (E pc1 : Nat) (H1 : Heap) (locs1 : List Loc) (ρ1 : Nat → List Nat) (β1 : Nat → Nat → Nat) (ls2 : Array Slot) (rest : List Value) (q : Addr) (ce : Cell) (cells1 slots1 : Nat), r = .inr E → hnd y pc1 E = some none → Ext ρ ρ1 → Sim base E0 D ρ1 β1 h' s H1 → va_S (fun q => base ≤ q) s.heap H1 locs1 → H1[q]? = some ce → ce.vm = .none → s.vm.findClass (exnm E) = some ce.cls → cells1 + h.2.1 = cells + h'.2.1 → slots1 + h.2.2 = slots + h'.2.2 → vx_W p l e R s m args below meth c H1 locs1 cells1 slots1 Q (F0 m pc1 ls2 rest) q)
/-- every run of n steps is the JVM's -/
def PN (l : Launch) (n : Nat) : Prop := ∀ (d : Nat) (fr : Fr) (h : Hp) (r : Re) (h' : Hp), run d n fr h = some (r, h') → ∀ {p : Program} {e : Env} {R : Room} {s : State} {m : MethodId} {args : Array Value} {below : List Frame} {meth : Method} {c : Code} {H : Heap} {locs : List Loc} {cells slots : Nat} {Q : State → Prop} {ls : Array Slot} {st' : List Value} {ρ : Nat → List Nat} {β : Nat → Nat → Nat} {nL base E0 : Nat} {D : va_G},
  Ctx fr.1 p s m args meth c nL → ((mfct[fr.1]?).map (fun f => f.2.1) = some 1 → meth.name = "<init>") → RmD d R → EnvW base E0 s s.heap → Sim base E0 D ρ β h s H → va_S (fun q => base ≤ q) s.heap H locs → cells + h'.2.1 ≤ R.cells + h.2.1 → slots + h'.2.2 ≤ R.slots + h.2.2 → lrel ρ ls fr.2.2.1 nL → srel ρ fr.2.2.2 st' →
  EndR p l e R s m args below meth c Q base E0 D nL fr.1 cells slots ρ h r h' → W p l e R s m args below meth c H locs cells slots Q (F0 m fr.2.1 ls st')
theorem EndR.step {p : Program} {l : Launch} {e : Env} {R : Room} {s : State} {m : MethodId} {args : Array Value} {below : List Frame} {meth : Method} {c : Code} {Q : State → Prop} {base E0 : Nat} {D : va_G} {nL y cells slots cells1 slots1 : Nat} {ρ ρ1 : Nat → List Nat} {h h1 : Hp} {r : Re} {h' : Hp} (hE : EndR p l e R s m args below meth c Q base E0 D nL y cells slots ρ h r h') (hρ : Ext ρ ρ1) (e1 : cells1 + h.2.1 = cells + h1.2.1) (e2 : slots1 + h.2.2 = slots + h1.2.2) : EndR p l e R s m args below meth c Q base E0 D nL y cells1 slots1 ρ1 h1 r h' := by
  obtain ⟨k1, k2, k3⟩ := hE
  refine ⟨fun v i len pc1 st1 H1 locs1 ρ2 β1 ls2 st2 cs sl a1 a2 a3 a4 a5 a6 a7 a8 a9 => k1 v i len pc1 st1 H1 locs1 ρ2 β1 ls2 st2 cs sl a1 a2 a3 (hρ.tr a4) a5 a6 a7 (by omega) (by omega), fun E pc1 hx H1 locs1 ρ2 β1 ls2 cs sl a1 a2 a3 a4 a5 a6 a7 a8 a9 => k2 E pc1 hx H1 locs1 ρ2 β1 ls2 cs sl a1 a2 a3 (hρ.tr a4) a5 a6 a7 (by omega) (by omega), fun E pc1 H1 locs1 ρ2 β1 ls2 rest q ce cs sl a1 a2 a3 a4 a5 a6 a7 a8 a9 a10 => k3 E pc1 H1 locs1 ρ2 β1 ls2 rest q ce cs sl a1 a2 (hρ.tr a3) a4 a5 a6 a7 a8 (by omega) (by omega)⟩
theorem lv_args_1 {ρ : Nat → List Nat} : ∀ {l : List MV} {vs : List Value} {k i : Nat} {v : MV}, srel ρ l vs → (∀ v ∈ l, mcat v = 1) → l[i]? = some v → ∃ w, (k + i, w) ∈ lv_args k vs ∧ vr ρ v w
  | [], _, _, _, _, _, _, h => by simp at h
  | u :: l, _, k, i, v, hs, hc, h => by
    obtain ⟨w, ws, rfl, h1, h2⟩ := hs
    have hw : w.category = 1 := by rw [vr_cat h1]; exact hc u List.mem_cons_self
    cases i with
    | zero => simp at h; subst h; exact ⟨w, by simp [lv_args], h1⟩
    | succ i =>
      simp at h
      obtain ⟨x, hx, hv⟩ := lv_args_1 (k := k + 1) h2 (fun v hv => hc v (List.mem_cons_of_mem _ hv)) h
      refine ⟨x, ?_, hv⟩
      unfold lv_args
      rw [if_neg (by omega)]
      refine List.mem_cons_of_mem _ ?_
      rw [show k + (i + 1) = k + 1 + i by omega]
      exact hx
theorem lg_len : ∀ {vs : List Value}, (∀ v ∈ vs, v.category = 1) → (lg_sl vs).length = vs.length
  | [], _ => rfl
  | v :: vs, h => by
    have h1 := h v List.mem_cons_self
    unfold lg_sl
    rw [List.flatMap_cons, List.length_append]
    have h2 := lg_len (vs := vs) (fun v hv => h v (List.mem_cons_of_mem _ hv))
    unfold lg_sl at h2
    rw [h2, if_neg (by omega)]
    simp
    omega
theorem srel_cat1 {ρ : Nat → List Nat} : ∀ {l : List MV} {vs : List Value}, srel ρ l vs → (∀ v ∈ l, mcat v = 1) → ∀ w ∈ vs, w.category = 1
  | [], _, h, _, w, hw => by rw [show _ = [] from h] at hw; cases hw
  | u :: l, _, hs, hc, w, hw => by
    obtain ⟨x, ws, rfl, h1, h2⟩ := hs
    rcases List.mem_cons.mp hw with rfl | hw
    · rw [vr_cat h1]; exact hc u List.mem_cons_self
    · exact srel_cat1 h2 (fun v hv => hc v (List.mem_cons_of_mem _ hv)) w hw
/-- the entry of a method -/
theorem ent_ok {y : Nat} {as : List MV} {fr : Fr} {r : MRow} {ρ : Nat → List Nat} {vs : List Value} (he : ent y as = some fr) (hr : mrow y = some r) (hs : srel ρ as vs) : fr.1 = y ∧ fr.2.1 = 0 ∧ fr.2.2.2 = [] ∧ ∀ m : MethodId, ∃ ls, entryFrame m vs.toArray r.2.2.1 = F0 m 0 ls [] ∧ lrel ρ ls fr.2.2.1 r.2.2.1 := by
  unfold ent at he
  rw [hr] at he
  simp only at he
  split at he
  · rename_i g
    cases he
    obtain ⟨g1, g2⟩ := g
    have hc : ∀ v ∈ as, mcat v = 1 := fun v hv => by simpa using List.all_eq_true.mp g2 v hv
    have hl : (lg_sl vs).length = vs.length := lg_len (srel_cat1 hs hc)
    have hvl : vs.length = as.length := srel_len hs
    refine ⟨rfl, rfl, rfl, fun m => ⟨_, lg_entry_eq m vs r.2.2.1, ?_⟩⟩
    have hh := lv_entry vs (n := r.2.2.1) (by rw [hl, hvl]; exact g1)
    refine ⟨hh.1, by simp; omega, hh.2.1, fun i v hv => ?_⟩
    have hv1 : as[i]? = some v := by
      unfold lget at hv
      by_cases hi : i < as.length
      · rw [List.getElem?_append_left (by simpa using hi), List.getElem?_map, List.getElem?_eq_getElem hi] at hv
        rw [List.getElem?_eq_getElem hi]
        exact hv
      · rw [List.getElem?_append_right (by simp; omega)] at hv
        cases hx : (List.replicate (r.2.2.1 - as.length) (none : Option MV))[i - (as.map some).length]? with
        | none => rw [hx] at hv; cases hv
        | some u =>
          rw [hx] at hv
          have := List.eq_of_mem_replicate (List.mem_of_getElem? hx)
          subst this
          cases hv
    obtain ⟨w, h1, h2⟩ := lv_args_1 (k := 0) hs hc hv1
    rw [Nat.zero_add] at h1
    exact ⟨w, hh.2.2 _ h1, h2⟩
  · cases he
