/-! the JDK's lists: frames and calls -/
def JC (y : MethodName) (cc : ByteArray) (mL : Nat) (ret : Option FieldType) (p : Program) (s : State) (m : MethodId) (args : Array Value) (meth : Method) (c : Code) : Prop :=
  p.tables.exec = Jvm.exec ∧ c.code = cc ∧ c.maxLocals = mL ∧ meth.sig.returnType = ret ∧ s.vm.findClass y.cls = some m.cls ∧ meth.locks = false ∧ meth.name = y.name ∧ ∀ w ∈ WS, w.before args s = true
theorem JC.fix {y : MethodName} {cc : ByteArray} {mL : Nat} {ret : Option FieldType} {p : Program} {s : State} {m : MethodId} {args : Array Value} {meth : Method} {c : Code} (h : JC y cc mL ret p s m args meth c) : CallFix p m c cc mL s args WS y.cls := ⟨h.1, h.2.1, h.2.2.1, h.2.2.2.2.1, h.2.2.2.2.2.2.2⟩
def rmJ (k mc ms : Nat) : Room := { frames := k, cells := mc, slots := ms, locals := 100 * k }
def PcJ (base E0 mi : Nat) (D : va_G) (tys : List (ClassId × FieldType)) (H : Heap) (as : List Value) : Array Value → State → Prop := va_Pc as (fun U => U.heap = H ∧ va_K D vcl tys U ∧ EnvW base E0 U U.heap ∧ va_Mi "[Ljava/lang/Object;" mi U)
theorem PcJ_blind {base E0 mi : Nat} {D : va_G} {tys : List (ClassId × FieldType)} {H : Heap} {as : List Value} : FrameBlind (PcJ base E0 mi D tys H as) := by
  intro a U g mk q
  obtain ⟨q1, q2, q3, q4, q5⟩ := q
  exact ⟨q1, q2, va_K.moved (u := U) (U := U.calling g mk a) (Vm.Alike.refl U.vm) q3, EnvW.moved (u := U) (U := U.calling g mk a) (State.WarmedH.refl U) q4, va_Mi.moved (u := U) (U := U.calling g mk a) (Vm.Alike.refl U.vm) q5⟩
abbrev JM (l : Launch) (y : MethodName) (cc : ByteArray) (mL : Nat) (ret : Option FieldType) (k mc ms base E0 mi : Nat) (D : va_G) (tys : List (ClassId × FieldType)) (H : Heap) (as : List Value) (Qc : Array Value → State → Outcome → State → Prop) (free : Addr → Prop) : Prop :=
  Met l y (Cond.code y cc mL ret :: WS) (rmJ k mc ms) (PcJ base E0 mi D tys H as) Qc mc ms free
theorem JM.mk {l : Launch} {y : MethodName} {cc : ByteArray} {mL : Nat} {ret : Option FieldType} {k mc ms base E0 mi : Nat} {D : va_G} {tys : List (ClassId × FieldType)} {H : Heap} {as : List Value} {Qc : Array Value → State → Outcome → State → Prop} {free : Addr → Prop} (hy : plainName y.cls = true)
    (hn : (lg_sl as).length ≤ mL)
    (body : ∀ (p : Program) (e : Env) (s : State) (m : MethodId) (below : List Frame) (meth : Method) (c : Code) (ls : Array Slot), JC y cc mL ret p s m as.toArray meth c → s.heap = H → va_K D vcl tys s → EnvW base E0 s s.heap → va_Mi "[Ljava/lang/Object;" mi s → lv_has ls mL (lv_args 0 as) →
      W p l e (rmJ k mc ms) s m as.toArray below meth c s.heap [] 0 0 (MQ below Qc as.toArray s mc ms free) (F0 m 0 ls [])) : JM l y cc mL ret k mc ms base E0 mi D tys H as Qc free := by
  refine Met.ofW (cc := cc) (maxL := mL) (ret := ret) hy rfl ?_
  intro p e s m args below meth c s₁ B hml hv
  obtain ⟨rfl, h1, h2, h3, h4⟩ := hv
  have hts := atoms_spec (ws := Cond.code y cc mL ret :: WS) B.pre
  rw [lg_entry_eq]
  exact body p e s m below meth c _ ⟨B.exec, B.bytes, hml, B.returns, findClass_of_methodNamed B.named, B.notSynchronized, (name_of_methodNamed B.named B.method).1, fun w hw => hts w (List.mem_cons_of_mem _ hw)⟩ h1 h2 h3 h4 (lv_entry as (n := mL) hn)
def JB (own : String) (idx : Nat) (y2 : MethodName) (cc2 : ByteArray) (mL2 : Nat) (ret2 : Option FieldType) (n : Nat) : Prop :=
  Cond.methodLink own idx y2 ∈ WS ∧ Cond.initialized y2.cls ∈ WS ∧ Cond.code y2 cc2 mL2 ret2 ∈ WS ∧ (y2.cls ≠ "java/lang/invoke/MethodHandle" ∧ y2.cls ≠ "java/lang/invoke/VarHandle") ∧ (parseMethodDescriptor y2.desc).map (fun d => d.parameters.length) = some n ∧ mL2 ≤ 10
theorem Z_mono {C n d : String} {v : Value} {A A' : Nat → Prop} {U : State} {H : Heap} (h : va_Z C n d v A U H) (hA : ∀ q, A' q → A q) : va_Z C n d v A' U H := by
  obtain ⟨cf, kf, fi, f, a, cell, h1, h2, h3, h4, h5, h6, h7, h8⟩ := h
  exact ⟨cf, kf, fi, f, a, cell, h1, h2, h3, h4, h5, h6, h7, fun z => h8 (hA _ z)⟩
section JS
variable {p : Program} {l : Launch} {e : Env} {R : Room} {s : State} {m : MethodId} {args : Array Value} {below : List Frame} {meth : Method} {c : Code} {H : Heap} {locs : List Loc} {cells slots : Nat} {Q : State → Prop}
variable {cc : ByteArray} {pc nL : Nat} {ls : Array Slot} {rest : List Value} {A : Nat → Prop} {own : String}
variable {y2 : MethodName} {cc2 : ByteArray} {mL2 : Nat} {ret2 : Option FieldType} {k2 mc ms base E0 mi : Nat} {D : va_G} {tys : List (ClassId × FieldType)} {as : List Value} {Qc : Array Value → State → Outcome → State → Prop} {free : Addr → Prop} {idx n : Nat}
theorem JB.cb (h : JB own idx y2 cc2 mL2 ret2 n) (hts : ∀ w ∈ WS, w.before args s = true) (hk : k2 + 1 ≤ R.frames) (hl : 100 * k2 + 30 ≤ R.locals) : CallB R s args own idx y2 cc2 mL2 ret2 (Cond.code y2 cc2 mL2 ret2 :: WS) (rmJ k2 mc ms) mc ms n := by
  obtain ⟨h1, h2, h3, h4, h5, h6⟩ := h
  refine ⟨rfl, rfl, hk, ?_, fun w hw a' U hW => ?_, List.mem_cons_self, hts _ h3, hts _ h2, h4, fun sig h9 => ?_, hts _ h1⟩
  · show 8 + (mL2 + 11) + 100 * k2 ≤ _
    omega
  · have hw' : w ∈ WS := by
      rcases List.mem_cons.mp hw with rfl | h9
      · exact h3
      · exact h9
    exact word_at hW (WS_good w hw') (hts w hw')
  · rw [h9] at h5
    exact (Option.some.inj h5).symm
theorem pcj_at {H0 : Heap} (hA : ∀ q, A q → base ≤ q) (hK : va_K D vcl tys s) (hE : EnvW base E0 s s.heap) (hM0 : va_Mi "[Ljava/lang/Object;" mi s) (hS : va_S A s.heap H locs) (vs : List Value) (U : State) (hU : U.heap = H) (hW : s.WarmedH U.vm) : PcJ base E0 mi D tys H vs vs.toArray U := by
  have h1 : EnvW base E0 s H := hE.kept fun a h1 h2 => hS.2.1 a h1 (fun z => h2 (hA _ z))
  exact ⟨rfl, hU, va_K.moved hW.alike hK, by rw [hU]; exact h1.moved hW, hM0.moved hW.alike⟩
theorem jcallS (F : CallFix p m c cc nL s args WS own) (hM : JM l y2 cc2 mL2 ret2 k2 mc ms base E0 mi D tys H as Qc free) (hB : JB own idx y2 cc2 mL2 ret2 n) (hst : Cond.static y2 ∈ WS) (hk : k2 + 1 ≤ R.frames) (hl : 100 * k2 + 30 ≤ R.locals) (hA : ∀ q, A q → base ≤ q) (hK : va_K D vcl tys s) (hE : EnvW base E0 s s.heap) (hM0 : va_Mi "[Ljava/lang/Object;" mi s) (hS : va_S A s.heap H locs)
    (hn : as.length = n) (hsz : ls.size = nL) (hW : (rest.map fun v => v.category).sum ≤ 8) (hd : decode cc pc = .ok (.invokestatic idx, 3)) (hf : cells + mc ≤ R.cells ∧ slots + ms ≤ R.slots) {st : List Value} (hst2 : st = as.reverse ++ rest) :
    va_Run p l e R s m args below meth c H locs cells slots mc ms (F0 m pc ls st) rest (Qc as.toArray) free :=
  va_runS F hM ⟨hB.cb F.2.2.2.2 hk hl, F.2.2.2.2 _ hst⟩ ⟨PcJ_blind, pcj_at (H0 := H) hA hK hE hM0 hS _⟩ rfl hn hsz hst2 (lv_room hW) hd hf
theorem jcallV {a : Nat} {cv : String} (F : CallFix p m c cc nL s args WS own) (hM : JM l y2 cc2 mL2 ret2 k2 mc ms base E0 mi D tys H (.ref a :: as) Qc free) (hB : JB own idx y2 cc2 mL2 ret2 n) (hst : Cond.instanceMethod y2 ∈ WS) (hse : Cond.selects cv y2 y2 ∈ WS) (hk : k2 + 1 ≤ R.frames) (hl : 100 * k2 + 30 ≤ R.locals) (hA : ∀ q, A q → base ≤ q) (hK : va_K D vcl tys s) (hE : EnvW base E0 s s.heap) (hM0 : va_Mi "[Ljava/lang/Object;" mi s) (hS : va_S A s.heap H locs)
    (hr : ∃ cellB : Cell, H[a]? = some cellB ∧ cellB.vm.isStatics = false ∧ s.vm.findClass cv = some cellB.cls)
    (hn : as.length = n) (hsz : ls.size = nL) (hW : (rest.map fun v => v.category).sum ≤ 8) (hd : decode cc pc = .ok (.invokevirtual idx, 3)) (hf : cells + mc ≤ R.cells ∧ slots + ms ≤ R.slots) {st : List Value} (hst2 : st = as.reverse ++ .ref a :: rest) :
    va_Run p l e R s m args below meth c H locs cells slots mc ms (F0 m pc ls st) rest (Qc (Value.ref a :: as).toArray) free :=
  va_runV F hM ⟨hB.cb F.2.2.2.2 hk hl, F.2.2.2.2 _ hst, F.2.2.2.2 _ hse⟩ ⟨PcJ_blind, hr, pcj_at (H0 := H) hA hK hE hM0 hS _⟩ rfl hn hsz hst2 (lv_room hW) hd hf
theorem jcallI {a : Nat} (F : CallFix p m c cc nL s args WS own) (hM : JM l y2 cc2 mL2 none k2 mc ms base E0 mi D tys H (.ref a :: as) Qc free) (hB : JB own idx y2 cc2 mL2 none n) (hst : Cond.instanceMethod y2 ∈ WS) (hi : y2.name = "<init>") (hk : k2 + 1 ≤ R.frames) (hl : 100 * k2 + 30 ≤ R.locals) (hA : ∀ q, A q → base ≤ q) (hK : va_K D vcl tys s) (hE : EnvW base E0 s s.heap) (hM0 : va_Mi "[Ljava/lang/Object;" mi s) (hS : va_S A s.heap H locs)
    (hn : as.length = n) (hsz : ls.size = nL) (hW : (rest.map fun v => v.category).sum ≤ 8) (hd : decode cc pc = .ok (.invokespecial idx, 3)) (hf : cells + mc ≤ R.cells ∧ slots + ms ≤ R.slots) {st : List Value} (hst2 : st = as.reverse ++ .ref a :: rest) :
    va_Run p l e R s m args below meth c H locs cells slots mc ms (F0 m pc ls st) rest (Qc (Value.ref a :: as).toArray) free :=
  va_runI F hM ⟨hB.cb F.2.2.2.2 hk hl, hi, F.2.2.2.2 _ hst⟩ ⟨PcJ_blind, pcj_at (H0 := H) hA hK hE hM0 hS _⟩ rfl hn hsz hst2 (lv_room hW) hd hf
end JS
