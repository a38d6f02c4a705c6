/-! THE CLAIM OUT OF ONE WALK OF THE LAW'S BODY. Your part is whole_start (and what it stands on); all else here is the same for every law, but numbers. -/
def R_law : String := "LendlatheLaw"
def lw_P (b : Addr) (xs : List Int32) (args : Array Value) (s : State) : Prop := args = #[.ref b] ∧ s.IntsAt b xs ∧ xs.length ≤ 3584 ∧ (Jvm.Cond.and given_1 narrow_1).before args s = true
/-- what a walk over the start with the record d0 says of its end, said of the start itself -/
theorem lw_closed {s t : State} {o : Outcome} {d0 : Drawn} {L : List Loc} {k n : Nat} (hd0 : s.drawn.sameBut d0 lw_cs) (hv : ∃ v, o = .returned v) (hW : (s.setDrawn d0).WarmedH t.vm) (hs : (s.setDrawn d0).sameButNew ({ t with vm := s.vm } : State) L k n) : State.butDraws s t lw_cs (fun t1 => Framed s o t1 L k n) := by
  have h2 : t.drawn = d0 := congrArg State.drawn hs.1
  refine ⟨⟨hv, hW, State.sameButNew.setDrawn hs s.drawn⟩, ?_, by decide⟩
  rw [h2]
  exact hd0
def lw_Q (_ : Array Value) (s : State) (o : Outcome) (t : State) : Prop := o = .returned (some (.int 1)) ∧ State.butDraws s t lw_cs (fun t1 => Framed s o t1 [] 603072 7215210)
def lw_Z (below : List Frame) (a : Array Value) (s : State) : State → Prop := fun t => ∃ o, t.status = .running ∧ Ended t below o ∧ lw_Q a s o t
/-- the law's own end, with 1 on the stack, nothing written that was there before, its room as the claim has it; d0: the record of draws at this point (at the entry s.drawn: begin with 'refine W.base ?_' and 'have hd0 := Drawn.sameBut.refl s.drawn lw_cs') -/
theorem lw_ret {p : Program} {l : Launch} {e : Env} {s : State} {m : MethodId} {below : List Frame} {meth : Method} {c : Code} {b : Nat} {d0 : Drawn} (hd0 : s.drawn.sameBut d0 lw_cs) (hx : p.tables.exec = Jvm.exec) (hb : c.code = code) (hr : meth.sig.returnType = ret) (hlocks : meth.locks = false) {pc : Nat} {H : Heap} {ls : Array Slot} (hdg : decode code pc = .ok (.ireturn, 1)) : W p l e room_1 (s.setDrawn d0) m #[Value.ref b] below meth c H [] 603072 7215210 (lw_Z below #[Value.ref b] s) (F0 m pc ls [.int 1]) := by
  intro T hT X
  obtain ⟨fs, hret, hrun, hended, hW, hframe⟩ := X.leave (v := some (.int 1)) (hlocks := hlocks) (fun h => by rw [hr] at h; cases h)
  have hmeth' : T.vm.method? m = some meth := X.method'
  refine ⟨T.setFrames fs, ?_, .returned (some (.int 1)), hrun, hended, rfl, lw_closed hd0 ⟨_, rfl⟩ hW hframe⟩
  jvm_step X.here [X.here.top, hx, hb, hdg, hmeth', hr, ret, narrow_b1]
  (try refine ⟨rfl, ?_⟩); (try refine ⟨rfl, ?_⟩)
  first | (intro acts; rw [hret _ acts rfl rfl rfl]) | rw [hret _ _ rfl rfl rfl]
  exact Steps.refl _
/-- what holds at the law's entry: the machine, the code, the tables' words (any of lw_tbl by 'hts w (by decide +kernel)'), the script of L ints xs at the cell b, what the Statement gives of the start (any of its parts by flat_of_before) -/
def lw_At (p : Program) (s : State) (m : MethodId) (meth : Method) (c : Code) (b L : Nat) (xs : Nat → Int32) : Prop :=
  p.tables.exec = Jvm.exec ∧ c.code = code ∧ meth.sig.returnType = ret ∧ c.maxLocals = 9 ∧ s.vm.findClass R_law = some m.cls ∧ (∀ w ∈ lw_tbl, w.before #[Value.ref b] s = true) ∧ va_X b L xs s s.heap ∧ b < s.heap.size ∧ meth.locks = false ∧ (Jvm.Cond.and given_1 narrow_1).before #[Value.ref b] s = true
/-! the law's entry: what holds of the launch there; the claim out of one run of the small machine -/
def yLaw : Nat := 216
theorem row_law : mrow 216 = some (⟨"LendlatheLaw", "law", "([I)Z"⟩, code, 9, some .boolean, []) := by
  have h : mtab[216]? = mtab_9[0]? := rfl
  exact h
theorem vk_of {args : Array Value} {s : State} {own tx : String} {k : Nat} (h1 : (Cond.stringRef own k tx).before args s = true) (h2 : (Cond.exactly (.string own k) "java/lang/String").before args s = true) : ∃ sa, vk_R own k tx sa s := by
  obtain ⟨a, c, cell, kk, q1, -⟩ := Cond.exactly_spec (args := args) (first := s) (o := none) (s := s) (idx := []) h2
  exact ⟨a, h1, q1⟩
def okS (q : Nat × Nat × Nat × Nat × Nat × Nat × Nat × String × Nat) : Bool := match q with
  | (_, _, _, _, is, _, _, text, pl) => decide (lw_tbl[pl]? = some (.stringRef "Lendlathe" is text))
set_option maxRecDepth 100000 in
set_option maxHeartbeats 4000000 in
theorem okS_all : thtab.all okS = true := by decide +kernel
def gv : Cond := Jvm.Cond.and given_1 narrow_1
set_option maxRecDepth 100000 in
set_option maxHeartbeats 4000000 in
theorem okS2_all : thtab.all (fun q => decide (Cond.exactly (.string "Lendlathe" q.2.2.2.2.1) "java/lang/String" ∈ flatC gv)) = true := by decide +kernel
set_option maxRecDepth 100000 in
set_option maxHeartbeats 4000000 in
theorem okN_all : ((List.range 6).all (fun i => (List.range 6).all (fun j => decide (i = j) || decide (Cond.not (.castable (exnm i) (exnm j)) ∈ flatC gv)))) = true := by decide +kernel
set_option maxRecDepth 100000 in
theorem gv_1 : Cond.arrayOf (.static "java/util/ArrayList" "DEFAULTCAPACITY_EMPTY_ELEMENTDATA" "[Ljava/lang/Object;") (.object "java/lang/Object") ∈ flatC gv := by decide +kernel
set_option maxRecDepth 100000 in
theorem gv_2 : Cond.eq (.length (.static "java/util/ArrayList" "DEFAULTCAPACITY_EMPTY_ELEMENTDATA" "[Ljava/lang/Object;")) (.int 0) ∈ flatC gv := by decide +kernel
set_option maxRecDepth 100000 in
theorem gv_3 : Cond.isRef (.static "java/lang/Throwable" "UNASSIGNED_STACK" "[Ljava/lang/StackTraceElement;") ∈ flatC gv := by decide +kernel
set_option maxRecDepth 100000 in
theorem gv_4 : Cond.isRef (.static "java/lang/Throwable" "SUPPRESSED_SENTINEL" "Ljava/util/List;") ∈ flatC gv := by decide +kernel
set_option maxRecDepth 100000 in
theorem gv_5 : Cond.isRef (.mirror "[Ljava/lang/Object;") ∈ flatC gv := by decide +kernel
set_option maxRecDepth 100000 in
theorem tb_1 : Cond.laysStatic "java/util/ArrayList" "DEFAULTCAPACITY_EMPTY_ELEMENTDATA" "[Ljava/lang/Object;" ∈ lw_tbl ∧ Cond.initialized "java/util/ArrayList" ∈ lw_tbl ∧ Cond.laysStatic Bundle.tN "UNASSIGNED_STACK" Bundle.steD ∈ lw_tbl ∧ Cond.laysStatic Bundle.tN "SUPPRESSED_SENTINEL" Bundle.listD ∈ lw_tbl ∧ Cond.initialized Bundle.tN ∈ lw_tbl ∧ Cond.arrayOver (.object "java/lang/Object") ∈ lw_tbl ∧ Cond.instantiable "java/util/ArrayList" 3 ∈ lw_tbl := by decide +kernel
set_option maxRecDepth 100000 in
theorem tb_2 : (∀ t, t = 5 ∨ t = 6 ∨ t = 7 → Cond.arrayOver (aty t) ∈ lw_tbl) := by
  have h : Cond.arrayOver (aty 5) ∈ lw_tbl ∧ Cond.arrayOver (aty 6) ∈ lw_tbl ∧ Cond.arrayOver (aty 7) ∈ lw_tbl := by decide +kernel
  rintro t (rfl | rfl | rfl)
  · exact h.1
  · exact h.2.1
  · exact h.2.2
theorem eq_len0 {args : Array Value} {s : State} {t : Term} (h : (Cond.eq (.length t) (.int 0)).before args s = true) : (Term.length t).eval args s none [] s = some (.int (Int32.ofNat 0)) := by
  cases hv : (Term.length t).eval args s none [] s with
  | none => simp [Cond.before, Cond.holds, Cond.value, hv] at h
  | some w =>
    obtain ⟨w1, h1, h2⟩ := Cond.eq_one (show (Cond.eq (.length t) (.int 0)).holds args s none s [] = true from h)
    rw [hv] at h1
    cases h1
    have h3 : (Term.int 0).eval args s none [] s = some (.int 0) := rfl
    rw [h3] at h2
    cases h2
    rfl
/-- what EnvW says, at the law's entry -/
theorem env_0 {s : State} {b : Addr} (hts : ∀ w ∈ lw_tbl, w.before #[Value.ref b] s = true) (hgv : gv.before #[Value.ref b] s = true) : ∃ E0, E0 < s.heap.size ∧ EnvW s.heap.size E0 s s.heap := by
  have hfl := flat_of_before _ hgv
  have hA : ∀ a : Nat, a < s.heap.size → ¬ (fun q : Nat => s.heap.size ≤ q) a := fun a h => Nat.not_le.mpr h
  obtain ⟨t1, t2, t3, t4, t5, t6, -⟩ := tb_1
  obtain ⟨E0, he, hT⟩ := va_Tof (N := 0) (f := fun _ => Value.null) (ty := .object "java/lang/Object") (A := fun q : Nat => s.heap.size ≤ q) (by decide) (hfl _ gv_1) (eq_len0 (hfl _ gv_2)) (fun j hj => absurd hj (Nat.not_lt_zero _)) hA
  have hlt : E0 < s.heap.size := by
    obtain ⟨cell, h1, -⟩ := hT
    exact (Array.getElem?_eq_some_iff.mp h1).1
  refine ⟨E0, hlt, fun t ht => ?_, va_AO.of (hts _ t6), fun q hq => ?_, vx_Zqof (hts _ t3) (hts _ t5) (hfl _ gv_3) hA, vx_Zqof (hts _ t4) (hts _ t5) (hfl _ gv_4) hA, va_Zof (hts _ t1) (hts _ t2) he hA, hT, va_Mi.of (hfl _ gv_5), fun i j hi hj hij => ?_, fun w hw hc => ?_⟩
  · have h := hts _ (tb_2 t ht)
    rw [(over_ty t ht).1] at h ⊢
    exact h
  · have h1 := List.all_eq_true.mp okS_all q hq
    have h2 := List.all_eq_true.mp okS2_all q hq
    obtain ⟨y, pc, E, ik, is, ic, wide, text, pl⟩ := q
    simp only [okS, decide_eq_true_eq] at h1 h2
    exact vk_of (hts _ (List.mem_of_getElem? h1)) (hfl _ h2)
  · have h1 := List.all_eq_true.mp (List.all_eq_true.mp okN_all i (List.mem_range.mpr hi)) j (List.mem_range.mpr hj)
    simp only [Bool.or_eq_true, decide_eq_true_eq] at h1
    exact va_Nc.of (hfl _ (h1.resolve_left hij))
  · cases w with
    | castable C T => exact va_Nw.of rfl (hts _ hw)
    | declares x => exact va_Nw.of rfl (hts _ hw)
    | _ => cases hc
