/-! the throws of the class: what the tables say of each -/
def exup : List String := ["java/lang/RuntimeException", "java/lang/Exception"]
/-- the constructor's entry in the pool of class 8, by the exception -/
def exic (E : Nat) : Nat := ([362, 76, 114, 143, 148, 87] : List Nat).getD E 0
def exik (E : Nat) : Nat := ([358, 72, 110, 139, 144, 83] : List Nat).getD E 0
def okX (E : Nat) : Bool := decide (Cond.classLink "Lendlathe" (exik E) (exnm E) ∈ lw_tbl) && decide (Cond.initialized (exnm E) ∈ lw_tbl) && (vx_atS "Lendlathe" (exic E) (exnm E) exup).all (fun w => decide (w ∈ lw_tbl) && (goodWord w || cdw w) && vx_ot w) && Bundle.fit (exnm E)
set_option maxRecDepth 100000 in
set_option maxHeartbeats 4000000 in
theorem okX_all : ([0, 1, 2, 3, 5] : List Nat).all okX = true := by decide +kernel
def okT (q : Nat × Nat × Nat × Nat × Nat × Nat × Nat × String × Nat) : Bool := match q with
  | (y, pc, E, ik, is, ic, wide, _, _) => decide (E < 6) && decide (ik = exik E) && decide (ic = exic E) && decide (mcl y = 8) && decide (dec y pc = some (.new ik, 3)) && decide (dec y (pc + 3) = some (.dup, 1)) && (match mrow y with | some r => r.2.2.2.2.isEmpty | none => false) &&
    (if wide = 0 then decide (dec y (pc + 4) = some (.ldc is, 2)) && decide (dec y (pc + 6) = some (.invokespecial ic, 3)) && decide (dec y (pc + 9) = some (.athrow, 1)) else decide (dec y (pc + 4) = some (.ldc_w is, 3)) && decide (dec y (pc + 7) = some (.invokespecial ic, 3)) && decide (dec y (pc + 10) = some (.athrow, 1)))
set_option maxRecDepth 100000 in
set_option maxHeartbeats 4000000 in
theorem th_ok : thtab.all okT = true := by decide +kernel
theorem th_mem {y pc E : Nat} (h : th y pc = some E) : ∃ q ∈ thtab, q.1 = y ∧ q.2.1 = pc ∧ q.2.2.1 = E := by
  unfold th at h
  obtain ⟨q, h1, rfl⟩ := omap_inv h
  have h2 := List.find?_some h1
  simp only [Bool.and_eq_true, beq_iff_eq] at h2
  exact ⟨q, List.mem_of_find?_eq_some h1, h2.1, h2.2, rfl⟩
set_option maxRecDepth 100000 in
theorem nse_words : Cond.classLink "Lendlathe" (exik 4) nseC ∈ lw_tbl ∧ Cond.initialized nseC ∈ lw_tbl ∧ exnm 4 = nseC := by decide +kernel
section TH
variable {p : Program} {l : Launch} {e : Env} {R : Room} {s : State} {m : MethodId} {args : Array Value} {below : List Frame} {meth : Method} {c : Code} {H : Heap} {locs : List Loc} {cells slots : Nat}
variable {pc : Nat} {ls : Array Slot} {nL base E0 : Nat}
set_option maxHeartbeats 4000000 in
/-- a throw of the class leaves the method -/
theorem thr_ok (htr : l.stackTraces = false) {y : Nat} (C0 : Ctx y p s m args meth c nL) (hR : Rm R) (hE : EnvW base E0 s s.heap) (hS : va_S (fun q => base ≤ q) s.heap H locs) {E : Nat} (ht : th y pc = some E) (hls : ls.size = nL) {mc ms : Nat} (hc1 : cells + 1 ≤ R.cells) (hc2 : slots + 6 ≤ R.slots) (hm1 : cells + 1 ≤ mc) (hm2 : slots + 6 ≤ ms)
    {Qc : Array Value → State → Outcome → State → Prop} {XC : String → State → State → Prop} (hx : ∀ t : State, s.vm.Alike t.vm → H.size ≤ t.heap.size → (∀ q : Nat, q < H.size → t.heap[q]? = H[q]?) → XC (exnm E) s t) :
    W p l e R s m args below meth c H locs cells slots (vx_MQ below Qc XC args s mc ms (fun q => base ≤ q)) (F0 m pc ls []) := by
  obtain ⟨r, hr, hxx, hb, hml, hnl, -, hown, hlk, -, hts, htab⟩ := C0
  obtain ⟨q, hq, rfl, rfl, rfl⟩ := th_mem ht
  have h1 := List.all_eq_true.mp th_ok q hq
  obtain ⟨sa, hstr⟩ := hE.2.2.1 q hq
  obtain ⟨y, pc, E, ik, is, ic, wide, text, pl⟩ := q
  simp only [okT, hr, Bool.and_eq_true, decide_eq_true_eq] at h1
  obtain ⟨⟨⟨⟨⟨⟨⟨g1, g2⟩, g3⟩, g4⟩, g5⟩, g6⟩, g7⟩, g8⟩ := h1
  dsimp only at hr hown hstr hx g1 g2 g3 g4 g5 g6 g7 g8 ⊢
  subst g2; subst g3
  by_cases hE4 : E = 4
  · subst hE4
    have hown' : s.vm.findClass "Lendlathe" = some m.cls := by rw [g4] at hown; exact hown
    have hwd : ∀ w, w ∈ lw_tbl → goodWord w = true → w.before args s = true := fun w hw hg => hts w (List.mem_filter.mpr ⟨hw, hg⟩)
    have hempty : ∀ x ∈ c.exceptionTable.toList, False := by
      rw [htab, List.isEmpty_iff.mp g7]
      intro x hx
      simp [tableOf] at hx
    obtain ⟨n1, n2, -⟩ := nse_words
    have hall : ∀ w ∈ nseAt, (w ∈ lw_tbl ∧ (goodWord w = true ∨ cdw w = true)) ∧ vx_ot w = true := fun w hw => by
      have h := List.all_eq_true.mp nseAt_ok w hw
      simpa only [Bool.and_eq_true, decide_eq_true_eq, Bool.or_eq_true] using h
    have hat : ∀ w ∈ nseAt, w.before args s = true := fun w hw => by
      obtain ⟨⟨z1, z2⟩, -⟩ := hall w hw
      rcases z2 with z2 | z2
      · exact hwd w z1 z2
      · have h := hE.2.2.2.2.2.2.2.2.2 w z1 z2
        cases w with
        | castable C T => exact va_Nw.use rfl h
        | declares x => exact va_Nw.use rfl h
        | _ => cases z2
    have hgood : ∀ w ∈ Cond.classLink "Lendlathe" (exik 4) nseC :: Cond.initialized nseC :: nseAt, vx_ot w = true := fun w hw => by
      rcases List.mem_cons.mp hw with rfl | hw
      · rfl
      · rcases List.mem_cons.mp hw with rfl | hw
        · rfl
        · exact (hall w hw).2
    have hz : ls.size = c.maxLocals := by rw [hml]; exact hls
    split at g8
    · obtain ⟨⟨d4, d6⟩, d9⟩ := by simpa only [Bool.and_eq_true, decide_eq_true_eq] using g8
      exact nse_thr (pcI := pc + 6) hxx hb htr hown' (hwd _ n1 rfl) (hwd _ n2 rfl) hstr hat hgood hE.2.2.2.1 hE.2.2.2.2.1 hS hz (dec_inv hr g5) (dec_inv hr g6) (Or.inl ⟨dec_inv hr d4, rfl⟩) (dec_inv hr d6) (dec_inv hr d9) (fun x hx => absurd (hempty x hx) id) (by have := hR.1; show 2 + 3 < _; omega) (by have := hR.2; show 0 + (13 * (2 + 1) + 43) ≤ _; omega) hc1 hc2 hlk hx hS.2.2 hm1 hm2
    · obtain ⟨⟨d4, d6⟩, d9⟩ := by simpa only [Bool.and_eq_true, decide_eq_true_eq] using g8
      exact nse_thr (pcI := pc + 7) hxx hb htr hown' (hwd _ n1 rfl) (hwd _ n2 rfl) hstr hat hgood hE.2.2.2.1 hE.2.2.2.2.1 hS hz (dec_inv hr g5) (dec_inv hr g6) (Or.inr ⟨dec_inv hr d4, rfl⟩) (dec_inv hr d6) (dec_inv hr d9) (fun x hx => absurd (hempty x hx) id) (by have := hR.1; show 2 + 3 < _; omega) (by have := hR.2; show 0 + (13 * (2 + 1) + 43) ≤ _; omega) hc1 hc2 hlk hx hS.2.2 hm1 hm2
  have hX := List.all_eq_true.mp okX_all E (by
    have : E = 0 ∨ E = 1 ∨ E = 2 ∨ E = 3 ∨ E = 5 := by omega
    rcases this with rfl | rfl | rfl | rfl | rfl <;> decide)
  simp only [okX, Bool.and_eq_true, decide_eq_true_eq, List.all_eq_true, Bool.or_eq_true] at hX
  obtain ⟨⟨⟨x1, x2⟩, x3⟩, x4⟩ := hX
  have hown' : s.vm.findClass "Lendlathe" = some m.cls := by rw [g4] at hown; exact hown
  have hwd : ∀ w, w ∈ lw_tbl → goodWord w = true → w.before args s = true := fun w hw hg => hts w (List.mem_filter.mpr ⟨hw, hg⟩)
  have hempty : ∀ x ∈ c.exceptionTable.toList, False := by
    rw [htab, List.isEmpty_iff.mp g7]
    intro x hx
    simp [tableOf] at hx
  have hat : ∀ w ∈ vx_atS "Lendlathe" (exic E) (exnm E) exup, w.before args s = true := fun w hw => by
    obtain ⟨⟨z1, z2⟩, z3⟩ := x3 w hw
    rcases z2 with z2 | z2
    · exact hwd w z1 z2
    · have h := hE.2.2.2.2.2.2.2.2.2 w z1 z2
      cases w with
      | castable C T => exact va_Nw.use rfl h
      | declares x => exact va_Nw.use rfl h
      | _ => cases z2
  have hgood : ∀ w ∈ Cond.classLink "Lendlathe" (exik E) (exnm E) :: Cond.initialized (exnm E) :: vx_atS "Lendlathe" (exic E) (exnm E) exup, vx_ot w = true := fun w hw => by
    rcases List.mem_cons.mp hw with rfl | hw
    · rfl
    · rcases List.mem_cons.mp hw with rfl | hw
      · rfl
      · exact (x3 w hw).2
  have hfit : ∀ n ∈ exup, Bundle.fit n = true := by decide
  have hz : ls.size = c.maxLocals := by rw [hml]; exact hls
  split at g8
  · obtain ⟨⟨d4, d6⟩, d9⟩ := by simpa only [Bool.and_eq_true, decide_eq_true_eq] using g8
    exact vx_throwS hxx hb htr hown' x4 hfit (hwd _ x1 rfl) (hwd _ x2 rfl) hstr hat hgood hE.2.2.2.1 hE.2.2.2.2.1 hS hz (dec_inv hr g5) (dec_inv hr g6) (dec_inv hr d4) (dec_inv hr d6) (dec_inv hr d9) (fun x hx => absurd (hempty x hx) id) (by have := hR.1; show 2 + 3 < _; omega) (by have := hR.2; show 0 + (13 * (2 + 1) + 43) ≤ _; omega) hc1 hc2 hlk hx hS.2.2 hm1 hm2
  · obtain ⟨⟨d4, d6⟩, d9⟩ := by simpa only [Bool.and_eq_true, decide_eq_true_eq] using g8
    exact vx_throwSW hxx hb htr hown' x4 hfit (hwd _ x1 rfl) (hwd _ x2 rfl) hstr hat hgood hE.2.2.2.1 hE.2.2.2.2.1 hS hz (dec_inv hr g5) (dec_inv hr g6) (dec_inv hr d4) (dec_inv hr d6) (dec_inv hr d9) (fun x hx => absurd (hempty x hx) id) (by have := hR.1; show 2 + 3 < _; omega) (by have := hR.2; show 0 + (13 * (2 + 1) + 43) ≤ _; omega) hc1 hc2 hlk hx hS.2.2 hm1 hm2
end TH
