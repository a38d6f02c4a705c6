/-! entries; loops over all of them -/
section AC
variable {d y pc : Nat} {L : Lo} {st : List MV} {h : Hp} {x : Re × Hp}
theorem Ev.acne {off : Int} {t s1 m1 s2 m2 : Nat} (hc : codeAt y pc = some (.if_acmp .ne off, 3)) (ht : tgt pc off = some t) (h1 : (sk s1).1 < 3) (h2 : (sk s2).1 < 3) (k1 : ¬ (s1, m1) = (s2, m2) → Ev d (y, t, L, st) h x) (k2 : (s1, m1) = (s2, m2) → Ev d (y, pc + 3, L, st) h x) : Ev d (y, pc, L, vR s2 m2 :: vR s1 m1 :: st) h x := by
  by_cases e : (s1, m1) = (s2, m2)
  · refine Ev.p hc ?_ (k2 e)
    simp only [pin, pac, Option.all_some, decide_eq_true_eq, h1, h2, and_self, if_true, ht]
    rw [if_neg (by rw [e]; simp)]
  · refine Ev.p hc ?_ (k1 e)
    simp only [pin, pac, Option.all_some, decide_eq_true_eq, h1, h2, and_self, if_true, ht]
    rw [if_pos (by simp only [Option.some.injEq, decide_eq_false_iff_not]; exact fun z => e z.symm)]
end AC
/-- an entry: member, machine, day, start, minutes, end, work, state, due -/
abbrev En : Type := Nat × Nat × Int32 × Int32 × Int32 × Int32 × Int32 × Int32 × Int32
def eMem (e : En) : Nat := e.1
def eMac (e : En) : Nat := e.2.1
def eDay (e : En) : Int32 := e.2.2.1
def eSta (e : En) : Int32 := e.2.2.2.1
def eLen (e : En) : Int32 := e.2.2.2.2.1
def eEnd (e : En) : Int32 := e.2.2.2.2.2.1
def eWrk (e : En) : Int32 := e.2.2.2.2.2.2.1
def eSt (e : En) : Int32 := e.2.2.2.2.2.2.2.1
def eDue (e : En) : Int32 := e.2.2.2.2.2.2.2.2
def encE (i : Nat) (e : En) : Ob := [vR 7 (eMem e), vR 6 (eMac e), vI (eDay e), vI (eSta e), vI (eLen e), vI (eEnd e), vI (eWrk e), vR 17 i, vI (eSt e), vI (eDue e)]
/-- the desk's entries in the heap -/
def EntsAt (es : List En) (h : Hp) : Prop := (∃ od, hget h 8 0 = some od ∧ od[3]? = some (vR 13 0)) ∧ hget h 13 0 = some ((List.range es.length).map (vR 3)) ∧ es.length < 2 ^ 31 ∧ ∀ (i : Nat) (e : En), es[i]? = some e → hget h 3 i = some (encE i e)
def busyE (m : Nat) (D S E : Int32) (e : En) : Bool := decide (eSt e = 98) && decide (eMem e = m) && decide (eDay e = D ∧ eSta e < E ∧ S < eEnd e)
def bI (b : Bool) : Int32 := if b then 1 else 0
theorem s_isBusy {d m : Nat} {h : Hp} {es : List En} {D S E : Int32} (hE : EntsAt es h) : Cal (d + 1) 79 [vR 8 0, vR 7 m, vI D, vI S, vI E] h (.inl (some (vI (bI (es.any (busyE m D S E)))))) h := by
  obtain ⟨⟨od, hd, hf⟩, hl, hlen, hes⟩ := hE
  refine Cal.mk (n := 7) rfl (Nat.le_of_ble_eq_true rfl) rfl ?_
  refine Ev.ps 2 rfl ?_
  have loop : ∀ (k j : Nat) (o : Option MV), j + k = es.length → Ev (d + 1) (79, 3, [some (vR 8 0), some (vR 7 m), some (vI D), some (vI S), some (vI E), some (vI (nI j)), o], []) h (.inl (some (vI (bI ((es.drop j).any (busyE m D S E))))), h) := by
    intro k
    induction k with
    | zero =>
      intro j o hj
      refine Ev.ps 2 rfl ?_
      refine Ev.getf (by rfl) (by rfl) (by rfl) hd hf ?_
      refine Ev.lsz (by rfl) (by rfl) (by rfl) (Nat.le_of_ble_eq_true rfl) hl ?_
      refine Ev.icmp (by rfl) (by rfl) (fun c => ?_) (fun c => ?_)
      · rw [List.drop_of_length_le (by omega)]
        refine Ev.ps 1 rfl ?_
        exact Ev.re rfl rfl rfl rfl rfl
      · have c := of_decide_eq_false c
        rw [List.length_map, List.length_range] at c
        exact absurd (nI_le (by omega) (by omega)) c
    | succ k ih =>
      intro j o hj
      have hjl : j < es.length := by omega
      have e1 : es.drop j = es[j] :: es.drop (j + 1) := List.drop_eq_getElem_cons hjl
      rw [e1, List.any_cons]
      have ho := hes j es[j] (List.getElem?_eq_getElem hjl)
      generalize es[j] = en at ho ⊢
      have next : ∀ (o : Option MV), Ev (d + 1) (79, 62, [some (vR 8 0), some (vR 7 m), some (vI D), some (vI S), some (vI E), some (vI (nI j)), o], []) h (.inl (some (vI (bI ((es.drop (j + 1)).any (busyE m D S E))))), h) := by
        intro o
        refine Ev.ps 2 rfl ?_
        have h9 := ih (j + 1) o (by omega)
        rw [← nI_1] at h9
        exact h9
      refine Ev.ps 2 rfl ?_
      refine Ev.getf (by rfl) (by rfl) (by rfl) hd hf ?_
      refine Ev.lsz (by rfl) (by rfl) (by rfl) (Nat.le_of_ble_eq_true rfl) hl ?_
      refine Ev.icmp (by rfl) (by rfl) (fun c => ?_) (fun _ => ?_)
      · have c := of_decide_eq_true c
        rw [List.length_map, List.length_range] at c
        exact absurd c (nI_ge (by omega) (by omega))
      · refine Ev.ps 1 rfl ?_
        refine Ev.getf (by rfl) (by rfl) (by rfl) hd hf ?_
        refine Ev.ps 1 rfl ?_
        refine Ev.lgt (v := vR 3 j) (by rfl) (by rfl) (by rfl) (Nat.le_of_ble_eq_true rfl) hl (nI_pos (by omega)) (by rw [nI_clamp (by omega), List.getElem?_map, List.getElem?_range hjl]; rfl) ?_
        refine Ev.cst (by rfl) (by rfl) (by rfl) (by rw [ho]; rfl) ?_
        refine Ev.ps 2 rfl ?_
        refine Ev.getf (v := vI (eSt en)) (by rfl) (by rfl) (by rfl) ho rfl ?_
        refine Ev.ps 1 rfl ?_
        refine Ev.icmp (by rfl) (by rfl) (fun c => ?_) (fun c => ?_)
        · have c : ¬ eSt en = 98 := of_decide_eq_true c
          rw [show busyE m D S E en = false by unfold busyE; rw [decide_eq_false c]; rfl, Bool.false_or]
          exact next _
        · have c : eSt en = 98 := Decidable.not_not.mp (of_decide_eq_false c)
          refine Ev.ps 1 rfl ?_
          refine Ev.getf (v := vR 7 (eMem en)) (by rfl) (by rfl) (by rfl) ho rfl ?_
          refine Ev.ps 1 rfl ?_
          refine Ev.acne (by rfl) (by rfl) (by decide) (by decide) (fun c2 => ?_) (fun c2 => ?_)
          · have c2 : ¬ eMem en = m := fun z => c2 (by rw [z])
            rw [show busyE m D S E en = false by unfold busyE; rw [decide_eq_false c2, Bool.and_false]; rfl, Bool.false_or]
            exact next _
          · have c2 : eMem en = m := (Prod.mk.inj c2).2
            refine Ev.ps 4 rfl ?_
            refine Ev.vir (as := [vI D, vI S, vI E]) (rest := []) (by rfl) (by rfl) (by rfl) (by rfl) rfl (Nat.le_of_ble_eq_true rfl) (by rfl) (by rw [ho]; rfl) (s_overlaps (da := eDay en) (sa := eSta en) (en := eEnd en) ho rfl rfl rfl) ?_
            unfold b2
            by_cases c3 : eDay en = D ∧ eSta en < E ∧ S < eEnd en
            · rw [if_pos c3]
              refine Ev.ifi (by rfl) (by rfl) (fun z => by exact absurd z (by decide)) (fun _ => ?_)
              rw [show busyE m D S E en = true by unfold busyE; rw [decide_eq_true c, decide_eq_true c2, decide_eq_true c3]; rfl, Bool.true_or]
              refine Ev.ps 1 rfl ?_
              exact Ev.re rfl rfl rfl rfl rfl
            · rw [if_neg c3]
              refine Ev.ifi (by rfl) (by rfl) (fun _ => ?_) (fun z => by exact absurd z (by decide))
              rw [show busyE m D S E en = false by unfold busyE; rw [decide_eq_false c3, Bool.and_false], Bool.false_or]
              exact next _
  have h9 := loop es.length 0 none (by omega)
  rw [List.drop_zero] at h9
  exact h9
