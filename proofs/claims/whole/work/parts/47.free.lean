/-! isFree: a machine's held entries from a place on -/
def refO : Option Nat → MV
  | none => vN
  | some e => vR 3 e
def okBf (v : Nat → En) (s S W : Int32) : Option Nat → Bool
  | none => true
  | some e => decide ((if eWrk (v e) = W then 0 else s) ≤ S - eEnd (v e))
def okAf (v : Nat → En) (s F W : Int32) : Option Nat → Bool
  | none => true
  | some e => decide ((if W = eWrk (v e) then 0 else s) ≤ eSta (v e) - F)
def freeL (v : Nat → En) (s D S F W : Int32) : Option Nat → List Nat → Bool
  | b, [] => okBf v s S W b
  | b, e :: es => if eDay (v e) = D then (if eDay (v e) = D ∧ eSta (v e) < F ∧ S < eEnd (v e) then false else if eSta (v e) < F then freeL v s D S F W (some e) es else okBf v s S W b && okAf v s F W (some e)) else okBf v s S W b
/-- a machine and what it holds -/
def HeldAt (v : Nat → En) (mm q : Nat) (s : Int32) (es : List Nat) (h : Hp) : Prop := (∃ om, hget h 6 mm = some om ∧ om[1]? = some (vI s) ∧ om[2]? = some (vR 16 q)) ∧ hget h 16 q = some (es.map (vR 3)) ∧ es.length < 2 ^ 31 ∧ ∀ e ∈ es, hget h 3 e = some (encE e (v e))
theorem free_end {d mm : Nat} {h : Hp} {v : Nat → En} {s P D S M W F : Int32} {om : Ob} {l9 l10 : Option MV} (hm : hget h 6 mm = some om) (h1 : om[1]? = some (vI s)) (o1 o2 : Option Nat) (ho1 : ∀ e, o1 = some e → hget h 3 e = some (encE e (v e))) (ho2 : ∀ e, o2 = some e → hget h 3 e = some (encE e (v e))) :
    Ev (d + 1) (80, 101, [some (vR 6 mm), some (vI P), some (vI D), some (vI S), some (vI M), some (vI W), some (vI F), some (refO o1), some (refO o2), l9, l10], []) h (.inl (some (vI (bI (okBf v s S W o1 && okAf v s F W o2)))), h) := by
  have tail2 : Ev (d + 1) (80, 127, [some (vR 6 mm), some (vI P), some (vI D), some (vI S), some (vI M), some (vI W), some (vI F), some (refO o1), some (refO o2), l9, l10], []) h (.inl (some (vI (bI (okAf v s F W o2)))), h) := by
    cases o2 with
    | none =>
      refine Ev.ps 4 rfl ?_
      exact Ev.re rfl rfl rfl rfl rfl
    | some e =>
      have he := ho2 e rfl
      refine Ev.ps 3 rfl ?_
      refine Ev.getf (v := vI (eSta (v e))) (by rfl) (by rfl) (by rfl) he rfl ?_
      refine Ev.ps 5 rfl ?_
      refine Ev.getf (v := vI (eWrk (v e))) (by rfl) (by rfl) (by rfl) he rfl ?_
      refine Ev.vir (as := [vI W, vI (eWrk (v e))]) (rest := [vI (eSta (v e) - F)]) (by rfl) (by rfl) (by rfl) (by rfl) rfl (Nat.le_of_ble_eq_true rfl) (by rfl) (by rw [hm]; rfl) (s_setupBetween hm h1) ?_
      refine Ev.icmp (by rfl) (by rfl) (fun c => ?_) (fun c => ?_)
      · have c := of_decide_eq_true c
        rw [show okAf v s F W (some e) = false from decide_eq_false (Int32.not_le.mpr c)]
        refine Ev.ps 1 rfl ?_
        exact Ev.re rfl rfl rfl rfl rfl
      · have c := of_decide_eq_false c
        rw [show okAf v s F W (some e) = true from decide_eq_true (Int32.not_lt.mp c)]
        refine Ev.ps 2 rfl ?_
        exact Ev.re rfl rfl rfl rfl rfl
  cases o1 with
  | none =>
    refine Ev.ps 2 rfl ?_
    exact tail2
  | some e =>
    have he := ho1 e rfl
    refine Ev.ps 4 rfl ?_
    refine Ev.getf (v := vI (eEnd (v e))) (by rfl) (by rfl) (by rfl) he rfl ?_
    refine Ev.ps 3 rfl ?_
    refine Ev.getf (v := vI (eWrk (v e))) (by rfl) (by rfl) (by rfl) he rfl ?_
    refine Ev.ps 1 rfl ?_
    refine Ev.vir (as := [vI (eWrk (v e)), vI W]) (rest := [vI (S - eEnd (v e))]) (by rfl) (by rfl) (by rfl) (by rfl) rfl (Nat.le_of_ble_eq_true rfl) (by rfl) (by rw [hm]; rfl) (s_setupBetween hm h1) ?_
    refine Ev.icmp (by rfl) (by rfl) (fun c => ?_) (fun c => ?_)
    · have c := of_decide_eq_true c
      rw [show okBf v s S W (some e) = false from decide_eq_false (Int32.not_le.mpr c), Bool.false_and]
      refine Ev.ps 1 rfl ?_
      exact Ev.re rfl rfl rfl rfl rfl
    · have c := of_decide_eq_false c
      rw [show okBf v s S W (some e) = true from decide_eq_true (Int32.not_lt.mp c), Bool.true_and]
      exact tail2
theorem s_isFree {d mm q p0 : Nat} {h : Hp} {v : Nat → En} {es : List Nat} {s D S M W : Int32} (hH : HeldAt v mm q s es h) (hp : p0 ≤ es.length) : Cal (d + 1) 80 [vR 6 mm, vI (nI p0), vI D, vI S, vI M, vI W] h (.inl (some (vI (bI (freeL v s D S (S + M) W none (es.drop p0)))))) h := by
  obtain ⟨⟨om, hm, h1, hf⟩, hl, hlen, hes⟩ := hH
  refine Cal.mk (n := 11) rfl (Nat.le_of_ble_eq_true rfl) rfl ?_
  refine Ev.ps 10 rfl ?_
  have loop : ∀ (k j : Nat) (o1 : Option Nat) (o : Option MV), j + k = es.length → (∀ e, o1 = some e → hget h 3 e = some (encE e (v e))) → Ev (d + 1) (80, 15, [some (vR 6 mm), some (vI (nI p0)), some (vI D), some (vI S), some (vI M), some (vI W), some (vI (S + M)), some (refO o1), some vN, some (vI (nI j)), o], []) h (.inl (some (vI (bI (freeL v s D S (S + M) W o1 (es.drop j))))), h) := by
    intro k
    induction k with
    | zero =>
      intro j o1 o hj ho1
      refine Ev.ps 2 rfl ?_
      refine Ev.getf (by rfl) (by rfl) (by rfl) hm hf ?_
      refine Ev.lsz (by rfl) (by rfl) (by rfl) (Nat.le_of_ble_eq_true rfl) hl ?_
      refine Ev.icmp (by rfl) (by rfl) (fun c => ?_) (fun c => ?_)
      · rw [List.drop_of_length_le (by omega)]
        have h9 := free_end (d := d) (P := nI p0) (D := D) (M := M) (F := S + M) (W := W) (S := S) (l9 := some (vI (nI j))) (l10 := o) hm h1 o1 none ho1 (fun e z => nomatch z)
        rw [show okAf v s (S + M) W none = true from rfl, Bool.and_true] at h9
        exact h9
      · have c := of_decide_eq_false c
        rw [List.length_map] at c
        exact absurd (nI_le (by omega) (by omega)) c
    | succ k ih =>
      intro j o1 o hj ho1
      have hjl : j < es.length := by omega
      have e1 : es.drop j = es[j] :: es.drop (j + 1) := List.drop_eq_getElem_cons hjl
      have hge : (es.map (vR 3))[(nI j).toNatClampNeg]? = some (vR 3 es[j]) := by rw [nI_clamp (by omega), List.getElem?_map, List.getElem?_eq_getElem hjl]; rfl
      have ho := hes es[j] (List.getElem_mem hjl)
      rw [e1]
      unfold freeL
      generalize es[j] = en at ho hge ⊢
      refine Ev.ps 2 rfl ?_
      refine Ev.getf (by rfl) (by rfl) (by rfl) hm hf ?_
      refine Ev.lsz (by rfl) (by rfl) (by rfl) (Nat.le_of_ble_eq_true rfl) hl ?_
      refine Ev.icmp (by rfl) (by rfl) (fun c => ?_) (fun _ => ?_)
      · have c := of_decide_eq_true c
        rw [List.length_map] at c
        exact absurd c (nI_ge (by omega) (by omega))
      · refine Ev.ps 1 rfl ?_
        refine Ev.getf (by rfl) (by rfl) (by rfl) hm hf ?_
        refine Ev.ps 1 rfl ?_
        refine Ev.lgt (v := vR 3 en) (by rfl) (by rfl) (by rfl) (Nat.le_of_ble_eq_true rfl) hl (nI_pos (by omega)) hge ?_
        refine Ev.cst (by rfl) (by rfl) (by rfl) (by rw [ho]; rfl) ?_
        refine Ev.getf (v := vI (eDay (v en))) (by rfl) (by rfl) (by rfl) ho rfl ?_
        refine Ev.ps 1 rfl ?_
        refine Ev.icmp (by rfl) (by rfl) (fun c => ?_) (fun c => ?_)
        · have c := of_decide_eq_true c
          rw [if_neg c]
          have h9 := free_end (d := d) (P := nI p0) (D := D) (M := M) (F := S + M) (W := W) (S := S) (l9 := some (vI (nI j))) (l10 := o) hm h1 o1 none ho1 (fun e z => nomatch z)
          rw [show okAf v s (S + M) W none = true from rfl, Bool.and_true] at h9
          exact h9
        · have c := Decidable.not_not.mp (of_decide_eq_false c)
          rw [if_pos c]
          refine Ev.ps 1 rfl ?_
          refine Ev.getf (by rfl) (by rfl) (by rfl) hm hf ?_
          refine Ev.ps 1 rfl ?_
          refine Ev.lgt (v := vR 3 en) (by rfl) (by rfl) (by rfl) (Nat.le_of_ble_eq_true rfl) hl (nI_pos (by omega)) hge ?_
          refine Ev.cst (by rfl) (by rfl) (by rfl) (by rw [ho]; rfl) ?_
          refine Ev.ps 5 rfl ?_
          refine Ev.vir (as := [vI D, vI S, vI (S + M)]) (rest := []) (by rfl) (by rfl) (by rfl) (by rfl) rfl (Nat.le_of_ble_eq_true rfl) (by rfl) (by rw [ho]; rfl) (s_overlaps (da := eDay (v en)) (sa := eSta (v en)) (en := eEnd (v en)) ho rfl rfl rfl) ?_
          unfold b2
          by_cases c3 : eDay (v en) = D ∧ eSta (v en) < S + M ∧ S < eEnd (v en)
          · rw [if_pos c3, if_pos c3]
            refine Ev.ifi (by rfl) (by rfl) (fun z => by exact absurd z (by decide)) (fun _ => ?_)
            refine Ev.ps 1 rfl ?_
            exact Ev.re rfl rfl rfl rfl rfl
          · rw [if_neg c3, if_neg c3]
            refine Ev.ifi (by rfl) (by rfl) (fun _ => ?_) (fun z => by exact absurd z (by decide))
            refine Ev.ps 1 rfl ?_
            refine Ev.getf (v := vI (eSta (v en))) (by rfl) (by rfl) (by rfl) ho rfl ?_
            refine Ev.ps 1 rfl ?_
            refine Ev.icmp (by rfl) (by rfl) (fun c4 => ?_) (fun c4 => ?_)
            · have c4 := of_decide_eq_true c4
              rw [if_pos c4]
              refine Ev.ps 4 rfl ?_
              have h9 := ih (j + 1) (some en) (some (vR 3 en)) (by omega) (fun e z => by cases z; exact ho)
              rw [← nI_1] at h9
              exact h9
            · have c4 := of_decide_eq_false c4
              rw [if_neg c4]
              cases o1 with
              | none =>
                refine Ev.ps 3 rfl ?_
                exact free_end (d := d) (P := nI p0) (D := D) (M := M) (F := S + M) (W := W) (S := S) (l9 := some (vI (nI j))) (l10 := some (vR 3 en)) hm h1 none (some en) ho1 (fun e z => by cases z; exact ho)
              | some e0 =>
                refine Ev.ps 3 rfl ?_
                exact free_end (d := d) (P := nI p0) (D := D) (M := M) (F := S + M) (W := W) (S := S) (l9 := some (vI (nI j))) (l10 := some (vR 3 en)) hm h1 (some e0) (some en) ho1 (fun e z => by cases z; exact ho)
  exact loop (es.length - p0) p0 none none (by omega) (fun e z => nomatch z)
