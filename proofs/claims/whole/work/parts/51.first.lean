/-! firstStartInGaps -/
def lastL (M st : Int32) : Int32 := if st + M ≤ 480 then st else -1
def firstL (v : Nat → En) (s D M W : Int32) : Int32 → List Nat → Int32
  | st, [] => lastL M st
  | st, e :: es => if eDay (v e) = D then (if st + M + (if W = eWrk (v e) then 0 else s) ≤ eSta (v e) then st else firstL v s D M W (eEnd (v e) + (if W = eWrk (v e) then 0 else s)) es) else lastL M st
theorem s_firstStartInGaps {d mm q : Nat} {h : Hp} {v : Nat → En} {es : List Nat} {s D M W : Int32} (hH : HeldAt v mm q s es h) : Cal (d + 2) 89 [vR 6 mm, vI D, vI M, vI W] h (.inl (some (vI (firstL v s D M W 0 (es.drop (placeL (fun e => eDay (v e)) (fun e => eSta (v e)) D 0 es)))))) h := by
  have hP := s_placeH (d := d) (D := D) (S := 0) hH
  obtain ⟨⟨om, hm, h1, hf⟩, hl, hlen, hes⟩ := hH
  have hp := placeL_le (da := fun e => eDay (v e)) (sa := fun e => eSta (v e)) (D := D) (S := 0) es
  generalize placeL (fun e => eDay (v e)) (fun e => eSta (v e)) D 0 es = p0 at hP hp ⊢
  refine Cal.mk (n := 8) rfl (Nat.le_of_ble_eq_true rfl) rfl ?_
  refine Ev.ps 5 rfl ?_
  refine Ev.vir (as := [vI D, vI 0]) (rest := []) (by rfl) (by rfl) (by rfl) (by rfl) rfl (Nat.le_of_ble_eq_true rfl) (by rfl) (by rw [hm]; rfl) hP ?_
  refine Ev.ps 1 rfl ?_
  have tail : ∀ (st : Int32) (l5 o6 o7 : Option MV), Ev (d + 2) (89, 102, [some (vR 6 mm), some (vI D), some (vI M), some (vI W), some (vI st), l5, o6, o7], []) h (.inl (some (vI (lastL M st))), h) := by
    intro st l5 o6 o7
    refine Ev.ps 4 rfl ?_
    refine Ev.icmp (by rfl) (by rfl) (fun c => ?_) (fun c => ?_)
    · have c : 480 < st + M := of_decide_eq_true c
      rw [show lastL M st = -1 from if_neg (Int32.not_le.mpr c)]
      refine Ev.ps 1 rfl ?_
      exact Ev.re rfl rfl rfl rfl rfl
    · have c : ¬ 480 < st + M := of_decide_eq_false c
      rw [show lastL M st = st from if_pos (Int32.not_lt.mp c)]
      refine Ev.ps 2 rfl ?_
      exact Ev.re rfl rfl rfl rfl rfl
  have loop : ∀ (k j : Nat) (st : Int32) (o6 o7 : Option MV), j + k = es.length → Ev (d + 2) (89, 11, [some (vR 6 mm), some (vI D), some (vI M), some (vI W), some (vI st), some (vI (nI j)), o6, o7], []) h (.inl (some (vI (firstL v s D M W st (es.drop j)))), h) := by
    intro k
    induction k with
    | zero =>
      intro j st o6 o7 hj
      refine Ev.ps 2 rfl ?_
      refine Ev.getf (by rfl) (by rfl) (by rfl) hm hf ?_
      refine Ev.lsz (by rfl) (by rfl) (by rfl) (Nat.le_of_ble_eq_true rfl) hl ?_
      refine Ev.icmp (by rfl) (by rfl) (fun c => ?_) (fun c => ?_)
      · rw [List.drop_of_length_le (by omega)]
        exact tail st _ _ _
      · have c := of_decide_eq_false c
        rw [List.length_map] at c
        exact absurd (nI_le (by omega) (by omega)) c
    | succ k ih =>
      intro j st o6 o7 hj
      have hjl : j < es.length := by omega
      have e1 : es.drop j = es[j] :: es.drop (j + 1) := List.drop_eq_getElem_cons hjl
      have hge : (es.map (vR 3))[(nI j).toNatClampNeg]? = some (vR 3 es[j]) := by rw [nI_clamp (by omega), List.getElem?_map, List.getElem?_eq_getElem hjl]; rfl
      have ho := hes es[j] (List.getElem_mem hjl)
      rw [e1]
      unfold firstL
      generalize es[j] = en at ho hge ⊢
      refine Ev.ps 2 rfl ?_
      refine Ev.getf (by rfl) (by rfl) (by rfl) hm hf ?_
      refine Ev.lsz (by rfl) (by rfl) (by rfl) (Nat.le_of_ble_eq_true rfl) hl ?_
      refine Ev.icmp (by rfl) (by rfl) (fun c => ?_) (fun _ => ?_)
      · have c := of_decide_eq_true c
        rw [List.length_map] at c
        exact absurd c (nI_ge (by omega) (by omega))
      · refine Ev.ps 1 rfl ?_
        refine Ev.getf (by rfl) (by rfl) (by rfl) hm hf ?_
        refine Ev.ps 1 rfl ?_
        refine Ev.lgt (v := vR 3 en) (by rfl) (by rfl) (by rfl) (Nat.le_of_ble_eq_true rfl) hl (nI_pos (by omega)) hge ?_
        refine Ev.cst (by rfl) (by rfl) (by rfl) (by rw [ho]; rfl) ?_
        refine Ev.getf (v := vI (eDay (v en))) (by rfl) (by rfl) (by rfl) ho rfl ?_
        refine Ev.ps 1 rfl ?_
        refine Ev.icmp (by rfl) (by rfl) (fun c => ?_) (fun c => ?_)
        · have c := of_decide_eq_true c
          rw [if_neg c]
          exact tail st _ _ _
        · have c := Decidable.not_not.mp (of_decide_eq_false c)
          rw [if_pos c]
          refine Ev.ps 1 rfl ?_
          refine Ev.getf (by rfl) (by rfl) (by rfl) hm hf ?_
          refine Ev.ps 1 rfl ?_
          refine Ev.lgt (v := vR 3 en) (by rfl) (by rfl) (by rfl) (Nat.le_of_ble_eq_true rfl) hl (nI_pos (by omega)) hge ?_
          refine Ev.cst (by rfl) (by rfl) (by rfl) (by rw [ho]; rfl) ?_
          refine Ev.ps 4 rfl ?_
          refine Ev.getf (v := vI (eWrk (v en))) (by rfl) (by rfl) (by rfl) ho rfl ?_
          refine Ev.vir (as := [vI W, vI (eWrk (v en))]) (rest := []) (by rfl) (by rfl) (by rfl) (by rfl) rfl (Nat.le_of_ble_eq_true rfl) (by rfl) (by rw [hm]; rfl) (s_setupBetween hm h1) ?_
          generalize (if W = eWrk (v en) then 0 else s) = su
          refine Ev.ps 7 rfl ?_
          refine Ev.getf (v := vI (eSta (v en))) (by rfl) (by rfl) (by rfl) ho rfl ?_
          refine Ev.icmp (by rfl) (by rfl) (fun c2 => ?_) (fun c2 => ?_)
          · have c2 := of_decide_eq_true c2
            rw [if_neg (Int32.not_le.mpr c2)]
            refine Ev.ps 1 rfl ?_
            refine Ev.getf (v := vI (eEnd (v en))) (by rfl) (by rfl) (by rfl) ho rfl ?_
            refine Ev.ps 5 rfl ?_
            have h9 := ih (j + 1) (eEnd (v en) + su) (some (vR 3 en)) (some (vI su)) (by omega)
            rw [← nI_1] at h9
            exact h9
          · have c2 := of_decide_eq_false c2
            rw [if_pos (Int32.not_lt.mp c2)]
            refine Ev.ps 1 rfl ?_
            exact Ev.re rfl rfl rfl rfl rfl
  exact loop (es.length - p0) p0 0 none none (by omega)
