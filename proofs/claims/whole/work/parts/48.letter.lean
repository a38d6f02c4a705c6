/-! letterOfMinute -/
def setupOf (v : Nat → En) (s M : Int32) (e : Nat) : Option Nat → Int32
  | none => 102
  | some b => if eSta (v e) - M ≤ (if eWrk (v b) = eWrk (v e) then 0 else s) then 115 else 102
def letterL (v : Nat → En) (s D M : Int32) : Option Nat → List Nat → Int32
  | _, [] => 102
  | b, e :: es => if eDay (v e) = D then (if M < eSta (v e) then setupOf v s M e b else if M < eEnd (v e) then 98 else letterL v s D M (some e) es) else 102
theorem s_letterOfMinute {d mm q p0 : Nat} {h : Hp} {v : Nat → En} {es : List Nat} {s D M : Int32} (hH : HeldAt v mm q s es h) (hp : p0 ≤ es.length) : Cal (d + 1) 86 [vR 6 mm, vI (nI p0), vI D, vI M] h (.inl (some (vI (letterL v s D M none (es.drop p0))))) h := by
  obtain ⟨⟨om, hm, h1, hf⟩, hl, hlen, hes⟩ := hH
  refine Cal.mk (n := 8) rfl (Nat.le_of_ble_eq_true rfl) rfl ?_
  refine Ev.ps 4 rfl ?_
  have loop : ∀ (k j : Nat) (o1 : Option Nat) (o : Option MV), j + k = es.length → (∀ e, o1 = some e → hget h 3 e = some (encE e (v e))) → Ev (d + 1) (86, 6, [some (vR 6 mm), some (vI (nI p0)), some (vI D), some (vI M), some (refO o1), some (vI (nI j)), o, none], []) h (.inl (some (vI (letterL v s D M o1 (es.drop j)))), h) := by
    intro k
    induction k with
    | zero =>
      intro j o1 o hj ho1
      refine Ev.ps 2 rfl ?_
      refine Ev.getf (by rfl) (by rfl) (by rfl) hm hf ?_
      refine Ev.lsz (by rfl) (by rfl) (by rfl) (Nat.le_of_ble_eq_true rfl) hl ?_
      refine Ev.icmp (by rfl) (by rfl) (fun c => ?_) (fun c => ?_)
      · rw [List.drop_of_length_le (by omega)]
        refine Ev.ps 1 rfl ?_
        exact Ev.re rfl rfl rfl rfl rfl
      · have c := of_decide_eq_false c
        rw [List.length_map] at c
        exact absurd (nI_le (by omega) (by omega)) c
    | succ k ih =>
      intro j o1 o hj ho1
      have hjl : j < es.length := by omega
      have e1 : es.drop j = es[j] :: es.drop (j + 1) := List.drop_eq_getElem_cons hjl
      have hge : (es.map (vR 3))[(nI j).toNatClampNeg]? = some (vR 3 es[j]) := by rw [nI_clamp (by omega), List.getElem?_map, List.getElem?_eq_getElem hjl]; rfl
      have ho := hes es[j] (List.getElem_mem hjl)
      rw [e1]
      unfold letterL
      generalize es[j] = en at ho hge ⊢
      refine Ev.ps 2 rfl ?_
      refine Ev.getf (by rfl) (by rfl) (by rfl) hm hf ?_
      refine Ev.lsz (by rfl) (by rfl) (by rfl) (Nat.le_of_ble_eq_true rfl) hl ?_
      refine Ev.icmp (by rfl) (by rfl) (fun c => ?_) (fun _ => ?_)
      · have c := of_decide_eq_true c
        rw [List.length_map] at c
        exact absurd c (nI_ge (by omega) (by omega))
      · refine Ev.ps 1 rfl ?_
        refine Ev.getf (by rfl) (by rfl) (by rfl) hm hf ?_
        refine Ev.ps 1 rfl ?_
        refine Ev.lgt (v := vR 3 en) (by rfl) (by rfl) (by rfl) (Nat.le_of_ble_eq_true rfl) hl (nI_pos (by omega)) hge ?_
        refine Ev.cst (by rfl) (by rfl) (by rfl) (by rw [ho]; rfl) ?_
        refine Ev.getf (v := vI (eDay (v en))) (by rfl) (by rfl) (by rfl) ho rfl ?_
        refine Ev.ps 1 rfl ?_
        refine Ev.icmp (by rfl) (by rfl) (fun c => ?_) (fun c => ?_)
        · have c := of_decide_eq_true c
          rw [if_neg c]
          refine Ev.ps 1 rfl ?_
          exact Ev.re rfl rfl rfl rfl rfl
        · have c := Decidable.not_not.mp (of_decide_eq_false c)
          rw [if_pos c]
          refine Ev.ps 1 rfl ?_
          refine Ev.getf (by rfl) (by rfl) (by rfl) hm hf ?_
          refine Ev.ps 1 rfl ?_
          refine Ev.lgt (v := vR 3 en) (by rfl) (by rfl) (by rfl) (Nat.le_of_ble_eq_true rfl) hl (nI_pos (by omega)) hge ?_
          refine Ev.cst (by rfl) (by rfl) (by rfl) (by rw [ho]; rfl) ?_
          refine Ev.ps 3 rfl ?_
          refine Ev.getf (v := vI (eSta (v en))) (by rfl) (by rfl) (by rfl) ho rfl ?_
          refine Ev.icmp (by rfl) (by rfl) (fun c2 => ?_) (fun c2 => ?_)
          · have c2 := of_decide_eq_true c2
            rw [if_neg (Int32.not_lt.mpr c2)]
            refine Ev.ps 2 rfl ?_
            refine Ev.getf (v := vI (eEnd (v en))) (by rfl) (by rfl) (by rfl) ho rfl ?_
            refine Ev.icmp (by rfl) (by rfl) (fun c3 => ?_) (fun c3 => ?_)
            · have c3 := of_decide_eq_true c3
              rw [if_neg (Int32.not_lt.mpr c3)]
              refine Ev.ps 4 rfl ?_
              have h9 := ih (j + 1) (some en) (some (vR 3 en)) (by omega) (fun e z => by cases z; exact ho)
              rw [← nI_1] at h9
              exact h9
            · have c3 := of_decide_eq_false c3
              rw [if_pos (Int32.not_le.mp c3)]
              refine Ev.ps 1 rfl ?_
              exact Ev.re rfl rfl rfl rfl rfl
          · have c2 := of_decide_eq_false c2
            rw [if_pos (Int32.not_le.mp c2)]
            cases o1 with
            | none =>
              refine Ev.ps 7 rfl ?_
              exact Ev.re rfl rfl rfl rfl rfl
            | some b =>
              have hb := ho1 b rfl
              refine Ev.ps 3 rfl ?_
              refine Ev.getf (v := vI (eSta (v en))) (by rfl) (by rfl) (by rfl) ho rfl ?_
              refine Ev.ps 4 rfl ?_
              refine Ev.getf (v := vI (eWrk (v b))) (by rfl) (by rfl) (by rfl) hb rfl ?_
              refine Ev.ps 1 rfl ?_
              refine Ev.getf (v := vI (eWrk (v en))) (by rfl) (by rfl) (by rfl) ho rfl ?_
              refine Ev.vir (as := [vI (eWrk (v b)), vI (eWrk (v en))]) (rest := [vI (eSta (v en) - M)]) (by rfl) (by rfl) (by rfl) (by rfl) rfl (Nat.le_of_ble_eq_true rfl) (by rfl) (by rw [hm]; rfl) (s_setupBetween hm h1) ?_
              refine Ev.icmp (by rfl) (by rfl) (fun c3 => ?_) (fun c3 => ?_)
              · have c3 := of_decide_eq_true c3
                rw [show setupOf v s M en (some b) = 102 from if_neg (Int32.not_le.mpr c3)]
                refine Ev.ps 5 rfl ?_
                exact Ev.re rfl rfl rfl rfl rfl
              · have c3 := of_decide_eq_false c3
                rw [show setupOf v s M en (some b) = 115 from if_pos (Int32.not_lt.mp c3)]
                refine Ev.ps 7 rfl ?_
                exact Ev.re rfl rfl rfl rfl rfl
  exact loop (es.length - p0) p0 none none (by omega) (fun e z => nomatch z)
