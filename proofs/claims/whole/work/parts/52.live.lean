/-! hasLiveNeeds, out of hasLive one deeper -/
def KindsAt (nb bt : Nat → Int32) (h : Hp) : Prop := (∃ od, hget h 8 0 = some od ∧ od[0]? = some (vR 10 0)) ∧ hget h 10 0 = some ((List.range 4).map (vR 4)) ∧ ∀ k, k < 4 → ∃ ob, hget h 4 k = some ob ∧ ob[0]? = some (vI (bt k)) ∧ ob[2]? = some (vI (nb k))
def allN (f : Nat → Bool) : Nat → Nat → Bool
  | 0, _ => true
  | k + 1, j => f j && allN f k (j + 1)
theorem s_hasLiveNeeds {d m kd : Nat} {h : Hp} {nb bt : Nat → Int32} {D c : Int32} {live : Nat → Bool} (hK : KindsAt nb bt h) (hm : (hget h 7 m).isSome = true) (hkd : kd < 4)
    (hL : ∀ k, k < 4 → ¬ nb kd &&& bt k = 0 → Cal (d + 1) 73 [vR 8 0, vR 7 m, vR 4 k, vI D, vI (c + 1)] h (.inl (some (vI (bI (live k))))) h) :
    Cal (d + 2) 74 [vR 8 0, vR 7 m, vR 4 kd, vI D, vI c] h (.inl (some (vI (bI (allN (fun k => decide (nb kd &&& bt k = 0) || live k) 4 0))))) h := by
  obtain ⟨⟨od, hd, hf⟩, hl, hk⟩ := hK
  obtain ⟨okd, k1, k2, k3⟩ := hk kd hkd
  refine Cal.mk (n := 7) rfl (Nat.le_of_ble_eq_true rfl) rfl ?_
  refine Ev.ps 2 rfl ?_
  have loop : ∀ (k j : Nat) (o : Option MV), j + k = 4 → Ev (d + 2) (74, 3, [some (vR 8 0), some (vR 7 m), some (vR 4 kd), some (vI D), some (vI c), some (vI (nI j)), o], []) h (.inl (some (vI (bI (allN (fun k => decide (nb kd &&& bt k = 0) || live k) k j)))), h) := by
    intro k
    induction k with
    | zero =>
      intro j o hj
      refine Ev.ps 2 rfl ?_
      refine Ev.getf (by rfl) (by rfl) (by rfl) hd hf ?_
      refine Ev.lsz (by rfl) (by rfl) (by rfl) (Nat.le_of_ble_eq_true rfl) hl ?_
      refine Ev.icmp (by rfl) (by rfl) (fun c => ?_) (fun c => ?_)
      · refine Ev.ps 1 rfl ?_
        exact Ev.re rfl rfl rfl rfl rfl
      · have c := of_decide_eq_false c
        rw [List.length_map, List.length_range] at c
        exact absurd (nI_le (by omega) (by omega)) c
    | succ k ih =>
      intro j o hj
      have hj4 : j < 4 := by omega
      obtain ⟨ob, o1, o2, o3⟩ := hk j hj4
      unfold allN
      have next : Ev (d + 2) (74, 55, [some (vR 8 0), some (vR 7 m), some (vR 4 kd), some (vI D), some (vI c), some (vI (nI j)), some (vR 4 j)], []) h (.inl (some (vI (bI (allN (fun k => decide (nb kd &&& bt k = 0) || live k) k (j + 1))))), h) := by
        refine Ev.ps 2 rfl ?_
        have h9 := ih (j + 1) (some (vR 4 j)) (by omega)
        rw [← nI_1] at h9
        exact h9
      refine Ev.ps 2 rfl ?_
      refine Ev.getf (by rfl) (by rfl) (by rfl) hd hf ?_
      refine Ev.lsz (by rfl) (by rfl) (by rfl) (Nat.le_of_ble_eq_true rfl) hl ?_
      refine Ev.icmp (by rfl) (by rfl) (fun c => ?_) (fun _ => ?_)
      · have c := of_decide_eq_true c
        rw [List.length_map, List.length_range] at c
        exact absurd c (nI_ge (by omega) (by omega))
      · refine Ev.ps 1 rfl ?_
        refine Ev.getf (by rfl) (by rfl) (by rfl) hd hf ?_
        refine Ev.ps 1 rfl ?_
        refine Ev.lgt (v := vR 4 j) (by rfl) (by rfl) (by rfl) (Nat.le_of_ble_eq_true rfl) hl (nI_pos (by omega)) (by rw [nI_clamp (by omega), List.getElem?_map, List.getElem?_range hj4]; rfl) ?_
        refine Ev.cst (by rfl) (by rfl) (by rfl) (by rw [o1]; rfl) ?_
        refine Ev.ps 3 rfl ?_
        refine Ev.vir (as := [vR 4 j]) (rest := []) (by rfl) (by rfl) (by rfl) (by rfl) rfl (Nat.le_of_ble_eq_true rfl) (by rfl) (by rw [k1]; rfl) (s_needs k1 k3 o1 o2) ?_
        unfold b2
        by_cases hn : nb kd &&& bt j = 0
        · rw [if_neg (fun z => z hn)]
          refine Ev.ifi (by rfl) (by rfl) (fun _ => ?_) (fun z => by exact absurd z (by decide))
          rw [decide_eq_true hn, Bool.true_or, Bool.true_and]
          exact next
        · rw [if_pos hn]
          refine Ev.ifi (by rfl) (by rfl) (fun z => by exact absurd z (by decide)) (fun _ => ?_)
          rw [decide_eq_false hn, Bool.false_or]
          refine Ev.ps 7 rfl ?_
          refine Ev.vir (as := [vR 7 m, vR 4 j, vI D, vI (c + 1)]) (rest := []) (by rfl) (by rfl) (by rfl) (by rfl) rfl (Nat.le_of_ble_eq_true rfl) (by rfl) (by rw [hd]; rfl) (hL j hj4 hn) ?_
          cases live j with
          | true =>
            refine Ev.ifi (by rfl) (by rfl) (fun _ => ?_) (fun z => by exact absurd z (by decide))
            rw [Bool.true_and]
            exact next
          | false =>
            refine Ev.ifi (by rfl) (by rfl) (fun z => by exact absurd z (by decide)) (fun _ => ?_)
            refine Ev.ps 1 rfl ?_
            exact Ev.re rfl rfl rfl rfl rfl
  exact loop 4 0 none rfl
