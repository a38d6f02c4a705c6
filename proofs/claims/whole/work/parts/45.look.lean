/-! the class's lookups by number (written by gen45.py) -/
theorem s_machineAt {d n k : Nat} {h : Hp} {od : Ob} (hd : hget h 8 0 = some od) (hf : od[1]? = some (vR 11 0)) (hl : hget h 11 0 = some ((List.range n).map (vR 6))) (hn : n < 2 ^ 31) (hk : k < n) (ho : (hget h 6 k).isSome = true) : Cal d 68 [vR 8 0, vI (nI k)] h (.inl (some (vR 6 k))) h := by
  refine Cal.mk (n := 2) rfl (Nat.le_of_ble_eq_true rfl) rfl ?_
  refine Ev.ps 1 rfl ?_
  refine Ev.ifi (by rfl) (by rfl) (fun c => by exact absurd (of_decide_eq_true c) (nI_pos (by omega))) (fun _ => ?_)
  refine Ev.ps 2 rfl ?_
  refine Ev.getf (by rfl) (by rfl) (by rfl) hd hf ?_
  refine Ev.lsz (by rfl) (by rfl) (by rfl) (Nat.le_of_ble_eq_true rfl) hl ?_
  refine Ev.icmp (by rfl) (by rfl) (fun _ => ?_) (fun c => by exact absurd (nI_lt (by rw [List.length_map, List.length_range]; exact hk) (by rw [List.length_map, List.length_range]; exact hn)) (of_decide_eq_false c))
  refine Ev.ps 1 rfl ?_
  refine Ev.getf (by rfl) (by rfl) (by rfl) hd hf ?_
  refine Ev.ps 1 rfl ?_
  refine Ev.lgt (v := vR 6 k) (by rfl) (by rfl) (by rfl) (Nat.le_of_ble_eq_true rfl) hl (nI_pos (by omega)) (by rw [nI_clamp (by omega), List.getElem?_map, List.getElem?_range hk]; rfl) ?_
  refine Ev.cst (by rfl) (by rfl) (by rfl) ho ?_
  exact Ev.re rfl rfl rfl rfl rfl
theorem s_machineAtX {d n : Nat} {j : Int32} {h : Hp} {od : Ob} (hd : hget h 8 0 = some od) (hf : od[1]? = some (vR 11 0)) (hl : hget h 11 0 = some ((List.range n).map (vR 6))) (hj : j < 0 ∨ nI n ≤ j) : Cal d 68 [vR 8 0, vI j] h (.inr 0) (hcst h 1 6) := by
  refine Cal.mk (n := 2) rfl (Nat.le_of_ble_eq_true rfl) rfl ?_
  refine Ev.ps 1 rfl ?_
  refine Ev.ifi (by rfl) (by rfl) (fun c => ?_) (fun c => ?_)
  · exact Ev.thw (by rfl)
  · have c := of_decide_eq_false c
    refine Ev.ps 2 rfl ?_
    refine Ev.getf (by rfl) (by rfl) (by rfl) hd hf ?_
    refine Ev.lsz (by rfl) (by rfl) (by rfl) (Nat.le_of_ble_eq_true rfl) hl ?_
    refine Ev.icmp (by rfl) (by rfl) (fun c2 => ?_) (fun _ => ?_)
    · exfalso
      have c2 := of_decide_eq_true c2
      rw [List.length_map, List.length_range] at c2
      exact absurd c2 (Int32.not_lt.mpr (hj.resolve_left c))
    · exact Ev.thw (by rfl)

theorem s_kindAt {d n k : Nat} {h : Hp} {od : Ob} (hd : hget h 8 0 = some od) (hf : od[0]? = some (vR 10 0)) (hl : hget h 10 0 = some ((List.range n).map (vR 4))) (hn : n < 2 ^ 31) (hk : k < n) (ho : (hget h 4 k).isSome = true) : Cal d 69 [vR 8 0, vI (nI k)] h (.inl (some (vR 4 k))) h := by
  refine Cal.mk (n := 2) rfl (Nat.le_of_ble_eq_true rfl) rfl ?_
  refine Ev.ps 1 rfl ?_
  refine Ev.ifi (by rfl) (by rfl) (fun c => by exact absurd (of_decide_eq_true c) (nI_pos (by omega))) (fun _ => ?_)
  refine Ev.ps 2 rfl ?_
  refine Ev.getf (by rfl) (by rfl) (by rfl) hd hf ?_
  refine Ev.lsz (by rfl) (by rfl) (by rfl) (Nat.le_of_ble_eq_true rfl) hl ?_
  refine Ev.icmp (by rfl) (by rfl) (fun _ => ?_) (fun c => by exact absurd (nI_lt (by rw [List.length_map, List.length_range]; exact hk) (by rw [List.length_map, List.length_range]; exact hn)) (of_decide_eq_false c))
  refine Ev.ps 1 rfl ?_
  refine Ev.getf (by rfl) (by rfl) (by rfl) hd hf ?_
  refine Ev.ps 1 rfl ?_
  refine Ev.lgt (v := vR 4 k) (by rfl) (by rfl) (by rfl) (Nat.le_of_ble_eq_true rfl) hl (nI_pos (by omega)) (by rw [nI_clamp (by omega), List.getElem?_map, List.getElem?_range hk]; rfl) ?_
  refine Ev.cst (by rfl) (by rfl) (by rfl) ho ?_
  exact Ev.re rfl rfl rfl rfl rfl
theorem s_kindAtX {d n : Nat} {j : Int32} {h : Hp} {od : Ob} (hd : hget h 8 0 = some od) (hf : od[0]? = some (vR 10 0)) (hl : hget h 10 0 = some ((List.range n).map (vR 4))) (hj : j < 0 ∨ nI n ≤ j) : Cal d 69 [vR 8 0, vI j] h (.inr 1) (hcst h 1 6) := by
  refine Cal.mk (n := 2) rfl (Nat.le_of_ble_eq_true rfl) rfl ?_
  refine Ev.ps 1 rfl ?_
  refine Ev.ifi (by rfl) (by rfl) (fun c => ?_) (fun c => ?_)
  · exact Ev.thw (by rfl)
  · have c := of_decide_eq_false c
    refine Ev.ps 2 rfl ?_
    refine Ev.getf (by rfl) (by rfl) (by rfl) hd hf ?_
    refine Ev.lsz (by rfl) (by rfl) (by rfl) (Nat.le_of_ble_eq_true rfl) hl ?_
    refine Ev.icmp (by rfl) (by rfl) (fun c2 => ?_) (fun _ => ?_)
    · exfalso
      have c2 := of_decide_eq_true c2
      rw [List.length_map, List.length_range] at c2
      exact absurd c2 (Int32.not_lt.mpr (hj.resolve_left c))
    · exact Ev.thw (by rfl)

theorem s_entryAt {d n k : Nat} {h : Hp} {od : Ob} (hd : hget h 8 0 = some od) (hf : od[3]? = some (vR 13 0)) (hl : hget h 13 0 = some ((List.range n).map (vR 3))) (hn : n < 2 ^ 31) (hk : k < n) (ho : (hget h 3 k).isSome = true) : Cal d 70 [vR 8 0, vI (nI k)] h (.inl (some (vR 3 k))) h := by
  refine Cal.mk (n := 2) rfl (Nat.le_of_ble_eq_true rfl) rfl ?_
  refine Ev.ps 1 rfl ?_
  refine Ev.ifi (by rfl) (by rfl) (fun c => by exact absurd (of_decide_eq_true c) (nI_pos (by omega))) (fun _ => ?_)
  refine Ev.ps 2 rfl ?_
  refine Ev.getf (by rfl) (by rfl) (by rfl) hd hf ?_
  refine Ev.lsz (by rfl) (by rfl) (by rfl) (Nat.le_of_ble_eq_true rfl) hl ?_
  refine Ev.icmp (by rfl) (by rfl) (fun _ => ?_) (fun c => by exact absurd (nI_lt (by rw [List.length_map, List.length_range]; exact hk) (by rw [List.length_map, List.length_range]; exact hn)) (of_decide_eq_false c))
  refine Ev.ps 1 rfl ?_
  refine Ev.getf (by rfl) (by rfl) (by rfl) hd hf ?_
  refine Ev.ps 1 rfl ?_
  refine Ev.lgt (v := vR 3 k) (by rfl) (by rfl) (by rfl) (Nat.le_of_ble_eq_true rfl) hl (nI_pos (by omega)) (by rw [nI_clamp (by omega), List.getElem?_map, List.getElem?_range hk]; rfl) ?_
  refine Ev.cst (by rfl) (by rfl) (by rfl) ho ?_
  exact Ev.re rfl rfl rfl rfl rfl
theorem s_entryAtX {d n : Nat} {j : Int32} {h : Hp} {od : Ob} (hd : hget h 8 0 = some od) (hf : od[3]? = some (vR 13 0)) (hl : hget h 13 0 = some ((List.range n).map (vR 3))) (hj : j < 0 ∨ nI n ≤ j) : Cal d 70 [vR 8 0, vI j] h (.inr 4) (hcst h 1 6) := by
  refine Cal.mk (n := 2) rfl (Nat.le_of_ble_eq_true rfl) rfl ?_
  refine Ev.ps 1 rfl ?_
  refine Ev.ifi (by rfl) (by rfl) (fun c => ?_) (fun c => ?_)
  · exact Ev.thw (by rfl)
  · have c := of_decide_eq_false c
    refine Ev.ps 2 rfl ?_
    refine Ev.getf (by rfl) (by rfl) (by rfl) hd hf ?_
    refine Ev.lsz (by rfl) (by rfl) (by rfl) (Nat.le_of_ble_eq_true rfl) hl ?_
    refine Ev.icmp (by rfl) (by rfl) (fun c2 => ?_) (fun _ => ?_)
    · exfalso
      have c2 := of_decide_eq_true c2
      rw [List.length_map, List.length_range] at c2
      exact absurd c2 (Int32.not_lt.mpr (hj.resolve_left c))
    · exact Ev.thw (by rfl)

theorem s_barAt {d n k : Nat} {h : Hp} {od : Ob} (hd : hget h 8 0 = some od) (hf : od[4]? = some (vR 14 0)) (hl : hget h 14 0 = some ((List.range n).map (vR 0))) (hn : n < 2 ^ 31) (hk : k < n) (ho : (hget h 0 k).isSome = true) : Cal d 71 [vR 8 0, vI (nI k)] h (.inl (some (vR 0 k))) h := by
  refine Cal.mk (n := 2) rfl (Nat.le_of_ble_eq_true rfl) rfl ?_
  refine Ev.ps 1 rfl ?_
  refine Ev.ifi (by rfl) (by rfl) (fun c => by exact absurd (of_decide_eq_true c) (nI_pos (by omega))) (fun _ => ?_)
  refine Ev.ps 2 rfl ?_
  refine Ev.getf (by rfl) (by rfl) (by rfl) hd hf ?_
  refine Ev.lsz (by rfl) (by rfl) (by rfl) (Nat.le_of_ble_eq_true rfl) hl ?_
  refine Ev.icmp (by rfl) (by rfl) (fun _ => ?_) (fun c => by exact absurd (nI_lt (by rw [List.length_map, List.length_range]; exact hk) (by rw [List.length_map, List.length_range]; exact hn)) (of_decide_eq_false c))
  refine Ev.ps 1 rfl ?_
  refine Ev.getf (by rfl) (by rfl) (by rfl) hd hf ?_
  refine Ev.ps 1 rfl ?_
  refine Ev.lgt (v := vR 0 k) (by rfl) (by rfl) (by rfl) (Nat.le_of_ble_eq_true rfl) hl (nI_pos (by omega)) (by rw [nI_clamp (by omega), List.getElem?_map, List.getElem?_range hk]; rfl) ?_
  refine Ev.cst (by rfl) (by rfl) (by rfl) ho ?_
  exact Ev.re rfl rfl rfl rfl rfl
theorem s_barAtX {d n : Nat} {j : Int32} {h : Hp} {od : Ob} (hd : hget h 8 0 = some od) (hf : od[4]? = some (vR 14 0)) (hl : hget h 14 0 = some ((List.range n).map (vR 0))) (hj : j < 0 ∨ nI n ≤ j) : Cal d 71 [vR 8 0, vI j] h (.inr 4) (hcst h 1 6) := by
  refine Cal.mk (n := 2) rfl (Nat.le_of_ble_eq_true rfl) rfl ?_
  refine Ev.ps 1 rfl ?_
  refine Ev.ifi (by rfl) (by rfl) (fun c => ?_) (fun c => ?_)
  · exact Ev.thw (by rfl)
  · have c := of_decide_eq_false c
    refine Ev.ps 2 rfl ?_
    refine Ev.getf (by rfl) (by rfl) (by rfl) hd hf ?_
    refine Ev.lsz (by rfl) (by rfl) (by rfl) (Nat.le_of_ble_eq_true rfl) hl ?_
    refine Ev.icmp (by rfl) (by rfl) (fun c2 => ?_) (fun _ => ?_)
    · exfalso
      have c2 := of_decide_eq_true c2
      rw [List.length_map, List.length_range] at c2
      exact absurd c2 (Int32.not_lt.mpr (hj.resolve_left c))
    · exact Ev.thw (by rfl)

theorem s_requireMember {d n k : Nat} {h : Hp} {od : Ob} (hd : hget h 8 0 = some od) (hf : od[2]? = some (vR 12 0)) (hl : hget h 12 0 = some ((List.range n).map (vR 7))) (hn : n < 2 ^ 31) (hk : k < n) : Cal d 66 [vR 8 0, vI (nI k)] h (.inl none) h := by
  refine Cal.mk (n := 2) rfl (Nat.le_of_ble_eq_true rfl) rfl ?_
  refine Ev.ps 1 rfl ?_
  refine Ev.ifi (by rfl) (by rfl) (fun c => by exact absurd (of_decide_eq_true c) (nI_pos (by omega))) (fun _ => ?_)
  refine Ev.ps 2 rfl ?_
  refine Ev.getf (by rfl) (by rfl) (by rfl) hd hf ?_
  refine Ev.lsz (by rfl) (by rfl) (by rfl) (Nat.le_of_ble_eq_true rfl) hl ?_
  refine Ev.icmp (by rfl) (by rfl) (fun _ => ?_) (fun c => by exact absurd (nI_lt (by rw [List.length_map, List.length_range]; exact hk) (by rw [List.length_map, List.length_range]; exact hn)) (of_decide_eq_false c))
  exact Ev.re rfl rfl rfl rfl rfl
theorem s_requireMemberX {d n : Nat} {j : Int32} {h : Hp} {od : Ob} (hd : hget h 8 0 = some od) (hf : od[2]? = some (vR 12 0)) (hl : hget h 12 0 = some ((List.range n).map (vR 7))) (hj : j < 0 ∨ nI n ≤ j) : Cal d 66 [vR 8 0, vI j] h (.inr 0) (hcst h 1 6) := by
  refine Cal.mk (n := 2) rfl (Nat.le_of_ble_eq_true rfl) rfl ?_
  refine Ev.ps 1 rfl ?_
  refine Ev.ifi (by rfl) (by rfl) (fun c => ?_) (fun c => ?_)
  · exact Ev.thw (by rfl)
  · have c := of_decide_eq_false c
    refine Ev.ps 2 rfl ?_
    refine Ev.getf (by rfl) (by rfl) (by rfl) hd hf ?_
    refine Ev.lsz (by rfl) (by rfl) (by rfl) (Nat.le_of_ble_eq_true rfl) hl ?_
    refine Ev.icmp (by rfl) (by rfl) (fun c2 => ?_) (fun _ => ?_)
    · exfalso
      have c2 := of_decide_eq_true c2
      rw [List.length_map, List.length_range] at c2
      exact absurd c2 (Int32.not_lt.mpr (hj.resolve_left c))
    · exact Ev.thw (by rfl)
theorem s_memberAt {d n k : Nat} {h : Hp} {od : Ob} (hd : hget h 8 0 = some od) (hf : od[2]? = some (vR 12 0)) (hl : hget h 12 0 = some ((List.range n).map (vR 7))) (hn : n < 2 ^ 31) (hk : k < n) (ho : (hget h 7 k).isSome = true) : Cal (d + 1) 67 [vR 8 0, vI (nI k)] h (.inl (some (vR 7 k))) h := by
  refine Cal.mk (n := 2) rfl (Nat.le_of_ble_eq_true rfl) rfl ?_
  refine Ev.ps 2 rfl ?_
  refine Ev.vir (as := [vI (nI k)]) (rest := []) (by rfl) (by rfl) (by rfl) (by rfl) rfl (Nat.le_of_ble_eq_true rfl) (by rfl) (by rw [hd]; rfl) (s_requireMember hd hf hl hn hk) ?_
  refine Ev.ps 1 rfl ?_
  refine Ev.getf (by rfl) (by rfl) (by rfl) hd hf ?_
  refine Ev.ps 1 rfl ?_
  refine Ev.lgt (v := vR 7 k) (by rfl) (by rfl) (by rfl) (Nat.le_of_ble_eq_true rfl) hl (nI_pos (by omega)) (by rw [nI_clamp (by omega), List.getElem?_map, List.getElem?_range hk]; rfl) ?_
  refine Ev.cst (by rfl) (by rfl) (by rfl) ho ?_
  exact Ev.re rfl rfl rfl rfl rfl
theorem s_memberAtX {d n : Nat} {j : Int32} {h : Hp} {od : Ob} (hd : hget h 8 0 = some od) (hf : od[2]? = some (vR 12 0)) (hl : hget h 12 0 = some ((List.range n).map (vR 7))) (hj : j < 0 ∨ nI n ≤ j) : Cal (d + 1) 67 [vR 8 0, vI j] h (.inr 0) (hcst h 1 6) := by
  refine Cal.mk (n := 2) rfl (Nat.le_of_ble_eq_true rfl) rfl ?_
  refine Ev.ps 2 rfl ?_
  exact Ev.virX (as := [vI j]) (rest := []) (by rfl) (by rfl) (by rfl) (by rfl) rfl (Nat.le_of_ble_eq_true rfl) (by rfl) (by rw [hd]; rfl) (s_requireMemberX hd hf hl hj) (by rfl)
