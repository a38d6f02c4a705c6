/-! specs of small methods -/
theorem s_isBefore {d n : Nat} {h : Hp} {ob : Ob} {a b D S : Int32} (hg : hget h 3 n = some ob) (h1 : ob[2]? = some (vI a)) (h2 : ob[3]? = some (vI b)) : Cal d 14 [vR 3 n, vI D, vI S] h (.inl (some (vI (if a < D ∨ (a = D ∧ b < S) then 1 else 0)))) h := by
  refine Cal.mk (n := 3) rfl (Nat.le_of_ble_eq_true rfl) rfl ?_
  refine Ev.p rfl rfl ?_
  refine Ev.getf (by rfl) (by rfl) (by rfl) hg h1 ?_
  refine Ev.p rfl rfl ?_
  refine Ev.icmp (by rfl) (by rfl) (fun c => ?_) (fun c => ?_)
  · have c := of_decide_eq_true c
    rw [if_pos (Or.inl c)]
    refine Ev.ps 2 rfl ?_
    exact Ev.re rfl rfl rfl rfl rfl
  · have c := of_decide_eq_false c
    refine Ev.p rfl rfl ?_
    refine Ev.getf (by rfl) (by rfl) (by rfl) hg h1 ?_
    refine Ev.p rfl rfl ?_
    refine Ev.icmp (by rfl) (by rfl) (fun c2 => ?_) (fun c2 => ?_)
    · have c2 := of_decide_eq_true c2
      rw [if_neg (fun z => z.elim c (fun w => c2 w.1))]
      refine Ev.p rfl rfl ?_
      exact Ev.re rfl rfl rfl rfl rfl
    · have c2 := of_decide_eq_false c2
      refine Ev.p rfl rfl ?_
      refine Ev.getf (by rfl) (by rfl) (by rfl) hg h2 ?_
      refine Ev.p rfl rfl ?_
      refine Ev.icmp (by rfl) (by rfl) (fun c3 => ?_) (fun c3 => ?_)
      · have c3 := of_decide_eq_true c3
        rw [if_neg (fun z => z.elim c (fun w => absurd w.2 (Int32.not_lt.mpr c3)))]
        refine Ev.p rfl rfl ?_
        exact Ev.re rfl rfl rfl rfl rfl
      · have c3 := of_decide_eq_false c3
        rw [if_pos (Or.inr ⟨Decidable.not_not.mp c2, Int32.not_le.mp c3⟩)]
        refine Ev.p rfl rfl ?_
        refine Ev.p rfl rfl ?_
        exact Ev.re rfl rfl rfl rfl rfl
/-- how many of the list stand before a time -/
def placeL (da sa : Nat → Int32) (D S : Int32) : List Nat → Nat
  | [] => 0
  | e :: es => if da e < D ∨ (da e = D ∧ sa e < S) then placeL da sa D S es + 1 else 0
theorem s_placeOf {d m q : Nat} {h : Hp} {om ol : Ob} {es : List Nat} {da sa : Nat → Int32} {D S : Int32} (hm : hget h 6 m = some om) (hh : om[2]? = some (vR 16 q)) (hq : hget h 16 q = some (es.map (vR 3))) (hlen : es.length < 2 ^ 31)
    (he : ∀ e ∈ es, ∃ ob, hget h 3 e = some ob ∧ ob[2]? = some (vI (da e)) ∧ ob[3]? = some (vI (sa e))) : Cal (d + 1) 13 [vR 6 m, vI D, vI S] h (.inl (some (vI (nI (placeL da sa D S es))))) h := by
  refine Cal.mk (n := 4) rfl (Nat.le_of_ble_eq_true rfl) rfl ?_
  refine Ev.ps 2 rfl ?_
  have loop : ∀ (k j : Nat), j + k = es.length → Ev (d + 1) (13, 2, [some (vR 6 m), some (vI D), some (vI S), some (vI (nI j))], []) h (.inl (some (vI (nI (j + placeL da sa D S (es.drop j))))), h) := by
    intro k
    induction k with
    | zero =>
      intro j hj
      refine Ev.ps 2 rfl ?_
      refine Ev.getf (by rfl) (by rfl) (by rfl) hm hh ?_
      refine Ev.lsz (by rfl) (by rfl) (by rfl) (Nat.le_of_ble_eq_true rfl) hq ?_
      refine Ev.icmp (by rfl) (by rfl) (fun c => ?_) (fun c => ?_)
      · rw [List.drop_of_length_le (by omega)]
        refine Ev.ps 1 rfl ?_
        exact Ev.re rfl rfl rfl rfl rfl
      · have c := of_decide_eq_false c
        exact absurd (nI_le (by rw [List.length_map]; omega) (by rw [List.length_map] at *; omega)) c
    | succ k ih =>
      intro j hj
      refine Ev.ps 2 rfl ?_
      refine Ev.getf (by rfl) (by rfl) (by rfl) hm hh ?_
      refine Ev.lsz (by rfl) (by rfl) (by rfl) (Nat.le_of_ble_eq_true rfl) hq ?_
      refine Ev.icmp (by rfl) (by rfl) (fun c => ?_) (fun c => ?_)
      · have c := of_decide_eq_true c
        exact absurd c (nI_ge (by rw [List.length_map]; omega) (by rw [List.length_map]; omega))
      · have hjl : j < es.length := by omega
        obtain ⟨ob, o1, o2, o3⟩ := he es[j] (List.getElem_mem hjl)
        refine Ev.ps 1 rfl ?_
        refine Ev.getf (by rfl) (by rfl) (by rfl) hm hh ?_
        refine Ev.ps 1 rfl ?_
        refine Ev.lgt (v := vR 3 es[j]) (by rfl) (by rfl) (by rfl) (Nat.le_of_ble_eq_true rfl) hq (nI_pos (by omega)) (by rw [nI_clamp (by omega), List.getElem?_map, List.getElem?_eq_getElem hjl]; rfl) ?_
        refine Ev.cst (by rfl) (by rfl) (by rfl) (by rw [o1]; rfl) ?_
        refine Ev.ps 2 rfl ?_
        refine Ev.sta (as := [vR 3 es[j], vI D, vI S]) (rest := []) (by rfl) (by rfl) (by rfl) (by rfl) rfl (Nat.le_of_ble_eq_true rfl) (s_isBefore o1 o2 o3) ?_
        have e1 : es.drop j = es[j] :: es.drop (j + 1) := List.drop_eq_getElem_cons hjl
        rw [e1]
        unfold placeL
        by_cases hb : da es[j] < D ∨ (da es[j] = D ∧ sa es[j] < S)
        · rw [if_pos hb, if_pos hb]
          refine Ev.ifi (by rfl) (by rfl) (fun c => absurd c (by decide)) (fun _ => ?_)
          refine Ev.ps 2 rfl ?_
          have h9 := ih (j + 1) (by omega)
          rw [show j + (placeL da sa D S (es.drop (j + 1)) + 1) = j + 1 + placeL da sa D S (es.drop (j + 1)) by omega]
          rw [← nI_1] at h9
          exact h9
        · rw [if_neg hb, if_neg hb]
          refine Ev.ifi (by rfl) (by rfl) (fun _ => ?_) (fun c => absurd c (by decide))
          refine Ev.ps 1 rfl ?_
          exact Ev.re rfl rfl rfl rfl rfl
  have h9 := loop es.length 0 (by omega)
  rw [Nat.zero_add, List.drop_zero] at h9
  exact h9
