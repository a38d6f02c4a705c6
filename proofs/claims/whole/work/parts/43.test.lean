/-! specs of small methods -/
theorem s_isBefore {d n : Nat} {h : Hp} {ob : Ob} {a b D S : Int32} (hg : hget h 3 n = some ob) (h1 : ob[2]? = some (vI a)) (h2 : ob[3]? = some (vI b)) : Cal d 14 [vR 3 n, vI D, vI S] h (.inl (some (vI (if a < D ∨ (a = D ∧ b < S) then 1 else 0)))) h := by
  refine Cal.mk (n := 3) rfl (Nat.le_of_ble_eq_true rfl) rfl ?_
  refine Ev.p rfl rfl ?_
  refine Ev.getf (by rfl) (by rfl) (by rfl) hg h1 ?_
  refine Ev.p rfl rfl ?_
  refine Ev.icmp (by rfl) (by rfl) (fun c => ?_) (fun c => ?_)
  · have c := of_decide_eq_true c
    rw [if_pos (Or.inl c)]
    refine Ev.ps 2 rfl ?_
    exact Ev.re rfl rfl rfl rfl rfl
  · have c := of_decide_eq_false c
    refine Ev.p rfl rfl ?_
    refine Ev.getf (by rfl) (by rfl) (by rfl) hg h1 ?_
    refine Ev.p rfl rfl ?_
    refine Ev.icmp (by rfl) (by rfl) (fun c2 => ?_) (fun c2 => ?_)
    · have c2 := of_decide_eq_true c2
      rw [if_neg (fun z => z.elim c (fun w => c2 w.1))]
      refine Ev.p rfl rfl ?_
      exact Ev.re rfl rfl rfl rfl rfl
    · have c2 := of_decide_eq_false c2
      refine Ev.p rfl rfl ?_
      refine Ev.getf (by rfl) (by rfl) (by rfl) hg h2 ?_
      refine Ev.p rfl rfl ?_
      refine Ev.icmp (by rfl) (by rfl) (fun c3 => ?_) (fun c3 => ?_)
      · have c3 := of_decide_eq_true c3
        rw [if_neg (fun z => z.elim c (fun w => absurd w.2 (Int32.not_lt.mpr c3)))]
        refine Ev.p rfl rfl ?_
        exact Ev.re rfl rfl rfl rfl rfl
      · have c3 := of_decide_eq_false c3
        rw [if_pos (Or.inr ⟨Decidable.not_not.mp c2, Int32.not_le.mp c3⟩)]
        refine Ev.p rfl rfl ?_
        refine Ev.p rfl rfl ?_
        exact Ev.re rfl rfl rfl rfl rfl
