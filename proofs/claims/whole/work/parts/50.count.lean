/-! countMinutes -/
def cntM (f : Int32 → Int32) : Nat → Nat → Int32 → Int32
  | 0, _, a => a
  | k + 1, j, a => cntM f k (j + 1) (if f (nI j) = 98 then a + 1 else a)
theorem s_countMinutes {d mm q : Nat} {h : Hp} {v : Nat → En} {es : List Nat} {s D : Int32} (hH : HeldAt v mm q s es h) : Cal (d + 2) 88 [vR 6 mm, vI D] h (.inl (some (vI (cntM (fun M => letterL v s D M none (es.drop (placeL (fun e => eDay (v e)) (fun e => eSta (v e)) D 0 es))) 480 0 0)))) h := by
  have hP := s_placeH (d := d) (D := D) (S := 0) hH
  have hH0 := hH
  obtain ⟨⟨om, hm, h1, hf⟩, hl, hlen, hes⟩ := hH
  have hp := placeL_le (da := fun e => eDay (v e)) (sa := fun e => eSta (v e)) (D := D) (S := 0) es
  generalize placeL (fun e => eDay (v e)) (fun e => eSta (v e)) D 0 es = p0 at hP hp ⊢
  refine Cal.mk (n := 5) rfl (Nat.le_of_ble_eq_true rfl) rfl ?_
  refine Ev.ps 3 rfl ?_
  refine Ev.vir (as := [vI D, vI 0]) (rest := []) (by rfl) (by rfl) (by rfl) (by rfl) rfl (Nat.le_of_ble_eq_true rfl) (by rfl) (by rw [hm]; rfl) hP ?_
  refine Ev.ps 5 rfl ?_
  have loop : ∀ (k j : Nat) (a : Int32), j + k = 480 → Ev (d + 2) (88, 12, [some (vR 6 mm), some (vI D), some (vI (nI p0)), some (vI a), some (vI (nI j))], []) h (.inl (some (vI (cntM (fun M => letterL v s D M none (es.drop p0)) k j a))), h) := by
    intro k
    induction k with
    | zero =>
      intro j a hj
      refine Ev.ps 2 rfl ?_
      refine Ev.icmp (by rfl) (by rfl) (fun c => ?_) (fun c => ?_)
      · refine Ev.ps 1 rfl ?_
        exact Ev.re rfl rfl rfl rfl rfl
      · have c : ¬ nI 480 ≤ nI j := of_decide_eq_false c
        exact absurd (nI_le (by omega) (by omega)) c
    | succ k ih =>
      intro j a hj
      unfold cntM
      refine Ev.ps 2 rfl ?_
      refine Ev.icmp (by rfl) (by rfl) (fun c => ?_) (fun _ => ?_)
      · have c : nI 480 ≤ nI j := of_decide_eq_true c
        exact absurd c (nI_ge (by omega) (by omega))
      · refine Ev.ps 4 rfl ?_
        refine Ev.sta (as := [vR 6 mm, vI (nI p0), vI D, vI (nI j)]) (rest := []) (by rfl) (by rfl) (by rfl) (by rfl) rfl (Nat.le_of_ble_eq_true rfl) (s_letterOfMinute (d := d) (M := nI j) hH0 hp) ?_
        refine Ev.ps 1 rfl ?_
        have fin : ∀ a : Int32, Ev (d + 2) (88, 36, [some (vR 6 mm), some (vI D), some (vI (nI p0)), some (vI a), some (vI (nI j))], []) h (.inl (some (vI (cntM (fun M => letterL v s D M none (es.drop p0)) k (j + 1) a))), h) := by
          intro a
          refine Ev.ps 2 rfl ?_
          have h9 := ih (j + 1) a (by omega)
          rw [← nI_1] at h9
          exact h9
        refine Ev.icmp (by rfl) (by rfl) (fun c => ?_) (fun c => ?_)
        · have c : ¬ letterL v s D (nI j) none (es.drop p0) = 98 := of_decide_eq_true c
          rw [if_neg c]
          exact fin a
        · have c : letterL v s D (nI j) none (es.drop p0) = 98 := Decidable.not_not.mp (of_decide_eq_false c)
          rw [if_pos c]
          refine Ev.ps 1 rfl ?_
          exact fin (a + 1)
  exact loop 480 0 0 rfl
