/-! specs of the class's small methods -/
section SS
variable {d y pc : Nat} {L : Lo} {st : List MV} {h : Hp} {x : Re × Hp}
theorem Ev.thw {E : Nat} (ht : th y pc = some E) : Ev d (y, pc, L, []) h (.inr E, hcst h 1 6) := by
  have ht0 := ht
  obtain ⟨q, hq, rfl, rfl, rfl⟩ := th_mem ht
  have h1 := List.all_eq_true.mp th_ok q hq
  obtain ⟨y, pc, E, ik, is, ic, wide, text, pl⟩ := q
  simp only [okT, Bool.and_eq_true, decide_eq_true_eq] at h1
  exact Ev.thr h1.1.1.1.2 ht0
theorem Ev.ial {s n : Nat} {j : Int32} {ob : Ob} {v : MV} (hc : codeAt y pc = some (.iaload, 1)) (hk : sk s = (1, 0) ∨ sk s = (4, 0)) (hg : hget h s n = some ob) (h0 : ¬ j < 0) (hv : ob[j.toNatClampNeg]? = some v) (k : Ev d (y, pc + 1, L, v :: st) h x) : Ev d (y, pc, L, vI j :: vR s n :: st) h x :=
  Ev.r hc rfl (z := (pc + 1, L, v :: st)) (by
    simp only [hrd, parr, hg]
    rw [if_pos ⟨trivial, by rcases hk with e | e <;> rw [e] <;> rfl, h0⟩, hv]
    rfl) k
theorem Ev.aln {s n : Nat} {ob : Ob} (hc : codeAt y pc = some (.arraylength, 1)) (hk : (sk s).1 = 1 ∨ sk s = (4, 0)) (hg : hget h s n = some ob) (k : Ev d (y, pc + 1, L, vI (Int32.ofNat ob.length) :: st) h x) : Ev d (y, pc, L, vR s n :: st) h x :=
  Ev.r hc rfl (z := (pc + 1, L, vI (Int32.ofNat ob.length) :: st)) (by simp only [hrd, hg]; rw [if_pos ⟨trivial, hk⟩]) k
end SS
def b2 (p : Prop) [Decidable p] : MV := vI (if p then 1 else 0)
theorem s_isOpen {d n : Nat} {h : Hp} {ob : Ob} {a : Int32} (hg : hget h 3 n = some ob) (h1 : ob[8]? = some (vI a)) : Cal d 5 [vR 3 n] h (.inl (some (b2 (a = 119 ∨ a = 98)))) h := by
  refine Cal.mk (n := 1) rfl (Nat.le_of_ble_eq_true rfl) rfl ?_
  refine Ev.ps 1 rfl ?_
  refine Ev.getf (by rfl) (by rfl) (by rfl) hg h1 ?_
  refine Ev.ps 1 rfl ?_
  refine Ev.icmp (by rfl) (by rfl) (fun c => ?_) (fun c => ?_)
  · have c : a = 119 := of_decide_eq_true c
    unfold b2
    rw [if_pos (Or.inl c)]
    refine Ev.ps 2 rfl ?_
    exact Ev.re rfl rfl rfl rfl rfl
  · have c : ¬ a = 119 := of_decide_eq_false c
    refine Ev.ps 1 rfl ?_
    refine Ev.getf (by rfl) (by rfl) (by rfl) hg h1 ?_
    refine Ev.ps 1 rfl ?_
    unfold b2
    refine Ev.icmp (by rfl) (by rfl) (fun c2 => ?_) (fun c2 => ?_)
    · have c2 : ¬ a = 98 := of_decide_eq_true c2
      rw [if_neg (fun z => z.elim c c2)]
      refine Ev.ps 1 rfl ?_
      exact Ev.re rfl rfl rfl rfl rfl
    · have c2 : a = 98 := Decidable.not_not.mp (of_decide_eq_false c2)
      rw [if_pos (Or.inr c2)]
      refine Ev.ps 2 rfl ?_
      exact Ev.re rfl rfl rfl rfl rfl
theorem s_overlaps {d n : Nat} {h : Hp} {ob : Ob} {da sa en D S E : Int32} (hg : hget h 3 n = some ob) (h1 : ob[2]? = some (vI da)) (h2 : ob[3]? = some (vI sa)) (h3 : ob[5]? = some (vI en)) : Cal d 6 [vR 3 n, vI D, vI S, vI E] h (.inl (some (b2 (da = D ∧ sa < E ∧ S < en)))) h := by
  refine Cal.mk (n := 4) rfl (Nat.le_of_ble_eq_true rfl) rfl ?_
  unfold b2
  refine Ev.ps 1 rfl ?_
  refine Ev.getf (by rfl) (by rfl) (by rfl) hg h1 ?_
  refine Ev.ps 1 rfl ?_
  refine Ev.icmp (by rfl) (by rfl) (fun c => ?_) (fun c => ?_)
  · have c := of_decide_eq_true c
    rw [if_neg (fun z => c z.1)]
    refine Ev.ps 1 rfl ?_
    exact Ev.re rfl rfl rfl rfl rfl
  · have c := Decidable.not_not.mp (of_decide_eq_false c)
    refine Ev.ps 1 rfl ?_
    refine Ev.getf (by rfl) (by rfl) (by rfl) hg h2 ?_
    refine Ev.ps 1 rfl ?_
    refine Ev.icmp (by rfl) (by rfl) (fun c2 => ?_) (fun c2 => ?_)
    · have c2 := of_decide_eq_true c2
      rw [if_neg (fun z => absurd z.2.1 (Int32.not_lt.mpr c2))]
      refine Ev.ps 1 rfl ?_
      exact Ev.re rfl rfl rfl rfl rfl
    · have c2 := Int32.not_le.mp (of_decide_eq_false c2)
      refine Ev.ps 2 rfl ?_
      refine Ev.getf (by rfl) (by rfl) (by rfl) hg h3 ?_
      refine Ev.icmp (by rfl) (by rfl) (fun c3 => ?_) (fun c3 => ?_)
      · have c3 := of_decide_eq_true c3
        rw [if_neg (fun z => absurd z.2.2 (Int32.not_lt.mpr c3))]
        refine Ev.ps 1 rfl ?_
        exact Ev.re rfl rfl rfl rfl rfl
      · have c3 := Int32.not_le.mp (of_decide_eq_false c3)
        rw [if_pos ⟨c, c2, c3⟩]
        refine Ev.ps 2 rfl ?_
        exact Ev.re rfl rfl rfl rfl rfl
theorem s_setupBetween {d n : Nat} {h : Hp} {ob : Ob} {s a b : Int32} (hg : hget h 6 n = some ob) (h1 : ob[1]? = some (vI s)) : Cal d 12 [vR 6 n, vI a, vI b] h (.inl (some (vI (if a = b then 0 else s)))) h := by
  refine Cal.mk (n := 3) rfl (Nat.le_of_ble_eq_true rfl) rfl ?_
  refine Ev.ps 2 rfl ?_
  refine Ev.icmp (by rfl) (by rfl) (fun c => ?_) (fun c => ?_)
  · have c := of_decide_eq_true c
    rw [if_neg c]
    refine Ev.ps 1 rfl ?_
    refine Ev.getf (by rfl) (by rfl) (by rfl) hg h1 ?_
    exact Ev.re rfl rfl rfl rfl rfl
  · have c := Decidable.not_not.mp (of_decide_eq_false c)
    rw [if_pos c]
    refine Ev.ps 2 rfl ?_
    exact Ev.re rfl rfl rfl rfl rfl
theorem s_needs {d n n2 : Nat} {h : Hp} {ob ob2 : Ob} {a b : Int32} (hg : hget h 4 n = some ob) (h1 : ob[2]? = some (vI a)) (hg2 : hget h 4 n2 = some ob2) (h2 : ob2[0]? = some (vI b)) : Cal d 8 [vR 4 n, vR 4 n2] h (.inl (some (b2 (¬ a &&& b = 0)))) h := by
  refine Cal.mk (n := 2) rfl (Nat.le_of_ble_eq_true rfl) rfl ?_
  unfold b2
  refine Ev.ps 1 rfl ?_
  refine Ev.getf (by rfl) (by rfl) (by rfl) hg h1 ?_
  refine Ev.ps 1 rfl ?_
  refine Ev.getf (by rfl) (by rfl) (by rfl) hg2 h2 ?_
  refine Ev.ps 1 rfl ?_
  refine Ev.ifi (by rfl) (by rfl) (fun c => ?_) (fun c => ?_)
  · have c := of_decide_eq_true c
    rw [if_neg (fun z => z c)]
    refine Ev.ps 1 rfl ?_
    exact Ev.re rfl rfl rfl rfl rfl
  · have c := of_decide_eq_false c
    rw [if_pos c]
    refine Ev.ps 2 rfl ?_
    exact Ev.re rfl rfl rfl rfl rfl
theorem s_range {d : Nat} {h : Hp} {v lo hi : Int32} (h1 : ¬ v < lo) (h2 : v ≤ hi) : Cal d 62 [vI v, vI lo, vI hi] h (.inl none) h := by
  refine Cal.mk (n := 3) rfl (Nat.le_of_ble_eq_true rfl) rfl ?_
  refine Ev.ps 2 rfl ?_
  refine Ev.icmp (by rfl) (by rfl) (fun c => by exact absurd (of_decide_eq_true c) h1) (fun _ => ?_)
  refine Ev.ps 2 rfl ?_
  refine Ev.icmp (by rfl) (by rfl) (fun _ => ?_) (fun c => by exact absurd h2 (of_decide_eq_false c))
  exact Ev.re rfl rfl rfl rfl rfl
theorem s_rangeX {d : Nat} {h : Hp} {v lo hi : Int32} (h1 : v < lo ∨ hi < v) : Cal d 62 [vI v, vI lo, vI hi] h (.inr 1) (hcst h 1 6) := by
  refine Cal.mk (n := 3) rfl (Nat.le_of_ble_eq_true rfl) rfl ?_
  refine Ev.ps 2 rfl ?_
  refine Ev.icmp (by rfl) (by rfl) (fun c => ?_) (fun c => ?_)
  · exact Ev.thw (by rfl)
  · have c := of_decide_eq_false c
    refine Ev.ps 2 rfl ?_
    refine Ev.icmp (by rfl) (by rfl) (fun c2 => by exact absurd (of_decide_eq_true c2) (Int32.not_le.mpr (h1.resolve_left c))) (fun _ => ?_)
    exact Ev.thw (by rfl)
theorem s_room {d : Nat} {h : Hp} {v hi : Int32} (h2 : v < hi) : Cal d 63 [vI v, vI hi] h (.inl none) h := by
  refine Cal.mk (n := 2) rfl (Nat.le_of_ble_eq_true rfl) rfl ?_
  refine Ev.ps 2 rfl ?_
  refine Ev.icmp (by rfl) (by rfl) (fun _ => ?_) (fun c => by exact absurd h2 (of_decide_eq_false c))
  exact Ev.re rfl rfl rfl rfl rfl
theorem s_roomX {d : Nat} {h : Hp} {v hi : Int32} (h2 : ¬ v < hi) : Cal d 63 [vI v, vI hi] h (.inr 5) (hcst h 1 6) := by
  refine Cal.mk (n := 2) rfl (Nat.le_of_ble_eq_true rfl) rfl ?_
  refine Ev.ps 2 rfl ?_
  refine Ev.icmp (by rfl) (by rfl) (fun c => by exact absurd (of_decide_eq_true c) h2) (fun _ => ?_)
  exact Ev.thw (by rfl)
