/-! addLengths -/
theorem placeL_le {da sa : Nat → Int32} {D S : Int32} : ∀ es : List Nat, placeL da sa D S es ≤ es.length
  | [] => Nat.le_refl _
  | e :: es => by
    unfold placeL
    split
    · have := placeL_le (da := da) (sa := sa) (D := D) (S := S) es
      simp only [List.length_cons]
      omega
    · exact Nat.zero_le _
theorem s_placeH {d mm q : Nat} {h : Hp} {v : Nat → En} {es : List Nat} {s D S : Int32} (hH : HeldAt v mm q s es h) : Cal (d + 1) 13 [vR 6 mm, vI D, vI S] h (.inl (some (vI (nI (placeL (fun e => eDay (v e)) (fun e => eSta (v e)) D S es))))) h := by
  obtain ⟨⟨om, hm, h1, hf⟩, hl, hlen, hes⟩ := hH
  exact s_placeOf (ol := es.map (vR 3)) hm hf hl hlen fun e he => ⟨_, hes e he, rfl, rfl⟩
def sumL (v : Nat → En) (D : Int32) : List Nat → Int32 → Int32
  | [], a => a
  | e :: es, a => if eDay (v e) = D then sumL v D es (a + eLen (v e)) else a
theorem s_addLengths {d mm q : Nat} {h : Hp} {v : Nat → En} {es : List Nat} {s D : Int32} (hH : HeldAt v mm q s es h) : Cal (d + 2) 87 [vR 6 mm, vI D] h (.inl (some (vI (sumL v D (es.drop (placeL (fun e => eDay (v e)) (fun e => eSta (v e)) D 0 es)) 0)))) h := by
  have hP := s_placeH (d := d) (D := D) (S := 0) hH
  obtain ⟨⟨om, hm, h1, hf⟩, hl, hlen, hes⟩ := hH
  have hp := placeL_le (da := fun e => eDay (v e)) (sa := fun e => eSta (v e)) (D := D) (S := 0) es
  generalize placeL (fun e => eDay (v e)) (fun e => eSta (v e)) D 0 es = p0 at hP hp ⊢
  refine Cal.mk (n := 4) rfl (Nat.le_of_ble_eq_true rfl) rfl ?_
  refine Ev.ps 5 rfl ?_
  refine Ev.vir (as := [vI D, vI 0]) (rest := []) (by rfl) (by rfl) (by rfl) (by rfl) rfl (Nat.le_of_ble_eq_true rfl) (by rfl) (by rw [hm]; rfl) hP ?_
  refine Ev.ps 1 rfl ?_
  have loop : ∀ (k j : Nat) (a : Int32), j + k = es.length → Ev (d + 2) (87, 9, [some (vR 6 mm), some (vI D), some (vI a), some (vI (nI j))], []) h (.inl (some (vI (sumL v D (es.drop j) a))), h) := by
    intro k
    induction k with
    | zero =>
      intro j a hj
      refine Ev.ps 2 rfl ?_
      refine Ev.getf (by rfl) (by rfl) (by rfl) hm hf ?_
      refine Ev.lsz (by rfl) (by rfl) (by rfl) (Nat.le_of_ble_eq_true rfl) hl ?_
      refine Ev.icmp (by rfl) (by rfl) (fun c => ?_) (fun c => ?_)
      · rw [List.drop_of_length_le (by omega)]
        refine Ev.ps 1 rfl ?_
        exact Ev.re rfl rfl rfl rfl rfl
      · have c := of_decide_eq_false c
        rw [List.length_map] at c
        exact absurd (nI_le (by omega) (by omega)) c
    | succ k ih =>
      intro j a hj
      have hjl : j < es.length := by omega
      have e1 : es.drop j = es[j] :: es.drop (j + 1) := List.drop_eq_getElem_cons hjl
      have hge : (es.map (vR 3))[(nI j).toNatClampNeg]? = some (vR 3 es[j]) := by rw [nI_clamp (by omega), List.getElem?_map, List.getElem?_eq_getElem hjl]; rfl
      have ho := hes es[j] (List.getElem_mem hjl)
      rw [e1]
      unfold sumL
      generalize es[j] = en at ho hge ⊢
      refine Ev.ps 2 rfl ?_
      refine Ev.getf (by rfl) (by rfl) (by rfl) hm hf ?_
      refine Ev.lsz (by rfl) (by rfl) (by rfl) (Nat.le_of_ble_eq_true rfl) hl ?_
      refine Ev.icmp (by rfl) (by rfl) (fun c => ?_) (fun _ => ?_)
      · have c := of_decide_eq_true c
        rw [List.length_map] at c
        exact absurd c (nI_ge (by omega) (by omega))
      · refine Ev.ps 1 rfl ?_
        refine Ev.getf (by rfl) (by rfl) (by rfl) hm hf ?_
        refine Ev.ps 1 rfl ?_
        refine Ev.lgt (v := vR 3 en) (by rfl) (by rfl) (by rfl) (Nat.le_of_ble_eq_true rfl) hl (nI_pos (by omega)) hge ?_
        refine Ev.cst (by rfl) (by rfl) (by rfl) (by rw [ho]; rfl) ?_
        refine Ev.getf (v := vI (eDay (v en))) (by rfl) (by rfl) (by rfl) ho rfl ?_
        refine Ev.ps 1 rfl ?_
        refine Ev.icmp (by rfl) (by rfl) (fun c => ?_) (fun c => ?_)
        · have c := of_decide_eq_true c
          rw [if_neg c]
          refine Ev.ps 1 rfl ?_
          exact Ev.re rfl rfl rfl rfl rfl
        · have c := Decidable.not_not.mp (of_decide_eq_false c)
          rw [if_pos c]
          refine Ev.ps 2 rfl ?_
          refine Ev.getf (by rfl) (by rfl) (by rfl) hm hf ?_
          refine Ev.ps 1 rfl ?_
          refine Ev.lgt (v := vR 3 en) (by rfl) (by rfl) (by rfl) (Nat.le_of_ble_eq_true rfl) hl (nI_pos (by omega)) hge ?_
          refine Ev.cst (by rfl) (by rfl) (by rfl) (by rw [ho]; rfl) ?_
          refine Ev.getf (v := vI (eLen (v en))) (by rfl) (by rfl) (by rfl) ho rfl ?_
          refine Ev.ps 4 rfl ?_
          have h9 := ih (j + 1) (a + eLen (v en)) (by omega)
          rw [← nI_1] at h9
          exact h9
  exact loop (es.length - p0) p0 0 (by omega)
