/-! hasLive -/
def freshL (x D : Int32) : Bool := decide (¬ x = -1) && decide (x ≤ D) && decide (D - x ≤ 29)
/-- r: how deep it may still go -/
def liveF (nb bt ls : Nat → Int32) (D : Int32) : Nat → Nat → Bool
  | 0, _ => false
  | r + 1, kd => freshL (ls kd) D && allN (fun k => decide (nb kd &&& bt k = 0) || liveF nb bt ls D r k) 4 0
/-- a member and the days of its inductions -/
def LastAt (ls : Nat → Int32) (m : Nat) (h : Hp) : Prop := ∃ om q ol, hget h 7 m = some om ∧ om[0]? = some (vR 20 q) ∧ hget h 20 q = some ol ∧ ol.length = 4 ∧ ∀ k, k < 4 → ol[k]? = some (vI (ls k))
theorem s_hasLive {d m : Nat} {h : Hp} {nb bt ls : Nat → Int32} {D : Int32} (hK : KindsAt nb bt h) (hN : ∀ k, k < 4 → ∃ ok, hget h 4 k = some ok ∧ ok[1]? = some (vI (nI k))) (hM : LastAt ls m h) :
    ∀ (r kd : Nat), r ≤ 4 → kd < 4 → Cal (d + 1 + 2 * r) 73 [vR 8 0, vR 7 m, vR 4 kd, vI D, vI (nI (4 - r))] h (.inl (some (vI (bI (liveF nb bt ls D r kd))))) h := by
  obtain ⟨om, q, ol, m1, m2, m3, m4, m5⟩ := hM
  obtain ⟨⟨od, hd, hf⟩, -, -⟩ := id hK
  intro r
  induction r with
  | zero =>
    intro kd hr hkd
    refine Cal.mk (n := 7) rfl (Nat.le_of_ble_eq_true rfl) rfl ?_
    refine Ev.ps 2 rfl ?_
    refine Ev.icmp (by rfl) (by rfl) (fun c => by exact absurd c (by decide)) (fun _ => ?_)
    refine Ev.ps 1 rfl ?_
    exact Ev.re rfl rfl rfl rfl rfl
  | succ r ih =>
    intro kd hr hkd
    obtain ⟨ok, o1, o2⟩ := hN kd hkd
    have hc : nI (4 - (r + 1)) + 1 = nI (4 - r) := by rw [nI_1]; congr 1; omega
    have hlt : nI (4 - (r + 1)) < nI 4 := nI_lt (by omega) (by decide)
    generalize nI (4 - (r + 1)) = c0 at hc hlt ⊢
    refine Cal.mk (n := 7) rfl (Nat.le_of_ble_eq_true rfl) rfl ?_
    refine Ev.ps 2 rfl ?_
    refine Ev.icmp (by rfl) (by rfl) (fun _ => ?_) (fun c => by exact absurd hlt (of_decide_eq_false c))
    refine Ev.ps 2 rfl ?_
    have hT : Cal (d + 1 + 2 * r + 1) 18 [vR 7 m, vR 4 kd] h (.inl (some (vI (ls kd)))) h := s_lastTaken m1 m2 m3 m4 o1 o2 hkd (m5 kd hkd)
    refine Ev.vir (d := d + 1 + 2 * r + 1) (as := [vR 4 kd]) (rest := []) (by rfl) (by rfl) (by rfl) (by rfl) rfl (Nat.le_of_ble_eq_true rfl) (by rfl) (by rw [m1]; rfl) hT ?_
    unfold liveF
    generalize ls kd = x
    have no : Ev (d + 1 + 2 * r + 1 + 1) (73, 40, [some (vR 8 0), some (vR 7 m), some (vR 4 kd), some (vI D), some (vI c0), some (vI x), none], []) h (.inl (some (vI (bI false))), h) := by
      refine Ev.ps 3 rfl ?_
      refine Ev.ifi (by rfl) (by rfl) (fun _ => ?_) (fun z => by exact absurd z (by decide))
      refine Ev.ps 1 rfl ?_
      exact Ev.re rfl rfl rfl rfl rfl
    refine Ev.ps 3 rfl ?_
    unfold freshL
    refine Ev.icmp (by rfl) (by rfl) (fun c => ?_) (fun c => ?_)
    · have c : x = -1 := of_decide_eq_true c
      rw [decide_eq_false (fun z => z c), Bool.false_and, Bool.false_and, Bool.false_and]
      exact no
    · have c : ¬ x = -1 := of_decide_eq_false c
      rw [decide_eq_true c, Bool.true_and]
      refine Ev.ps 2 rfl ?_
      refine Ev.icmp (by rfl) (by rfl) (fun c2 => ?_) (fun c2 => ?_)
      · have c2 := of_decide_eq_true c2
        rw [decide_eq_false (Int32.not_le.mpr c2), Bool.false_and, Bool.false_and]
        exact no
      · have c2 := of_decide_eq_false c2
        rw [decide_eq_true (Int32.not_lt.mp c2), Bool.true_and]
        refine Ev.ps 4 rfl ?_
        refine Ev.icmp (by rfl) (by rfl) (fun c3 => ?_) (fun c3 => ?_)
        · have c3 : 29 < D - x := of_decide_eq_true c3
          rw [decide_eq_false (Int32.not_le.mpr c3), Bool.false_and]
          exact no
        · have c3 : ¬ 29 < D - x := of_decide_eq_false c3
          rw [decide_eq_true (Int32.not_lt.mp c3), Bool.true_and]
          refine Ev.ps 4 rfl ?_
          refine Ev.ifi (by rfl) (by rfl) (fun z => by exact absurd z (by decide)) (fun _ => ?_)
          refine Ev.ps 5 rfl ?_
          have hNd : Cal (d + 1 + 2 * r + 1) 74 [vR 8 0, vR 7 m, vR 4 kd, vI D, vI c0] h (.inl (some (vI (bI (allN (fun k => decide (nb kd &&& bt k = 0) || liveF nb bt ls D r k) 4 0))))) h := by
            rw [show d + 1 + 2 * r + 1 = (d + 2 * r) + 2 by omega]
            exact s_hasLiveNeeds hK (by rw [m1]; rfl) hkd fun k hk4 _ => by
              have h9 := ih k (by omega) hk4
              rw [hc, show d + 2 * r + 1 = d + 1 + 2 * r by omega]
              exact h9
          refine Ev.vir (d := d + 1 + 2 * r + 1) (as := [vR 7 m, vR 4 kd, vI D, vI c0]) (rest := []) (by rfl) (by rfl) (by rfl) (by rfl) rfl (Nat.le_of_ble_eq_true rfl) (by rfl) (by rw [hd]; rfl) hNd ?_
          cases allN (fun k => decide (nb kd &&& bt k = 0) || liveF nb bt ls D r k) 4 0 with
          | true =>
            refine Ev.ifi (by rfl) (by rfl) (fun z => by exact absurd z (by decide)) (fun _ => ?_)
            refine Ev.ps 2 rfl ?_
            exact Ev.re rfl rfl rfl rfl rfl
          | false =>
            refine Ev.ifi (by rfl) (by rfl) (fun _ => ?_) (fun z => by exact absurd z (by decide))
            refine Ev.ps 1 rfl ?_
            exact Ev.re rfl rfl rfl rfl rfl
