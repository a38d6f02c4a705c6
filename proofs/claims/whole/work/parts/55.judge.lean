/-! judge -/
def verdict (live busy free : Bool) : Int32 := if live then (if busy then 109 else if free then 111 else 116) else 105
theorem s_judge {d m mc kd : Nat} {h : Hp} {om : Ob} {D S M W pl : Int32} {live busy free : Bool} (hd : (hget h 8 0).isSome = true) (hm : hget h 6 mc = some om) (h0 : om[0]? = some (vR 4 kd))
    (hL : Cal d 73 [vR 8 0, vR 7 m, vR 4 kd, vI D, vI 0] h (.inl (some (vI (bI live)))) h) (hB : Cal d 79 [vR 8 0, vR 7 m, vI D, vI S, vI (S + M)] h (.inl (some (vI (bI busy)))) h) (hP : Cal d 13 [vR 6 mc, vI D, vI 0] h (.inl (some (vI pl))) h) (hF : Cal d 80 [vR 6 mc, vI pl, vI D, vI S, vI M, vI W] h (.inl (some (vI (bI free)))) h) :
    Cal (d + 1) 77 [vR 8 0, vR 7 m, vR 6 mc, vI D, vI S, vI M, vI W] h (.inl (some (vI (verdict live busy free)))) h := by
  refine Cal.mk (n := 8) rfl (Nat.le_of_ble_eq_true rfl) rfl ?_
  refine Ev.ps 3 rfl ?_
  refine Ev.getf (by rfl) (by rfl) (by rfl) hm h0 ?_
  refine Ev.ps 2 rfl ?_
  refine Ev.vir (as := [vR 7 m, vR 4 kd, vI D, vI 0]) (rest := []) (by rfl) (by rfl) (by rfl) (by rfl) rfl (Nat.le_of_ble_eq_true rfl) (by rfl) hd hL ?_
  cases live with
  | false =>
    refine Ev.ifi (by rfl) (by rfl) (fun z => by exact absurd z (by decide)) (fun _ => ?_)
    refine Ev.ps 1 rfl ?_
    exact Ev.re rfl rfl rfl rfl rfl
  | true =>
    refine Ev.ifi (by rfl) (by rfl) (fun _ => ?_) (fun z => by exact absurd z (by decide))
    refine Ev.ps 7 rfl ?_
    refine Ev.vir (as := [vR 7 m, vI D, vI S, vI (S + M)]) (rest := []) (by rfl) (by rfl) (by rfl) (by rfl) rfl (Nat.le_of_ble_eq_true rfl) (by rfl) hd hB ?_
    cases busy with
    | true =>
      refine Ev.ifi (by rfl) (by rfl) (fun z => by exact absurd z (by decide)) (fun _ => ?_)
      refine Ev.ps 1 rfl ?_
      exact Ev.re rfl rfl rfl rfl rfl
    | false =>
      refine Ev.ifi (by rfl) (by rfl) (fun _ => ?_) (fun z => by exact absurd z (by decide))
      refine Ev.ps 3 rfl ?_
      refine Ev.vir (as := [vI D, vI 0]) (rest := []) (by rfl) (by rfl) (by rfl) (by rfl) rfl (Nat.le_of_ble_eq_true rfl) (by rfl) (by rw [hm]; rfl) hP ?_
      refine Ev.ps 7 rfl ?_
      refine Ev.sta (as := [vR 6 mc, vI pl, vI D, vI S, vI M, vI W]) (rest := []) (by rfl) (by rfl) (by rfl) (by rfl) rfl (Nat.le_of_ble_eq_true rfl) hF ?_
      cases free with
      | true =>
        refine Ev.ifi (by rfl) (by rfl) (fun z => by exact absurd z (by decide)) (fun _ => ?_)
        refine Ev.ps 2 rfl ?_
        exact Ev.re rfl rfl rfl rfl rfl
      | false =>
        refine Ev.ifi (by rfl) (by rfl) (fun _ => ?_) (fun z => by exact absurd z (by decide))
        refine Ev.ps 1 rfl ?_
        exact Ev.re rfl rfl rfl rfl rfl
