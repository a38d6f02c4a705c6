/-! lastTaken -/
theorem s_lastTaken {d m q kd : Nat} {h : Hp} {om ok ol : Ob} {x : Int32} (hm : hget h 7 m = some om) (h1 : om[0]? = some (vR 20 q)) (hq : hget h 20 q = some ol) (h4 : ol.length = 4) (hk : hget h 4 kd = some ok) (h2 : ok[1]? = some (vI (nI kd))) (hkd : kd < 4) (hx : ol[kd]? = some (vI x)) : Cal d 18 [vR 7 m, vR 4 kd] h (.inl (some (vI x))) h := by
  refine Cal.mk (n := 3) rfl (Nat.le_of_ble_eq_true rfl) rfl ?_
  refine Ev.ps 1 rfl ?_
  refine Ev.getf (by rfl) (by rfl) (by rfl) hk h2 ?_
  refine Ev.ps 2 rfl ?_
  refine Ev.ifi (by rfl) (by rfl) (fun c => by exact absurd (of_decide_eq_true c) (nI_pos (by omega))) (fun _ => ?_)
  refine Ev.ps 2 rfl ?_
  refine Ev.getf (by rfl) (by rfl) (by rfl) hm h1 ?_
  refine Ev.aln (by rfl) (Or.inl rfl) hq ?_
  rw [h4]
  refine Ev.icmp (by rfl) (by rfl) (fun c => by exact absurd (of_decide_eq_true c) (nI_ge (b := 4) hkd (by decide))) (fun _ => ?_)
  refine Ev.ps 1 rfl ?_
  refine Ev.getf (by rfl) (by rfl) (by rfl) hm h1 ?_
  refine Ev.ps 1 rfl ?_
  refine Ev.ial (v := vI x) (by rfl) (Or.inl rfl) hq (nI_pos (by omega)) (by rw [nI_clamp (by omega)]; exact hx) ?_
  refine Ev.ps 1 rfl ?_
  exact Ev.re rfl rfl rfl rfl rfl
