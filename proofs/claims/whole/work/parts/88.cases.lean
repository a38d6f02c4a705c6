/-! the law's cases, over any heaps (written by gen88.py) -/
theorem lc_addMachine {d i : Nat} {N : Nat} {Xs : Nat → Int32} {h h1 h2 : Hp} {x : Re × Hp} {k : Int32} {b : Int32} {o6 o7 o8 : Option MV} (hN : N ≤ 3584) (hi : i + 6 < N) (hs : hget h 61 0 = some (pl N (fun k => vI (Xs k)))) (hs1 : hget h1 61 0 = some (pl N (fun k => vI (Xs k)))) (h9 : (hget h1 9 0).isSome = true) (h9x : (hget h2 9 0).isSome = true) (hH : Cal d 179 [vR 8 0, vI (Xs (i + 1)), vI (Xs (i + 2)), vR 58 0] h (.inl (some (vI k))) h1) (hR : Cal d 116 [vR 9 0, vI (Xs (i + 1)), vI (Xs (i + 2))] h1 (.inl (some (vI b))) h2) (hT : Cal d 109 [vR 9 0] h2 (.inl (some (vI k))) h2) (hO : k = 0 → hget h2 58 0 = some [vL b.toInt64]) (K : ∀ o6 o7 o8, Ev (d + 1) (216, 2938, lwL i o6 o7 o8, []) h2 x) : Ev (d + 1) (216, 224, lwL i o6 o7 o8, []) h x := by
  refine Lw.ps 1 rfl ?_
  refine Lw.a1 (k := 1) rfl rfl rfl rfl rfl rfl hN (by omega) hs ?_
  refine Lw.a1 (k := 2) rfl rfl rfl rfl rfl rfl hN (by omega) hs ?_
  refine Lw.ps 1 rfl ?_
  refine Lw.sta (as := [vR 8 0, vI (Xs (i + 1)), vI (Xs (i + 2)), vR 58 0]) (rest := []) (by rfl) (by rfl) (by rfl) rfl rfl (Nat.le_of_ble_eq_true rfl) hH ?_
  refine Lw.p (L' := lwL i (some (vI k)) o7 o8) rfl rfl ?_
  refine Lw.ps 1 rfl ?_
  refine Lw.a1 (k := 1) rfl rfl rfl rfl rfl rfl hN (by omega) hs1 ?_
  refine Lw.a1 (k := 2) rfl rfl rfl rfl rfl rfl hN (by omega) hs1 ?_
  refine Lw.vir (as := [vI (Xs (i + 1)), vI (Xs (i + 2))]) (rest := []) (by rfl) (by rfl) (by rfl) rfl rfl (Nat.le_of_ble_eq_true rfl) (by rfl) h9 hR ?_
  refine Lw.p (L' := lwL i (some (vI k)) (some (vI b)) o8) rfl rfl ?_
  refine Lw.ps 1 rfl ?_
  refine Lw.vir (as := []) (rest := []) (by rfl) (by rfl) (by rfl) rfl rfl (Nat.le_of_ble_eq_true rfl) (by rfl) h9x hT ?_
  refine Lw.ps 1 rfl ?_
  refine Lw.icmp (by rfl) (by rfl) (fun _ => ?_) (fun z => by simp [cmpB] at z)
  refine Lw.ps 1 rfl ?_
  refine Lw.ifi (by rfl) (by rfl) (fun _ => ?_) (fun z => ?_)
  · refine Lw.ps 1 rfl ?_
    exact K _ _ _
  · have hk : k = 0 := by simpa [cmp0] using z
    refine Lw.ps 2 rfl ?_
    refine Lw.jl (by rfl) (hO hk) ?_
    refine Lw.ps 2 rfl ?_
    refine Lw.p (st' := vI (lg_cmp b.toInt64 b.toInt64) :: []) rfl rfl ?_
    rw [lg_self]
    refine Lw.ps 2 rfl ?_
    exact K _ _ _
theorem lc_addMember {d i : Nat} {h h1 h2 : Hp} {x : Re × Hp} {k : Int32} {b : Int32} {o6 o7 o8 : Option MV} (h9 : (hget h1 9 0).isSome = true) (h9x : (hget h2 9 0).isSome = true) (hH : Cal d 180 [vR 8 0, vR 58 0] h (.inl (some (vI k))) h1) (hR : Cal d 117 [vR 9 0] h1 (.inl (some (vI b))) h2) (hT : Cal d 109 [vR 9 0] h2 (.inl (some (vI k))) h2) (hO : k = 0 → hget h2 58 0 = some [vL b.toInt64]) (K : ∀ o6 o7 o8, Ev (d + 1) (216, 2938, lwL i o6 o7 o8, []) h2 x) : Ev (d + 1) (216, 292, lwL i o6 o7 o8, []) h x := by
  refine Lw.ps 1 rfl ?_
  refine Lw.ps 1 rfl ?_
  refine Lw.sta (as := [vR 8 0, vR 58 0]) (rest := []) (by rfl) (by rfl) (by rfl) rfl rfl (Nat.le_of_ble_eq_true rfl) hH ?_
  refine Lw.p (L' := lwL i (some (vI k)) o7 o8) rfl rfl ?_
  refine Lw.ps 1 rfl ?_
  refine Lw.vir (as := []) (rest := []) (by rfl) (by rfl) (by rfl) rfl rfl (Nat.le_of_ble_eq_true rfl) (by rfl) h9 hR ?_
  refine Lw.p (L' := lwL i (some (vI k)) (some (vI b)) o8) rfl rfl ?_
  refine Lw.ps 1 rfl ?_
  refine Lw.vir (as := []) (rest := []) (by rfl) (by rfl) (by rfl) rfl rfl (Nat.le_of_ble_eq_true rfl) (by rfl) h9x hT ?_
  refine Lw.ps 1 rfl ?_
  refine Lw.icmp (by rfl) (by rfl) (fun _ => ?_) (fun z => by simp [cmpB] at z)
  refine Lw.ps 1 rfl ?_
  refine Lw.ifi (by rfl) (by rfl) (fun _ => ?_) (fun z => ?_)
  · refine Lw.ps 1 rfl ?_
    exact K _ _ _
  · have hk : k = 0 := by simpa [cmp0] using z
    refine Lw.ps 2 rfl ?_
    refine Lw.jl (by rfl) (hO hk) ?_
    refine Lw.ps 2 rfl ?_
    refine Lw.p (st' := vI (lg_cmp b.toInt64 b.toInt64) :: []) rfl rfl ?_
    rw [lg_self]
    refine Lw.ps 2 rfl ?_
    exact K _ _ _
theorem lc_day {d i : Nat} {h h1 : Hp} {x : Re × Hp} {v : Int32} {o6 o7 o8 : Option MV} (h8 : (hget h 8 0).isSome = true) (h9 : (hget h 9 0).isSome = true) (hC : Cal d 23 [vR 8 0] h (.inl (some (vI v))) h) (hR : Cal d 118 [vR 9 0] h (.inl (some (vI v))) h1) (K : ∀ o6 o7 o8, Ev (d + 1) (216, 2938, lwL i o6 o7 o8, []) h1 x) : Ev (d + 1) (216, 336, lwL i o6 o7 o8, []) h x := by
  refine Lw.ps 1 rfl ?_
  refine Lw.vir (as := []) (rest := []) (by rfl) (by rfl) (by rfl) rfl rfl (Nat.le_of_ble_eq_true rfl) (by rfl) h8 hC ?_
  refine Lw.ps 1 rfl ?_
  refine Lw.vir (as := []) (rest := [vI v]) (by rfl) (by rfl) (by rfl) rfl rfl (Nat.le_of_ble_eq_true rfl) (by rfl) h9 hR ?_
  refine Lw.icmp (t := 2938) (by rfl) (by rfl) (fun _ => ?_) (fun z => by simp [cmpB] at z)
  exact K _ _ _
theorem lc_addNeed {d i : Nat} {N : Nat} {Xs : Nat → Int32} {h h1 h2 : Hp} {x : Re × Hp} {k : Int32} {b : Bool} {o6 o7 o8 : Option MV} (hN : N ≤ 3584) (hi : i + 6 < N) (hs : hget h 61 0 = some (pl N (fun k => vI (Xs k)))) (hs1 : hget h1 61 0 = some (pl N (fun k => vI (Xs k)))) (h9 : (hget h1 9 0).isSome = true) (h9x : (hget h2 9 0).isSome = true) (hH : Cal d 181 [vR 8 0, vI (Xs (i + 1)), vI (Xs (i + 2)), vR 58 0] h (.inl (some (vI k))) h1) (hR : Cal d 122 [vR 9 0, vI (Xs (i + 1)), vI (Xs (i + 2))] h1 (.inl (some (vI (bI b)))) h2) (hT : Cal d 109 [vR 9 0] h2 (.inl (some (vI k))) h2) (hO : k = 0 → hget h2 58 0 = some [vL (bI b).toInt64]) (K : ∀ o6 o7 o8, Ev (d + 1) (216, 2938, lwL i o6 o7 o8, []) h2 x) : Ev (d + 1) (216, 349, lwL i o6 o7 o8, []) h x := by
  refine Lw.ps 1 rfl ?_
  refine Lw.a1 (k := 1) rfl rfl rfl rfl rfl rfl hN (by omega) hs ?_
  refine Lw.a1 (k := 2) rfl rfl rfl rfl rfl rfl hN (by omega) hs ?_
  refine Lw.ps 1 rfl ?_
  refine Lw.sta (as := [vR 8 0, vI (Xs (i + 1)), vI (Xs (i + 2)), vR 58 0]) (rest := []) (by rfl) (by rfl) (by rfl) rfl rfl (Nat.le_of_ble_eq_true rfl) hH ?_
  refine Lw.p (L' := lwL i (some (vI k)) o7 o8) rfl rfl ?_
  refine Lw.ps 1 rfl ?_
  refine Lw.a1 (k := 1) rfl rfl rfl rfl rfl rfl hN (by omega) hs1 ?_
  refine Lw.a1 (k := 2) rfl rfl rfl rfl rfl rfl hN (by omega) hs1 ?_
  refine Lw.vir (as := [vI (Xs (i + 1)), vI (Xs (i + 2))]) (rest := []) (by rfl) (by rfl) (by rfl) rfl rfl (Nat.le_of_ble_eq_true rfl) (by rfl) h9 hR ?_
  refine Lw.p (L' := lwL i (some (vI k)) (some (vI (bI b))) o8) rfl rfl ?_
  refine Lw.ps 1 rfl ?_
  refine Lw.vir (as := []) (rest := []) (by rfl) (by rfl) (by rfl) rfl rfl (Nat.le_of_ble_eq_true rfl) (by rfl) h9x hT ?_
  refine Lw.ps 1 rfl ?_
  refine Lw.icmp (by rfl) (by rfl) (fun _ => ?_) (fun z => by simp [cmpB] at z)
  refine Lw.ps 1 rfl ?_
  refine Lw.ifi (by rfl) (by rfl) (fun _ => ?_) (fun z => ?_)
  · refine Lw.ps 1 rfl ?_
    exact K _ _ _
  · have hk : k = 0 := by simpa [cmp0] using z
    refine Lw.ps 2 rfl ?_
    refine Lw.jl (by rfl) (hO hk) ?_
    cases b with
    | false =>
      refine Lw.ps 3 rfl ?_
      refine Lw.p (st' := vI (lg_cmp 0 0) :: []) rfl rfl ?_
      rw [lg_self]
      refine Lw.ps 2 rfl ?_
      exact K _ _ _
    | true =>
      refine Lw.ps 4 rfl ?_
      refine Lw.p (st' := vI (lg_cmp 1 1) :: []) rfl rfl ?_
      rw [lg_self]
      refine Lw.ps 2 rfl ?_
      exact K _ _ _
theorem lc_induct {d i : Nat} {N : Nat} {Xs : Nat → Int32} {h h1 h2 : Hp} {x : Re × Hp} {k : Int32} {b : Int32} {o6 o7 o8 : Option MV} (hN : N ≤ 3584) (hi : i + 6 < N) (hs : hget h 61 0 = some (pl N (fun k => vI (Xs k)))) (hs1 : hget h1 61 0 = some (pl N (fun k => vI (Xs k)))) (h9 : (hget h1 9 0).isSome = true) (h9x : (hget h2 9 0).isSome = true) (hH : Cal d 182 [vR 8 0, vI (Xs (i + 1)), vI (Xs (i + 2)), vR 58 0] h (.inl (some (vI k))) h1) (hR : Cal d 123 [vR 9 0, vI (Xs (i + 1)), vI (Xs (i + 2))] h1 (.inl (some (vI b))) h2) (hT : Cal d 109 [vR 9 0] h2 (.inl (some (vI k))) h2) (hO : k = 0 → hget h2 58 0 = some [vL b.toInt64]) (K : ∀ o6 o7 o8, Ev (d + 1) (216, 2938, lwL i o6 o7 o8, []) h2 x) : Ev (d + 1) (216, 424, lwL i o6 o7 o8, []) h x := by
  refine Lw.ps 1 rfl ?_
  refine Lw.a1 (k := 1) rfl rfl rfl rfl rfl rfl hN (by omega) hs ?_
  refine Lw.a1 (k := 2) rfl rfl rfl rfl rfl rfl hN (by omega) hs ?_
  refine Lw.ps 1 rfl ?_
  refine Lw.sta (as := [vR 8 0, vI (Xs (i + 1)), vI (Xs (i + 2)), vR 58 0]) (rest := []) (by rfl) (by rfl) (by rfl) rfl rfl (Nat.le_of_ble_eq_true rfl) hH ?_
  refine Lw.p (L' := lwL i (some (vI k)) o7 o8) rfl rfl ?_
  refine Lw.ps 1 rfl ?_
  refine Lw.a1 (k := 1) rfl rfl rfl rfl rfl rfl hN (by omega) hs1 ?_
  refine Lw.a1 (k := 2) rfl rfl rfl rfl rfl rfl hN (by omega) hs1 ?_
  refine Lw.vir (as := [vI (Xs (i + 1)), vI (Xs (i + 2))]) (rest := []) (by rfl) (by rfl) (by rfl) rfl rfl (Nat.le_of_ble_eq_true rfl) (by rfl) h9 hR ?_
  refine Lw.p (L' := lwL i (some (vI k)) (some (vI b)) o8) rfl rfl ?_
  refine Lw.ps 1 rfl ?_
  refine Lw.vir (as := []) (rest := []) (by rfl) (by rfl) (by rfl) rfl rfl (Nat.le_of_ble_eq_true rfl) (by rfl) h9x hT ?_
  refine Lw.ps 1 rfl ?_
  refine Lw.icmp (by rfl) (by rfl) (fun _ => ?_) (fun z => by simp [cmpB] at z)
  refine Lw.ps 1 rfl ?_
  refine Lw.ifi (by rfl) (by rfl) (fun _ => ?_) (fun z => ?_)
  · refine Lw.ps 1 rfl ?_
    exact K _ _ _
  · have hk : k = 0 := by simpa [cmp0] using z
    refine Lw.ps 2 rfl ?_
    refine Lw.jl (by rfl) (hO hk) ?_
    refine Lw.ps 2 rfl ?_
    refine Lw.p (st' := vI (lg_cmp b.toInt64 b.toInt64) :: []) rfl rfl ?_
    rw [lg_self]
    refine Lw.ps 2 rfl ?_
    exact K _ _ _
theorem lc_isLive {d i : Nat} {N : Nat} {Xs : Nat → Int32} {h h1 h2 : Hp} {x : Re × Hp} {k : Int32} {b : Bool} {o6 o7 o8 : Option MV} (hN : N ≤ 3584) (hi : i + 6 < N) (hs : hget h 61 0 = some (pl N (fun k => vI (Xs k)))) (hs1 : hget h1 61 0 = some (pl N (fun k => vI (Xs k)))) (h9 : (hget h1 9 0).isSome = true) (h9x : (hget h2 9 0).isSome = true) (hH : Cal d 183 [vR 8 0, vI (Xs (i + 1)), vI (Xs (i + 2)), vI (Xs (i + 3)), vR 58 0] h (.inl (some (vI k))) h1) (hR : Cal d 124 [vR 9 0, vI (Xs (i + 1)), vI (Xs (i + 2)), vI (Xs (i + 3))] h1 (.inl (some (vI (bI b)))) h2) (hT : Cal d 109 [vR 9 0] h2 (.inl (some (vI k))) h2) (hO : k = 0 → hget h2 58 0 = some [vL (bI b).toInt64]) (K : ∀ o6 o7 o8, Ev (d + 1) (216, 2938, lwL i o6 o7 o8, []) h2 x) : Ev (d + 1) (216, 492, lwL i o6 o7 o8, []) h x := by
  refine Lw.ps 1 rfl ?_
  refine Lw.a1 (k := 1) rfl rfl rfl rfl rfl rfl hN (by omega) hs ?_
  refine Lw.a1 (k := 2) rfl rfl rfl rfl rfl rfl hN (by omega) hs ?_
  refine Lw.a1 (k := 3) rfl rfl rfl rfl rfl rfl hN (by omega) hs ?_
  refine Lw.ps 1 rfl ?_
  refine Lw.sta (as := [vR 8 0, vI (Xs (i + 1)), vI (Xs (i + 2)), vI (Xs (i + 3)), vR 58 0]) (rest := []) (by rfl) (by rfl) (by rfl) rfl rfl (Nat.le_of_ble_eq_true rfl) hH ?_
  refine Lw.p (L' := lwL i (some (vI k)) o7 o8) rfl rfl ?_
  refine Lw.ps 1 rfl ?_
  refine Lw.a1 (k := 1) rfl rfl rfl rfl rfl rfl hN (by omega) hs1 ?_
  refine Lw.a1 (k := 2) rfl rfl rfl rfl rfl rfl hN (by omega) hs1 ?_
  refine Lw.a1 (k := 3) rfl rfl rfl rfl rfl rfl hN (by omega) hs1 ?_
  refine Lw.vir (as := [vI (Xs (i + 1)), vI (Xs (i + 2)), vI (Xs (i + 3))]) (rest := []) (by rfl) (by rfl) (by rfl) rfl rfl (Nat.le_of_ble_eq_true rfl) (by rfl) h9 hR ?_
  refine Lw.p (L' := lwL i (some (vI k)) (some (vI (bI b))) o8) rfl rfl ?_
  refine Lw.ps 1 rfl ?_
  refine Lw.vir (as := []) (rest := []) (by rfl) (by rfl) (by rfl) rfl rfl (Nat.le_of_ble_eq_true rfl) (by rfl) h9x hT ?_
  refine Lw.ps 1 rfl ?_
  refine Lw.icmp (by rfl) (by rfl) (fun _ => ?_) (fun z => by simp [cmpB] at z)
  refine Lw.ps 1 rfl ?_
  refine Lw.ifi (by rfl) (by rfl) (fun _ => ?_) (fun z => ?_)
  · refine Lw.ps 1 rfl ?_
    exact K _ _ _
  · have hk : k = 0 := by simpa [cmp0] using z
    refine Lw.ps 2 rfl ?_
    refine Lw.jl (by rfl) (hO hk) ?_
    cases b with
    | false =>
      refine Lw.ps 3 rfl ?_
      refine Lw.p (st' := vI (lg_cmp 0 0) :: []) rfl rfl ?_
      rw [lg_self]
      refine Lw.ps 2 rfl ?_
      exact K _ _ _
    | true =>
      refine Lw.ps 4 rfl ?_
      refine Lw.p (st' := vI (lg_cmp 1 1) :: []) rfl rfl ?_
      rw [lg_self]
      refine Lw.ps 2 rfl ?_
      exact K _ _ _
theorem lc_book {d i : Nat} {N : Nat} {Xs : Nat → Int32} {h h1 h2 : Hp} {x : Re × Hp} {k : Int32} {b : Int32} {o6 o7 o8 : Option MV} (hN : N ≤ 3584) (hi : i + 6 < N) (hs : hget h 61 0 = some (pl N (fun k => vI (Xs k)))) (hs1 : hget h1 61 0 = some (pl N (fun k => vI (Xs k)))) (h9 : (hget h1 9 0).isSome = true) (h9x : (hget h2 9 0).isSome = true) (hH : Cal d 184 [vR 8 0, vI (Xs (i + 1)), vI (Xs (i + 2)), vI (Xs (i + 3)), vI (Xs (i + 4)), vI (Xs (i + 5)), vI (chOf (Xs (i + 6))), vR 58 0] h (.inl (some (vI k))) h1) (hR : Cal d 135 [vR 9 0, vI (Xs (i + 1)), vI (Xs (i + 2)), vI (Xs (i + 3)), vI (Xs (i + 4)), vI (Xs (i + 5)), vI (chOf (Xs (i + 6)))] h1 (.inl (some (vI b))) h2) (hT : Cal d 109 [vR 9 0] h2 (.inl (some (vI k))) h2) (hO : k = 0 → hget h2 58 0 = some [vL b.toInt64]) (K : ∀ o6 o7 o8, Ev (d + 1) (216, 2938, lwL i o6 o7 o8, []) h2 x) : Ev (d + 1) (216, 579, lwL i o6 o7 o8, []) h x := by
  refine Lw.ps 1 rfl ?_
  refine Lw.a1 (k := 1) rfl rfl rfl rfl rfl rfl hN (by omega) hs ?_
  refine Lw.a1 (k := 2) rfl rfl rfl rfl rfl rfl hN (by omega) hs ?_
  refine Lw.a1 (k := 3) rfl rfl rfl rfl rfl rfl hN (by omega) hs ?_
  refine Lw.a1 (k := 4) rfl rfl rfl rfl rfl rfl hN (by omega) hs ?_
  refine Lw.a1 (k := 5) rfl rfl rfl rfl rfl rfl hN (by omega) hs ?_
  refine Lw.a2 (k := 6) rfl rfl rfl rfl rfl rfl hN (by omega) hs ?_
  refine Lw.p (st' := vI (chOf (Xs (i + 6))) :: _) rfl rfl ?_
  refine Lw.ps 1 rfl ?_
  refine Lw.sta (as := [vR 8 0, vI (Xs (i + 1)), vI (Xs (i + 2)), vI (Xs (i + 3)), vI (Xs (i + 4)), vI (Xs (i + 5)), vI (chOf (Xs (i + 6))), vR 58 0]) (rest := []) (by rfl) (by rfl) (by rfl) rfl rfl (Nat.le_of_ble_eq_true rfl) hH ?_
  refine Lw.p (L' := lwL i (some (vI k)) o7 o8) rfl rfl ?_
  refine Lw.ps 1 rfl ?_
  refine Lw.a1 (k := 1) rfl rfl rfl rfl rfl rfl hN (by omega) hs1 ?_
  refine Lw.a1 (k := 2) rfl rfl rfl rfl rfl rfl hN (by omega) hs1 ?_
  refine Lw.a1 (k := 3) rfl rfl rfl rfl rfl rfl hN (by omega) hs1 ?_
  refine Lw.a1 (k := 4) rfl rfl rfl rfl rfl rfl hN (by omega) hs1 ?_
  refine Lw.a1 (k := 5) rfl rfl rfl rfl rfl rfl hN (by omega) hs1 ?_
  refine Lw.a2 (k := 6) rfl rfl rfl rfl rfl rfl hN (by omega) hs1 ?_
  refine Lw.p (st' := vI (chOf (Xs (i + 6))) :: _) rfl rfl ?_
  refine Lw.vir (as := [vI (Xs (i + 1)), vI (Xs (i + 2)), vI (Xs (i + 3)), vI (Xs (i + 4)), vI (Xs (i + 5)), vI (chOf (Xs (i + 6)))]) (rest := []) (by rfl) (by rfl) (by rfl) rfl rfl (Nat.le_of_ble_eq_true rfl) (by rfl) h9 hR ?_
  refine Lw.p (L' := lwL i (some (vI k)) (some (vI b)) o8) rfl rfl ?_
  refine Lw.ps 1 rfl ?_
  refine Lw.vir (as := []) (rest := []) (by rfl) (by rfl) (by rfl) rfl rfl (Nat.le_of_ble_eq_true rfl) (by rfl) h9x hT ?_
  refine Lw.ps 1 rfl ?_
  refine Lw.icmp (by rfl) (by rfl) (fun _ => ?_) (fun z => by simp [cmpB] at z)
  refine Lw.ps 1 rfl ?_
  refine Lw.ifi (by rfl) (by rfl) (fun _ => ?_) (fun z => ?_)
  · refine Lw.ps 1 rfl ?_
    exact K _ _ _
  · have hk : k = 0 := by simpa [cmp0] using z
    refine Lw.ps 2 rfl ?_
    refine Lw.jl (by rfl) (hO hk) ?_
    refine Lw.ps 2 rfl ?_
    refine Lw.p (st' := vI (lg_cmp b.toInt64 b.toInt64) :: []) rfl rfl ?_
    rw [lg_self]
    refine Lw.ps 2 rfl ?_
    exact K _ _ _
theorem lc_await {d i : Nat} {N : Nat} {Xs : Nat → Int32} {h h1 h2 : Hp} {x : Re × Hp} {k : Int32} {b : Int32} {o6 o7 o8 : Option MV} (hN : N ≤ 3584) (hi : i + 6 < N) (hs : hget h 61 0 = some (pl N (fun k => vI (Xs k)))) (hs1 : hget h1 61 0 = some (pl N (fun k => vI (Xs k)))) (h9 : (hget h1 9 0).isSome = true) (h9x : (hget h2 9 0).isSome = true) (hH : Cal d 185 [vR 8 0, vI (Xs (i + 1)), vI (Xs (i + 2)), vI (Xs (i + 3)), vI (Xs (i + 4)), vI (Xs (i + 5)), vI (chOf (Xs (i + 6))), vR 58 0] h (.inl (some (vI k))) h1) (hR : Cal d 136 [vR 9 0, vI (Xs (i + 1)), vI (Xs (i + 2)), vI (Xs (i + 3)), vI (Xs (i + 4)), vI (Xs (i + 5)), vI (chOf (Xs (i + 6)))] h1 (.inl (some (vI b))) h2) (hT : Cal d 109 [vR 9 0] h2 (.inl (some (vI k))) h2) (hO : k = 0 → hget h2 58 0 = some [vL b.toInt64]) (K : ∀ o6 o7 o8, Ev (d + 1) (216, 2938, lwL i o6 o7 o8, []) h2 x) : Ev (d + 1) (216, 699, lwL i o6 o7 o8, []) h x := by
  refine Lw.ps 1 rfl ?_
  refine Lw.a1 (k := 1) rfl rfl rfl rfl rfl rfl hN (by omega) hs ?_
  refine Lw.a1 (k := 2) rfl rfl rfl rfl rfl rfl hN (by omega) hs ?_
  refine Lw.a1 (k := 3) rfl rfl rfl rfl rfl rfl hN (by omega) hs ?_
  refine Lw.a1 (k := 4) rfl rfl rfl rfl rfl rfl hN (by omega) hs ?_
  refine Lw.a1 (k := 5) rfl rfl rfl rfl rfl rfl hN (by omega) hs ?_
  refine Lw.a2 (k := 6) rfl rfl rfl rfl rfl rfl hN (by omega) hs ?_
  refine Lw.p (st' := vI (chOf (Xs (i + 6))) :: _) rfl rfl ?_
  refine Lw.ps 1 rfl ?_
  refine Lw.sta (as := [vR 8 0, vI (Xs (i + 1)), vI (Xs (i + 2)), vI (Xs (i + 3)), vI (Xs (i + 4)), vI (Xs (i + 5)), vI (chOf (Xs (i + 6))), vR 58 0]) (rest := []) (by rfl) (by rfl) (by rfl) rfl rfl (Nat.le_of_ble_eq_true rfl) hH ?_
  refine Lw.p (L' := lwL i (some (vI k)) o7 o8) rfl rfl ?_
  refine Lw.ps 1 rfl ?_
  refine Lw.a1 (k := 1) rfl rfl rfl rfl rfl rfl hN (by omega) hs1 ?_
  refine Lw.a1 (k := 2) rfl rfl rfl rfl rfl rfl hN (by omega) hs1 ?_
  refine Lw.a1 (k := 3) rfl rfl rfl rfl rfl rfl hN (by omega) hs1 ?_
  refine Lw.a1 (k := 4) rfl rfl rfl rfl rfl rfl hN (by omega) hs1 ?_
  refine Lw.a1 (k := 5) rfl rfl rfl rfl rfl rfl hN (by omega) hs1 ?_
  refine Lw.a2 (k := 6) rfl rfl rfl rfl rfl rfl hN (by omega) hs1 ?_
  refine Lw.p (st' := vI (chOf (Xs (i + 6))) :: _) rfl rfl ?_
  refine Lw.vir (as := [vI (Xs (i + 1)), vI (Xs (i + 2)), vI (Xs (i + 3)), vI (Xs (i + 4)), vI (Xs (i + 5)), vI (chOf (Xs (i + 6)))]) (rest := []) (by rfl) (by rfl) (by rfl) rfl rfl (Nat.le_of_ble_eq_true rfl) (by rfl) h9 hR ?_
  refine Lw.p (L' := lwL i (some (vI k)) (some (vI b)) o8) rfl rfl ?_
  refine Lw.ps 1 rfl ?_
  refine Lw.vir (as := []) (rest := []) (by rfl) (by rfl) (by rfl) rfl rfl (Nat.le_of_ble_eq_true rfl) (by rfl) h9x hT ?_
  refine Lw.ps 1 rfl ?_
  refine Lw.icmp (by rfl) (by rfl) (fun _ => ?_) (fun z => by simp [cmpB] at z)
  refine Lw.ps 1 rfl ?_
  refine Lw.ifi (by rfl) (by rfl) (fun _ => ?_) (fun z => ?_)
  · refine Lw.ps 1 rfl ?_
    exact K _ _ _
  · have hk : k = 0 := by simpa [cmp0] using z
    refine Lw.ps 2 rfl ?_
    refine Lw.jl (by rfl) (hO hk) ?_
    refine Lw.ps 2 rfl ?_
    refine Lw.p (st' := vI (lg_cmp b.toInt64 b.toInt64) :: []) rfl rfl ?_
    rw [lg_self]
    refine Lw.ps 2 rfl ?_
    exact K _ _ _
theorem lc_check {d i : Nat} {N : Nat} {Xs : Nat → Int32} {h h1 h2 : Hp} {x : Re × Hp} {k : Int32} {b : Int32} {o6 o7 o8 : Option MV} (hN : N ≤ 3584) (hi : i + 6 < N) (hs : hget h 61 0 = some (pl N (fun k => vI (Xs k)))) (hs1 : hget h1 61 0 = some (pl N (fun k => vI (Xs k)))) (h9 : (hget h1 9 0).isSome = true) (h9x : (hget h2 9 0).isSome = true) (hH : Cal d 186 [vR 8 0, vI (Xs (i + 1)), vI (Xs (i + 2)), vI (Xs (i + 3)), vI (Xs (i + 4)), vI (Xs (i + 5)), vI (chOf (Xs (i + 6))), vR 58 0] h (.inl (some (vI k))) h1) (hR : Cal d 137 [vR 9 0, vI (Xs (i + 1)), vI (Xs (i + 2)), vI (Xs (i + 3)), vI (Xs (i + 4)), vI (Xs (i + 5)), vI (chOf (Xs (i + 6)))] h1 (.inl (some (vI b))) h2) (hT : Cal d 109 [vR 9 0] h2 (.inl (some (vI k))) h2) (hO : k = 0 → hget h2 58 0 = some [vL b.toInt64]) (K : ∀ o6 o7 o8, Ev (d + 1) (216, 2938, lwL i o6 o7 o8, []) h2 x) : Ev (d + 1) (216, 819, lwL i o6 o7 o8, []) h x := by
  refine Lw.ps 1 rfl ?_
  refine Lw.a1 (k := 1) rfl rfl rfl rfl rfl rfl hN (by omega) hs ?_
  refine Lw.a1 (k := 2) rfl rfl rfl rfl rfl rfl hN (by omega) hs ?_
  refine Lw.a1 (k := 3) rfl rfl rfl rfl rfl rfl hN (by omega) hs ?_
  refine Lw.a1 (k := 4) rfl rfl rfl rfl rfl rfl hN (by omega) hs ?_
  refine Lw.a1 (k := 5) rfl rfl rfl rfl rfl rfl hN (by omega) hs ?_
  refine Lw.a2 (k := 6) rfl rfl rfl rfl rfl rfl hN (by omega) hs ?_
  refine Lw.p (st' := vI (chOf (Xs (i + 6))) :: _) rfl rfl ?_
  refine Lw.ps 1 rfl ?_
  refine Lw.sta (as := [vR 8 0, vI (Xs (i + 1)), vI (Xs (i + 2)), vI (Xs (i + 3)), vI (Xs (i + 4)), vI (Xs (i + 5)), vI (chOf (Xs (i + 6))), vR 58 0]) (rest := []) (by rfl) (by rfl) (by rfl) rfl rfl (Nat.le_of_ble_eq_true rfl) hH ?_
  refine Lw.p (L' := lwL i (some (vI k)) o7 o8) rfl rfl ?_
  refine Lw.ps 1 rfl ?_
  refine Lw.a1 (k := 1) rfl rfl rfl rfl rfl rfl hN (by omega) hs1 ?_
  refine Lw.a1 (k := 2) rfl rfl rfl rfl rfl rfl hN (by omega) hs1 ?_
  refine Lw.a1 (k := 3) rfl rfl rfl rfl rfl rfl hN (by omega) hs1 ?_
  refine Lw.a1 (k := 4) rfl rfl rfl rfl rfl rfl hN (by omega) hs1 ?_
  refine Lw.a1 (k := 5) rfl rfl rfl rfl rfl rfl hN (by omega) hs1 ?_
  refine Lw.a2 (k := 6) rfl rfl rfl rfl rfl rfl hN (by omega) hs1 ?_
  refine Lw.p (st' := vI (chOf (Xs (i + 6))) :: _) rfl rfl ?_
  refine Lw.vir (as := [vI (Xs (i + 1)), vI (Xs (i + 2)), vI (Xs (i + 3)), vI (Xs (i + 4)), vI (Xs (i + 5)), vI (chOf (Xs (i + 6)))]) (rest := []) (by rfl) (by rfl) (by rfl) rfl rfl (Nat.le_of_ble_eq_true rfl) (by rfl) h9 hR ?_
  refine Lw.p (L' := lwL i (some (vI k)) (some (vI b)) o8) rfl rfl ?_
  refine Lw.ps 1 rfl ?_
  refine Lw.vir (as := []) (rest := []) (by rfl) (by rfl) (by rfl) rfl rfl (Nat.le_of_ble_eq_true rfl) (by rfl) h9x hT ?_
  refine Lw.ps 1 rfl ?_
  refine Lw.icmp (by rfl) (by rfl) (fun _ => ?_) (fun z => by simp [cmpB] at z)
  refine Lw.ps 1 rfl ?_
  refine Lw.ifi (by rfl) (by rfl) (fun _ => ?_) (fun z => ?_)
  · refine Lw.ps 1 rfl ?_
    exact K _ _ _
  · have hk : k = 0 := by simpa [cmp0] using z
    refine Lw.ps 2 rfl ?_
    refine Lw.jl (by rfl) (hO hk) ?_
    refine Lw.ps 2 rfl ?_
    refine Lw.p (st' := vI (lg_cmp b.toInt64 b.toInt64) :: []) rfl rfl ?_
    rw [lg_self]
    refine Lw.ps 2 rfl ?_
    exact K _ _ _
theorem lc_cancel {d i : Nat} {N : Nat} {Xs : Nat → Int32} {h h1 h2 : Hp} {x : Re × Hp} {k : Int32} {b : Int32} {o6 o7 o8 : Option MV} (hN : N ≤ 3584) (hi : i + 6 < N) (hs : hget h 61 0 = some (pl N (fun k => vI (Xs k)))) (hs1 : hget h1 61 0 = some (pl N (fun k => vI (Xs k)))) (h9 : (hget h1 9 0).isSome = true) (h9x : (hget h2 9 0).isSome = true) (hH : Cal d 187 [vR 8 0, vI (Xs (i + 1)), vR 58 0] h (.inl (some (vI k))) h1) (hR : Cal d 138 [vR 9 0, vI (Xs (i + 1))] h1 (.inl (some (vI b))) h2) (hT : Cal d 109 [vR 9 0] h2 (.inl (some (vI k))) h2) (hO : k = 0 → hget h2 58 0 = some [vL b.toInt64]) (K : ∀ o6 o7 o8, Ev (d + 1) (216, 2938, lwL i o6 o7 o8, []) h2 x) : Ev (d + 1) (216, 939, lwL i o6 o7 o8, []) h x := by
  refine Lw.ps 1 rfl ?_
  refine Lw.a1 (k := 1) rfl rfl rfl rfl rfl rfl hN (by omega) hs ?_
  refine Lw.ps 1 rfl ?_
  refine Lw.sta (as := [vR 8 0, vI (Xs (i + 1)), vR 58 0]) (rest := []) (by rfl) (by rfl) (by rfl) rfl rfl (Nat.le_of_ble_eq_true rfl) hH ?_
  refine Lw.p (L' := lwL i (some (vI k)) o7 o8) rfl rfl ?_
  refine Lw.ps 1 rfl ?_
  refine Lw.a1 (k := 1) rfl rfl rfl rfl rfl rfl hN (by omega) hs1 ?_
  refine Lw.vir (as := [vI (Xs (i + 1))]) (rest := []) (by rfl) (by rfl) (by rfl) rfl rfl (Nat.le_of_ble_eq_true rfl) (by rfl) h9 hR ?_
  refine Lw.p (L' := lwL i (some (vI k)) (some (vI b)) o8) rfl rfl ?_
  refine Lw.ps 1 rfl ?_
  refine Lw.vir (as := []) (rest := []) (by rfl) (by rfl) (by rfl) rfl rfl (Nat.le_of_ble_eq_true rfl) (by rfl) h9x hT ?_
  refine Lw.ps 1 rfl ?_
  refine Lw.icmp (by rfl) (by rfl) (fun _ => ?_) (fun z => by simp [cmpB] at z)
  refine Lw.ps 1 rfl ?_
  refine Lw.ifi (by rfl) (by rfl) (fun _ => ?_) (fun z => ?_)
  · refine Lw.ps 1 rfl ?_
    exact K _ _ _
  · have hk : k = 0 := by simpa [cmp0] using z
    refine Lw.ps 2 rfl ?_
    refine Lw.jl (by rfl) (hO hk) ?_
    refine Lw.ps 2 rfl ?_
    refine Lw.p (st' := vI (lg_cmp b.toInt64 b.toInt64) :: []) rfl rfl ?_
    rw [lg_self]
    refine Lw.ps 2 rfl ?_
    exact K _ _ _
theorem lc_stateOf {d i : Nat} {N : Nat} {Xs : Nat → Int32} {h h1 h2 : Hp} {x : Re × Hp} {k : Int32} {b : Int32} {o6 o7 o8 : Option MV} (hN : N ≤ 3584) (hi : i + 6 < N) (hs : hget h 61 0 = some (pl N (fun k => vI (Xs k)))) (hs1 : hget h1 61 0 = some (pl N (fun k => vI (Xs k)))) (h9 : (hget h1 9 0).isSome = true) (h9x : (hget h2 9 0).isSome = true) (hH : Cal d 188 [vR 8 0, vI (Xs (i + 1)), vR 58 0] h (.inl (some (vI k))) h1) (hR : Cal d 139 [vR 9 0, vI (Xs (i + 1))] h1 (.inl (some (vI b))) h2) (hT : Cal d 109 [vR 9 0] h2 (.inl (some (vI k))) h2) (hO : k = 0 → hget h2 58 0 = some [vL b.toInt64]) (K : ∀ o6 o7 o8, Ev (d + 1) (216, 2938, lwL i o6 o7 o8, []) h2 x) : Ev (d + 1) (216, 995, lwL i o6 o7 o8, []) h x := by
  refine Lw.ps 1 rfl ?_
  refine Lw.a1 (k := 1) rfl rfl rfl rfl rfl rfl hN (by omega) hs ?_
  refine Lw.ps 1 rfl ?_
  refine Lw.sta (as := [vR 8 0, vI (Xs (i + 1)), vR 58 0]) (rest := []) (by rfl) (by rfl) (by rfl) rfl rfl (Nat.le_of_ble_eq_true rfl) hH ?_
  refine Lw.p (L' := lwL i (some (vI k)) o7 o8) rfl rfl ?_
  refine Lw.ps 1 rfl ?_
  refine Lw.a1 (k := 1) rfl rfl rfl rfl rfl rfl hN (by omega) hs1 ?_
  refine Lw.vir (as := [vI (Xs (i + 1))]) (rest := []) (by rfl) (by rfl) (by rfl) rfl rfl (Nat.le_of_ble_eq_true rfl) (by rfl) h9 hR ?_
  refine Lw.p (L' := lwL i (some (vI k)) (some (vI b)) o8) rfl rfl ?_
  refine Lw.ps 1 rfl ?_
  refine Lw.vir (as := []) (rest := []) (by rfl) (by rfl) (by rfl) rfl rfl (Nat.le_of_ble_eq_true rfl) (by rfl) h9x hT ?_
  refine Lw.ps 1 rfl ?_
  refine Lw.icmp (by rfl) (by rfl) (fun _ => ?_) (fun z => by simp [cmpB] at z)
  refine Lw.ps 1 rfl ?_
  refine Lw.ifi (by rfl) (by rfl) (fun _ => ?_) (fun z => ?_)
  · refine Lw.ps 1 rfl ?_
    exact K _ _ _
  · have hk : k = 0 := by simpa [cmp0] using z
    refine Lw.ps 2 rfl ?_
    refine Lw.jl (by rfl) (hO hk) ?_
    refine Lw.ps 2 rfl ?_
    refine Lw.p (st' := vI (lg_cmp b.toInt64 b.toInt64) :: []) rfl rfl ?_
    rw [lg_self]
    refine Lw.ps 2 rfl ?_
    exact K _ _ _
theorem lc_entries {d i : Nat} {h h1 : Hp} {x : Re × Hp} {v : Int32} {o6 o7 o8 : Option MV} (h8 : (hget h 8 0).isSome = true) (h9 : (hget h 9 0).isSome = true) (hC : Cal d 32 [vR 8 0] h (.inl (some (vI v))) h) (hR : Cal d 140 [vR 9 0] h (.inl (some (vI v))) h1) (K : ∀ o6 o7 o8, Ev (d + 1) (216, 2938, lwL i o6 o7 o8, []) h1 x) : Ev (d + 1) (216, 1051, lwL i o6 o7 o8, []) h x := by
  refine Lw.ps 1 rfl ?_
  refine Lw.vir (as := []) (rest := []) (by rfl) (by rfl) (by rfl) rfl rfl (Nat.le_of_ble_eq_true rfl) (by rfl) h8 hC ?_
  refine Lw.ps 1 rfl ?_
  refine Lw.vir (as := []) (rest := [vI v]) (by rfl) (by rfl) (by rfl) rfl rfl (Nat.le_of_ble_eq_true rfl) (by rfl) h9 hR ?_
  refine Lw.icmp (t := 2938) (by rfl) (by rfl) (fun _ => ?_) (fun z => by simp [cmpB] at z)
  exact K _ _ _
theorem lc_endDay {d i : Nat} {h h1 h2 : Hp} {x : Re × Hp} {k : Int32} {b : Int32} {o6 o7 o8 : Option MV} (h9 : (hget h1 9 0).isSome = true) (h9x : (hget h2 9 0).isSome = true) (hH : Cal d 189 [vR 8 0, vR 58 0] h (.inl (some (vI k))) h1) (hR : Cal d 141 [vR 9 0] h1 (.inl (some (vI b))) h2) (hT : Cal d 109 [vR 9 0] h2 (.inl (some (vI k))) h2) (hO : k = 0 → hget h2 58 0 = some [vL b.toInt64]) (K : ∀ o6 o7 o8, Ev (d + 1) (216, 2938, lwL i o6 o7 o8, []) h2 x) : Ev (d + 1) (216, 1064, lwL i o6 o7 o8, []) h x := by
  refine Lw.ps 1 rfl ?_
  refine Lw.ps 1 rfl ?_
  refine Lw.sta (as := [vR 8 0, vR 58 0]) (rest := []) (by rfl) (by rfl) (by rfl) rfl rfl (Nat.le_of_ble_eq_true rfl) hH ?_
  refine Lw.p (L' := lwL i (some (vI k)) o7 o8) rfl rfl ?_
  refine Lw.ps 1 rfl ?_
  refine Lw.vir (as := []) (rest := []) (by rfl) (by rfl) (by rfl) rfl rfl (Nat.le_of_ble_eq_true rfl) (by rfl) h9 hR ?_
  refine Lw.p (L' := lwL i (some (vI k)) (some (vI b)) o8) rfl rfl ?_
  refine Lw.ps 1 rfl ?_
  refine Lw.vir (as := []) (rest := []) (by rfl) (by rfl) (by rfl) rfl rfl (Nat.le_of_ble_eq_true rfl) (by rfl) h9x hT ?_
  refine Lw.ps 1 rfl ?_
  refine Lw.icmp (by rfl) (by rfl) (fun _ => ?_) (fun z => by simp [cmpB] at z)
  refine Lw.ps 1 rfl ?_
  refine Lw.ifi (by rfl) (by rfl) (fun _ => ?_) (fun z => ?_)
  · refine Lw.ps 1 rfl ?_
    exact K _ _ _
  · have hk : k = 0 := by simpa [cmp0] using z
    refine Lw.ps 2 rfl ?_
    refine Lw.jl (by rfl) (hO hk) ?_
    refine Lw.ps 2 rfl ?_
    refine Lw.p (st' := vI (lg_cmp b.toInt64 b.toInt64) :: []) rfl rfl ?_
    rw [lg_self]
    refine Lw.ps 2 rfl ?_
    exact K _ _ _
theorem lc_minuteAt {d i : Nat} {N : Nat} {Xs : Nat → Int32} {h h1 h2 : Hp} {x : Re × Hp} {k : Int32} {b : Int32} {o6 o7 o8 : Option MV} (hN : N ≤ 3584) (hi : i + 6 < N) (hs : hget h 61 0 = some (pl N (fun k => vI (Xs k)))) (hs1 : hget h1 61 0 = some (pl N (fun k => vI (Xs k)))) (h9 : (hget h1 9 0).isSome = true) (h9x : (hget h2 9 0).isSome = true) (hH : Cal d 190 [vR 8 0, vI (Xs (i + 1)), vI (Xs (i + 2)), vI (Xs (i + 3)), vR 58 0] h (.inl (some (vI k))) h1) (hR : Cal d 145 [vR 9 0, vI (Xs (i + 1)), vI (Xs (i + 2)), vI (Xs (i + 3))] h1 (.inl (some (vI b))) h2) (hT : Cal d 109 [vR 9 0] h2 (.inl (some (vI k))) h2) (hO : k = 0 → hget h2 58 0 = some [vL b.toInt64]) (K : ∀ o6 o7 o8, Ev (d + 1) (216, 2938, lwL i o6 o7 o8, []) h2 x) : Ev (d + 1) (216, 1108, lwL i o6 o7 o8, []) h x := by
  refine Lw.ps 1 rfl ?_
  refine Lw.a1 (k := 1) rfl rfl rfl rfl rfl rfl hN (by omega) hs ?_
  refine Lw.a1 (k := 2) rfl rfl rfl rfl rfl rfl hN (by omega) hs ?_
  refine Lw.a1 (k := 3) rfl rfl rfl rfl rfl rfl hN (by omega) hs ?_
  refine Lw.ps 1 rfl ?_
  refine Lw.sta (as := [vR 8 0, vI (Xs (i + 1)), vI (Xs (i + 2)), vI (Xs (i + 3)), vR 58 0]) (rest := []) (by rfl) (by rfl) (by rfl) rfl rfl (Nat.le_of_ble_eq_true rfl) hH ?_
  refine Lw.p (L' := lwL i (some (vI k)) o7 o8) rfl rfl ?_
  refine Lw.ps 1 rfl ?_
  refine Lw.a1 (k := 1) rfl rfl rfl rfl rfl rfl hN (by omega) hs1 ?_
  refine Lw.a1 (k := 2) rfl rfl rfl rfl rfl rfl hN (by omega) hs1 ?_
  refine Lw.a1 (k := 3) rfl rfl rfl rfl rfl rfl hN (by omega) hs1 ?_
  refine Lw.vir (as := [vI (Xs (i + 1)), vI (Xs (i + 2)), vI (Xs (i + 3))]) (rest := []) (by rfl) (by rfl) (by rfl) rfl rfl (Nat.le_of_ble_eq_true rfl) (by rfl) h9 hR ?_
  refine Lw.p (L' := lwL i (some (vI k)) (some (vI b)) o8) rfl rfl ?_
  refine Lw.ps 1 rfl ?_
  refine Lw.vir (as := []) (rest := []) (by rfl) (by rfl) (by rfl) rfl rfl (Nat.le_of_ble_eq_true rfl) (by rfl) h9x hT ?_
  refine Lw.ps 1 rfl ?_
  refine Lw.icmp (by rfl) (by rfl) (fun _ => ?_) (fun z => by simp [cmpB] at z)
  refine Lw.ps 1 rfl ?_
  refine Lw.ifi (by rfl) (by rfl) (fun _ => ?_) (fun z => ?_)
  · refine Lw.ps 1 rfl ?_
    exact K _ _ _
  · have hk : k = 0 := by simpa [cmp0] using z
    refine Lw.ps 2 rfl ?_
    refine Lw.jl (by rfl) (hO hk) ?_
    refine Lw.ps 2 rfl ?_
    refine Lw.p (st' := vI (lg_cmp b.toInt64 b.toInt64) :: []) rfl rfl ?_
    rw [lg_self]
    refine Lw.ps 2 rfl ?_
    exact K _ _ _
theorem lc_usedMinutes {d i : Nat} {N : Nat} {Xs : Nat → Int32} {h h1 h2 : Hp} {x : Re × Hp} {k : Int32} {b : Int32} {o6 o7 o8 : Option MV} (hN : N ≤ 3584) (hi : i + 6 < N) (hs : hget h 61 0 = some (pl N (fun k => vI (Xs k)))) (hs1 : hget h1 61 0 = some (pl N (fun k => vI (Xs k)))) (h9 : (hget h1 9 0).isSome = true) (h9x : (hget h2 9 0).isSome = true) (hH : Cal d 191 [vR 8 0, vI (Xs (i + 1)), vI (Xs (i + 2)), vR 58 0] h (.inl (some (vI k))) h1) (hR : Cal d 148 [vR 9 0, vI (Xs (i + 1)), vI (Xs (i + 2))] h1 (.inl (some (vI b))) h2) (hT : Cal d 109 [vR 9 0] h2 (.inl (some (vI k))) h2) (hO : k = 0 → hget h2 58 0 = some [vL b.toInt64]) (K : ∀ o6 o7 o8, Ev (d + 1) (216, 2938, lwL i o6 o7 o8, []) h2 x) : Ev (d + 1) (216, 1188, lwL i o6 o7 o8, []) h x := by
  refine Lw.ps 1 rfl ?_
  refine Lw.a1 (k := 1) rfl rfl rfl rfl rfl rfl hN (by omega) hs ?_
  refine Lw.a1 (k := 2) rfl rfl rfl rfl rfl rfl hN (by omega) hs ?_
  refine Lw.ps 1 rfl ?_
  refine Lw.sta (as := [vR 8 0, vI (Xs (i + 1)), vI (Xs (i + 2)), vR 58 0]) (rest := []) (by rfl) (by rfl) (by rfl) rfl rfl (Nat.le_of_ble_eq_true rfl) hH ?_
  refine Lw.p (L' := lwL i (some (vI k)) o7 o8) rfl rfl ?_
  refine Lw.ps 1 rfl ?_
  refine Lw.a1 (k := 1) rfl rfl rfl rfl rfl rfl hN (by omega) hs1 ?_
  refine Lw.a1 (k := 2) rfl rfl rfl rfl rfl rfl hN (by omega) hs1 ?_
  refine Lw.vir (as := [vI (Xs (i + 1)), vI (Xs (i + 2))]) (rest := []) (by rfl) (by rfl) (by rfl) rfl rfl (Nat.le_of_ble_eq_true rfl) (by rfl) h9 hR ?_
  refine Lw.p (L' := lwL i (some (vI k)) (some (vI b)) o8) rfl rfl ?_
  refine Lw.ps 1 rfl ?_
  refine Lw.vir (as := []) (rest := []) (by rfl) (by rfl) (by rfl) rfl rfl (Nat.le_of_ble_eq_true rfl) (by rfl) h9x hT ?_
  refine Lw.ps 1 rfl ?_
  refine Lw.icmp (by rfl) (by rfl) (fun _ => ?_) (fun z => by simp [cmpB] at z)
  refine Lw.ps 1 rfl ?_
  refine Lw.ifi (by rfl) (by rfl) (fun _ => ?_) (fun z => ?_)
  · refine Lw.ps 1 rfl ?_
    exact K _ _ _
  · have hk : k = 0 := by simpa [cmp0] using z
    refine Lw.ps 2 rfl ?_
    refine Lw.jl (by rfl) (hO hk) ?_
    refine Lw.ps 2 rfl ?_
    refine Lw.p (st' := vI (lg_cmp b.toInt64 b.toInt64) :: []) rfl rfl ?_
    rw [lg_self]
    refine Lw.ps 2 rfl ?_
    exact K _ _ _
theorem lc_usedByMinutes {d i : Nat} {N : Nat} {Xs : Nat → Int32} {h h1 h2 : Hp} {x : Re × Hp} {k : Int32} {b : Int32} {o6 o7 o8 : Option MV} (hN : N ≤ 3584) (hi : i + 6 < N) (hs : hget h 61 0 = some (pl N (fun k => vI (Xs k)))) (hs1 : hget h1 61 0 = some (pl N (fun k => vI (Xs k)))) (h9 : (hget h1 9 0).isSome = true) (h9x : (hget h2 9 0).isSome = true) (hH : Cal d 192 [vR 8 0, vI (Xs (i + 1)), vI (Xs (i + 2)), vR 58 0] h (.inl (some (vI k))) h1) (hR : Cal d 149 [vR 9 0, vI (Xs (i + 1)), vI (Xs (i + 2))] h1 (.inl (some (vI b))) h2) (hT : Cal d 109 [vR 9 0] h2 (.inl (some (vI k))) h2) (hO : k = 0 → hget h2 58 0 = some [vL b.toInt64]) (K : ∀ o6 o7 o8, Ev (d + 1) (216, 2938, lwL i o6 o7 o8, []) h2 x) : Ev (d + 1) (216, 1256, lwL i o6 o7 o8, []) h x := by
  refine Lw.ps 1 rfl ?_
  refine Lw.a1 (k := 1) rfl rfl rfl rfl rfl rfl hN (by omega) hs ?_
  refine Lw.a1 (k := 2) rfl rfl rfl rfl rfl rfl hN (by omega) hs ?_
  refine Lw.ps 1 rfl ?_
  refine Lw.sta (as := [vR 8 0, vI (Xs (i + 1)), vI (Xs (i + 2)), vR 58 0]) (rest := []) (by rfl) (by rfl) (by rfl) rfl rfl (Nat.le_of_ble_eq_true rfl) hH ?_
  refine Lw.p (L' := lwL i (some (vI k)) o7 o8) rfl rfl ?_
  refine Lw.ps 1 rfl ?_
  refine Lw.a1 (k := 1) rfl rfl rfl rfl rfl rfl hN (by omega) hs1 ?_
  refine Lw.a1 (k := 2) rfl rfl rfl rfl rfl rfl hN (by omega) hs1 ?_
  refine Lw.vir (as := [vI (Xs (i + 1)), vI (Xs (i + 2))]) (rest := []) (by rfl) (by rfl) (by rfl) rfl rfl (Nat.le_of_ble_eq_true rfl) (by rfl) h9 hR ?_
  refine Lw.p (L' := lwL i (some (vI k)) (some (vI b)) o8) rfl rfl ?_
  refine Lw.ps 1 rfl ?_
  refine Lw.vir (as := []) (rest := []) (by rfl) (by rfl) (by rfl) rfl rfl (Nat.le_of_ble_eq_true rfl) (by rfl) h9x hT ?_
  refine Lw.ps 1 rfl ?_
  refine Lw.icmp (by rfl) (by rfl) (fun _ => ?_) (fun z => by simp [cmpB] at z)
  refine Lw.ps 1 rfl ?_
  refine Lw.ifi (by rfl) (by rfl) (fun _ => ?_) (fun z => ?_)
  · refine Lw.ps 1 rfl ?_
    exact K _ _ _
  · have hk : k = 0 := by simpa [cmp0] using z
    refine Lw.ps 2 rfl ?_
    refine Lw.jl (by rfl) (hO hk) ?_
    refine Lw.ps 2 rfl ?_
    refine Lw.p (st' := vI (lg_cmp b.toInt64 b.toInt64) :: []) rfl rfl ?_
    rw [lg_self]
    refine Lw.ps 2 rfl ?_
    exact K _ _ _
theorem lc_setupMinutes {d i : Nat} {N : Nat} {Xs : Nat → Int32} {h h1 h2 : Hp} {x : Re × Hp} {k : Int32} {b : Int32} {o6 o7 o8 : Option MV} (hN : N ≤ 3584) (hi : i + 6 < N) (hs : hget h 61 0 = some (pl N (fun k => vI (Xs k)))) (hs1 : hget h1 61 0 = some (pl N (fun k => vI (Xs k)))) (h9 : (hget h1 9 0).isSome = true) (h9x : (hget h2 9 0).isSome = true) (hH : Cal d 193 [vR 8 0, vI (Xs (i + 1)), vI (Xs (i + 2)), vR 58 0] h (.inl (some (vI k))) h1) (hR : Cal d 150 [vR 9 0, vI (Xs (i + 1)), vI (Xs (i + 2))] h1 (.inl (some (vI b))) h2) (hT : Cal d 109 [vR 9 0] h2 (.inl (some (vI k))) h2) (hO : k = 0 → hget h2 58 0 = some [vL b.toInt64]) (K : ∀ o6 o7 o8, Ev (d + 1) (216, 2938, lwL i o6 o7 o8, []) h2 x) : Ev (d + 1) (216, 1324, lwL i o6 o7 o8, []) h x := by
  refine Lw.ps 1 rfl ?_
  refine Lw.a1 (k := 1) rfl rfl rfl rfl rfl rfl hN (by omega) hs ?_
  refine Lw.a1 (k := 2) rfl rfl rfl rfl rfl rfl hN (by omega) hs ?_
  refine Lw.ps 1 rfl ?_
  refine Lw.sta (as := [vR 8 0, vI (Xs (i + 1)), vI (Xs (i + 2)), vR 58 0]) (rest := []) (by rfl) (by rfl) (by rfl) rfl rfl (Nat.le_of_ble_eq_true rfl) hH ?_
  refine Lw.p (L' := lwL i (some (vI k)) o7 o8) rfl rfl ?_
  refine Lw.ps 1 rfl ?_
  refine Lw.a1 (k := 1) rfl rfl rfl rfl rfl rfl hN (by omega) hs1 ?_
  refine Lw.a1 (k := 2) rfl rfl rfl rfl rfl rfl hN (by omega) hs1 ?_
  refine Lw.vir (as := [vI (Xs (i + 1)), vI (Xs (i + 2))]) (rest := []) (by rfl) (by rfl) (by rfl) rfl rfl (Nat.le_of_ble_eq_true rfl) (by rfl) h9 hR ?_
  refine Lw.p (L' := lwL i (some (vI k)) (some (vI b)) o8) rfl rfl ?_
  refine Lw.ps 1 rfl ?_
  refine Lw.vir (as := []) (rest := []) (by rfl) (by rfl) (by rfl) rfl rfl (Nat.le_of_ble_eq_true rfl) (by rfl) h9x hT ?_
  refine Lw.ps 1 rfl ?_
  refine Lw.icmp (by rfl) (by rfl) (fun _ => ?_) (fun z => by simp [cmpB] at z)
  refine Lw.ps 1 rfl ?_
  refine Lw.ifi (by rfl) (by rfl) (fun _ => ?_) (fun z => ?_)
  · refine Lw.ps 1 rfl ?_
    exact K _ _ _
  · have hk : k = 0 := by simpa [cmp0] using z
    refine Lw.ps 2 rfl ?_
    refine Lw.jl (by rfl) (hO hk) ?_
    refine Lw.ps 2 rfl ?_
    refine Lw.p (st' := vI (lg_cmp b.toInt64 b.toInt64) :: []) rfl rfl ?_
    rw [lg_self]
    refine Lw.ps 2 rfl ?_
    exact K _ _ _
theorem lc_firstStart {d i : Nat} {N : Nat} {Xs : Nat → Int32} {h h1 h2 : Hp} {x : Re × Hp} {k : Int32} {b : Int32} {o6 o7 o8 : Option MV} (hN : N ≤ 3584) (hi : i + 6 < N) (hs : hget h 61 0 = some (pl N (fun k => vI (Xs k)))) (hs1 : hget h1 61 0 = some (pl N (fun k => vI (Xs k)))) (h9 : (hget h1 9 0).isSome = true) (h9x : (hget h2 9 0).isSome = true) (hH : Cal d 194 [vR 8 0, vI (Xs (i + 1)), vI (Xs (i + 2)), vI (Xs (i + 3)), vI (chOf (Xs (i + 4))), vR 58 0] h (.inl (some (vI k))) h1) (hR : Cal d 151 [vR 9 0, vI (Xs (i + 1)), vI (Xs (i + 2)), vI (Xs (i + 3)), vI (chOf (Xs (i + 4)))] h1 (.inl (some (vI b))) h2) (hT : Cal d 109 [vR 9 0] h2 (.inl (some (vI k))) h2) (hO : k = 0 → hget h2 58 0 = some [vL b.toInt64]) (K : ∀ o6 o7 o8, Ev (d + 1) (216, 2938, lwL i o6 o7 o8, []) h2 x) : Ev (d + 1) (216, 1392, lwL i o6 o7 o8, []) h x := by
  refine Lw.ps 1 rfl ?_
  refine Lw.a1 (k := 1) rfl rfl rfl rfl rfl rfl hN (by omega) hs ?_
  refine Lw.a1 (k := 2) rfl rfl rfl rfl rfl rfl hN (by omega) hs ?_
  refine Lw.a1 (k := 3) rfl rfl rfl rfl rfl rfl hN (by omega) hs ?_
  refine Lw.a1 (k := 4) rfl rfl rfl rfl rfl rfl hN (by omega) hs ?_
  refine Lw.p (st' := vI (chOf (Xs (i + 4))) :: _) rfl rfl ?_
  refine Lw.ps 1 rfl ?_
  refine Lw.sta (as := [vR 8 0, vI (Xs (i + 1)), vI (Xs (i + 2)), vI (Xs (i + 3)), vI (chOf (Xs (i + 4))), vR 58 0]) (rest := []) (by rfl) (by rfl) (by rfl) rfl rfl (Nat.le_of_ble_eq_true rfl) hH ?_
  refine Lw.p (L' := lwL i (some (vI k)) o7 o8) rfl rfl ?_
  refine Lw.ps 1 rfl ?_
  refine Lw.a1 (k := 1) rfl rfl rfl rfl rfl rfl hN (by omega) hs1 ?_
  refine Lw.a1 (k := 2) rfl rfl rfl rfl rfl rfl hN (by omega) hs1 ?_
  refine Lw.a1 (k := 3) rfl rfl rfl rfl rfl rfl hN (by omega) hs1 ?_
  refine Lw.a1 (k := 4) rfl rfl rfl rfl rfl rfl hN (by omega) hs1 ?_
  refine Lw.p (st' := vI (chOf (Xs (i + 4))) :: _) rfl rfl ?_
  refine Lw.vir (as := [vI (Xs (i + 1)), vI (Xs (i + 2)), vI (Xs (i + 3)), vI (chOf (Xs (i + 4)))]) (rest := []) (by rfl) (by rfl) (by rfl) rfl rfl (Nat.le_of_ble_eq_true rfl) (by rfl) h9 hR ?_
  refine Lw.p (L' := lwL i (some (vI k)) (some (vI b)) o8) rfl rfl ?_
  refine Lw.ps 1 rfl ?_
  refine Lw.vir (as := []) (rest := []) (by rfl) (by rfl) (by rfl) rfl rfl (Nat.le_of_ble_eq_true rfl) (by rfl) h9x hT ?_
  refine Lw.ps 1 rfl ?_
  refine Lw.icmp (by rfl) (by rfl) (fun _ => ?_) (fun z => by simp [cmpB] at z)
  refine Lw.ps 1 rfl ?_
  refine Lw.ifi (by rfl) (by rfl) (fun _ => ?_) (fun z => ?_)
  · refine Lw.ps 1 rfl ?_
    exact K _ _ _
  · have hk : k = 0 := by simpa [cmp0] using z
    refine Lw.ps 2 rfl ?_
    refine Lw.jl (by rfl) (hO hk) ?_
    refine Lw.ps 2 rfl ?_
    refine Lw.p (st' := vI (lg_cmp b.toInt64 b.toInt64) :: []) rfl rfl ?_
    rw [lg_self]
    refine Lw.ps 2 rfl ?_
    exact K _ _ _
theorem lc_firstByMinutes {d i : Nat} {N : Nat} {Xs : Nat → Int32} {h h1 h2 : Hp} {x : Re × Hp} {k : Int32} {b : Int32} {o6 o7 o8 : Option MV} (hN : N ≤ 3584) (hi : i + 6 < N) (hs : hget h 61 0 = some (pl N (fun k => vI (Xs k)))) (hs1 : hget h1 61 0 = some (pl N (fun k => vI (Xs k)))) (h9 : (hget h1 9 0).isSome = true) (h9x : (hget h2 9 0).isSome = true) (hH : Cal d 195 [vR 8 0, vI (Xs (i + 1)), vI (Xs (i + 2)), vI (Xs (i + 3)), vI (chOf (Xs (i + 4))), vR 58 0] h (.inl (some (vI k))) h1) (hR : Cal d 152 [vR 9 0, vI (Xs (i + 1)), vI (Xs (i + 2)), vI (Xs (i + 3)), vI (chOf (Xs (i + 4)))] h1 (.inl (some (vI b))) h2) (hT : Cal d 109 [vR 9 0] h2 (.inl (some (vI k))) h2) (hO : k = 0 → hget h2 58 0 = some [vL b.toInt64]) (K : ∀ o6 o7 o8, Ev (d + 1) (216, 2938, lwL i o6 o7 o8, []) h2 x) : Ev (d + 1) (216, 1486, lwL i o6 o7 o8, []) h x := by
  refine Lw.ps 1 rfl ?_
  refine Lw.a1 (k := 1) rfl rfl rfl rfl rfl rfl hN (by omega) hs ?_
  refine Lw.a1 (k := 2) rfl rfl rfl rfl rfl rfl hN (by omega) hs ?_
  refine Lw.a1 (k := 3) rfl rfl rfl rfl rfl rfl hN (by omega) hs ?_
  refine Lw.a1 (k := 4) rfl rfl rfl rfl rfl rfl hN (by omega) hs ?_
  refine Lw.p (st' := vI (chOf (Xs (i + 4))) :: _) rfl rfl ?_
  refine Lw.ps 1 rfl ?_
  refine Lw.sta (as := [vR 8 0, vI (Xs (i + 1)), vI (Xs (i + 2)), vI (Xs (i + 3)), vI (chOf (Xs (i + 4))), vR 58 0]) (rest := []) (by rfl) (by rfl) (by rfl) rfl rfl (Nat.le_of_ble_eq_true rfl) hH ?_
  refine Lw.p (L' := lwL i (some (vI k)) o7 o8) rfl rfl ?_
  refine Lw.ps 1 rfl ?_
  refine Lw.a1 (k := 1) rfl rfl rfl rfl rfl rfl hN (by omega) hs1 ?_
  refine Lw.a1 (k := 2) rfl rfl rfl rfl rfl rfl hN (by omega) hs1 ?_
  refine Lw.a1 (k := 3) rfl rfl rfl rfl rfl rfl hN (by omega) hs1 ?_
  refine Lw.a1 (k := 4) rfl rfl rfl rfl rfl rfl hN (by omega) hs1 ?_
  refine Lw.p (st' := vI (chOf (Xs (i + 4))) :: _) rfl rfl ?_
  refine Lw.vir (as := [vI (Xs (i + 1)), vI (Xs (i + 2)), vI (Xs (i + 3)), vI (chOf (Xs (i + 4)))]) (rest := []) (by rfl) (by rfl) (by rfl) rfl rfl (Nat.le_of_ble_eq_true rfl) (by rfl) h9 hR ?_
  refine Lw.p (L' := lwL i (some (vI k)) (some (vI b)) o8) rfl rfl ?_
  refine Lw.ps 1 rfl ?_
  refine Lw.vir (as := []) (rest := []) (by rfl) (by rfl) (by rfl) rfl rfl (Nat.le_of_ble_eq_true rfl) (by rfl) h9x hT ?_
  refine Lw.ps 1 rfl ?_
  refine Lw.icmp (by rfl) (by rfl) (fun _ => ?_) (fun z => by simp [cmpB] at z)
  refine Lw.ps 1 rfl ?_
  refine Lw.ifi (by rfl) (by rfl) (fun _ => ?_) (fun z => ?_)
  · refine Lw.ps 1 rfl ?_
    exact K _ _ _
  · have hk : k = 0 := by simpa [cmp0] using z
    refine Lw.ps 2 rfl ?_
    refine Lw.jl (by rfl) (hO hk) ?_
    refine Lw.ps 2 rfl ?_
    refine Lw.p (st' := vI (lg_cmp b.toInt64 b.toInt64) :: []) rfl rfl ?_
    rw [lg_self]
    refine Lw.ps 2 rfl ?_
    exact K _ _ _
theorem lc_waiting {d i : Nat} {N : Nat} {Xs : Nat → Int32} {h h1 h2 : Hp} {x : Re × Hp} {k : Int32} {b : Int32} {o6 o7 o8 : Option MV} (hN : N ≤ 3584) (hi : i + 6 < N) (hs : hget h 61 0 = some (pl N (fun k => vI (Xs k)))) (hs1 : hget h1 61 0 = some (pl N (fun k => vI (Xs k)))) (h9 : (hget h1 9 0).isSome = true) (h9x : (hget h2 9 0).isSome = true) (hH : Cal d 196 [vR 8 0, vI (Xs (i + 1)), vI (Xs (i + 2)), vR 58 0] h (.inl (some (vI k))) h1) (hR : Cal d 153 [vR 9 0, vI (Xs (i + 1)), vI (Xs (i + 2))] h1 (.inl (some (vI b))) h2) (hT : Cal d 109 [vR 9 0] h2 (.inl (some (vI k))) h2) (hO : k = 0 → hget h2 58 0 = some [vL b.toInt64]) (K : ∀ o6 o7 o8, Ev (d + 1) (216, 2938, lwL i o6 o7 o8, []) h2 x) : Ev (d + 1) (216, 1580, lwL i o6 o7 o8, []) h x := by
  refine Lw.ps 1 rfl ?_
  refine Lw.a1 (k := 1) rfl rfl rfl rfl rfl rfl hN (by omega) hs ?_
  refine Lw.a1 (k := 2) rfl rfl rfl rfl rfl rfl hN (by omega) hs ?_
  refine Lw.ps 1 rfl ?_
  refine Lw.sta (as := [vR 8 0, vI (Xs (i + 1)), vI (Xs (i + 2)), vR 58 0]) (rest := []) (by rfl) (by rfl) (by rfl) rfl rfl (Nat.le_of_ble_eq_true rfl) hH ?_
  refine Lw.p (L' := lwL i (some (vI k)) o7 o8) rfl rfl ?_
  refine Lw.ps 1 rfl ?_
  refine Lw.a1 (k := 1) rfl rfl rfl rfl rfl rfl hN (by omega) hs1 ?_
  refine Lw.a1 (k := 2) rfl rfl rfl rfl rfl rfl hN (by omega) hs1 ?_
  refine Lw.vir (as := [vI (Xs (i + 1)), vI (Xs (i + 2))]) (rest := []) (by rfl) (by rfl) (by rfl) rfl rfl (Nat.le_of_ble_eq_true rfl) (by rfl) h9 hR ?_
  refine Lw.p (L' := lwL i (some (vI k)) (some (vI b)) o8) rfl rfl ?_
  refine Lw.ps 1 rfl ?_
  refine Lw.vir (as := []) (rest := []) (by rfl) (by rfl) (by rfl) rfl rfl (Nat.le_of_ble_eq_true rfl) (by rfl) h9x hT ?_
  refine Lw.ps 1 rfl ?_
  refine Lw.icmp (by rfl) (by rfl) (fun _ => ?_) (fun z => by simp [cmpB] at z)
  refine Lw.ps 1 rfl ?_
  refine Lw.ifi (by rfl) (by rfl) (fun _ => ?_) (fun z => ?_)
  · refine Lw.ps 1 rfl ?_
    exact K _ _ _
  · have hk : k = 0 := by simpa [cmp0] using z
    refine Lw.ps 2 rfl ?_
    refine Lw.jl (by rfl) (hO hk) ?_
    refine Lw.ps 2 rfl ?_
    refine Lw.p (st' := vI (lg_cmp b.toInt64 b.toInt64) :: []) rfl rfl ?_
    rw [lg_self]
    refine Lw.ps 2 rfl ?_
    exact K _ _ _
theorem lc_deliver {d i : Nat} {N : Nat} {Xs : Nat → Int32} {h h1 h2 : Hp} {x : Re × Hp} {k : Int32} {b : Int32} {o6 o7 o8 : Option MV} (hN : N ≤ 3584) (hi : i + 6 < N) (hs : hget h 61 0 = some (pl N (fun k => vI (Xs k)))) (hs1 : hget h1 61 0 = some (pl N (fun k => vI (Xs k)))) (h9 : (hget h1 9 0).isSome = true) (h9x : (hget h2 9 0).isSome = true) (hH : Cal d 197 [vR 8 0, vI (Xs (i + 1)), vI (Xs (i + 2)), vR 58 0] h (.inl (some (vI k))) h1) (hR : Cal d 154 [vR 9 0, vI (Xs (i + 1)), vI (Xs (i + 2))] h1 (.inl (some (vI b))) h2) (hT : Cal d 109 [vR 9 0] h2 (.inl (some (vI k))) h2) (hO : k = 0 → hget h2 58 0 = some [vL b.toInt64]) (K : ∀ o6 o7 o8, Ev (d + 1) (216, 2938, lwL i o6 o7 o8, []) h2 x) : Ev (d + 1) (216, 1648, lwL i o6 o7 o8, []) h x := by
  refine Lw.ps 1 rfl ?_
  refine Lw.a1 (k := 1) rfl rfl rfl rfl rfl rfl hN (by omega) hs ?_
  refine Lw.a1 (k := 2) rfl rfl rfl rfl rfl rfl hN (by omega) hs ?_
  refine Lw.ps 1 rfl ?_
  refine Lw.sta (as := [vR 8 0, vI (Xs (i + 1)), vI (Xs (i + 2)), vR 58 0]) (rest := []) (by rfl) (by rfl) (by rfl) rfl rfl (Nat.le_of_ble_eq_true rfl) hH ?_
  refine Lw.p (L' := lwL i (some (vI k)) o7 o8) rfl rfl ?_
  refine Lw.ps 1 rfl ?_
  refine Lw.a1 (k := 1) rfl rfl rfl rfl rfl rfl hN (by omega) hs1 ?_
  refine Lw.a1 (k := 2) rfl rfl rfl rfl rfl rfl hN (by omega) hs1 ?_
  refine Lw.vir (as := [vI (Xs (i + 1)), vI (Xs (i + 2))]) (rest := []) (by rfl) (by rfl) (by rfl) rfl rfl (Nat.le_of_ble_eq_true rfl) (by rfl) h9 hR ?_
  refine Lw.p (L' := lwL i (some (vI k)) (some (vI b)) o8) rfl rfl ?_
  refine Lw.ps 1 rfl ?_
  refine Lw.vir (as := []) (rest := []) (by rfl) (by rfl) (by rfl) rfl rfl (Nat.le_of_ble_eq_true rfl) (by rfl) h9x hT ?_
  refine Lw.ps 1 rfl ?_
  refine Lw.icmp (by rfl) (by rfl) (fun _ => ?_) (fun z => by simp [cmpB] at z)
  refine Lw.ps 1 rfl ?_
  refine Lw.ifi (by rfl) (by rfl) (fun _ => ?_) (fun z => ?_)
  · refine Lw.ps 1 rfl ?_
    exact K _ _ _
  · have hk : k = 0 := by simpa [cmp0] using z
    refine Lw.ps 2 rfl ?_
    refine Lw.jl (by rfl) (hO hk) ?_
    refine Lw.ps 2 rfl ?_
    refine Lw.p (st' := vI (lg_cmp b.toInt64 b.toInt64) :: []) rfl rfl ?_
    rw [lg_self]
    refine Lw.ps 2 rfl ?_
    exact K _ _ _
theorem lc_cut {d i : Nat} {N : Nat} {Xs : Nat → Int32} {h h1 h2 : Hp} {x : Re × Hp} {k : Int32} {b : Int32} {o6 o7 o8 : Option MV} (hN : N ≤ 3584) (hi : i + 6 < N) (hs : hget h 61 0 = some (pl N (fun k => vI (Xs k)))) (hs1 : hget h1 61 0 = some (pl N (fun k => vI (Xs k)))) (h9 : (hget h1 9 0).isSome = true) (h9x : (hget h2 9 0).isSome = true) (hH : Cal d 198 [vR 8 0, vI (Xs (i + 1)), vI (Xs (i + 2)), vI (Xs (i + 3)), vR 58 0] h (.inl (some (vI k))) h1) (hR : Cal d 156 [vR 9 0, vI (Xs (i + 1)), vI (Xs (i + 2)), vI (Xs (i + 3))] h1 (.inl (some (vI b))) h2) (hT : Cal d 109 [vR 9 0] h2 (.inl (some (vI k))) h2) (hO : k = 0 → hget h2 58 0 = some [vL b.toInt64]) (K : ∀ o6 o7 o8, Ev (d + 1) (216, 2938, lwL i o6 o7 o8, []) h2 x) : Ev (d + 1) (216, 1716, lwL i o6 o7 o8, []) h x := by
  refine Lw.ps 1 rfl ?_
  refine Lw.a1 (k := 1) rfl rfl rfl rfl rfl rfl hN (by omega) hs ?_
  refine Lw.a1 (k := 2) rfl rfl rfl rfl rfl rfl hN (by omega) hs ?_
  refine Lw.a1 (k := 3) rfl rfl rfl rfl rfl rfl hN (by omega) hs ?_
  refine Lw.ps 1 rfl ?_
  refine Lw.sta (as := [vR 8 0, vI (Xs (i + 1)), vI (Xs (i + 2)), vI (Xs (i + 3)), vR 58 0]) (rest := []) (by rfl) (by rfl) (by rfl) rfl rfl (Nat.le_of_ble_eq_true rfl) hH ?_
  refine Lw.p (L' := lwL i (some (vI k)) o7 o8) rfl rfl ?_
  refine Lw.ps 1 rfl ?_
  refine Lw.a1 (k := 1) rfl rfl rfl rfl rfl rfl hN (by omega) hs1 ?_
  refine Lw.a1 (k := 2) rfl rfl rfl rfl rfl rfl hN (by omega) hs1 ?_
  refine Lw.a1 (k := 3) rfl rfl rfl rfl rfl rfl hN (by omega) hs1 ?_
  refine Lw.vir (as := [vI (Xs (i + 1)), vI (Xs (i + 2)), vI (Xs (i + 3))]) (rest := []) (by rfl) (by rfl) (by rfl) rfl rfl (Nat.le_of_ble_eq_true rfl) (by rfl) h9 hR ?_
  refine Lw.p (L' := lwL i (some (vI k)) (some (vI b)) o8) rfl rfl ?_
  refine Lw.ps 1 rfl ?_
  refine Lw.vir (as := []) (rest := []) (by rfl) (by rfl) (by rfl) rfl rfl (Nat.le_of_ble_eq_true rfl) (by rfl) h9x hT ?_
  refine Lw.ps 1 rfl ?_
  refine Lw.icmp (by rfl) (by rfl) (fun _ => ?_) (fun z => by simp [cmpB] at z)
  refine Lw.ps 1 rfl ?_
  refine Lw.ifi (by rfl) (by rfl) (fun _ => ?_) (fun z => ?_)
  · refine Lw.ps 1 rfl ?_
    exact K _ _ _
  · have hk : k = 0 := by simpa [cmp0] using z
    refine Lw.ps 2 rfl ?_
    refine Lw.jl (by rfl) (hO hk) ?_
    refine Lw.ps 2 rfl ?_
    refine Lw.p (st' := vI (lg_cmp b.toInt64 b.toInt64) :: []) rfl rfl ?_
    rw [lg_self]
    refine Lw.ps 2 rfl ?_
    exact K _ _ _
theorem lc_freeOf {d i : Nat} {N : Nat} {Xs : Nat → Int32} {h h1 h2 : Hp} {x : Re × Hp} {k : Int32} {b : Int32} {o6 o7 o8 : Option MV} (hN : N ≤ 3584) (hi : i + 6 < N) (hs : hget h 61 0 = some (pl N (fun k => vI (Xs k)))) (hs1 : hget h1 61 0 = some (pl N (fun k => vI (Xs k)))) (h9 : (hget h1 9 0).isSome = true) (h9x : (hget h2 9 0).isSome = true) (hH : Cal d 199 [vR 8 0, vI (Xs (i + 1)), vR 58 0] h (.inl (some (vI k))) h1) (hR : Cal d 157 [vR 9 0, vI (Xs (i + 1))] h1 (.inl (some (vI b))) h2) (hT : Cal d 109 [vR 9 0] h2 (.inl (some (vI k))) h2) (hO : k = 0 → hget h2 58 0 = some [vL b.toInt64]) (K : ∀ o6 o7 o8, Ev (d + 1) (216, 2938, lwL i o6 o7 o8, []) h2 x) : Ev (d + 1) (216, 1796, lwL i o6 o7 o8, []) h x := by
  refine Lw.ps 1 rfl ?_
  refine Lw.a1 (k := 1) rfl rfl rfl rfl rfl rfl hN (by omega) hs ?_
  refine Lw.ps 1 rfl ?_
  refine Lw.sta (as := [vR 8 0, vI (Xs (i + 1)), vR 58 0]) (rest := []) (by rfl) (by rfl) (by rfl) rfl rfl (Nat.le_of_ble_eq_true rfl) hH ?_
  refine Lw.p (L' := lwL i (some (vI k)) o7 o8) rfl rfl ?_
  refine Lw.ps 1 rfl ?_
  refine Lw.a1 (k := 1) rfl rfl rfl rfl rfl rfl hN (by omega) hs1 ?_
  refine Lw.vir (as := [vI (Xs (i + 1))]) (rest := []) (by rfl) (by rfl) (by rfl) rfl rfl (Nat.le_of_ble_eq_true rfl) (by rfl) h9 hR ?_
  refine Lw.p (L' := lwL i (some (vI k)) (some (vI b)) o8) rfl rfl ?_
  refine Lw.ps 1 rfl ?_
  refine Lw.vir (as := []) (rest := []) (by rfl) (by rfl) (by rfl) rfl rfl (Nat.le_of_ble_eq_true rfl) (by rfl) h9x hT ?_
  refine Lw.ps 1 rfl ?_
  refine Lw.icmp (by rfl) (by rfl) (fun _ => ?_) (fun z => by simp [cmpB] at z)
  refine Lw.ps 1 rfl ?_
  refine Lw.ifi (by rfl) (by rfl) (fun _ => ?_) (fun z => ?_)
  · refine Lw.ps 1 rfl ?_
    exact K _ _ _
  · have hk : k = 0 := by simpa [cmp0] using z
    refine Lw.ps 2 rfl ?_
    refine Lw.jl (by rfl) (hO hk) ?_
    refine Lw.ps 2 rfl ?_
    refine Lw.p (st' := vI (lg_cmp b.toInt64 b.toInt64) :: []) rfl rfl ?_
    rw [lg_self]
    refine Lw.ps 2 rfl ?_
    exact K _ _ _
theorem lc_freeByCuts {d i : Nat} {N : Nat} {Xs : Nat → Int32} {h h1 h2 : Hp} {x : Re × Hp} {k : Int32} {b : Int32} {o6 o7 o8 : Option MV} (hN : N ≤ 3584) (hi : i + 6 < N) (hs : hget h 61 0 = some (pl N (fun k => vI (Xs k)))) (hs1 : hget h1 61 0 = some (pl N (fun k => vI (Xs k)))) (h9 : (hget h1 9 0).isSome = true) (h9x : (hget h2 9 0).isSome = true) (hH : Cal d 200 [vR 8 0, vI (Xs (i + 1)), vR 58 0] h (.inl (some (vI k))) h1) (hR : Cal d 158 [vR 9 0, vI (Xs (i + 1))] h1 (.inl (some (vI b))) h2) (hT : Cal d 109 [vR 9 0] h2 (.inl (some (vI k))) h2) (hO : k = 0 → hget h2 58 0 = some [vL b.toInt64]) (K : ∀ o6 o7 o8, Ev (d + 1) (216, 2938, lwL i o6 o7 o8, []) h2 x) : Ev (d + 1) (216, 1852, lwL i o6 o7 o8, []) h x := by
  refine Lw.ps 1 rfl ?_
  refine Lw.a1 (k := 1) rfl rfl rfl rfl rfl rfl hN (by omega) hs ?_
  refine Lw.ps 1 rfl ?_
  refine Lw.sta (as := [vR 8 0, vI (Xs (i + 1)), vR 58 0]) (rest := []) (by rfl) (by rfl) (by rfl) rfl rfl (Nat.le_of_ble_eq_true rfl) hH ?_
  refine Lw.p (L' := lwL i (some (vI k)) o7 o8) rfl rfl ?_
  refine Lw.ps 1 rfl ?_
  refine Lw.a1 (k := 1) rfl rfl rfl rfl rfl rfl hN (by omega) hs1 ?_
  refine Lw.vir (as := [vI (Xs (i + 1))]) (rest := []) (by rfl) (by rfl) (by rfl) rfl rfl (Nat.le_of_ble_eq_true rfl) (by rfl) h9 hR ?_
  refine Lw.p (L' := lwL i (some (vI k)) (some (vI b)) o8) rfl rfl ?_
  refine Lw.ps 1 rfl ?_
  refine Lw.vir (as := []) (rest := []) (by rfl) (by rfl) (by rfl) rfl rfl (Nat.le_of_ble_eq_true rfl) (by rfl) h9x hT ?_
  refine Lw.ps 1 rfl ?_
  refine Lw.icmp (by rfl) (by rfl) (fun _ => ?_) (fun z => by simp [cmpB] at z)
  refine Lw.ps 1 rfl ?_
  refine Lw.ifi (by rfl) (by rfl) (fun _ => ?_) (fun z => ?_)
  · refine Lw.ps 1 rfl ?_
    exact K _ _ _
  · have hk : k = 0 := by simpa [cmp0] using z
    refine Lw.ps 2 rfl ?_
    refine Lw.jl (by rfl) (hO hk) ?_
    refine Lw.ps 2 rfl ?_
    refine Lw.p (st' := vI (lg_cmp b.toInt64 b.toInt64) :: []) rfl rfl ?_
    rw [lg_self]
    refine Lw.ps 2 rfl ?_
    exact K _ _ _
theorem lc_setPrice {d i : Nat} {N : Nat} {Xs : Nat → Int32} {h h1 h2 : Hp} {x : Re × Hp} {k : Int32} {b : Int32} {o6 o7 o8 : Option MV} (hN : N ≤ 3584) (hi : i + 6 < N) (hs : hget h 61 0 = some (pl N (fun k => vI (Xs k)))) (hs1 : hget h1 61 0 = some (pl N (fun k => vI (Xs k)))) (h9 : (hget h1 9 0).isSome = true) (h9x : (hget h2 9 0).isSome = true) (hH : Cal d 201 [vR 8 0, vI (Xs (i + 1)), vI (Xs (i + 2)), vR 58 0] h (.inl (some (vI k))) h1) (hR : Cal d 159 [vR 9 0, vI (Xs (i + 1)), vI (Xs (i + 2))] h1 (.inl (some (vI b))) h2) (hT : Cal d 109 [vR 9 0] h2 (.inl (some (vI k))) h2) (hO : k = 0 → hget h2 58 0 = some [vL b.toInt64]) (K : ∀ o6 o7 o8, Ev (d + 1) (216, 2938, lwL i o6 o7 o8, []) h2 x) : Ev (d + 1) (216, 1908, lwL i o6 o7 o8, []) h x := by
  refine Lw.ps 1 rfl ?_
  refine Lw.a1 (k := 1) rfl rfl rfl rfl rfl rfl hN (by omega) hs ?_
  refine Lw.a1 (k := 2) rfl rfl rfl rfl rfl rfl hN (by omega) hs ?_
  refine Lw.ps 1 rfl ?_
  refine Lw.sta (as := [vR 8 0, vI (Xs (i + 1)), vI (Xs (i + 2)), vR 58 0]) (rest := []) (by rfl) (by rfl) (by rfl) rfl rfl (Nat.le_of_ble_eq_true rfl) hH ?_
  refine Lw.p (L' := lwL i (some (vI k)) o7 o8) rfl rfl ?_
  refine Lw.ps 1 rfl ?_
  refine Lw.a1 (k := 1) rfl rfl rfl rfl rfl rfl hN (by omega) hs1 ?_
  refine Lw.a1 (k := 2) rfl rfl rfl rfl rfl rfl hN (by omega) hs1 ?_
  refine Lw.vir (as := [vI (Xs (i + 1)), vI (Xs (i + 2))]) (rest := []) (by rfl) (by rfl) (by rfl) rfl rfl (Nat.le_of_ble_eq_true rfl) (by rfl) h9 hR ?_
  refine Lw.p (L' := lwL i (some (vI k)) (some (vI b)) o8) rfl rfl ?_
  refine Lw.ps 1 rfl ?_
  refine Lw.vir (as := []) (rest := []) (by rfl) (by rfl) (by rfl) rfl rfl (Nat.le_of_ble_eq_true rfl) (by rfl) h9x hT ?_
  refine Lw.ps 1 rfl ?_
  refine Lw.icmp (by rfl) (by rfl) (fun _ => ?_) (fun z => by simp [cmpB] at z)
  refine Lw.ps 1 rfl ?_
  refine Lw.ifi (by rfl) (by rfl) (fun _ => ?_) (fun z => ?_)
  · refine Lw.ps 1 rfl ?_
    exact K _ _ _
  · have hk : k = 0 := by simpa [cmp0] using z
    refine Lw.ps 2 rfl ?_
    refine Lw.jl (by rfl) (hO hk) ?_
    refine Lw.ps 2 rfl ?_
    refine Lw.p (st' := vI (lg_cmp b.toInt64 b.toInt64) :: []) rfl rfl ?_
    rw [lg_self]
    refine Lw.ps 2 rfl ?_
    exact K _ _ _
theorem lc_setRate {d i : Nat} {N : Nat} {Xs : Nat → Int32} {h h1 h2 : Hp} {x : Re × Hp} {k : Int32} {b : Int32} {o6 o7 o8 : Option MV} (hN : N ≤ 3584) (hi : i + 6 < N) (hs : hget h 61 0 = some (pl N (fun k => vI (Xs k)))) (hs1 : hget h1 61 0 = some (pl N (fun k => vI (Xs k)))) (h9 : (hget h1 9 0).isSome = true) (h9x : (hget h2 9 0).isSome = true) (hH : Cal d 202 [vR 8 0, vI (Xs (i + 1)), vI (Xs (i + 2)), vR 58 0] h (.inl (some (vI k))) h1) (hR : Cal d 161 [vR 9 0, vI (Xs (i + 1)), vI (Xs (i + 2))] h1 (.inl (some (vI b))) h2) (hT : Cal d 109 [vR 9 0] h2 (.inl (some (vI k))) h2) (hO : k = 0 → hget h2 58 0 = some [vL b.toInt64]) (K : ∀ o6 o7 o8, Ev (d + 1) (216, 2938, lwL i o6 o7 o8, []) h2 x) : Ev (d + 1) (216, 1976, lwL i o6 o7 o8, []) h x := by
  refine Lw.ps 1 rfl ?_
  refine Lw.a1 (k := 1) rfl rfl rfl rfl rfl rfl hN (by omega) hs ?_
  refine Lw.a1 (k := 2) rfl rfl rfl rfl rfl rfl hN (by omega) hs ?_
  refine Lw.ps 1 rfl ?_
  refine Lw.sta (as := [vR 8 0, vI (Xs (i + 1)), vI (Xs (i + 2)), vR 58 0]) (rest := []) (by rfl) (by rfl) (by rfl) rfl rfl (Nat.le_of_ble_eq_true rfl) hH ?_
  refine Lw.p (L' := lwL i (some (vI k)) o7 o8) rfl rfl ?_
  refine Lw.ps 1 rfl ?_
  refine Lw.a1 (k := 1) rfl rfl rfl rfl rfl rfl hN (by omega) hs1 ?_
  refine Lw.a1 (k := 2) rfl rfl rfl rfl rfl rfl hN (by omega) hs1 ?_
  refine Lw.vir (as := [vI (Xs (i + 1)), vI (Xs (i + 2))]) (rest := []) (by rfl) (by rfl) (by rfl) rfl rfl (Nat.le_of_ble_eq_true rfl) (by rfl) h9 hR ?_
  refine Lw.p (L' := lwL i (some (vI k)) (some (vI b)) o8) rfl rfl ?_
  refine Lw.ps 1 rfl ?_
  refine Lw.vir (as := []) (rest := []) (by rfl) (by rfl) (by rfl) rfl rfl (Nat.le_of_ble_eq_true rfl) (by rfl) h9x hT ?_
  refine Lw.ps 1 rfl ?_
  refine Lw.icmp (by rfl) (by rfl) (fun _ => ?_) (fun z => by simp [cmpB] at z)
  refine Lw.ps 1 rfl ?_
  refine Lw.ifi (by rfl) (by rfl) (fun _ => ?_) (fun z => ?_)
  · refine Lw.ps 1 rfl ?_
    exact K _ _ _
  · have hk : k = 0 := by simpa [cmp0] using z
    refine Lw.ps 2 rfl ?_
    refine Lw.jl (by rfl) (hO hk) ?_
    refine Lw.ps 2 rfl ?_
    refine Lw.p (st' := vI (lg_cmp b.toInt64 b.toInt64) :: []) rfl rfl ?_
    rw [lg_self]
    refine Lw.ps 2 rfl ?_
    exact K _ _ _
theorem lc_addFee {d i : Nat} {N : Nat} {Xs : Nat → Int32} {h h1 h2 : Hp} {x : Re × Hp} {k : Int32} {b : Int32} {o6 o7 o8 : Option MV} (hN : N ≤ 3584) (hi : i + 6 < N) (hs : hget h 61 0 = some (pl N (fun k => vI (Xs k)))) (hs1 : hget h1 61 0 = some (pl N (fun k => vI (Xs k)))) (h9 : (hget h1 9 0).isSome = true) (h9x : (hget h2 9 0).isSome = true) (hH : Cal d 203 [vR 8 0, vI (Xs (i + 1)), vI (Xs (i + 2)), vR 58 0] h (.inl (some (vI k))) h1) (hR : Cal d 163 [vR 9 0, vI (Xs (i + 1)), vI (Xs (i + 2))] h1 (.inl (some (vI b))) h2) (hT : Cal d 109 [vR 9 0] h2 (.inl (some (vI k))) h2) (hO : k = 0 → hget h2 58 0 = some [vL b.toInt64]) (K : ∀ o6 o7 o8, Ev (d + 1) (216, 2938, lwL i o6 o7 o8, []) h2 x) : Ev (d + 1) (216, 2044, lwL i o6 o7 o8, []) h x := by
  refine Lw.ps 1 rfl ?_
  refine Lw.a1 (k := 1) rfl rfl rfl rfl rfl rfl hN (by omega) hs ?_
  refine Lw.a1 (k := 2) rfl rfl rfl rfl rfl rfl hN (by omega) hs ?_
  refine Lw.ps 1 rfl ?_
  refine Lw.sta (as := [vR 8 0, vI (Xs (i + 1)), vI (Xs (i + 2)), vR 58 0]) (rest := []) (by rfl) (by rfl) (by rfl) rfl rfl (Nat.le_of_ble_eq_true rfl) hH ?_
  refine Lw.p (L' := lwL i (some (vI k)) o7 o8) rfl rfl ?_
  refine Lw.ps 1 rfl ?_
  refine Lw.a1 (k := 1) rfl rfl rfl rfl rfl rfl hN (by omega) hs1 ?_
  refine Lw.a1 (k := 2) rfl rfl rfl rfl rfl rfl hN (by omega) hs1 ?_
  refine Lw.vir (as := [vI (Xs (i + 1)), vI (Xs (i + 2))]) (rest := []) (by rfl) (by rfl) (by rfl) rfl rfl (Nat.le_of_ble_eq_true rfl) (by rfl) h9 hR ?_
  refine Lw.p (L' := lwL i (some (vI k)) (some (vI b)) o8) rfl rfl ?_
  refine Lw.ps 1 rfl ?_
  refine Lw.vir (as := []) (rest := []) (by rfl) (by rfl) (by rfl) rfl rfl (Nat.le_of_ble_eq_true rfl) (by rfl) h9x hT ?_
  refine Lw.ps 1 rfl ?_
  refine Lw.icmp (by rfl) (by rfl) (fun _ => ?_) (fun z => by simp [cmpB] at z)
  refine Lw.ps 1 rfl ?_
  refine Lw.ifi (by rfl) (by rfl) (fun _ => ?_) (fun z => ?_)
  · refine Lw.ps 1 rfl ?_
    exact K _ _ _
  · have hk : k = 0 := by simpa [cmp0] using z
    refine Lw.ps 2 rfl ?_
    refine Lw.jl (by rfl) (hO hk) ?_
    refine Lw.ps 2 rfl ?_
    refine Lw.p (st' := vI (lg_cmp b.toInt64 b.toInt64) :: []) rfl rfl ?_
    rw [lg_self]
    refine Lw.ps 2 rfl ?_
    exact K _ _ _
theorem lc_addCap {d i : Nat} {N : Nat} {Xs : Nat → Int32} {h h1 h2 : Hp} {x : Re × Hp} {k : Int32} {b : Int32} {o6 o7 o8 : Option MV} (hN : N ≤ 3584) (hi : i + 6 < N) (hs : hget h 61 0 = some (pl N (fun k => vI (Xs k)))) (hs1 : hget h1 61 0 = some (pl N (fun k => vI (Xs k)))) (h9 : (hget h1 9 0).isSome = true) (h9x : (hget h2 9 0).isSome = true) (hH : Cal d 204 [vR 8 0, vI (Xs (i + 1)), vI (Xs (i + 2)), vR 58 0] h (.inl (some (vI k))) h1) (hR : Cal d 164 [vR 9 0, vI (Xs (i + 1)), vI (Xs (i + 2))] h1 (.inl (some (vI b))) h2) (hT : Cal d 109 [vR 9 0] h2 (.inl (some (vI k))) h2) (hO : k = 0 → hget h2 58 0 = some [vL b.toInt64]) (K : ∀ o6 o7 o8, Ev (d + 1) (216, 2938, lwL i o6 o7 o8, []) h2 x) : Ev (d + 1) (216, 2112, lwL i o6 o7 o8, []) h x := by
  refine Lw.ps 1 rfl ?_
  refine Lw.a1 (k := 1) rfl rfl rfl rfl rfl rfl hN (by omega) hs ?_
  refine Lw.a1 (k := 2) rfl rfl rfl rfl rfl rfl hN (by omega) hs ?_
  refine Lw.ps 1 rfl ?_
  refine Lw.sta (as := [vR 8 0, vI (Xs (i + 1)), vI (Xs (i + 2)), vR 58 0]) (rest := []) (by rfl) (by rfl) (by rfl) rfl rfl (Nat.le_of_ble_eq_true rfl) hH ?_
  refine Lw.p (L' := lwL i (some (vI k)) o7 o8) rfl rfl ?_
  refine Lw.ps 1 rfl ?_
  refine Lw.a1 (k := 1) rfl rfl rfl rfl rfl rfl hN (by omega) hs1 ?_
  refine Lw.a1 (k := 2) rfl rfl rfl rfl rfl rfl hN (by omega) hs1 ?_
  refine Lw.vir (as := [vI (Xs (i + 1)), vI (Xs (i + 2))]) (rest := []) (by rfl) (by rfl) (by rfl) rfl rfl (Nat.le_of_ble_eq_true rfl) (by rfl) h9 hR ?_
  refine Lw.p (L' := lwL i (some (vI k)) (some (vI b)) o8) rfl rfl ?_
  refine Lw.ps 1 rfl ?_
  refine Lw.vir (as := []) (rest := []) (by rfl) (by rfl) (by rfl) rfl rfl (Nat.le_of_ble_eq_true rfl) (by rfl) h9x hT ?_
  refine Lw.ps 1 rfl ?_
  refine Lw.icmp (by rfl) (by rfl) (fun _ => ?_) (fun z => by simp [cmpB] at z)
  refine Lw.ps 1 rfl ?_
  refine Lw.ifi (by rfl) (by rfl) (fun _ => ?_) (fun z => ?_)
  · refine Lw.ps 1 rfl ?_
    exact K _ _ _
  · have hk : k = 0 := by simpa [cmp0] using z
    refine Lw.ps 2 rfl ?_
    refine Lw.jl (by rfl) (hO hk) ?_
    refine Lw.ps 2 rfl ?_
    refine Lw.p (st' := vI (lg_cmp b.toInt64 b.toInt64) :: []) rfl rfl ?_
    rw [lg_self]
    refine Lw.ps 2 rfl ?_
    exact K _ _ _
theorem lc_addDouble {d i : Nat} {N : Nat} {Xs : Nat → Int32} {h h1 h2 : Hp} {x : Re × Hp} {k : Int32} {b : Int32} {o6 o7 o8 : Option MV} (hN : N ≤ 3584) (hi : i + 6 < N) (hs : hget h 61 0 = some (pl N (fun k => vI (Xs k)))) (hs1 : hget h1 61 0 = some (pl N (fun k => vI (Xs k)))) (h9 : (hget h1 9 0).isSome = true) (h9x : (hget h2 9 0).isSome = true) (hH : Cal d 205 [vR 8 0, vI (Xs (i + 1)), vI (Xs (i + 2)), vR 58 0] h (.inl (some (vI k))) h1) (hR : Cal d 165 [vR 9 0, vI (Xs (i + 1)), vI (Xs (i + 2))] h1 (.inl (some (vI b))) h2) (hT : Cal d 109 [vR 9 0] h2 (.inl (some (vI k))) h2) (hO : k = 0 → hget h2 58 0 = some [vL b.toInt64]) (K : ∀ o6 o7 o8, Ev (d + 1) (216, 2938, lwL i o6 o7 o8, []) h2 x) : Ev (d + 1) (216, 2180, lwL i o6 o7 o8, []) h x := by
  refine Lw.ps 1 rfl ?_
  refine Lw.a1 (k := 1) rfl rfl rfl rfl rfl rfl hN (by omega) hs ?_
  refine Lw.a1 (k := 2) rfl rfl rfl rfl rfl rfl hN (by omega) hs ?_
  refine Lw.ps 1 rfl ?_
  refine Lw.sta (as := [vR 8 0, vI (Xs (i + 1)), vI (Xs (i + 2)), vR 58 0]) (rest := []) (by rfl) (by rfl) (by rfl) rfl rfl (Nat.le_of_ble_eq_true rfl) hH ?_
  refine Lw.p (L' := lwL i (some (vI k)) o7 o8) rfl rfl ?_
  refine Lw.ps 1 rfl ?_
  refine Lw.a1 (k := 1) rfl rfl rfl rfl rfl rfl hN (by omega) hs1 ?_
  refine Lw.a1 (k := 2) rfl rfl rfl rfl rfl rfl hN (by omega) hs1 ?_
  refine Lw.vir (as := [vI (Xs (i + 1)), vI (Xs (i + 2))]) (rest := []) (by rfl) (by rfl) (by rfl) rfl rfl (Nat.le_of_ble_eq_true rfl) (by rfl) h9 hR ?_
  refine Lw.p (L' := lwL i (some (vI k)) (some (vI b)) o8) rfl rfl ?_
  refine Lw.ps 1 rfl ?_
  refine Lw.vir (as := []) (rest := []) (by rfl) (by rfl) (by rfl) rfl rfl (Nat.le_of_ble_eq_true rfl) (by rfl) h9x hT ?_
  refine Lw.ps 1 rfl ?_
  refine Lw.icmp (by rfl) (by rfl) (fun _ => ?_) (fun z => by simp [cmpB] at z)
  refine Lw.ps 1 rfl ?_
  refine Lw.ifi (by rfl) (by rfl) (fun _ => ?_) (fun z => ?_)
  · refine Lw.ps 1 rfl ?_
    exact K _ _ _
  · have hk : k = 0 := by simpa [cmp0] using z
    refine Lw.ps 2 rfl ?_
    refine Lw.jl (by rfl) (hO hk) ?_
    refine Lw.ps 2 rfl ?_
    refine Lw.p (st' := vI (lg_cmp b.toInt64 b.toInt64) :: []) rfl rfl ?_
    rw [lg_self]
    refine Lw.ps 2 rfl ?_
    exact K _ _ _
theorem lc_addDiscount {d i : Nat} {N : Nat} {Xs : Nat → Int32} {h h1 h2 : Hp} {x : Re × Hp} {k : Int32} {b : Int32} {o6 o7 o8 : Option MV} (hN : N ≤ 3584) (hi : i + 6 < N) (hs : hget h 61 0 = some (pl N (fun k => vI (Xs k)))) (hs1 : hget h1 61 0 = some (pl N (fun k => vI (Xs k)))) (h9 : (hget h1 9 0).isSome = true) (h9x : (hget h2 9 0).isSome = true) (hH : Cal d 206 [vR 8 0, vI (Xs (i + 1)), vI (Xs (i + 2)), vR 58 0] h (.inl (some (vI k))) h1) (hR : Cal d 166 [vR 9 0, vI (Xs (i + 1)), vI (Xs (i + 2))] h1 (.inl (some (vI b))) h2) (hT : Cal d 109 [vR 9 0] h2 (.inl (some (vI k))) h2) (hO : k = 0 → hget h2 58 0 = some [vL b.toInt64]) (K : ∀ o6 o7 o8, Ev (d + 1) (216, 2938, lwL i o6 o7 o8, []) h2 x) : Ev (d + 1) (216, 2248, lwL i o6 o7 o8, []) h x := by
  refine Lw.ps 1 rfl ?_
  refine Lw.a1 (k := 1) rfl rfl rfl rfl rfl rfl hN (by omega) hs ?_
  refine Lw.a1 (k := 2) rfl rfl rfl rfl rfl rfl hN (by omega) hs ?_
  refine Lw.ps 1 rfl ?_
  refine Lw.sta (as := [vR 8 0, vI (Xs (i + 1)), vI (Xs (i + 2)), vR 58 0]) (rest := []) (by rfl) (by rfl) (by rfl) rfl rfl (Nat.le_of_ble_eq_true rfl) hH ?_
  refine Lw.p (L' := lwL i (some (vI k)) o7 o8) rfl rfl ?_
  refine Lw.ps 1 rfl ?_
  refine Lw.a1 (k := 1) rfl rfl rfl rfl rfl rfl hN (by omega) hs1 ?_
  refine Lw.a1 (k := 2) rfl rfl rfl rfl rfl rfl hN (by omega) hs1 ?_
  refine Lw.vir (as := [vI (Xs (i + 1)), vI (Xs (i + 2))]) (rest := []) (by rfl) (by rfl) (by rfl) rfl rfl (Nat.le_of_ble_eq_true rfl) (by rfl) h9 hR ?_
  refine Lw.p (L' := lwL i (some (vI k)) (some (vI b)) o8) rfl rfl ?_
  refine Lw.ps 1 rfl ?_
  refine Lw.vir (as := []) (rest := []) (by rfl) (by rfl) (by rfl) rfl rfl (Nat.le_of_ble_eq_true rfl) (by rfl) h9x hT ?_
  refine Lw.ps 1 rfl ?_
  refine Lw.icmp (by rfl) (by rfl) (fun _ => ?_) (fun z => by simp [cmpB] at z)
  refine Lw.ps 1 rfl ?_
  refine Lw.ifi (by rfl) (by rfl) (fun _ => ?_) (fun z => ?_)
  · refine Lw.ps 1 rfl ?_
    exact K _ _ _
  · have hk : k = 0 := by simpa [cmp0] using z
    refine Lw.ps 2 rfl ?_
    refine Lw.jl (by rfl) (hO hk) ?_
    refine Lw.ps 2 rfl ?_
    refine Lw.p (st' := vI (lg_cmp b.toInt64 b.toInt64) :: []) rfl rfl ?_
    rw [lg_self]
    refine Lw.ps 2 rfl ?_
    exact K _ _ _
theorem lc_costOf {d i : Nat} {N : Nat} {Xs : Nat → Int32} {h h1 h2 : Hp} {x : Re × Hp} {k : Int32} {b : Int32} {o6 o7 o8 : Option MV} (hN : N ≤ 3584) (hi : i + 6 < N) (hs : hget h 61 0 = some (pl N (fun k => vI (Xs k)))) (hs1 : hget h1 61 0 = some (pl N (fun k => vI (Xs k)))) (h9 : (hget h1 9 0).isSome = true) (h9x : (hget h2 9 0).isSome = true) (hH : Cal d 207 [vR 8 0, vI (Xs (i + 1)), vI (Xs (i + 2)), vR 58 0] h (.inl (some (vI k))) h1) (hR : Cal d 167 [vR 9 0, vI (Xs (i + 1)), vI (Xs (i + 2))] h1 (.inl (some (vI b))) h2) (hT : Cal d 109 [vR 9 0] h2 (.inl (some (vI k))) h2) (hO : k = 0 → hget h2 58 0 = some [vL b.toInt64]) (K : ∀ o6 o7 o8, Ev (d + 1) (216, 2938, lwL i o6 o7 o8, []) h2 x) : Ev (d + 1) (216, 2316, lwL i o6 o7 o8, []) h x := by
  refine Lw.ps 1 rfl ?_
  refine Lw.a1 (k := 1) rfl rfl rfl rfl rfl rfl hN (by omega) hs ?_
  refine Lw.a1 (k := 2) rfl rfl rfl rfl rfl rfl hN (by omega) hs ?_
  refine Lw.ps 1 rfl ?_
  refine Lw.sta (as := [vR 8 0, vI (Xs (i + 1)), vI (Xs (i + 2)), vR 58 0]) (rest := []) (by rfl) (by rfl) (by rfl) rfl rfl (Nat.le_of_ble_eq_true rfl) hH ?_
  refine Lw.p (L' := lwL i (some (vI k)) o7 o8) rfl rfl ?_
  refine Lw.ps 1 rfl ?_
  refine Lw.a1 (k := 1) rfl rfl rfl rfl rfl rfl hN (by omega) hs1 ?_
  refine Lw.a1 (k := 2) rfl rfl rfl rfl rfl rfl hN (by omega) hs1 ?_
  refine Lw.vir (as := [vI (Xs (i + 1)), vI (Xs (i + 2))]) (rest := []) (by rfl) (by rfl) (by rfl) rfl rfl (Nat.le_of_ble_eq_true rfl) (by rfl) h9 hR ?_
  refine Lw.p (L' := lwL i (some (vI k)) (some (vI b)) o8) rfl rfl ?_
  refine Lw.ps 1 rfl ?_
  refine Lw.vir (as := []) (rest := []) (by rfl) (by rfl) (by rfl) rfl rfl (Nat.le_of_ble_eq_true rfl) (by rfl) h9x hT ?_
  refine Lw.ps 1 rfl ?_
  refine Lw.icmp (by rfl) (by rfl) (fun _ => ?_) (fun z => by simp [cmpB] at z)
  refine Lw.ps 1 rfl ?_
  refine Lw.ifi (by rfl) (by rfl) (fun _ => ?_) (fun z => ?_)
  · refine Lw.ps 1 rfl ?_
    exact K _ _ _
  · have hk : k = 0 := by simpa [cmp0] using z
    refine Lw.ps 2 rfl ?_
    refine Lw.jl (by rfl) (hO hk) ?_
    refine Lw.ps 2 rfl ?_
    refine Lw.p (st' := vI (lg_cmp b.toInt64 b.toInt64) :: []) rfl rfl ?_
    rw [lg_self]
    refine Lw.ps 2 rfl ?_
    exact K _ _ _
theorem lc_breakDown {d i : Nat} {N : Nat} {Xs : Nat → Int32} {h h1 h2 : Hp} {x : Re × Hp} {k : Int32} {b : Int32} {o6 o7 o8 : Option MV} (hN : N ≤ 3584) (hi : i + 6 < N) (hs : hget h 61 0 = some (pl N (fun k => vI (Xs k)))) (hs1 : hget h1 61 0 = some (pl N (fun k => vI (Xs k)))) (h9 : (hget h1 9 0).isSome = true) (h9x : (hget h2 9 0).isSome = true) (hH : Cal d 208 [vR 8 0, vI (Xs (i + 1)), vI (Xs (i + 2)), vR 58 0] h (.inl (some (vI k))) h1) (hR : Cal d 168 [vR 9 0, vI (Xs (i + 1)), vI (Xs (i + 2))] h1 (.inl (some (vI b))) h2) (hT : Cal d 109 [vR 9 0] h2 (.inl (some (vI k))) h2) (hO : k = 0 → hget h2 58 0 = some [vL b.toInt64]) (K : ∀ o6 o7 o8, Ev (d + 1) (216, 2938, lwL i o6 o7 o8, []) h2 x) : Ev (d + 1) (216, 2384, lwL i o6 o7 o8, []) h x := by
  refine Lw.ps 1 rfl ?_
  refine Lw.a1 (k := 1) rfl rfl rfl rfl rfl rfl hN (by omega) hs ?_
  refine Lw.a1 (k := 2) rfl rfl rfl rfl rfl rfl hN (by omega) hs ?_
  refine Lw.ps 1 rfl ?_
  refine Lw.sta (as := [vR 8 0, vI (Xs (i + 1)), vI (Xs (i + 2)), vR 58 0]) (rest := []) (by rfl) (by rfl) (by rfl) rfl rfl (Nat.le_of_ble_eq_true rfl) hH ?_
  refine Lw.p (L' := lwL i (some (vI k)) o7 o8) rfl rfl ?_
  refine Lw.ps 1 rfl ?_
  refine Lw.a1 (k := 1) rfl rfl rfl rfl rfl rfl hN (by omega) hs1 ?_
  refine Lw.a1 (k := 2) rfl rfl rfl rfl rfl rfl hN (by omega) hs1 ?_
  refine Lw.vir (as := [vI (Xs (i + 1)), vI (Xs (i + 2))]) (rest := []) (by rfl) (by rfl) (by rfl) rfl rfl (Nat.le_of_ble_eq_true rfl) (by rfl) h9 hR ?_
  refine Lw.p (L' := lwL i (some (vI k)) (some (vI b)) o8) rfl rfl ?_
  refine Lw.ps 1 rfl ?_
  refine Lw.vir (as := []) (rest := []) (by rfl) (by rfl) (by rfl) rfl rfl (Nat.le_of_ble_eq_true rfl) (by rfl) h9x hT ?_
  refine Lw.ps 1 rfl ?_
  refine Lw.icmp (by rfl) (by rfl) (fun _ => ?_) (fun z => by simp [cmpB] at z)
  refine Lw.ps 1 rfl ?_
  refine Lw.ifi (by rfl) (by rfl) (fun _ => ?_) (fun z => ?_)
  · refine Lw.ps 1 rfl ?_
    exact K _ _ _
  · have hk : k = 0 := by simpa [cmp0] using z
    refine Lw.ps 2 rfl ?_
    refine Lw.jl (by rfl) (hO hk) ?_
    refine Lw.ps 2 rfl ?_
    refine Lw.p (st' := vI (lg_cmp b.toInt64 b.toInt64) :: []) rfl rfl ?_
    rw [lg_self]
    refine Lw.ps 2 rfl ?_
    exact K _ _ _
theorem lc_shareOf {d i : Nat} {N : Nat} {Xs : Nat → Int32} {h h1 h2 : Hp} {x : Re × Hp} {k : Int32} {b : Int32} {o6 o7 o8 : Option MV} (hN : N ≤ 3584) (hi : i + 6 < N) (hs : hget h 61 0 = some (pl N (fun k => vI (Xs k)))) (hs1 : hget h1 61 0 = some (pl N (fun k => vI (Xs k)))) (h9 : (hget h1 9 0).isSome = true) (h9x : (hget h2 9 0).isSome = true) (hH : Cal d 209 [vR 8 0, vI (Xs (i + 1)), vI (Xs (i + 2)), vR 58 0] h (.inl (some (vI k))) h1) (hR : Cal d 169 [vR 9 0, vI (Xs (i + 1)), vI (Xs (i + 2))] h1 (.inl (some (vI b))) h2) (hT : Cal d 109 [vR 9 0] h2 (.inl (some (vI k))) h2) (hO : k = 0 → hget h2 58 0 = some [vL b.toInt64]) (K : ∀ o6 o7 o8, Ev (d + 1) (216, 2938, lwL i o6 o7 o8, []) h2 x) : Ev (d + 1) (216, 2452, lwL i o6 o7 o8, []) h x := by
  refine Lw.ps 1 rfl ?_
  refine Lw.a1 (k := 1) rfl rfl rfl rfl rfl rfl hN (by omega) hs ?_
  refine Lw.a1 (k := 2) rfl rfl rfl rfl rfl rfl hN (by omega) hs ?_
  refine Lw.ps 1 rfl ?_
  refine Lw.sta (as := [vR 8 0, vI (Xs (i + 1)), vI (Xs (i + 2)), vR 58 0]) (rest := []) (by rfl) (by rfl) (by rfl) rfl rfl (Nat.le_of_ble_eq_true rfl) hH ?_
  refine Lw.p (L' := lwL i (some (vI k)) o7 o8) rfl rfl ?_
  refine Lw.ps 1 rfl ?_
  refine Lw.a1 (k := 1) rfl rfl rfl rfl rfl rfl hN (by omega) hs1 ?_
  refine Lw.a1 (k := 2) rfl rfl rfl rfl rfl rfl hN (by omega) hs1 ?_
  refine Lw.vir (as := [vI (Xs (i + 1)), vI (Xs (i + 2))]) (rest := []) (by rfl) (by rfl) (by rfl) rfl rfl (Nat.le_of_ble_eq_true rfl) (by rfl) h9 hR ?_
  refine Lw.p (L' := lwL i (some (vI k)) (some (vI b)) o8) rfl rfl ?_
  refine Lw.ps 1 rfl ?_
  refine Lw.vir (as := []) (rest := []) (by rfl) (by rfl) (by rfl) rfl rfl (Nat.le_of_ble_eq_true rfl) (by rfl) h9x hT ?_
  refine Lw.ps 1 rfl ?_
  refine Lw.icmp (by rfl) (by rfl) (fun _ => ?_) (fun z => by simp [cmpB] at z)
  refine Lw.ps 1 rfl ?_
  refine Lw.ifi (by rfl) (by rfl) (fun _ => ?_) (fun z => ?_)
  · refine Lw.ps 1 rfl ?_
    exact K _ _ _
  · have hk : k = 0 := by simpa [cmp0] using z
    refine Lw.ps 2 rfl ?_
    refine Lw.jl (by rfl) (hO hk) ?_
    refine Lw.ps 2 rfl ?_
    refine Lw.p (st' := vI (lg_cmp b.toInt64 b.toInt64) :: []) rfl rfl ?_
    rw [lg_self]
    refine Lw.ps 2 rfl ?_
    exact K _ _ _
theorem lc_pay {d i : Nat} {N : Nat} {Xs : Nat → Int32} {h h1 h2 : Hp} {x : Re × Hp} {k : Int32} {b : Int32} {o6 o7 o8 : Option MV} (hN : N ≤ 3584) (hi : i + 6 < N) (hs : hget h 61 0 = some (pl N (fun k => vI (Xs k)))) (hs1 : hget h1 61 0 = some (pl N (fun k => vI (Xs k)))) (h9 : (hget h1 9 0).isSome = true) (h9x : (hget h2 9 0).isSome = true) (hH : Cal d 210 [vR 8 0, vI (Xs (i + 1)), vI (Xs (i + 2)), vR 58 0] h (.inl (some (vI k))) h1) (hR : Cal d 171 [vR 9 0, vI (Xs (i + 1)), vI (Xs (i + 2))] h1 (.inl (some (vI b))) h2) (hT : Cal d 109 [vR 9 0] h2 (.inl (some (vI k))) h2) (hO : k = 0 → hget h2 58 0 = some [vL b.toInt64]) (K : ∀ o6 o7 o8, Ev (d + 1) (216, 2938, lwL i o6 o7 o8, []) h2 x) : Ev (d + 1) (216, 2520, lwL i o6 o7 o8, []) h x := by
  refine Lw.ps 1 rfl ?_
  refine Lw.a1 (k := 1) rfl rfl rfl rfl rfl rfl hN (by omega) hs ?_
  refine Lw.a1 (k := 2) rfl rfl rfl rfl rfl rfl hN (by omega) hs ?_
  refine Lw.ps 1 rfl ?_
  refine Lw.sta (as := [vR 8 0, vI (Xs (i + 1)), vI (Xs (i + 2)), vR 58 0]) (rest := []) (by rfl) (by rfl) (by rfl) rfl rfl (Nat.le_of_ble_eq_true rfl) hH ?_
  refine Lw.p (L' := lwL i (some (vI k)) o7 o8) rfl rfl ?_
  refine Lw.ps 1 rfl ?_
  refine Lw.a1 (k := 1) rfl rfl rfl rfl rfl rfl hN (by omega) hs1 ?_
  refine Lw.a1 (k := 2) rfl rfl rfl rfl rfl rfl hN (by omega) hs1 ?_
  refine Lw.vir (as := [vI (Xs (i + 1)), vI (Xs (i + 2))]) (rest := []) (by rfl) (by rfl) (by rfl) rfl rfl (Nat.le_of_ble_eq_true rfl) (by rfl) h9 hR ?_
  refine Lw.p (L' := lwL i (some (vI k)) (some (vI b)) o8) rfl rfl ?_
  refine Lw.ps 1 rfl ?_
  refine Lw.vir (as := []) (rest := []) (by rfl) (by rfl) (by rfl) rfl rfl (Nat.le_of_ble_eq_true rfl) (by rfl) h9x hT ?_
  refine Lw.ps 1 rfl ?_
  refine Lw.icmp (by rfl) (by rfl) (fun _ => ?_) (fun z => by simp [cmpB] at z)
  refine Lw.ps 1 rfl ?_
  refine Lw.ifi (by rfl) (by rfl) (fun _ => ?_) (fun z => ?_)
  · refine Lw.ps 1 rfl ?_
    exact K _ _ _
  · have hk : k = 0 := by simpa [cmp0] using z
    refine Lw.ps 2 rfl ?_
    refine Lw.jl (by rfl) (hO hk) ?_
    refine Lw.ps 2 rfl ?_
    refine Lw.p (st' := vI (lg_cmp b.toInt64 b.toInt64) :: []) rfl rfl ?_
    rw [lg_self]
    refine Lw.ps 2 rfl ?_
    exact K _ _ _
theorem lc_owes {d i : Nat} {N : Nat} {Xs : Nat → Int32} {h h1 h2 : Hp} {x : Re × Hp} {k : Int32} {b : Int32} {o6 o7 o8 : Option MV} (hN : N ≤ 3584) (hi : i + 6 < N) (hs : hget h 61 0 = some (pl N (fun k => vI (Xs k)))) (hs1 : hget h1 61 0 = some (pl N (fun k => vI (Xs k)))) (h9 : (hget h1 9 0).isSome = true) (h9x : (hget h2 9 0).isSome = true) (hH : Cal d 211 [vR 8 0, vI (Xs (i + 1)), vR 58 0] h (.inl (some (vI k))) h1) (hR : Cal d 172 [vR 9 0, vI (Xs (i + 1))] h1 (.inl (some (vI b))) h2) (hT : Cal d 109 [vR 9 0] h2 (.inl (some (vI k))) h2) (hO : k = 0 → hget h2 58 0 = some [vL b.toInt64]) (K : ∀ o6 o7 o8, Ev (d + 1) (216, 2938, lwL i o6 o7 o8, []) h2 x) : Ev (d + 1) (216, 2588, lwL i o6 o7 o8, []) h x := by
  refine Lw.ps 1 rfl ?_
  refine Lw.a1 (k := 1) rfl rfl rfl rfl rfl rfl hN (by omega) hs ?_
  refine Lw.ps 1 rfl ?_
  refine Lw.sta (as := [vR 8 0, vI (Xs (i + 1)), vR 58 0]) (rest := []) (by rfl) (by rfl) (by rfl) rfl rfl (Nat.le_of_ble_eq_true rfl) hH ?_
  refine Lw.p (L' := lwL i (some (vI k)) o7 o8) rfl rfl ?_
  refine Lw.ps 1 rfl ?_
  refine Lw.a1 (k := 1) rfl rfl rfl rfl rfl rfl hN (by omega) hs1 ?_
  refine Lw.vir (as := [vI (Xs (i + 1))]) (rest := []) (by rfl) (by rfl) (by rfl) rfl rfl (Nat.le_of_ble_eq_true rfl) (by rfl) h9 hR ?_
  refine Lw.p (L' := lwL i (some (vI k)) (some (vI b)) o8) rfl rfl ?_
  refine Lw.ps 1 rfl ?_
  refine Lw.vir (as := []) (rest := []) (by rfl) (by rfl) (by rfl) rfl rfl (Nat.le_of_ble_eq_true rfl) (by rfl) h9x hT ?_
  refine Lw.ps 1 rfl ?_
  refine Lw.icmp (by rfl) (by rfl) (fun _ => ?_) (fun z => by simp [cmpB] at z)
  refine Lw.ps 1 rfl ?_
  refine Lw.ifi (by rfl) (by rfl) (fun _ => ?_) (fun z => ?_)
  · refine Lw.ps 1 rfl ?_
    exact K _ _ _
  · have hk : k = 0 := by simpa [cmp0] using z
    refine Lw.ps 2 rfl ?_
    refine Lw.jl (by rfl) (hO hk) ?_
    refine Lw.ps 2 rfl ?_
    refine Lw.p (st' := vI (lg_cmp b.toInt64 b.toInt64) :: []) rfl rfl ?_
    rw [lg_self]
    refine Lw.ps 2 rfl ?_
    exact K _ _ _
theorem lc_owesByEntries {d i : Nat} {N : Nat} {Xs : Nat → Int32} {h h1 h2 : Hp} {x : Re × Hp} {k : Int32} {b : Int32} {o6 o7 o8 : Option MV} (hN : N ≤ 3584) (hi : i + 6 < N) (hs : hget h 61 0 = some (pl N (fun k => vI (Xs k)))) (hs1 : hget h1 61 0 = some (pl N (fun k => vI (Xs k)))) (h9 : (hget h1 9 0).isSome = true) (h9x : (hget h2 9 0).isSome = true) (hH : Cal d 212 [vR 8 0, vI (Xs (i + 1)), vR 58 0] h (.inl (some (vI k))) h1) (hR : Cal d 173 [vR 9 0, vI (Xs (i + 1))] h1 (.inl (some (vI b))) h2) (hT : Cal d 109 [vR 9 0] h2 (.inl (some (vI k))) h2) (hO : k = 0 → hget h2 58 0 = some [vL b.toInt64]) (K : ∀ o6 o7 o8, Ev (d + 1) (216, 2938, lwL i o6 o7 o8, []) h2 x) : Ev (d + 1) (216, 2644, lwL i o6 o7 o8, []) h x := by
  refine Lw.ps 1 rfl ?_
  refine Lw.a1 (k := 1) rfl rfl rfl rfl rfl rfl hN (by omega) hs ?_
  refine Lw.ps 1 rfl ?_
  refine Lw.sta (as := [vR 8 0, vI (Xs (i + 1)), vR 58 0]) (rest := []) (by rfl) (by rfl) (by rfl) rfl rfl (Nat.le_of_ble_eq_true rfl) hH ?_
  refine Lw.p (L' := lwL i (some (vI k)) o7 o8) rfl rfl ?_
  refine Lw.ps 1 rfl ?_
  refine Lw.a1 (k := 1) rfl rfl rfl rfl rfl rfl hN (by omega) hs1 ?_
  refine Lw.vir (as := [vI (Xs (i + 1))]) (rest := []) (by rfl) (by rfl) (by rfl) rfl rfl (Nat.le_of_ble_eq_true rfl) (by rfl) h9 hR ?_
  refine Lw.p (L' := lwL i (some (vI k)) (some (vI b)) o8) rfl rfl ?_
  refine Lw.ps 1 rfl ?_
  refine Lw.vir (as := []) (rest := []) (by rfl) (by rfl) (by rfl) rfl rfl (Nat.le_of_ble_eq_true rfl) (by rfl) h9x hT ?_
  refine Lw.ps 1 rfl ?_
  refine Lw.icmp (by rfl) (by rfl) (fun _ => ?_) (fun z => by simp [cmpB] at z)
  refine Lw.ps 1 rfl ?_
  refine Lw.ifi (by rfl) (by rfl) (fun _ => ?_) (fun z => ?_)
  · refine Lw.ps 1 rfl ?_
    exact K _ _ _
  · have hk : k = 0 := by simpa [cmp0] using z
    refine Lw.ps 2 rfl ?_
    refine Lw.jl (by rfl) (hO hk) ?_
    refine Lw.ps 2 rfl ?_
    refine Lw.p (st' := vI (lg_cmp b.toInt64 b.toInt64) :: []) rfl rfl ?_
    rw [lg_self]
    refine Lw.ps 2 rfl ?_
    exact K _ _ _
theorem lc_dueOf {d i : Nat} {N : Nat} {Xs : Nat → Int32} {h h1 h2 : Hp} {x : Re × Hp} {k : Int32} {b : Int32} {o6 o7 o8 : Option MV} (hN : N ≤ 3584) (hi : i + 6 < N) (hs : hget h 61 0 = some (pl N (fun k => vI (Xs k)))) (hs1 : hget h1 61 0 = some (pl N (fun k => vI (Xs k)))) (h9 : (hget h1 9 0).isSome = true) (h9x : (hget h2 9 0).isSome = true) (hH : Cal d 213 [vR 8 0, vI (Xs (i + 1)), vR 58 0] h (.inl (some (vI k))) h1) (hR : Cal d 174 [vR 9 0, vI (Xs (i + 1))] h1 (.inl (some (vI b))) h2) (hT : Cal d 109 [vR 9 0] h2 (.inl (some (vI k))) h2) (hO : k = 0 → hget h2 58 0 = some [vL b.toInt64]) (K : ∀ o6 o7 o8, Ev (d + 1) (216, 2938, lwL i o6 o7 o8, []) h2 x) : Ev (d + 1) (216, 2700, lwL i o6 o7 o8, []) h x := by
  refine Lw.ps 1 rfl ?_
  refine Lw.a1 (k := 1) rfl rfl rfl rfl rfl rfl hN (by omega) hs ?_
  refine Lw.ps 1 rfl ?_
  refine Lw.sta (as := [vR 8 0, vI (Xs (i + 1)), vR 58 0]) (rest := []) (by rfl) (by rfl) (by rfl) rfl rfl (Nat.le_of_ble_eq_true rfl) hH ?_
  refine Lw.p (L' := lwL i (some (vI k)) o7 o8) rfl rfl ?_
  refine Lw.ps 1 rfl ?_
  refine Lw.a1 (k := 1) rfl rfl rfl rfl rfl rfl hN (by omega) hs1 ?_
  refine Lw.vir (as := [vI (Xs (i + 1))]) (rest := []) (by rfl) (by rfl) (by rfl) rfl rfl (Nat.le_of_ble_eq_true rfl) (by rfl) h9 hR ?_
  refine Lw.p (L' := lwL i (some (vI k)) (some (vI b)) o8) rfl rfl ?_
  refine Lw.ps 1 rfl ?_
  refine Lw.vir (as := []) (rest := []) (by rfl) (by rfl) (by rfl) rfl rfl (Nat.le_of_ble_eq_true rfl) (by rfl) h9x hT ?_
  refine Lw.ps 1 rfl ?_
  refine Lw.icmp (by rfl) (by rfl) (fun _ => ?_) (fun z => by simp [cmpB] at z)
  refine Lw.ps 1 rfl ?_
  refine Lw.ifi (by rfl) (by rfl) (fun _ => ?_) (fun z => ?_)
  · refine Lw.ps 1 rfl ?_
    exact K _ _ _
  · have hk : k = 0 := by simpa [cmp0] using z
    refine Lw.ps 2 rfl ?_
    refine Lw.jl (by rfl) (hO hk) ?_
    refine Lw.ps 2 rfl ?_
    refine Lw.p (st' := vI (lg_cmp b.toInt64 b.toInt64) :: []) rfl rfl ?_
    rw [lg_self]
    refine Lw.ps 2 rfl ?_
    exact K _ _ _
theorem lc_takings {d i : Nat} {h h1 : Hp} {x : Re × Hp} {v : Int64} {o6 o7 o8 : Option MV} (h8 : (hget h 8 0).isSome = true) (h9 : (hget h 9 0).isSome = true) (hC : Cal d 58 [vR 8 0] h (.inl (some (vL v))) h) (hR : Cal d 175 [vR 9 0] h (.inl (some (vL v))) h1) (K : ∀ o6 o7 o8, Ev (d + 1) (216, 2938, lwL i o6 o7 o8, []) h1 x) : Ev (d + 1) (216, 2756, lwL i o6 o7 o8, []) h x := by
  refine Lw.ps 1 rfl ?_
  refine Lw.vir (as := []) (rest := []) (by rfl) (by rfl) (by rfl) rfl rfl (Nat.le_of_ble_eq_true rfl) (by rfl) h8 hC ?_
  refine Lw.ps 1 rfl ?_
  refine Lw.vir (as := []) (rest := [vL v]) (by rfl) (by rfl) (by rfl) rfl rfl (Nat.le_of_ble_eq_true rfl) (by rfl) h9 hR ?_
  refine Lw.p (st' := vI (lg_cmp v v) :: []) (by rfl) rfl ?_
  rw [lg_self]
  refine Lw.ps 1 rfl ?_
  exact K _ _ _
theorem lc_use {d i : Nat} {N : Nat} {Xs : Nat → Int32} {h h1 h2 : Hp} {x : Re × Hp} {k : Int32} {b : UInt32} {o6 o7 o8 : Option MV} (hN : N ≤ 3584) (hi : i + 6 < N) (hs : hget h 61 0 = some (pl N (fun k => vI (Xs k)))) (hs1 : hget h1 61 0 = some (pl N (fun k => vI (Xs k)))) (h9 : (hget h1 9 0).isSome = true) (h9x : (hget h2 9 0).isSome = true) (hH : Cal d 214 [vR 8 0, vI (Xs (i + 1)), vI (Xs (i + 2)), vR 59 0] h (.inl (some (vI k))) h1) (hR : Cal d 176 [vR 9 0, vI (Xs (i + 1)), vI (Xs (i + 2))] h1 (.inl (some (vF b))) h2) (hT : Cal d 109 [vR 9 0] h2 (.inl (some (vI k))) h2) (hO : k = 0 → hget h2 59 0 = some [vD (FP.f2d b)] ∧ FP.f2d b &&& 0x7fffffffffffffff ≤ 0x7ff0000000000000) (K : ∀ o6 o7 o8, Ev (d + 1) (216, 2938, lwL i o6 o7 o8, []) h2 x) : Ev (d + 1) (216, 2770, lwL i o6 o7 o8, []) h x := by
  refine Lw.ps 1 rfl ?_
  refine Lw.a1 (k := 1) rfl rfl rfl rfl rfl rfl hN (by omega) hs ?_
  refine Lw.a1 (k := 2) rfl rfl rfl rfl rfl rfl hN (by omega) hs ?_
  refine Lw.ps 1 rfl ?_
  refine Lw.sta (as := [vR 8 0, vI (Xs (i + 1)), vI (Xs (i + 2)), vR 59 0]) (rest := []) (by rfl) (by rfl) (by rfl) rfl rfl (Nat.le_of_ble_eq_true rfl) hH ?_
  refine Lw.p (L' := lwL i (some (vI k)) o7 o8) rfl rfl ?_
  refine Lw.ps 1 rfl ?_
  refine Lw.a1 (k := 1) rfl rfl rfl rfl rfl rfl hN (by omega) hs1 ?_
  refine Lw.a1 (k := 2) rfl rfl rfl rfl rfl rfl hN (by omega) hs1 ?_
  refine Lw.vir (as := [vI (Xs (i + 1)), vI (Xs (i + 2))]) (rest := []) (by rfl) (by rfl) (by rfl) rfl rfl (Nat.le_of_ble_eq_true rfl) (by rfl) h9 hR ?_
  refine Lw.p (L' := lwL i (some (vI k)) (some (vF b)) o8) rfl rfl ?_
  refine Lw.ps 1 rfl ?_
  refine Lw.vir (as := []) (rest := []) (by rfl) (by rfl) (by rfl) rfl rfl (Nat.le_of_ble_eq_true rfl) (by rfl) h9x hT ?_
  refine Lw.ps 1 rfl ?_
  refine Lw.icmp (by rfl) (by rfl) (fun _ => ?_) (fun z => by simp [cmpB] at z)
  refine Lw.ps 1 rfl ?_
  refine Lw.ifi (by rfl) (by rfl) (fun _ => ?_) (fun z => ?_)
  · refine Lw.ps 1 rfl ?_
    exact K _ _ _
  · have hk : k = 0 := by simpa [cmp0] using z
    refine Lw.ps 2 rfl ?_
    refine Lw.dl (by rfl) (hO hk).1 ?_
    refine Lw.ps 1 rfl ?_
    refine Lw.f2 (by rfl) (hO hk).2 ?_
    refine Lw.p (st' := vI (Op.cmpValue (FP.dcmp (FP.f2d b) (FP.f2d b)) .l) :: []) rfl rfl ?_
    rw [dcmp_self (hO hk).2]
    refine Lw.ps 2 rfl ?_
    exact K _ _ _
theorem lc_meanMinutes {d i : Nat} {h h1 h2 : Hp} {x : Re × Hp} {k : Int32} {b : UInt64} {o6 o7 o8 : Option MV} (h9 : (hget h1 9 0).isSome = true) (h9x : (hget h2 9 0).isSome = true) (hH : Cal d 215 [vR 8 0, vR 59 0] h (.inl (some (vI k))) h1) (hR : Cal d 177 [vR 9 0] h1 (.inl (some (vD b))) h2) (hT : Cal d 109 [vR 9 0] h2 (.inl (some (vI k))) h2) (hO : k = 0 → hget h2 59 0 = some [vD b]) (K : ∀ o6 o7 o8, Ev (d + 1) (216, 2938, lwL i o6 o7 o8, []) h2 x) : Ev (d + 1) (216, 2860, lwL i o6 o7 o8, []) h x := by
  refine Lw.ps 1 rfl ?_
  refine Lw.ps 1 rfl ?_
  refine Lw.sta (as := [vR 8 0, vR 59 0]) (rest := []) (by rfl) (by rfl) (by rfl) rfl rfl (Nat.le_of_ble_eq_true rfl) hH ?_
  refine Lw.p (L' := lwL i (some (vI k)) o7 o8) rfl rfl ?_
  refine Lw.ps 1 rfl ?_
  refine Lw.vir (as := []) (rest := []) (by rfl) (by rfl) (by rfl) rfl rfl (Nat.le_of_ble_eq_true rfl) (by rfl) h9 hR ?_
  refine Lw.p (L' := lwL i (some (vI k)) (some (vD b)) none) rfl rfl ?_
  refine Lw.ps 1 rfl ?_
  refine Lw.vir (as := []) (rest := []) (by rfl) (by rfl) (by rfl) rfl rfl (Nat.le_of_ble_eq_true rfl) (by rfl) h9x hT ?_
  refine Lw.ps 1 rfl ?_
  refine Lw.icmp (by rfl) (by rfl) (fun _ => ?_) (fun z => by simp [cmpB] at z)
  refine Lw.ps 1 rfl ?_
  refine Lw.ifi (by rfl) (by rfl) (fun _ => ?_) (fun z => ?_)
  · refine Lw.ps 1 rfl ?_
    exact K _ _ _
  · have hk : k = 0 := by simpa [cmp0] using z
    refine Lw.ps 2 rfl ?_
    refine Lw.dl (by rfl) (hO hk) ?_
    refine Lw.ps 1 rfl ?_
    refine Lw.p (st' := vI (Op.cmpValue (FP.dcmp b b) .l) :: []) rfl rfl ?_
    refine Lw.ifi (by rfl) (by rfl) (fun _ => ?_) (fun z1 => ?_)
    · refine Lw.ps 1 rfl ?_
      exact K _ _ _
    · refine Lw.ps 2 rfl ?_
      refine Lw.dl (by rfl) (hO hk) ?_
      refine Lw.ps 2 rfl ?_
      refine Lw.dl (by rfl) (hO hk) ?_
      refine Lw.p (st' := vI (Op.cmpValue (FP.dcmp b b) .l) :: []) rfl rfl ?_
      refine Lw.ifi (by rfl) (by rfl) (fun z2 => by rw [z1] at z2; cases z2) (fun _ => ?_)
      refine Lw.ps 2 rfl ?_
      refine Lw.p (st' := vI (Op.cmpValue (FP.dcmp b b) .l) :: []) rfl rfl ?_
      refine Lw.ifi (by rfl) (by rfl) (fun _ => ?_) (fun z3 => ?_)
      · refine Lw.ps 1 rfl ?_
        exact K _ _ _
      · exfalso
        have e1 : ¬ Op.cmpValue (FP.dcmp b b) .l = 0 := of_decide_eq_false z1
        exact absurd e1 (of_decide_eq_false z3)
theorem lc_isSound {d i : Nat} {h h1 : Hp} {x : Re × Hp} {v : Int32} {o6 o7 o8 : Option MV} (h8 : (hget h 8 0).isSome = true) (h9 : (hget h 9 0).isSome = true) (hC : Cal d 61 [vR 8 0] h (.inl (some (vI v))) h) (hR : Cal d 178 [vR 9 0] h (.inl (some (vI v))) h1) (K : ∀ o6 o7 o8, Ev (d + 1) (216, 2938, lwL i o6 o7 o8, []) h1 x) : Ev (d + 1) (216, 2925, lwL i o6 o7 o8, []) h x := by
  refine Lw.ps 1 rfl ?_
  refine Lw.vir (as := []) (rest := []) (by rfl) (by rfl) (by rfl) rfl rfl (Nat.le_of_ble_eq_true rfl) (by rfl) h8 hC ?_
  refine Lw.ps 1 rfl ?_
  refine Lw.vir (as := []) (rest := [vI v]) (by rfl) (by rfl) (by rfl) rfl rfl (Nat.le_of_ble_eq_true rfl) (by rfl) h9 hR ?_
  refine Lw.icmp (t := 2938) (by rfl) (by rfl) (fun _ => ?_) (fun z => by simp [cmpB] at z)
  exact K _ _ _
