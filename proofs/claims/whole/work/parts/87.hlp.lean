/-! the law's helpers: a call of the class, its answer into a row, its exception as a number (written by gen86.py) -/
theorem h_addMachine {d : Nat} {p0 p1 : Int32} {h h1 : Hp} {r : Re} {k : Int32} {b : Int32} {w : Int64} (hC : Cal d 21 [vR 8 0, vI p0, vI p1] h r h1) (h8 : (hget h 8 0).isSome = true) (hw : hget h1 58 0 = some [vL w]) (hA : AgI [(1, 1), (5, 2)] r k b) : Cal (d + 1) 179 [vR 8 0, vI p0, vI p1, vR 58 0] h (.inl (some (vI k))) (hoI r h1) := by
  match r, hC, hA with
  | .inl (some (.inl v)), hC, hA =>
    obtain ⟨rfl, rfl⟩ := hA
    refine Cal.mk (n := 5) rfl (Nat.le_of_ble_eq_true rfl) rfl ?_
    refine Ev.ps 5 rfl ?_
    refine Ev.vir (as := [vI p0, vI p1]) (rest := [vI 0, vR 58 0]) (by rfl) (by rfl) (by rfl) rfl rfl (Nat.le_of_ble_eq_true rfl) (by rfl) h8 hC ?_
    refine Ev.ps 1 rfl ?_
    refine Ev.oJ (w := w) (by rfl) hw ?_
    refine Ev.ps 2 rfl ?_
    exact Ev.re rfl rfl rfl rfl rfl
  | .inr E, hC, hA =>
    simp only [AgI, List.mem_cons, Prod.mk.injEq, List.not_mem_nil, or_false] at hA
    rcases hA with ⟨rfl, rfl⟩ | ⟨rfl, rfl⟩
    · refine Cal.mk (n := 5) rfl (Nat.le_of_ble_eq_true rfl) rfl ?_
      refine Ev.ps 5 rfl ?_
      refine Ev.virH (t := 13) (as := [vI p0, vI p1]) (rest := [vI 0, vR 58 0]) (by rfl) (by rfl) (by rfl) rfl rfl (Nat.le_of_ble_eq_true rfl) (by rfl) h8 hC (by rfl) ?_
      refine Ev.ps 2 rfl ?_
      exact Ev.re rfl rfl rfl rfl rfl
    · refine Cal.mk (n := 5) rfl (Nat.le_of_ble_eq_true rfl) rfl ?_
      refine Ev.ps 5 rfl ?_
      refine Ev.virH (t := 17) (as := [vI p0, vI p1]) (rest := [vI 0, vR 58 0]) (by rfl) (by rfl) (by rfl) rfl rfl (Nat.le_of_ble_eq_true rfl) (by rfl) h8 hC (by rfl) ?_
      refine Ev.ps 2 rfl ?_
      exact Ev.re rfl rfl rfl rfl rfl
theorem h_addMember {d : Nat} {h h1 : Hp} {r : Re} {k : Int32} {b : Int32} {w : Int64} (hC : Cal d 22 [vR 8 0] h r h1) (h8 : (hget h 8 0).isSome = true) (hw : hget h1 58 0 = some [vL w]) (hA : AgI [(5, 1)] r k b) : Cal (d + 1) 180 [vR 8 0, vR 58 0] h (.inl (some (vI k))) (hoI r h1) := by
  match r, hC, hA with
  | .inl (some (.inl v)), hC, hA =>
    obtain ⟨rfl, rfl⟩ := hA
    refine Cal.mk (n := 3) rfl (Nat.le_of_ble_eq_true rfl) rfl ?_
    refine Ev.ps 3 rfl ?_
    refine Ev.vir (as := []) (rest := [vI 0, vR 58 0]) (by rfl) (by rfl) (by rfl) rfl rfl (Nat.le_of_ble_eq_true rfl) (by rfl) h8 hC ?_
    refine Ev.ps 1 rfl ?_
    refine Ev.oJ (w := w) (by rfl) hw ?_
    refine Ev.ps 2 rfl ?_
    exact Ev.re rfl rfl rfl rfl rfl
  | .inr E, hC, hA =>
    simp only [AgI, List.mem_cons, Prod.mk.injEq, List.not_mem_nil, or_false] at hA
    rcases hA with ⟨rfl, rfl⟩
    refine Cal.mk (n := 3) rfl (Nat.le_of_ble_eq_true rfl) rfl ?_
    refine Ev.ps 3 rfl ?_
    refine Ev.virH (t := 11) (as := []) (rest := [vI 0, vR 58 0]) (by rfl) (by rfl) (by rfl) rfl rfl (Nat.le_of_ble_eq_true rfl) (by rfl) h8 hC (by rfl) ?_
    refine Ev.ps 2 rfl ?_
    exact Ev.re rfl rfl rfl rfl rfl
theorem h_addNeed {d : Nat} {p0 p1 : Int32} {h h1 : Hp} {r : Re} {k : Int32} {bb : Bool} {w : Int64} (hC : Cal d 24 [vR 8 0, vI p0, vI p1] h r h1) (h8 : (hget h 8 0).isSome = true) (hw : hget h1 58 0 = some [vL w]) (hA : AgI [(1, 1), (5, 2)] r k (bI bb)) : Cal (d + 1) 181 [vR 8 0, vI p0, vI p1, vR 58 0] h (.inl (some (vI k))) (hoI r h1) := by
  match r, hC, hA with
  | .inl (some (.inl v)), hC, hA =>
    obtain ⟨rfl, rfl⟩ := hA
    refine Cal.mk (n := 5) rfl (Nat.le_of_ble_eq_true rfl) rfl ?_
    refine Ev.ps 5 rfl ?_
    refine Ev.vir (as := [vI p0, vI p1]) (rest := [vI 0, vR 58 0]) (by rfl) (by rfl) (by rfl) rfl rfl (Nat.le_of_ble_eq_true rfl) (by rfl) h8 hC ?_
    cases bb with
    | false =>
      refine Ev.ps 2 rfl ?_
      refine Ev.oJ (w := w) (by rfl) hw ?_
      refine Ev.ps 2 rfl ?_
      exact Ev.re rfl rfl rfl rfl rfl
    | true =>
      refine Ev.ps 3 rfl ?_
      refine Ev.oJ (w := w) (by rfl) hw ?_
      refine Ev.ps 2 rfl ?_
      exact Ev.re rfl rfl rfl rfl rfl
  | .inr E, hC, hA =>
    simp only [AgI, List.mem_cons, Prod.mk.injEq, List.not_mem_nil, or_false] at hA
    rcases hA with ⟨rfl, rfl⟩ | ⟨rfl, rfl⟩
    · refine Cal.mk (n := 5) rfl (Nat.le_of_ble_eq_true rfl) rfl ?_
      refine Ev.ps 5 rfl ?_
      refine Ev.virH (t := 20) (as := [vI p0, vI p1]) (rest := [vI 0, vR 58 0]) (by rfl) (by rfl) (by rfl) rfl rfl (Nat.le_of_ble_eq_true rfl) (by rfl) h8 hC (by rfl) ?_
      refine Ev.ps 2 rfl ?_
      exact Ev.re rfl rfl rfl rfl rfl
    · refine Cal.mk (n := 5) rfl (Nat.le_of_ble_eq_true rfl) rfl ?_
      refine Ev.ps 5 rfl ?_
      refine Ev.virH (t := 24) (as := [vI p0, vI p1]) (rest := [vI 0, vR 58 0]) (by rfl) (by rfl) (by rfl) rfl rfl (Nat.le_of_ble_eq_true rfl) (by rfl) h8 hC (by rfl) ?_
      refine Ev.ps 2 rfl ?_
      exact Ev.re rfl rfl rfl rfl rfl
theorem h_induct {d : Nat} {p0 p1 : Int32} {h h1 : Hp} {r : Re} {k : Int32} {b : Int32} {w : Int64} (hC : Cal d 25 [vR 8 0, vI p0, vI p1] h r h1) (h8 : (hget h 8 0).isSome = true) (hw : hget h1 58 0 = some [vL w]) (hA : AgI [(0, 1), (1, 2), (2, 3)] r k b) : Cal (d + 1) 182 [vR 8 0, vI p0, vI p1, vR 58 0] h (.inl (some (vI k))) (hoI r h1) := by
  match r, hC, hA with
  | .inl (some (.inl v)), hC, hA =>
    obtain ⟨rfl, rfl⟩ := hA
    refine Cal.mk (n := 5) rfl (Nat.le_of_ble_eq_true rfl) rfl ?_
    refine Ev.ps 5 rfl ?_
    refine Ev.vir (as := [vI p0, vI p1]) (rest := [vI 0, vR 58 0]) (by rfl) (by rfl) (by rfl) rfl rfl (Nat.le_of_ble_eq_true rfl) (by rfl) h8 hC ?_
    refine Ev.ps 1 rfl ?_
    refine Ev.oJ (w := w) (by rfl) hw ?_
    refine Ev.ps 2 rfl ?_
    exact Ev.re rfl rfl rfl rfl rfl
  | .inr E, hC, hA =>
    simp only [AgI, List.mem_cons, Prod.mk.injEq, List.not_mem_nil, or_false] at hA
    rcases hA with ⟨rfl, rfl⟩ | ⟨rfl, rfl⟩ | ⟨rfl, rfl⟩
    · refine Cal.mk (n := 5) rfl (Nat.le_of_ble_eq_true rfl) rfl ?_
      refine Ev.ps 5 rfl ?_
      refine Ev.virH (t := 13) (as := [vI p0, vI p1]) (rest := [vI 0, vR 58 0]) (by rfl) (by rfl) (by rfl) rfl rfl (Nat.le_of_ble_eq_true rfl) (by rfl) h8 hC (by rfl) ?_
      refine Ev.ps 2 rfl ?_
      exact Ev.re rfl rfl rfl rfl rfl
    · refine Cal.mk (n := 5) rfl (Nat.le_of_ble_eq_true rfl) rfl ?_
      refine Ev.ps 5 rfl ?_
      refine Ev.virH (t := 17) (as := [vI p0, vI p1]) (rest := [vI 0, vR 58 0]) (by rfl) (by rfl) (by rfl) rfl rfl (Nat.le_of_ble_eq_true rfl) (by rfl) h8 hC (by rfl) ?_
      refine Ev.ps 2 rfl ?_
      exact Ev.re rfl rfl rfl rfl rfl
    · refine Cal.mk (n := 5) rfl (Nat.le_of_ble_eq_true rfl) rfl ?_
      refine Ev.ps 5 rfl ?_
      refine Ev.virH (t := 21) (as := [vI p0, vI p1]) (rest := [vI 0, vR 58 0]) (by rfl) (by rfl) (by rfl) rfl rfl (Nat.le_of_ble_eq_true rfl) (by rfl) h8 hC (by rfl) ?_
      refine Ev.ps 2 rfl ?_
      exact Ev.re rfl rfl rfl rfl rfl
theorem h_isLive {d : Nat} {p0 p1 p2 : Int32} {h h1 : Hp} {r : Re} {k : Int32} {bb : Bool} {w : Int64} (hC : Cal d 26 [vR 8 0, vI p0, vI p1, vI p2] h r h1) (h8 : (hget h 8 0).isSome = true) (hw : hget h1 58 0 = some [vL w]) (hA : AgI [(0, 1), (1, 2)] r k (bI bb)) : Cal (d + 1) 183 [vR 8 0, vI p0, vI p1, vI p2, vR 58 0] h (.inl (some (vI k))) (hoI r h1) := by
  match r, hC, hA with
  | .inl (some (.inl v)), hC, hA =>
    obtain ⟨rfl, rfl⟩ := hA
    refine Cal.mk (n := 6) rfl (Nat.le_of_ble_eq_true rfl) rfl ?_
    refine Ev.ps 6 rfl ?_
    refine Ev.vir (as := [vI p0, vI p1, vI p2]) (rest := [vI 0, vR 58 0]) (by rfl) (by rfl) (by rfl) rfl rfl (Nat.le_of_ble_eq_true rfl) (by rfl) h8 hC ?_
    cases bb with
    | false =>
      refine Ev.ps 2 rfl ?_
      refine Ev.oJ (w := w) (by rfl) hw ?_
      refine Ev.ps 2 rfl ?_
      exact Ev.re rfl rfl rfl rfl rfl
    | true =>
      refine Ev.ps 3 rfl ?_
      refine Ev.oJ (w := w) (by rfl) hw ?_
      refine Ev.ps 2 rfl ?_
      exact Ev.re rfl rfl rfl rfl rfl
  | .inr E, hC, hA =>
    simp only [AgI, List.mem_cons, Prod.mk.injEq, List.not_mem_nil, or_false] at hA
    rcases hA with ⟨rfl, rfl⟩ | ⟨rfl, rfl⟩
    · refine Cal.mk (n := 6) rfl (Nat.le_of_ble_eq_true rfl) rfl ?_
      refine Ev.ps 6 rfl ?_
      refine Ev.virH (t := 22) (as := [vI p0, vI p1, vI p2]) (rest := [vI 0, vR 58 0]) (by rfl) (by rfl) (by rfl) rfl rfl (Nat.le_of_ble_eq_true rfl) (by rfl) h8 hC (by rfl) ?_
      refine Ev.ps 2 rfl ?_
      exact Ev.re rfl rfl rfl rfl rfl
    · refine Cal.mk (n := 6) rfl (Nat.le_of_ble_eq_true rfl) rfl ?_
      refine Ev.ps 6 rfl ?_
      refine Ev.virH (t := 26) (as := [vI p0, vI p1, vI p2]) (rest := [vI 0, vR 58 0]) (by rfl) (by rfl) (by rfl) rfl rfl (Nat.le_of_ble_eq_true rfl) (by rfl) h8 hC (by rfl) ?_
      refine Ev.ps 2 rfl ?_
      exact Ev.re rfl rfl rfl rfl rfl
theorem h_book {d : Nat} {p0 p1 p2 p3 p4 p5 : Int32} {h h1 : Hp} {r : Re} {k : Int32} {b : Int32} {w : Int64} (hC : Cal d 27 [vR 8 0, vI p0, vI p1, vI p2, vI p3, vI p4, vI p5] h r h1) (h8 : (hget h 8 0).isSome = true) (hw : hget h1 58 0 = some [vL w]) (hA : AgI [(0, 1), (1, 2), (2, 3), (3, 4), (4, 5), (5, 6)] r k b) : Cal (d + 1) 184 [vR 8 0, vI p0, vI p1, vI p2, vI p3, vI p4, vI p5, vR 58 0] h (.inl (some (vI k))) (hoI r h1) := by
  match r, hC, hA with
  | .inl (some (.inl v)), hC, hA =>
    obtain ⟨rfl, rfl⟩ := hA
    refine Cal.mk (n := 9) rfl (Nat.le_of_ble_eq_true rfl) rfl ?_
    refine Ev.ps 9 rfl ?_
    refine Ev.vir (as := [vI p0, vI p1, vI p2, vI p3, vI p4, vI p5]) (rest := [vI 0, vR 58 0]) (by rfl) (by rfl) (by rfl) rfl rfl (Nat.le_of_ble_eq_true rfl) (by rfl) h8 hC ?_
    refine Ev.ps 1 rfl ?_
    refine Ev.oJ (w := w) (by rfl) hw ?_
    refine Ev.ps 2 rfl ?_
    exact Ev.re rfl rfl rfl rfl rfl
  | .inr E, hC, hA =>
    simp only [AgI, List.mem_cons, Prod.mk.injEq, List.not_mem_nil, or_false] at hA
    rcases hA with ⟨rfl, rfl⟩ | ⟨rfl, rfl⟩ | ⟨rfl, rfl⟩ | ⟨rfl, rfl⟩ | ⟨rfl, rfl⟩ | ⟨rfl, rfl⟩
    · refine Cal.mk (n := 9) rfl (Nat.le_of_ble_eq_true rfl) rfl ?_
      refine Ev.ps 9 rfl ?_
      refine Ev.virH (t := 21) (as := [vI p0, vI p1, vI p2, vI p3, vI p4, vI p5]) (rest := [vI 0, vR 58 0]) (by rfl) (by rfl) (by rfl) rfl rfl (Nat.le_of_ble_eq_true rfl) (by rfl) h8 hC (by rfl) ?_
      refine Ev.ps 2 rfl ?_
      exact Ev.re rfl rfl rfl rfl rfl
    · refine Cal.mk (n := 9) rfl (Nat.le_of_ble_eq_true rfl) rfl ?_
      refine Ev.ps 9 rfl ?_
      refine Ev.virH (t := 25) (as := [vI p0, vI p1, vI p2, vI p3, vI p4, vI p5]) (rest := [vI 0, vR 58 0]) (by rfl) (by rfl) (by rfl) rfl rfl (Nat.le_of_ble_eq_true rfl) (by rfl) h8 hC (by rfl) ?_
      refine Ev.ps 2 rfl ?_
      exact Ev.re rfl rfl rfl rfl rfl
    · refine Cal.mk (n := 9) rfl (Nat.le_of_ble_eq_true rfl) rfl ?_
      refine Ev.ps 9 rfl ?_
      refine Ev.virH (t := 29) (as := [vI p0, vI p1, vI p2, vI p3, vI p4, vI p5]) (rest := [vI 0, vR 58 0]) (by rfl) (by rfl) (by rfl) rfl rfl (Nat.le_of_ble_eq_true rfl) (by rfl) h8 hC (by rfl) ?_
      refine Ev.ps 2 rfl ?_
      exact Ev.re rfl rfl rfl rfl rfl
    · refine Cal.mk (n := 9) rfl (Nat.le_of_ble_eq_true rfl) rfl ?_
      refine Ev.ps 9 rfl ?_
      refine Ev.virH (t := 33) (as := [vI p0, vI p1, vI p2, vI p3, vI p4, vI p5]) (rest := [vI 0, vR 58 0]) (by rfl) (by rfl) (by rfl) rfl rfl (Nat.le_of_ble_eq_true rfl) (by rfl) h8 hC (by rfl) ?_
      refine Ev.ps 2 rfl ?_
      exact Ev.re rfl rfl rfl rfl rfl
    · refine Cal.mk (n := 9) rfl (Nat.le_of_ble_eq_true rfl) rfl ?_
      refine Ev.ps 9 rfl ?_
      refine Ev.virH (t := 37) (as := [vI p0, vI p1, vI p2, vI p3, vI p4, vI p5]) (rest := [vI 0, vR 58 0]) (by rfl) (by rfl) (by rfl) rfl rfl (Nat.le_of_ble_eq_true rfl) (by rfl) h8 hC (by rfl) ?_
      refine Ev.ps 2 rfl ?_
      exact Ev.re rfl rfl rfl rfl rfl
    · refine Cal.mk (n := 9) rfl (Nat.le_of_ble_eq_true rfl) rfl ?_
      refine Ev.ps 9 rfl ?_
      refine Ev.virH (t := 41) (as := [vI p0, vI p1, vI p2, vI p3, vI p4, vI p5]) (rest := [vI 0, vR 58 0]) (by rfl) (by rfl) (by rfl) rfl rfl (Nat.le_of_ble_eq_true rfl) (by rfl) h8 hC (by rfl) ?_
      refine Ev.ps 2 rfl ?_
      exact Ev.re rfl rfl rfl rfl rfl
theorem h_await {d : Nat} {p0 p1 p2 p3 p4 p5 : Int32} {h h1 : Hp} {r : Re} {k : Int32} {b : Int32} {w : Int64} (hC : Cal d 28 [vR 8 0, vI p0, vI p1, vI p2, vI p3, vI p4, vI p5] h r h1) (h8 : (hget h 8 0).isSome = true) (hw : hget h1 58 0 = some [vL w]) (hA : AgI [(0, 1), (1, 2), (2, 3), (5, 4)] r k b) : Cal (d + 1) 185 [vR 8 0, vI p0, vI p1, vI p2, vI p3, vI p4, vI p5, vR 58 0] h (.inl (some (vI k))) (hoI r h1) := by
  match r, hC, hA with
  | .inl (some (.inl v)), hC, hA =>
    obtain ⟨rfl, rfl⟩ := hA
    refine Cal.mk (n := 9) rfl (Nat.le_of_ble_eq_true rfl) rfl ?_
    refine Ev.ps 9 rfl ?_
    refine Ev.vir (as := [vI p0, vI p1, vI p2, vI p3, vI p4, vI p5]) (rest := [vI 0, vR 58 0]) (by rfl) (by rfl) (by rfl) rfl rfl (Nat.le_of_ble_eq_true rfl) (by rfl) h8 hC ?_
    refine Ev.ps 1 rfl ?_
    refine Ev.oJ (w := w) (by rfl) hw ?_
    refine Ev.ps 2 rfl ?_
    exact Ev.re rfl rfl rfl rfl rfl
  | .inr E, hC, hA =>
    simp only [AgI, List.mem_cons, Prod.mk.injEq, List.not_mem_nil, or_false] at hA
    rcases hA with ⟨rfl, rfl⟩ | ⟨rfl, rfl⟩ | ⟨rfl, rfl⟩ | ⟨rfl, rfl⟩
    · refine Cal.mk (n := 9) rfl (Nat.le_of_ble_eq_true rfl) rfl ?_
      refine Ev.ps 9 rfl ?_
      refine Ev.virH (t := 21) (as := [vI p0, vI p1, vI p2, vI p3, vI p4, vI p5]) (rest := [vI 0, vR 58 0]) (by rfl) (by rfl) (by rfl) rfl rfl (Nat.le_of_ble_eq_true rfl) (by rfl) h8 hC (by rfl) ?_
      refine Ev.ps 2 rfl ?_
      exact Ev.re rfl rfl rfl rfl rfl
    · refine Cal.mk (n := 9) rfl (Nat.le_of_ble_eq_true rfl) rfl ?_
      refine Ev.ps 9 rfl ?_
      refine Ev.virH (t := 25) (as := [vI p0, vI p1, vI p2, vI p3, vI p4, vI p5]) (rest := [vI 0, vR 58 0]) (by rfl) (by rfl) (by rfl) rfl rfl (Nat.le_of_ble_eq_true rfl) (by rfl) h8 hC (by rfl) ?_
      refine Ev.ps 2 rfl ?_
      exact Ev.re rfl rfl rfl rfl rfl
    · refine Cal.mk (n := 9) rfl (Nat.le_of_ble_eq_true rfl) rfl ?_
      refine Ev.ps 9 rfl ?_
      refine Ev.virH (t := 29) (as := [vI p0, vI p1, vI p2, vI p3, vI p4, vI p5]) (rest := [vI 0, vR 58 0]) (by rfl) (by rfl) (by rfl) rfl rfl (Nat.le_of_ble_eq_true rfl) (by rfl) h8 hC (by rfl) ?_
      refine Ev.ps 2 rfl ?_
      exact Ev.re rfl rfl rfl rfl rfl
    · refine Cal.mk (n := 9) rfl (Nat.le_of_ble_eq_true rfl) rfl ?_
      refine Ev.ps 9 rfl ?_
      refine Ev.virH (t := 33) (as := [vI p0, vI p1, vI p2, vI p3, vI p4, vI p5]) (rest := [vI 0, vR 58 0]) (by rfl) (by rfl) (by rfl) rfl rfl (Nat.le_of_ble_eq_true rfl) (by rfl) h8 hC (by rfl) ?_
      refine Ev.ps 2 rfl ?_
      exact Ev.re rfl rfl rfl rfl rfl
theorem h_check {d : Nat} {p0 p1 p2 p3 p4 p5 : Int32} {h h1 : Hp} {r : Re} {k : Int32} {b : Int32} {w : Int64} (hC : Cal d 29 [vR 8 0, vI p0, vI p1, vI p2, vI p3, vI p4, vI p5] h r h1) (h8 : (hget h 8 0).isSome = true) (hw : hget h1 58 0 = some [vL w]) (hA : AgI [(0, 1), (1, 2)] r k b) : Cal (d + 1) 186 [vR 8 0, vI p0, vI p1, vI p2, vI p3, vI p4, vI p5, vR 58 0] h (.inl (some (vI k))) (hoI r h1) := by
  match r, hC, hA with
  | .inl (some (.inl v)), hC, hA =>
    obtain ⟨rfl, rfl⟩ := hA
    refine Cal.mk (n := 9) rfl (Nat.le_of_ble_eq_true rfl) rfl ?_
    refine Ev.ps 9 rfl ?_
    refine Ev.vir (as := [vI p0, vI p1, vI p2, vI p3, vI p4, vI p5]) (rest := [vI 0, vR 58 0]) (by rfl) (by rfl) (by rfl) rfl rfl (Nat.le_of_ble_eq_true rfl) (by rfl) h8 hC ?_
    refine Ev.ps 1 rfl ?_
    refine Ev.oJ (w := w) (by rfl) hw ?_
    refine Ev.ps 2 rfl ?_
    exact Ev.re rfl rfl rfl rfl rfl
  | .inr E, hC, hA =>
    simp only [AgI, List.mem_cons, Prod.mk.injEq, List.not_mem_nil, or_false] at hA
    rcases hA with ⟨rfl, rfl⟩ | ⟨rfl, rfl⟩
    · refine Cal.mk (n := 9) rfl (Nat.le_of_ble_eq_true rfl) rfl ?_
      refine Ev.ps 9 rfl ?_
      refine Ev.virH (t := 21) (as := [vI p0, vI p1, vI p2, vI p3, vI p4, vI p5]) (rest := [vI 0, vR 58 0]) (by rfl) (by rfl) (by rfl) rfl rfl (Nat.le_of_ble_eq_true rfl) (by rfl) h8 hC (by rfl) ?_
      refine Ev.ps 2 rfl ?_
      exact Ev.re rfl rfl rfl rfl rfl
    · refine Cal.mk (n := 9) rfl (Nat.le_of_ble_eq_true rfl) rfl ?_
      refine Ev.ps 9 rfl ?_
      refine Ev.virH (t := 25) (as := [vI p0, vI p1, vI p2, vI p3, vI p4, vI p5]) (rest := [vI 0, vR 58 0]) (by rfl) (by rfl) (by rfl) rfl rfl (Nat.le_of_ble_eq_true rfl) (by rfl) h8 hC (by rfl) ?_
      refine Ev.ps 2 rfl ?_
      exact Ev.re rfl rfl rfl rfl rfl
theorem h_cancel {d : Nat} {p0 : Int32} {h h1 : Hp} {r : Re} {k : Int32} {b : Int32} {w : Int64} (hC : Cal d 30 [vR 8 0, vI p0] h r h1) (h8 : (hget h 8 0).isSome = true) (hw : hget h1 58 0 = some [vL w]) (hA : AgI [(4, 1), (5, 2)] r k b) : Cal (d + 1) 187 [vR 8 0, vI p0, vR 58 0] h (.inl (some (vI k))) (hoI r h1) := by
  match r, hC, hA with
  | .inl (some (.inl v)), hC, hA =>
    obtain ⟨rfl, rfl⟩ := hA
    refine Cal.mk (n := 4) rfl (Nat.le_of_ble_eq_true rfl) rfl ?_
    refine Ev.ps 4 rfl ?_
    refine Ev.vir (as := [vI p0]) (rest := [vI 0, vR 58 0]) (by rfl) (by rfl) (by rfl) rfl rfl (Nat.le_of_ble_eq_true rfl) (by rfl) h8 hC ?_
    refine Ev.ps 1 rfl ?_
    refine Ev.oJ (w := w) (by rfl) hw ?_
    refine Ev.ps 2 rfl ?_
    exact Ev.re rfl rfl rfl rfl rfl
  | .inr E, hC, hA =>
    simp only [AgI, List.mem_cons, Prod.mk.injEq, List.not_mem_nil, or_false] at hA
    rcases hA with ⟨rfl, rfl⟩ | ⟨rfl, rfl⟩
    · refine Cal.mk (n := 4) rfl (Nat.le_of_ble_eq_true rfl) rfl ?_
      refine Ev.ps 4 rfl ?_
      refine Ev.virH (t := 12) (as := [vI p0]) (rest := [vI 0, vR 58 0]) (by rfl) (by rfl) (by rfl) rfl rfl (Nat.le_of_ble_eq_true rfl) (by rfl) h8 hC (by rfl) ?_
      refine Ev.ps 2 rfl ?_
      exact Ev.re rfl rfl rfl rfl rfl
    · refine Cal.mk (n := 4) rfl (Nat.le_of_ble_eq_true rfl) rfl ?_
      refine Ev.ps 4 rfl ?_
      refine Ev.virH (t := 15) (as := [vI p0]) (rest := [vI 0, vR 58 0]) (by rfl) (by rfl) (by rfl) rfl rfl (Nat.le_of_ble_eq_true rfl) (by rfl) h8 hC (by rfl) ?_
      refine Ev.ps 2 rfl ?_
      exact Ev.re rfl rfl rfl rfl rfl
theorem h_stateOf {d : Nat} {p0 : Int32} {h h1 : Hp} {r : Re} {k : Int32} {b : Int32} {w : Int64} (hC : Cal d 31 [vR 8 0, vI p0] h r h1) (h8 : (hget h 8 0).isSome = true) (hw : hget h1 58 0 = some [vL w]) (hA : AgI [(4, 1)] r k b) : Cal (d + 1) 188 [vR 8 0, vI p0, vR 58 0] h (.inl (some (vI k))) (hoI r h1) := by
  match r, hC, hA with
  | .inl (some (.inl v)), hC, hA =>
    obtain ⟨rfl, rfl⟩ := hA
    refine Cal.mk (n := 4) rfl (Nat.le_of_ble_eq_true rfl) rfl ?_
    refine Ev.ps 4 rfl ?_
    refine Ev.vir (as := [vI p0]) (rest := [vI 0, vR 58 0]) (by rfl) (by rfl) (by rfl) rfl rfl (Nat.le_of_ble_eq_true rfl) (by rfl) h8 hC ?_
    refine Ev.ps 1 rfl ?_
    refine Ev.oJ (w := w) (by rfl) hw ?_
    refine Ev.ps 2 rfl ?_
    exact Ev.re rfl rfl rfl rfl rfl
  | .inr E, hC, hA =>
    simp only [AgI, List.mem_cons, Prod.mk.injEq, List.not_mem_nil, or_false] at hA
    rcases hA with ⟨rfl, rfl⟩
    refine Cal.mk (n := 4) rfl (Nat.le_of_ble_eq_true rfl) rfl ?_
    refine Ev.ps 4 rfl ?_
    refine Ev.virH (t := 12) (as := [vI p0]) (rest := [vI 0, vR 58 0]) (by rfl) (by rfl) (by rfl) rfl rfl (Nat.le_of_ble_eq_true rfl) (by rfl) h8 hC (by rfl) ?_
    refine Ev.ps 2 rfl ?_
    exact Ev.re rfl rfl rfl rfl rfl
theorem h_endDay {d : Nat} {h h1 : Hp} {r : Re} {k : Int32} {b : Int32} {w : Int64} (hC : Cal d 33 [vR 8 0] h r h1) (h8 : (hget h 8 0).isSome = true) (hw : hget h1 58 0 = some [vL w]) (hA : AgI [(5, 1)] r k b) : Cal (d + 1) 189 [vR 8 0, vR 58 0] h (.inl (some (vI k))) (hoI r h1) := by
  match r, hC, hA with
  | .inl (some (.inl v)), hC, hA =>
    obtain ⟨rfl, rfl⟩ := hA
    refine Cal.mk (n := 3) rfl (Nat.le_of_ble_eq_true rfl) rfl ?_
    refine Ev.ps 3 rfl ?_
    refine Ev.vir (as := []) (rest := [vI 0, vR 58 0]) (by rfl) (by rfl) (by rfl) rfl rfl (Nat.le_of_ble_eq_true rfl) (by rfl) h8 hC ?_
    refine Ev.ps 1 rfl ?_
    refine Ev.oJ (w := w) (by rfl) hw ?_
    refine Ev.ps 2 rfl ?_
    exact Ev.re rfl rfl rfl rfl rfl
  | .inr E, hC, hA =>
    simp only [AgI, List.mem_cons, Prod.mk.injEq, List.not_mem_nil, or_false] at hA
    rcases hA with ⟨rfl, rfl⟩
    refine Cal.mk (n := 3) rfl (Nat.le_of_ble_eq_true rfl) rfl ?_
    refine Ev.ps 3 rfl ?_
    refine Ev.virH (t := 11) (as := []) (rest := [vI 0, vR 58 0]) (by rfl) (by rfl) (by rfl) rfl rfl (Nat.le_of_ble_eq_true rfl) (by rfl) h8 hC (by rfl) ?_
    refine Ev.ps 2 rfl ?_
    exact Ev.re rfl rfl rfl rfl rfl
theorem h_minuteAt {d : Nat} {p0 p1 p2 : Int32} {h h1 : Hp} {r : Re} {k : Int32} {b : Int32} {w : Int64} (hC : Cal d 34 [vR 8 0, vI p0, vI p1, vI p2] h r h1) (h8 : (hget h 8 0).isSome = true) (hw : hget h1 58 0 = some [vL w]) (hA : AgI [(0, 1), (1, 2)] r k b) : Cal (d + 1) 190 [vR 8 0, vI p0, vI p1, vI p2, vR 58 0] h (.inl (some (vI k))) (hoI r h1) := by
  match r, hC, hA with
  | .inl (some (.inl v)), hC, hA =>
    obtain ⟨rfl, rfl⟩ := hA
    refine Cal.mk (n := 6) rfl (Nat.le_of_ble_eq_true rfl) rfl ?_
    refine Ev.ps 6 rfl ?_
    refine Ev.vir (as := [vI p0, vI p1, vI p2]) (rest := [vI 0, vR 58 0]) (by rfl) (by rfl) (by rfl) rfl rfl (Nat.le_of_ble_eq_true rfl) (by rfl) h8 hC ?_
    refine Ev.ps 1 rfl ?_
    refine Ev.oJ (w := w) (by rfl) hw ?_
    refine Ev.ps 2 rfl ?_
    exact Ev.re rfl rfl rfl rfl rfl
  | .inr E, hC, hA =>
    simp only [AgI, List.mem_cons, Prod.mk.injEq, List.not_mem_nil, or_false] at hA
    rcases hA with ⟨rfl, rfl⟩ | ⟨rfl, rfl⟩
    · refine Cal.mk (n := 6) rfl (Nat.le_of_ble_eq_true rfl) rfl ?_
      refine Ev.ps 6 rfl ?_
      refine Ev.virH (t := 15) (as := [vI p0, vI p1, vI p2]) (rest := [vI 0, vR 58 0]) (by rfl) (by rfl) (by rfl) rfl rfl (Nat.le_of_ble_eq_true rfl) (by rfl) h8 hC (by rfl) ?_
      refine Ev.ps 2 rfl ?_
      exact Ev.re rfl rfl rfl rfl rfl
    · refine Cal.mk (n := 6) rfl (Nat.le_of_ble_eq_true rfl) rfl ?_
      refine Ev.ps 6 rfl ?_
      refine Ev.virH (t := 19) (as := [vI p0, vI p1, vI p2]) (rest := [vI 0, vR 58 0]) (by rfl) (by rfl) (by rfl) rfl rfl (Nat.le_of_ble_eq_true rfl) (by rfl) h8 hC (by rfl) ?_
      refine Ev.ps 2 rfl ?_
      exact Ev.re rfl rfl rfl rfl rfl
theorem h_usedMinutes {d : Nat} {p0 p1 : Int32} {h h1 : Hp} {r : Re} {k : Int32} {b : Int32} {w : Int64} (hC : Cal d 35 [vR 8 0, vI p0, vI p1] h r h1) (h8 : (hget h 8 0).isSome = true) (hw : hget h1 58 0 = some [vL w]) (hA : AgI [(0, 1), (1, 2)] r k b) : Cal (d + 1) 191 [vR 8 0, vI p0, vI p1, vR 58 0] h (.inl (some (vI k))) (hoI r h1) := by
  match r, hC, hA with
  | .inl (some (.inl v)), hC, hA =>
    obtain ⟨rfl, rfl⟩ := hA
    refine Cal.mk (n := 5) rfl (Nat.le_of_ble_eq_true rfl) rfl ?_
    refine Ev.ps 5 rfl ?_
    refine Ev.vir (as := [vI p0, vI p1]) (rest := [vI 0, vR 58 0]) (by rfl) (by rfl) (by rfl) rfl rfl (Nat.le_of_ble_eq_true rfl) (by rfl) h8 hC ?_
    refine Ev.ps 1 rfl ?_
    refine Ev.oJ (w := w) (by rfl) hw ?_
    refine Ev.ps 2 rfl ?_
    exact Ev.re rfl rfl rfl rfl rfl
  | .inr E, hC, hA =>
    simp only [AgI, List.mem_cons, Prod.mk.injEq, List.not_mem_nil, or_false] at hA
    rcases hA with ⟨rfl, rfl⟩ | ⟨rfl, rfl⟩
    · refine Cal.mk (n := 5) rfl (Nat.le_of_ble_eq_true rfl) rfl ?_
      refine Ev.ps 5 rfl ?_
      refine Ev.virH (t := 13) (as := [vI p0, vI p1]) (rest := [vI 0, vR 58 0]) (by rfl) (by rfl) (by rfl) rfl rfl (Nat.le_of_ble_eq_true rfl) (by rfl) h8 hC (by rfl) ?_
      refine Ev.ps 2 rfl ?_
      exact Ev.re rfl rfl rfl rfl rfl
    · refine Cal.mk (n := 5) rfl (Nat.le_of_ble_eq_true rfl) rfl ?_
      refine Ev.ps 5 rfl ?_
      refine Ev.virH (t := 17) (as := [vI p0, vI p1]) (rest := [vI 0, vR 58 0]) (by rfl) (by rfl) (by rfl) rfl rfl (Nat.le_of_ble_eq_true rfl) (by rfl) h8 hC (by rfl) ?_
      refine Ev.ps 2 rfl ?_
      exact Ev.re rfl rfl rfl rfl rfl
theorem h_usedByMinutes {d : Nat} {p0 p1 : Int32} {h h1 : Hp} {r : Re} {k : Int32} {b : Int32} {w : Int64} (hC : Cal d 36 [vR 8 0, vI p0, vI p1] h r h1) (h8 : (hget h 8 0).isSome = true) (hw : hget h1 58 0 = some [vL w]) (hA : AgI [(0, 1), (1, 2)] r k b) : Cal (d + 1) 192 [vR 8 0, vI p0, vI p1, vR 58 0] h (.inl (some (vI k))) (hoI r h1) := by
  match r, hC, hA with
  | .inl (some (.inl v)), hC, hA =>
    obtain ⟨rfl, rfl⟩ := hA
    refine Cal.mk (n := 5) rfl (Nat.le_of_ble_eq_true rfl) rfl ?_
    refine Ev.ps 5 rfl ?_
    refine Ev.vir (as := [vI p0, vI p1]) (rest := [vI 0, vR 58 0]) (by rfl) (by rfl) (by rfl) rfl rfl (Nat.le_of_ble_eq_true rfl) (by rfl) h8 hC ?_
    refine Ev.ps 1 rfl ?_
    refine Ev.oJ (w := w) (by rfl) hw ?_
    refine Ev.ps 2 rfl ?_
    exact Ev.re rfl rfl rfl rfl rfl
  | .inr E, hC, hA =>
    simp only [AgI, List.mem_cons, Prod.mk.injEq, List.not_mem_nil, or_false] at hA
    rcases hA with ⟨rfl, rfl⟩ | ⟨rfl, rfl⟩
    · refine Cal.mk (n := 5) rfl (Nat.le_of_ble_eq_true rfl) rfl ?_
      refine Ev.ps 5 rfl ?_
      refine Ev.virH (t := 13) (as := [vI p0, vI p1]) (rest := [vI 0, vR 58 0]) (by rfl) (by rfl) (by rfl) rfl rfl (Nat.le_of_ble_eq_true rfl) (by rfl) h8 hC (by rfl) ?_
      refine Ev.ps 2 rfl ?_
      exact Ev.re rfl rfl rfl rfl rfl
    · refine Cal.mk (n := 5) rfl (Nat.le_of_ble_eq_true rfl) rfl ?_
      refine Ev.ps 5 rfl ?_
      refine Ev.virH (t := 17) (as := [vI p0, vI p1]) (rest := [vI 0, vR 58 0]) (by rfl) (by rfl) (by rfl) rfl rfl (Nat.le_of_ble_eq_true rfl) (by rfl) h8 hC (by rfl) ?_
      refine Ev.ps 2 rfl ?_
      exact Ev.re rfl rfl rfl rfl rfl
theorem h_setupMinutes {d : Nat} {p0 p1 : Int32} {h h1 : Hp} {r : Re} {k : Int32} {b : Int32} {w : Int64} (hC : Cal d 37 [vR 8 0, vI p0, vI p1] h r h1) (h8 : (hget h 8 0).isSome = true) (hw : hget h1 58 0 = some [vL w]) (hA : AgI [(0, 1), (1, 2)] r k b) : Cal (d + 1) 193 [vR 8 0, vI p0, vI p1, vR 58 0] h (.inl (some (vI k))) (hoI r h1) := by
  match r, hC, hA with
  | .inl (some (.inl v)), hC, hA =>
    obtain ⟨rfl, rfl⟩ := hA
    refine Cal.mk (n := 5) rfl (Nat.le_of_ble_eq_true rfl) rfl ?_
    refine Ev.ps 5 rfl ?_
    refine Ev.vir (as := [vI p0, vI p1]) (rest := [vI 0, vR 58 0]) (by rfl) (by rfl) (by rfl) rfl rfl (Nat.le_of_ble_eq_true rfl) (by rfl) h8 hC ?_
    refine Ev.ps 1 rfl ?_
    refine Ev.oJ (w := w) (by rfl) hw ?_
    refine Ev.ps 2 rfl ?_
    exact Ev.re rfl rfl rfl rfl rfl
  | .inr E, hC, hA =>
    simp only [AgI, List.mem_cons, Prod.mk.injEq, List.not_mem_nil, or_false] at hA
    rcases hA with ⟨rfl, rfl⟩ | ⟨rfl, rfl⟩
    · refine Cal.mk (n := 5) rfl (Nat.le_of_ble_eq_true rfl) rfl ?_
      refine Ev.ps 5 rfl ?_
      refine Ev.virH (t := 13) (as := [vI p0, vI p1]) (rest := [vI 0, vR 58 0]) (by rfl) (by rfl) (by rfl) rfl rfl (Nat.le_of_ble_eq_true rfl) (by rfl) h8 hC (by rfl) ?_
      refine Ev.ps 2 rfl ?_
      exact Ev.re rfl rfl rfl rfl rfl
    · refine Cal.mk (n := 5) rfl (Nat.le_of_ble_eq_true rfl) rfl ?_
      refine Ev.ps 5 rfl ?_
      refine Ev.virH (t := 17) (as := [vI p0, vI p1]) (rest := [vI 0, vR 58 0]) (by rfl) (by rfl) (by rfl) rfl rfl (Nat.le_of_ble_eq_true rfl) (by rfl) h8 hC (by rfl) ?_
      refine Ev.ps 2 rfl ?_
      exact Ev.re rfl rfl rfl rfl rfl
theorem h_firstStart {d : Nat} {p0 p1 p2 p3 : Int32} {h h1 : Hp} {r : Re} {k : Int32} {b : Int32} {w : Int64} (hC : Cal d 38 [vR 8 0, vI p0, vI p1, vI p2, vI p3] h r h1) (h8 : (hget h 8 0).isSome = true) (hw : hget h1 58 0 = some [vL w]) (hA : AgI [(0, 1), (1, 2), (4, 3)] r k b) : Cal (d + 1) 194 [vR 8 0, vI p0, vI p1, vI p2, vI p3, vR 58 0] h (.inl (some (vI k))) (hoI r h1) := by
  match r, hC, hA with
  | .inl (some (.inl v)), hC, hA =>
    obtain ⟨rfl, rfl⟩ := hA
    refine Cal.mk (n := 7) rfl (Nat.le_of_ble_eq_true rfl) rfl ?_
    refine Ev.ps 7 rfl ?_
    refine Ev.vir (as := [vI p0, vI p1, vI p2, vI p3]) (rest := [vI 0, vR 58 0]) (by rfl) (by rfl) (by rfl) rfl rfl (Nat.le_of_ble_eq_true rfl) (by rfl) h8 hC ?_
    refine Ev.ps 1 rfl ?_
    refine Ev.oJ (w := w) (by rfl) hw ?_
    refine Ev.ps 2 rfl ?_
    exact Ev.re rfl rfl rfl rfl rfl
  | .inr E, hC, hA =>
    simp only [AgI, List.mem_cons, Prod.mk.injEq, List.not_mem_nil, or_false] at hA
    rcases hA with ⟨rfl, rfl⟩ | ⟨rfl, rfl⟩ | ⟨rfl, rfl⟩
    · refine Cal.mk (n := 7) rfl (Nat.le_of_ble_eq_true rfl) rfl ?_
      refine Ev.ps 7 rfl ?_
      refine Ev.virH (t := 17) (as := [vI p0, vI p1, vI p2, vI p3]) (rest := [vI 0, vR 58 0]) (by rfl) (by rfl) (by rfl) rfl rfl (Nat.le_of_ble_eq_true rfl) (by rfl) h8 hC (by rfl) ?_
      refine Ev.ps 2 rfl ?_
      exact Ev.re rfl rfl rfl rfl rfl
    · refine Cal.mk (n := 7) rfl (Nat.le_of_ble_eq_true rfl) rfl ?_
      refine Ev.ps 7 rfl ?_
      refine Ev.virH (t := 21) (as := [vI p0, vI p1, vI p2, vI p3]) (rest := [vI 0, vR 58 0]) (by rfl) (by rfl) (by rfl) rfl rfl (Nat.le_of_ble_eq_true rfl) (by rfl) h8 hC (by rfl) ?_
      refine Ev.ps 2 rfl ?_
      exact Ev.re rfl rfl rfl rfl rfl
    · refine Cal.mk (n := 7) rfl (Nat.le_of_ble_eq_true rfl) rfl ?_
      refine Ev.ps 7 rfl ?_
      refine Ev.virH (t := 25) (as := [vI p0, vI p1, vI p2, vI p3]) (rest := [vI 0, vR 58 0]) (by rfl) (by rfl) (by rfl) rfl rfl (Nat.le_of_ble_eq_true rfl) (by rfl) h8 hC (by rfl) ?_
      refine Ev.ps 2 rfl ?_
      exact Ev.re rfl rfl rfl rfl rfl
theorem h_firstByMinutes {d : Nat} {p0 p1 p2 p3 : Int32} {h h1 : Hp} {r : Re} {k : Int32} {b : Int32} {w : Int64} (hC : Cal d 39 [vR 8 0, vI p0, vI p1, vI p2, vI p3] h r h1) (h8 : (hget h 8 0).isSome = true) (hw : hget h1 58 0 = some [vL w]) (hA : AgI [(0, 1), (1, 2), (4, 3)] r k b) : Cal (d + 1) 195 [vR 8 0, vI p0, vI p1, vI p2, vI p3, vR 58 0] h (.inl (some (vI k))) (hoI r h1) := by
  match r, hC, hA with
  | .inl (some (.inl v)), hC, hA =>
    obtain ⟨rfl, rfl⟩ := hA
    refine Cal.mk (n := 7) rfl (Nat.le_of_ble_eq_true rfl) rfl ?_
    refine Ev.ps 7 rfl ?_
    refine Ev.vir (as := [vI p0, vI p1, vI p2, vI p3]) (rest := [vI 0, vR 58 0]) (by rfl) (by rfl) (by rfl) rfl rfl (Nat.le_of_ble_eq_true rfl) (by rfl) h8 hC ?_
    refine Ev.ps 1 rfl ?_
    refine Ev.oJ (w := w) (by rfl) hw ?_
    refine Ev.ps 2 rfl ?_
    exact Ev.re rfl rfl rfl rfl rfl
  | .inr E, hC, hA =>
    simp only [AgI, List.mem_cons, Prod.mk.injEq, List.not_mem_nil, or_false] at hA
    rcases hA with ⟨rfl, rfl⟩ | ⟨rfl, rfl⟩ | ⟨rfl, rfl⟩
    · refine Cal.mk (n := 7) rfl (Nat.le_of_ble_eq_true rfl) rfl ?_
      refine Ev.ps 7 rfl ?_
      refine Ev.virH (t := 17) (as := [vI p0, vI p1, vI p2, vI p3]) (rest := [vI 0, vR 58 0]) (by rfl) (by rfl) (by rfl) rfl rfl (Nat.le_of_ble_eq_true rfl) (by rfl) h8 hC (by rfl) ?_
      refine Ev.ps 2 rfl ?_
      exact Ev.re rfl rfl rfl rfl rfl
    · refine Cal.mk (n := 7) rfl (Nat.le_of_ble_eq_true rfl) rfl ?_
      refine Ev.ps 7 rfl ?_
      refine Ev.virH (t := 21) (as := [vI p0, vI p1, vI p2, vI p3]) (rest := [vI 0, vR 58 0]) (by rfl) (by rfl) (by rfl) rfl rfl (Nat.le_of_ble_eq_true rfl) (by rfl) h8 hC (by rfl) ?_
      refine Ev.ps 2 rfl ?_
      exact Ev.re rfl rfl rfl rfl rfl
    · refine Cal.mk (n := 7) rfl (Nat.le_of_ble_eq_true rfl) rfl ?_
      refine Ev.ps 7 rfl ?_
      refine Ev.virH (t := 25) (as := [vI p0, vI p1, vI p2, vI p3]) (rest := [vI 0, vR 58 0]) (by rfl) (by rfl) (by rfl) rfl rfl (Nat.le_of_ble_eq_true rfl) (by rfl) h8 hC (by rfl) ?_
      refine Ev.ps 2 rfl ?_
      exact Ev.re rfl rfl rfl rfl rfl
theorem h_waiting {d : Nat} {p0 p1 : Int32} {h h1 : Hp} {r : Re} {k : Int32} {b : Int32} {w : Int64} (hC : Cal d 40 [vR 8 0, vI p0, vI p1] h r h1) (h8 : (hget h 8 0).isSome = true) (hw : hget h1 58 0 = some [vL w]) (hA : AgI [(0, 1), (1, 2)] r k b) : Cal (d + 1) 196 [vR 8 0, vI p0, vI p1, vR 58 0] h (.inl (some (vI k))) (hoI r h1) := by
  match r, hC, hA with
  | .inl (some (.inl v)), hC, hA =>
    obtain ⟨rfl, rfl⟩ := hA
    refine Cal.mk (n := 5) rfl (Nat.le_of_ble_eq_true rfl) rfl ?_
    refine Ev.ps 5 rfl ?_
    refine Ev.vir (as := [vI p0, vI p1]) (rest := [vI 0, vR 58 0]) (by rfl) (by rfl) (by rfl) rfl rfl (Nat.le_of_ble_eq_true rfl) (by rfl) h8 hC ?_
    refine Ev.ps 1 rfl ?_
    refine Ev.oJ (w := w) (by rfl) hw ?_
    refine Ev.ps 2 rfl ?_
    exact Ev.re rfl rfl rfl rfl rfl
  | .inr E, hC, hA =>
    simp only [AgI, List.mem_cons, Prod.mk.injEq, List.not_mem_nil, or_false] at hA
    rcases hA with ⟨rfl, rfl⟩ | ⟨rfl, rfl⟩
    · refine Cal.mk (n := 5) rfl (Nat.le_of_ble_eq_true rfl) rfl ?_
      refine Ev.ps 5 rfl ?_
      refine Ev.virH (t := 13) (as := [vI p0, vI p1]) (rest := [vI 0, vR 58 0]) (by rfl) (by rfl) (by rfl) rfl rfl (Nat.le_of_ble_eq_true rfl) (by rfl) h8 hC (by rfl) ?_
      refine Ev.ps 2 rfl ?_
      exact Ev.re rfl rfl rfl rfl rfl
    · refine Cal.mk (n := 5) rfl (Nat.le_of_ble_eq_true rfl) rfl ?_
      refine Ev.ps 5 rfl ?_
      refine Ev.virH (t := 17) (as := [vI p0, vI p1]) (rest := [vI 0, vR 58 0]) (by rfl) (by rfl) (by rfl) rfl rfl (Nat.le_of_ble_eq_true rfl) (by rfl) h8 hC (by rfl) ?_
      refine Ev.ps 2 rfl ?_
      exact Ev.re rfl rfl rfl rfl rfl
theorem h_deliver {d : Nat} {p0 p1 : Int32} {h h1 : Hp} {r : Re} {k : Int32} {b : Int32} {w : Int64} (hC : Cal d 41 [vR 8 0, vI p0, vI p1] h r h1) (h8 : (hget h 8 0).isSome = true) (hw : hget h1 58 0 = some [vL w]) (hA : AgI [(1, 1), (5, 2)] r k b) : Cal (d + 1) 197 [vR 8 0, vI p0, vI p1, vR 58 0] h (.inl (some (vI k))) (hoI r h1) := by
  match r, hC, hA with
  | .inl (some (.inl v)), hC, hA =>
    obtain ⟨rfl, rfl⟩ := hA
    refine Cal.mk (n := 5) rfl (Nat.le_of_ble_eq_true rfl) rfl ?_
    refine Ev.ps 5 rfl ?_
    refine Ev.vir (as := [vI p0, vI p1]) (rest := [vI 0, vR 58 0]) (by rfl) (by rfl) (by rfl) rfl rfl (Nat.le_of_ble_eq_true rfl) (by rfl) h8 hC ?_
    refine Ev.ps 1 rfl ?_
    refine Ev.oJ (w := w) (by rfl) hw ?_
    refine Ev.ps 2 rfl ?_
    exact Ev.re rfl rfl rfl rfl rfl
  | .inr E, hC, hA =>
    simp only [AgI, List.mem_cons, Prod.mk.injEq, List.not_mem_nil, or_false] at hA
    rcases hA with ⟨rfl, rfl⟩ | ⟨rfl, rfl⟩
    · refine Cal.mk (n := 5) rfl (Nat.le_of_ble_eq_true rfl) rfl ?_
      refine Ev.ps 5 rfl ?_
      refine Ev.virH (t := 13) (as := [vI p0, vI p1]) (rest := [vI 0, vR 58 0]) (by rfl) (by rfl) (by rfl) rfl rfl (Nat.le_of_ble_eq_true rfl) (by rfl) h8 hC (by rfl) ?_
      refine Ev.ps 2 rfl ?_
      exact Ev.re rfl rfl rfl rfl rfl
    · refine Cal.mk (n := 5) rfl (Nat.le_of_ble_eq_true rfl) rfl ?_
      refine Ev.ps 5 rfl ?_
      refine Ev.virH (t := 17) (as := [vI p0, vI p1]) (rest := [vI 0, vR 58 0]) (by rfl) (by rfl) (by rfl) rfl rfl (Nat.le_of_ble_eq_true rfl) (by rfl) h8 hC (by rfl) ?_
      refine Ev.ps 2 rfl ?_
      exact Ev.re rfl rfl rfl rfl rfl
theorem h_cut {d : Nat} {p0 p1 p2 : Int32} {h h1 : Hp} {r : Re} {k : Int32} {b : Int32} {w : Int64} (hC : Cal d 42 [vR 8 0, vI p0, vI p1, vI p2] h r h1) (h8 : (hget h 8 0).isSome = true) (hw : hget h1 58 0 = some [vL w]) (hA : AgI [(4, 1), (1, 2), (5, 3), (2, 4)] r k b) : Cal (d + 1) 198 [vR 8 0, vI p0, vI p1, vI p2, vR 58 0] h (.inl (some (vI k))) (hoI r h1) := by
  match r, hC, hA with
  | .inl (some (.inl v)), hC, hA =>
    obtain ⟨rfl, rfl⟩ := hA
    refine Cal.mk (n := 6) rfl (Nat.le_of_ble_eq_true rfl) rfl ?_
    refine Ev.ps 6 rfl ?_
    refine Ev.vir (as := [vI p0, vI p1, vI p2]) (rest := [vI 0, vR 58 0]) (by rfl) (by rfl) (by rfl) rfl rfl (Nat.le_of_ble_eq_true rfl) (by rfl) h8 hC ?_
    refine Ev.ps 1 rfl ?_
    refine Ev.oJ (w := w) (by rfl) hw ?_
    refine Ev.ps 2 rfl ?_
    exact Ev.re rfl rfl rfl rfl rfl
  | .inr E, hC, hA =>
    simp only [AgI, List.mem_cons, Prod.mk.injEq, List.not_mem_nil, or_false] at hA
    rcases hA with ⟨rfl, rfl⟩ | ⟨rfl, rfl⟩ | ⟨rfl, rfl⟩ | ⟨rfl, rfl⟩
    · refine Cal.mk (n := 6) rfl (Nat.le_of_ble_eq_true rfl) rfl ?_
      refine Ev.ps 6 rfl ?_
      refine Ev.virH (t := 15) (as := [vI p0, vI p1, vI p2]) (rest := [vI 0, vR 58 0]) (by rfl) (by rfl) (by rfl) rfl rfl (Nat.le_of_ble_eq_true rfl) (by rfl) h8 hC (by rfl) ?_
      refine Ev.ps 2 rfl ?_
      exact Ev.re rfl rfl rfl rfl rfl
    · refine Cal.mk (n := 6) rfl (Nat.le_of_ble_eq_true rfl) rfl ?_
      refine Ev.ps 6 rfl ?_
      refine Ev.virH (t := 19) (as := [vI p0, vI p1, vI p2]) (rest := [vI 0, vR 58 0]) (by rfl) (by rfl) (by rfl) rfl rfl (Nat.le_of_ble_eq_true rfl) (by rfl) h8 hC (by rfl) ?_
      refine Ev.ps 2 rfl ?_
      exact Ev.re rfl rfl rfl rfl rfl
    · refine Cal.mk (n := 6) rfl (Nat.le_of_ble_eq_true rfl) rfl ?_
      refine Ev.ps 6 rfl ?_
      refine Ev.virH (t := 23) (as := [vI p0, vI p1, vI p2]) (rest := [vI 0, vR 58 0]) (by rfl) (by rfl) (by rfl) rfl rfl (Nat.le_of_ble_eq_true rfl) (by rfl) h8 hC (by rfl) ?_
      refine Ev.ps 2 rfl ?_
      exact Ev.re rfl rfl rfl rfl rfl
    · refine Cal.mk (n := 6) rfl (Nat.le_of_ble_eq_true rfl) rfl ?_
      refine Ev.ps 6 rfl ?_
      refine Ev.virH (t := 27) (as := [vI p0, vI p1, vI p2]) (rest := [vI 0, vR 58 0]) (by rfl) (by rfl) (by rfl) rfl rfl (Nat.le_of_ble_eq_true rfl) (by rfl) h8 hC (by rfl) ?_
      refine Ev.ps 2 rfl ?_
      exact Ev.re rfl rfl rfl rfl rfl
theorem h_freeOf {d : Nat} {p0 : Int32} {h h1 : Hp} {r : Re} {k : Int32} {b : Int32} {w : Int64} (hC : Cal d 43 [vR 8 0, vI p0] h r h1) (h8 : (hget h 8 0).isSome = true) (hw : hget h1 58 0 = some [vL w]) (hA : AgI [(4, 1)] r k b) : Cal (d + 1) 199 [vR 8 0, vI p0, vR 58 0] h (.inl (some (vI k))) (hoI r h1) := by
  match r, hC, hA with
  | .inl (some (.inl v)), hC, hA =>
    obtain ⟨rfl, rfl⟩ := hA
    refine Cal.mk (n := 4) rfl (Nat.le_of_ble_eq_true rfl) rfl ?_
    refine Ev.ps 4 rfl ?_
    refine Ev.vir (as := [vI p0]) (rest := [vI 0, vR 58 0]) (by rfl) (by rfl) (by rfl) rfl rfl (Nat.le_of_ble_eq_true rfl) (by rfl) h8 hC ?_
    refine Ev.ps 1 rfl ?_
    refine Ev.oJ (w := w) (by rfl) hw ?_
    refine Ev.ps 2 rfl ?_
    exact Ev.re rfl rfl rfl rfl rfl
  | .inr E, hC, hA =>
    simp only [AgI, List.mem_cons, Prod.mk.injEq, List.not_mem_nil, or_false] at hA
    rcases hA with ⟨rfl, rfl⟩
    refine Cal.mk (n := 4) rfl (Nat.le_of_ble_eq_true rfl) rfl ?_
    refine Ev.ps 4 rfl ?_
    refine Ev.virH (t := 12) (as := [vI p0]) (rest := [vI 0, vR 58 0]) (by rfl) (by rfl) (by rfl) rfl rfl (Nat.le_of_ble_eq_true rfl) (by rfl) h8 hC (by rfl) ?_
    refine Ev.ps 2 rfl ?_
    exact Ev.re rfl rfl rfl rfl rfl
theorem h_freeByCuts {d : Nat} {p0 : Int32} {h h1 : Hp} {r : Re} {k : Int32} {b : Int32} {w : Int64} (hC : Cal d 44 [vR 8 0, vI p0] h r h1) (h8 : (hget h 8 0).isSome = true) (hw : hget h1 58 0 = some [vL w]) (hA : AgI [(4, 1)] r k b) : Cal (d + 1) 200 [vR 8 0, vI p0, vR 58 0] h (.inl (some (vI k))) (hoI r h1) := by
  match r, hC, hA with
  | .inl (some (.inl v)), hC, hA =>
    obtain ⟨rfl, rfl⟩ := hA
    refine Cal.mk (n := 4) rfl (Nat.le_of_ble_eq_true rfl) rfl ?_
    refine Ev.ps 4 rfl ?_
    refine Ev.vir (as := [vI p0]) (rest := [vI 0, vR 58 0]) (by rfl) (by rfl) (by rfl) rfl rfl (Nat.le_of_ble_eq_true rfl) (by rfl) h8 hC ?_
    refine Ev.ps 1 rfl ?_
    refine Ev.oJ (w := w) (by rfl) hw ?_
    refine Ev.ps 2 rfl ?_
    exact Ev.re rfl rfl rfl rfl rfl
  | .inr E, hC, hA =>
    simp only [AgI, List.mem_cons, Prod.mk.injEq, List.not_mem_nil, or_false] at hA
    rcases hA with ⟨rfl, rfl⟩
    refine Cal.mk (n := 4) rfl (Nat.le_of_ble_eq_true rfl) rfl ?_
    refine Ev.ps 4 rfl ?_
    refine Ev.virH (t := 12) (as := [vI p0]) (rest := [vI 0, vR 58 0]) (by rfl) (by rfl) (by rfl) rfl rfl (Nat.le_of_ble_eq_true rfl) (by rfl) h8 hC (by rfl) ?_
    refine Ev.ps 2 rfl ?_
    exact Ev.re rfl rfl rfl rfl rfl
theorem h_setPrice {d : Nat} {p0 p1 : Int32} {h h1 : Hp} {r : Re} {k : Int32} {b : Int32} {w : Int64} (hC : Cal d 45 [vR 8 0, vI p0, vI p1] h r h1) (h8 : (hget h 8 0).isSome = true) (hw : hget h1 58 0 = some [vL w]) (hA : AgI [(1, 1)] r k b) : Cal (d + 1) 201 [vR 8 0, vI p0, vI p1, vR 58 0] h (.inl (some (vI k))) (hoI r h1) := by
  match r, hC, hA with
  | .inl (some (.inl v)), hC, hA =>
    obtain ⟨rfl, rfl⟩ := hA
    refine Cal.mk (n := 5) rfl (Nat.le_of_ble_eq_true rfl) rfl ?_
    refine Ev.ps 5 rfl ?_
    refine Ev.vir (as := [vI p0, vI p1]) (rest := [vI 0, vR 58 0]) (by rfl) (by rfl) (by rfl) rfl rfl (Nat.le_of_ble_eq_true rfl) (by rfl) h8 hC ?_
    refine Ev.ps 1 rfl ?_
    refine Ev.oJ (w := w) (by rfl) hw ?_
    refine Ev.ps 2 rfl ?_
    exact Ev.re rfl rfl rfl rfl rfl
  | .inr E, hC, hA =>
    simp only [AgI, List.mem_cons, Prod.mk.injEq, List.not_mem_nil, or_false] at hA
    rcases hA with ⟨rfl, rfl⟩
    refine Cal.mk (n := 5) rfl (Nat.le_of_ble_eq_true rfl) rfl ?_
    refine Ev.ps 5 rfl ?_
    refine Ev.virH (t := 13) (as := [vI p0, vI p1]) (rest := [vI 0, vR 58 0]) (by rfl) (by rfl) (by rfl) rfl rfl (Nat.le_of_ble_eq_true rfl) (by rfl) h8 hC (by rfl) ?_
    refine Ev.ps 2 rfl ?_
    exact Ev.re rfl rfl rfl rfl rfl
theorem h_setRate {d : Nat} {p0 p1 : Int32} {h h1 : Hp} {r : Re} {k : Int32} {b : Int32} {w : Int64} (hC : Cal d 46 [vR 8 0, vI p0, vI p1] h r h1) (h8 : (hget h 8 0).isSome = true) (hw : hget h1 58 0 = some [vL w]) (hA : AgI [(1, 1)] r k b) : Cal (d + 1) 202 [vR 8 0, vI p0, vI p1, vR 58 0] h (.inl (some (vI k))) (hoI r h1) := by
  match r, hC, hA with
  | .inl (some (.inl v)), hC, hA =>
    obtain ⟨rfl, rfl⟩ := hA
    refine Cal.mk (n := 5) rfl (Nat.le_of_ble_eq_true rfl) rfl ?_
    refine Ev.ps 5 rfl ?_
    refine Ev.vir (as := [vI p0, vI p1]) (rest := [vI 0, vR 58 0]) (by rfl) (by rfl) (by rfl) rfl rfl (Nat.le_of_ble_eq_true rfl) (by rfl) h8 hC ?_
    refine Ev.ps 1 rfl ?_
    refine Ev.oJ (w := w) (by rfl) hw ?_
    refine Ev.ps 2 rfl ?_
    exact Ev.re rfl rfl rfl rfl rfl
  | .inr E, hC, hA =>
    simp only [AgI, List.mem_cons, Prod.mk.injEq, List.not_mem_nil, or_false] at hA
    rcases hA with ⟨rfl, rfl⟩
    refine Cal.mk (n := 5) rfl (Nat.le_of_ble_eq_true rfl) rfl ?_
    refine Ev.ps 5 rfl ?_
    refine Ev.virH (t := 13) (as := [vI p0, vI p1]) (rest := [vI 0, vR 58 0]) (by rfl) (by rfl) (by rfl) rfl rfl (Nat.le_of_ble_eq_true rfl) (by rfl) h8 hC (by rfl) ?_
    refine Ev.ps 2 rfl ?_
    exact Ev.re rfl rfl rfl rfl rfl
theorem h_addFee {d : Nat} {p0 p1 : Int32} {h h1 : Hp} {r : Re} {k : Int32} {b : Int32} {w : Int64} (hC : Cal d 47 [vR 8 0, vI p0, vI p1] h r h1) (h8 : (hget h 8 0).isSome = true) (hw : hget h1 58 0 = some [vL w]) (hA : AgI [(1, 1), (5, 2)] r k b) : Cal (d + 1) 203 [vR 8 0, vI p0, vI p1, vR 58 0] h (.inl (some (vI k))) (hoI r h1) := by
  match r, hC, hA with
  | .inl (some (.inl v)), hC, hA =>
    obtain ⟨rfl, rfl⟩ := hA
    refine Cal.mk (n := 5) rfl (Nat.le_of_ble_eq_true rfl) rfl ?_
    refine Ev.ps 5 rfl ?_
    refine Ev.vir (as := [vI p0, vI p1]) (rest := [vI 0, vR 58 0]) (by rfl) (by rfl) (by rfl) rfl rfl (Nat.le_of_ble_eq_true rfl) (by rfl) h8 hC ?_
    refine Ev.ps 1 rfl ?_
    refine Ev.oJ (w := w) (by rfl) hw ?_
    refine Ev.ps 2 rfl ?_
    exact Ev.re rfl rfl rfl rfl rfl
  | .inr E, hC, hA =>
    simp only [AgI, List.mem_cons, Prod.mk.injEq, List.not_mem_nil, or_false] at hA
    rcases hA with ⟨rfl, rfl⟩ | ⟨rfl, rfl⟩
    · refine Cal.mk (n := 5) rfl (Nat.le_of_ble_eq_true rfl) rfl ?_
      refine Ev.ps 5 rfl ?_
      refine Ev.virH (t := 13) (as := [vI p0, vI p1]) (rest := [vI 0, vR 58 0]) (by rfl) (by rfl) (by rfl) rfl rfl (Nat.le_of_ble_eq_true rfl) (by rfl) h8 hC (by rfl) ?_
      refine Ev.ps 2 rfl ?_
      exact Ev.re rfl rfl rfl rfl rfl
    · refine Cal.mk (n := 5) rfl (Nat.le_of_ble_eq_true rfl) rfl ?_
      refine Ev.ps 5 rfl ?_
      refine Ev.virH (t := 17) (as := [vI p0, vI p1]) (rest := [vI 0, vR 58 0]) (by rfl) (by rfl) (by rfl) rfl rfl (Nat.le_of_ble_eq_true rfl) (by rfl) h8 hC (by rfl) ?_
      refine Ev.ps 2 rfl ?_
      exact Ev.re rfl rfl rfl rfl rfl
theorem h_addCap {d : Nat} {p0 p1 : Int32} {h h1 : Hp} {r : Re} {k : Int32} {b : Int32} {w : Int64} (hC : Cal d 48 [vR 8 0, vI p0, vI p1] h r h1) (h8 : (hget h 8 0).isSome = true) (hw : hget h1 58 0 = some [vL w]) (hA : AgI [(1, 1), (5, 2)] r k b) : Cal (d + 1) 204 [vR 8 0, vI p0, vI p1, vR 58 0] h (.inl (some (vI k))) (hoI r h1) := by
  match r, hC, hA with
  | .inl (some (.inl v)), hC, hA =>
    obtain ⟨rfl, rfl⟩ := hA
    refine Cal.mk (n := 5) rfl (Nat.le_of_ble_eq_true rfl) rfl ?_
    refine Ev.ps 5 rfl ?_
    refine Ev.vir (as := [vI p0, vI p1]) (rest := [vI 0, vR 58 0]) (by rfl) (by rfl) (by rfl) rfl rfl (Nat.le_of_ble_eq_true rfl) (by rfl) h8 hC ?_
    refine Ev.ps 1 rfl ?_
    refine Ev.oJ (w := w) (by rfl) hw ?_
    refine Ev.ps 2 rfl ?_
    exact Ev.re rfl rfl rfl rfl rfl
  | .inr E, hC, hA =>
    simp only [AgI, List.mem_cons, Prod.mk.injEq, List.not_mem_nil, or_false] at hA
    rcases hA with ⟨rfl, rfl⟩ | ⟨rfl, rfl⟩
    · refine Cal.mk (n := 5) rfl (Nat.le_of_ble_eq_true rfl) rfl ?_
      refine Ev.ps 5 rfl ?_
      refine Ev.virH (t := 13) (as := [vI p0, vI p1]) (rest := [vI 0, vR 58 0]) (by rfl) (by rfl) (by rfl) rfl rfl (Nat.le_of_ble_eq_true rfl) (by rfl) h8 hC (by rfl) ?_
      refine Ev.ps 2 rfl ?_
      exact Ev.re rfl rfl rfl rfl rfl
    · refine Cal.mk (n := 5) rfl (Nat.le_of_ble_eq_true rfl) rfl ?_
      refine Ev.ps 5 rfl ?_
      refine Ev.virH (t := 17) (as := [vI p0, vI p1]) (rest := [vI 0, vR 58 0]) (by rfl) (by rfl) (by rfl) rfl rfl (Nat.le_of_ble_eq_true rfl) (by rfl) h8 hC (by rfl) ?_
      refine Ev.ps 2 rfl ?_
      exact Ev.re rfl rfl rfl rfl rfl
theorem h_addDouble {d : Nat} {p0 p1 : Int32} {h h1 : Hp} {r : Re} {k : Int32} {b : Int32} {w : Int64} (hC : Cal d 49 [vR 8 0, vI p0, vI p1] h r h1) (h8 : (hget h 8 0).isSome = true) (hw : hget h1 58 0 = some [vL w]) (hA : AgI [(1, 1), (5, 2)] r k b) : Cal (d + 1) 205 [vR 8 0, vI p0, vI p1, vR 58 0] h (.inl (some (vI k))) (hoI r h1) := by
  match r, hC, hA with
  | .inl (some (.inl v)), hC, hA =>
    obtain ⟨rfl, rfl⟩ := hA
    refine Cal.mk (n := 5) rfl (Nat.le_of_ble_eq_true rfl) rfl ?_
    refine Ev.ps 5 rfl ?_
    refine Ev.vir (as := [vI p0, vI p1]) (rest := [vI 0, vR 58 0]) (by rfl) (by rfl) (by rfl) rfl rfl (Nat.le_of_ble_eq_true rfl) (by rfl) h8 hC ?_
    refine Ev.ps 1 rfl ?_
    refine Ev.oJ (w := w) (by rfl) hw ?_
    refine Ev.ps 2 rfl ?_
    exact Ev.re rfl rfl rfl rfl rfl
  | .inr E, hC, hA =>
    simp only [AgI, List.mem_cons, Prod.mk.injEq, List.not_mem_nil, or_false] at hA
    rcases hA with ⟨rfl, rfl⟩ | ⟨rfl, rfl⟩
    · refine Cal.mk (n := 5) rfl (Nat.le_of_ble_eq_true rfl) rfl ?_
      refine Ev.ps 5 rfl ?_
      refine Ev.virH (t := 13) (as := [vI p0, vI p1]) (rest := [vI 0, vR 58 0]) (by rfl) (by rfl) (by rfl) rfl rfl (Nat.le_of_ble_eq_true rfl) (by rfl) h8 hC (by rfl) ?_
      refine Ev.ps 2 rfl ?_
      exact Ev.re rfl rfl rfl rfl rfl
    · refine Cal.mk (n := 5) rfl (Nat.le_of_ble_eq_true rfl) rfl ?_
      refine Ev.ps 5 rfl ?_
      refine Ev.virH (t := 17) (as := [vI p0, vI p1]) (rest := [vI 0, vR 58 0]) (by rfl) (by rfl) (by rfl) rfl rfl (Nat.le_of_ble_eq_true rfl) (by rfl) h8 hC (by rfl) ?_
      refine Ev.ps 2 rfl ?_
      exact Ev.re rfl rfl rfl rfl rfl
theorem h_addDiscount {d : Nat} {p0 p1 : Int32} {h h1 : Hp} {r : Re} {k : Int32} {b : Int32} {w : Int64} (hC : Cal d 50 [vR 8 0, vI p0, vI p1] h r h1) (h8 : (hget h 8 0).isSome = true) (hw : hget h1 58 0 = some [vL w]) (hA : AgI [(1, 1), (5, 2)] r k b) : Cal (d + 1) 206 [vR 8 0, vI p0, vI p1, vR 58 0] h (.inl (some (vI k))) (hoI r h1) := by
  match r, hC, hA with
  | .inl (some (.inl v)), hC, hA =>
    obtain ⟨rfl, rfl⟩ := hA
    refine Cal.mk (n := 5) rfl (Nat.le_of_ble_eq_true rfl) rfl ?_
    refine Ev.ps 5 rfl ?_
    refine Ev.vir (as := [vI p0, vI p1]) (rest := [vI 0, vR 58 0]) (by rfl) (by rfl) (by rfl) rfl rfl (Nat.le_of_ble_eq_true rfl) (by rfl) h8 hC ?_
    refine Ev.ps 1 rfl ?_
    refine Ev.oJ (w := w) (by rfl) hw ?_
    refine Ev.ps 2 rfl ?_
    exact Ev.re rfl rfl rfl rfl rfl
  | .inr E, hC, hA =>
    simp only [AgI, List.mem_cons, Prod.mk.injEq, List.not_mem_nil, or_false] at hA
    rcases hA with ⟨rfl, rfl⟩ | ⟨rfl, rfl⟩
    · refine Cal.mk (n := 5) rfl (Nat.le_of_ble_eq_true rfl) rfl ?_
      refine Ev.ps 5 rfl ?_
      refine Ev.virH (t := 13) (as := [vI p0, vI p1]) (rest := [vI 0, vR 58 0]) (by rfl) (by rfl) (by rfl) rfl rfl (Nat.le_of_ble_eq_true rfl) (by rfl) h8 hC (by rfl) ?_
      refine Ev.ps 2 rfl ?_
      exact Ev.re rfl rfl rfl rfl rfl
    · refine Cal.mk (n := 5) rfl (Nat.le_of_ble_eq_true rfl) rfl ?_
      refine Ev.ps 5 rfl ?_
      refine Ev.virH (t := 17) (as := [vI p0, vI p1]) (rest := [vI 0, vR 58 0]) (by rfl) (by rfl) (by rfl) rfl rfl (Nat.le_of_ble_eq_true rfl) (by rfl) h8 hC (by rfl) ?_
      refine Ev.ps 2 rfl ?_
      exact Ev.re rfl rfl rfl rfl rfl
theorem h_costOf {d : Nat} {p0 p1 : Int32} {h h1 : Hp} {r : Re} {k : Int32} {b : Int32} {w : Int64} (hC : Cal d 51 [vR 8 0, vI p0, vI p1] h r h1) (h8 : (hget h 8 0).isSome = true) (hw : hget h1 58 0 = some [vL w]) (hA : AgI [(1, 1)] r k b) : Cal (d + 1) 207 [vR 8 0, vI p0, vI p1, vR 58 0] h (.inl (some (vI k))) (hoI r h1) := by
  match r, hC, hA with
  | .inl (some (.inl v)), hC, hA =>
    obtain ⟨rfl, rfl⟩ := hA
    refine Cal.mk (n := 5) rfl (Nat.le_of_ble_eq_true rfl) rfl ?_
    refine Ev.ps 5 rfl ?_
    refine Ev.vir (as := [vI p0, vI p1]) (rest := [vI 0, vR 58 0]) (by rfl) (by rfl) (by rfl) rfl rfl (Nat.le_of_ble_eq_true rfl) (by rfl) h8 hC ?_
    refine Ev.ps 1 rfl ?_
    refine Ev.oJ (w := w) (by rfl) hw ?_
    refine Ev.ps 2 rfl ?_
    exact Ev.re rfl rfl rfl rfl rfl
  | .inr E, hC, hA =>
    simp only [AgI, List.mem_cons, Prod.mk.injEq, List.not_mem_nil, or_false] at hA
    rcases hA with ⟨rfl, rfl⟩
    refine Cal.mk (n := 5) rfl (Nat.le_of_ble_eq_true rfl) rfl ?_
    refine Ev.ps 5 rfl ?_
    refine Ev.virH (t := 13) (as := [vI p0, vI p1]) (rest := [vI 0, vR 58 0]) (by rfl) (by rfl) (by rfl) rfl rfl (Nat.le_of_ble_eq_true rfl) (by rfl) h8 hC (by rfl) ?_
    refine Ev.ps 2 rfl ?_
    exact Ev.re rfl rfl rfl rfl rfl
theorem h_breakDown {d : Nat} {p0 p1 : Int32} {h h1 : Hp} {r : Re} {k : Int32} {b : Int32} {w : Int64} (hC : Cal d 52 [vR 8 0, vI p0, vI p1] h r h1) (h8 : (hget h 8 0).isSome = true) (hw : hget h1 58 0 = some [vL w]) (hA : AgI [(0, 1), (1, 2), (5, 3)] r k b) : Cal (d + 1) 208 [vR 8 0, vI p0, vI p1, vR 58 0] h (.inl (some (vI k))) (hoI r h1) := by
  match r, hC, hA with
  | .inl (some (.inl v)), hC, hA =>
    obtain ⟨rfl, rfl⟩ := hA
    refine Cal.mk (n := 5) rfl (Nat.le_of_ble_eq_true rfl) rfl ?_
    refine Ev.ps 5 rfl ?_
    refine Ev.vir (as := [vI p0, vI p1]) (rest := [vI 0, vR 58 0]) (by rfl) (by rfl) (by rfl) rfl rfl (Nat.le_of_ble_eq_true rfl) (by rfl) h8 hC ?_
    refine Ev.ps 1 rfl ?_
    refine Ev.oJ (w := w) (by rfl) hw ?_
    refine Ev.ps 2 rfl ?_
    exact Ev.re rfl rfl rfl rfl rfl
  | .inr E, hC, hA =>
    simp only [AgI, List.mem_cons, Prod.mk.injEq, List.not_mem_nil, or_false] at hA
    rcases hA with ⟨rfl, rfl⟩ | ⟨rfl, rfl⟩ | ⟨rfl, rfl⟩
    · refine Cal.mk (n := 5) rfl (Nat.le_of_ble_eq_true rfl) rfl ?_
      refine Ev.ps 5 rfl ?_
      refine Ev.virH (t := 13) (as := [vI p0, vI p1]) (rest := [vI 0, vR 58 0]) (by rfl) (by rfl) (by rfl) rfl rfl (Nat.le_of_ble_eq_true rfl) (by rfl) h8 hC (by rfl) ?_
      refine Ev.ps 2 rfl ?_
      exact Ev.re rfl rfl rfl rfl rfl
    · refine Cal.mk (n := 5) rfl (Nat.le_of_ble_eq_true rfl) rfl ?_
      refine Ev.ps 5 rfl ?_
      refine Ev.virH (t := 17) (as := [vI p0, vI p1]) (rest := [vI 0, vR 58 0]) (by rfl) (by rfl) (by rfl) rfl rfl (Nat.le_of_ble_eq_true rfl) (by rfl) h8 hC (by rfl) ?_
      refine Ev.ps 2 rfl ?_
      exact Ev.re rfl rfl rfl rfl rfl
    · refine Cal.mk (n := 5) rfl (Nat.le_of_ble_eq_true rfl) rfl ?_
      refine Ev.ps 5 rfl ?_
      refine Ev.virH (t := 21) (as := [vI p0, vI p1]) (rest := [vI 0, vR 58 0]) (by rfl) (by rfl) (by rfl) rfl rfl (Nat.le_of_ble_eq_true rfl) (by rfl) h8 hC (by rfl) ?_
      refine Ev.ps 2 rfl ?_
      exact Ev.re rfl rfl rfl rfl rfl
theorem h_shareOf {d : Nat} {p0 p1 : Int32} {h h1 : Hp} {r : Re} {k : Int32} {b : Int32} {w : Int64} (hC : Cal d 53 [vR 8 0, vI p0, vI p1] h r h1) (h8 : (hget h 8 0).isSome = true) (hw : hget h1 58 0 = some [vL w]) (hA : AgI [(4, 1), (0, 2)] r k b) : Cal (d + 1) 209 [vR 8 0, vI p0, vI p1, vR 58 0] h (.inl (some (vI k))) (hoI r h1) := by
  match r, hC, hA with
  | .inl (some (.inl v)), hC, hA =>
    obtain ⟨rfl, rfl⟩ := hA
    refine Cal.mk (n := 5) rfl (Nat.le_of_ble_eq_true rfl) rfl ?_
    refine Ev.ps 5 rfl ?_
    refine Ev.vir (as := [vI p0, vI p1]) (rest := [vI 0, vR 58 0]) (by rfl) (by rfl) (by rfl) rfl rfl (Nat.le_of_ble_eq_true rfl) (by rfl) h8 hC ?_
    refine Ev.ps 1 rfl ?_
    refine Ev.oJ (w := w) (by rfl) hw ?_
    refine Ev.ps 2 rfl ?_
    exact Ev.re rfl rfl rfl rfl rfl
  | .inr E, hC, hA =>
    simp only [AgI, List.mem_cons, Prod.mk.injEq, List.not_mem_nil, or_false] at hA
    rcases hA with ⟨rfl, rfl⟩ | ⟨rfl, rfl⟩
    · refine Cal.mk (n := 5) rfl (Nat.le_of_ble_eq_true rfl) rfl ?_
      refine Ev.ps 5 rfl ?_
      refine Ev.virH (t := 13) (as := [vI p0, vI p1]) (rest := [vI 0, vR 58 0]) (by rfl) (by rfl) (by rfl) rfl rfl (Nat.le_of_ble_eq_true rfl) (by rfl) h8 hC (by rfl) ?_
      refine Ev.ps 2 rfl ?_
      exact Ev.re rfl rfl rfl rfl rfl
    · refine Cal.mk (n := 5) rfl (Nat.le_of_ble_eq_true rfl) rfl ?_
      refine Ev.ps 5 rfl ?_
      refine Ev.virH (t := 17) (as := [vI p0, vI p1]) (rest := [vI 0, vR 58 0]) (by rfl) (by rfl) (by rfl) rfl rfl (Nat.le_of_ble_eq_true rfl) (by rfl) h8 hC (by rfl) ?_
      refine Ev.ps 2 rfl ?_
      exact Ev.re rfl rfl rfl rfl rfl
theorem h_pay {d : Nat} {p0 p1 : Int32} {h h1 : Hp} {r : Re} {k : Int32} {b : Int32} {w : Int64} (hC : Cal d 54 [vR 8 0, vI p0, vI p1] h r h1) (h8 : (hget h 8 0).isSome = true) (hw : hget h1 58 0 = some [vL w]) (hA : AgI [(0, 1), (1, 2), (5, 3)] r k b) : Cal (d + 1) 210 [vR 8 0, vI p0, vI p1, vR 58 0] h (.inl (some (vI k))) (hoI r h1) := by
  match r, hC, hA with
  | .inl (some (.inl v)), hC, hA =>
    obtain ⟨rfl, rfl⟩ := hA
    refine Cal.mk (n := 5) rfl (Nat.le_of_ble_eq_true rfl) rfl ?_
    refine Ev.ps 5 rfl ?_
    refine Ev.vir (as := [vI p0, vI p1]) (rest := [vI 0, vR 58 0]) (by rfl) (by rfl) (by rfl) rfl rfl (Nat.le_of_ble_eq_true rfl) (by rfl) h8 hC ?_
    refine Ev.ps 1 rfl ?_
    refine Ev.oJ (w := w) (by rfl) hw ?_
    refine Ev.ps 2 rfl ?_
    exact Ev.re rfl rfl rfl rfl rfl
  | .inr E, hC, hA =>
    simp only [AgI, List.mem_cons, Prod.mk.injEq, List.not_mem_nil, or_false] at hA
    rcases hA with ⟨rfl, rfl⟩ | ⟨rfl, rfl⟩ | ⟨rfl, rfl⟩
    · refine Cal.mk (n := 5) rfl (Nat.le_of_ble_eq_true rfl) rfl ?_
      refine Ev.ps 5 rfl ?_
      refine Ev.virH (t := 13) (as := [vI p0, vI p1]) (rest := [vI 0, vR 58 0]) (by rfl) (by rfl) (by rfl) rfl rfl (Nat.le_of_ble_eq_true rfl) (by rfl) h8 hC (by rfl) ?_
      refine Ev.ps 2 rfl ?_
      exact Ev.re rfl rfl rfl rfl rfl
    · refine Cal.mk (n := 5) rfl (Nat.le_of_ble_eq_true rfl) rfl ?_
      refine Ev.ps 5 rfl ?_
      refine Ev.virH (t := 17) (as := [vI p0, vI p1]) (rest := [vI 0, vR 58 0]) (by rfl) (by rfl) (by rfl) rfl rfl (Nat.le_of_ble_eq_true rfl) (by rfl) h8 hC (by rfl) ?_
      refine Ev.ps 2 rfl ?_
      exact Ev.re rfl rfl rfl rfl rfl
    · refine Cal.mk (n := 5) rfl (Nat.le_of_ble_eq_true rfl) rfl ?_
      refine Ev.ps 5 rfl ?_
      refine Ev.virH (t := 21) (as := [vI p0, vI p1]) (rest := [vI 0, vR 58 0]) (by rfl) (by rfl) (by rfl) rfl rfl (Nat.le_of_ble_eq_true rfl) (by rfl) h8 hC (by rfl) ?_
      refine Ev.ps 2 rfl ?_
      exact Ev.re rfl rfl rfl rfl rfl
theorem h_owes {d : Nat} {p0 : Int32} {h h1 : Hp} {r : Re} {k : Int32} {b : Int32} {w : Int64} (hC : Cal d 55 [vR 8 0, vI p0] h r h1) (h8 : (hget h 8 0).isSome = true) (hw : hget h1 58 0 = some [vL w]) (hA : AgI [(0, 1)] r k b) : Cal (d + 1) 211 [vR 8 0, vI p0, vR 58 0] h (.inl (some (vI k))) (hoI r h1) := by
  match r, hC, hA with
  | .inl (some (.inl v)), hC, hA =>
    obtain ⟨rfl, rfl⟩ := hA
    refine Cal.mk (n := 4) rfl (Nat.le_of_ble_eq_true rfl) rfl ?_
    refine Ev.ps 4 rfl ?_
    refine Ev.vir (as := [vI p0]) (rest := [vI 0, vR 58 0]) (by rfl) (by rfl) (by rfl) rfl rfl (Nat.le_of_ble_eq_true rfl) (by rfl) h8 hC ?_
    refine Ev.ps 1 rfl ?_
    refine Ev.oJ (w := w) (by rfl) hw ?_
    refine Ev.ps 2 rfl ?_
    exact Ev.re rfl rfl rfl rfl rfl
  | .inr E, hC, hA =>
    simp only [AgI, List.mem_cons, Prod.mk.injEq, List.not_mem_nil, or_false] at hA
    rcases hA with ⟨rfl, rfl⟩
    refine Cal.mk (n := 4) rfl (Nat.le_of_ble_eq_true rfl) rfl ?_
    refine Ev.ps 4 rfl ?_
    refine Ev.virH (t := 12) (as := [vI p0]) (rest := [vI 0, vR 58 0]) (by rfl) (by rfl) (by rfl) rfl rfl (Nat.le_of_ble_eq_true rfl) (by rfl) h8 hC (by rfl) ?_
    refine Ev.ps 2 rfl ?_
    exact Ev.re rfl rfl rfl rfl rfl
theorem h_owesByEntries {d : Nat} {p0 : Int32} {h h1 : Hp} {r : Re} {k : Int32} {b : Int32} {w : Int64} (hC : Cal d 56 [vR 8 0, vI p0] h r h1) (h8 : (hget h 8 0).isSome = true) (hw : hget h1 58 0 = some [vL w]) (hA : AgI [(0, 1)] r k b) : Cal (d + 1) 212 [vR 8 0, vI p0, vR 58 0] h (.inl (some (vI k))) (hoI r h1) := by
  match r, hC, hA with
  | .inl (some (.inl v)), hC, hA =>
    obtain ⟨rfl, rfl⟩ := hA
    refine Cal.mk (n := 4) rfl (Nat.le_of_ble_eq_true rfl) rfl ?_
    refine Ev.ps 4 rfl ?_
    refine Ev.vir (as := [vI p0]) (rest := [vI 0, vR 58 0]) (by rfl) (by rfl) (by rfl) rfl rfl (Nat.le_of_ble_eq_true rfl) (by rfl) h8 hC ?_
    refine Ev.ps 1 rfl ?_
    refine Ev.oJ (w := w) (by rfl) hw ?_
    refine Ev.ps 2 rfl ?_
    exact Ev.re rfl rfl rfl rfl rfl
  | .inr E, hC, hA =>
    simp only [AgI, List.mem_cons, Prod.mk.injEq, List.not_mem_nil, or_false] at hA
    rcases hA with ⟨rfl, rfl⟩
    refine Cal.mk (n := 4) rfl (Nat.le_of_ble_eq_true rfl) rfl ?_
    refine Ev.ps 4 rfl ?_
    refine Ev.virH (t := 12) (as := [vI p0]) (rest := [vI 0, vR 58 0]) (by rfl) (by rfl) (by rfl) rfl rfl (Nat.le_of_ble_eq_true rfl) (by rfl) h8 hC (by rfl) ?_
    refine Ev.ps 2 rfl ?_
    exact Ev.re rfl rfl rfl rfl rfl
theorem h_dueOf {d : Nat} {p0 : Int32} {h h1 : Hp} {r : Re} {k : Int32} {b : Int32} {w : Int64} (hC : Cal d 57 [vR 8 0, vI p0] h r h1) (h8 : (hget h 8 0).isSome = true) (hw : hget h1 58 0 = some [vL w]) (hA : AgI [(4, 1)] r k b) : Cal (d + 1) 213 [vR 8 0, vI p0, vR 58 0] h (.inl (some (vI k))) (hoI r h1) := by
  match r, hC, hA with
  | .inl (some (.inl v)), hC, hA =>
    obtain ⟨rfl, rfl⟩ := hA
    refine Cal.mk (n := 4) rfl (Nat.le_of_ble_eq_true rfl) rfl ?_
    refine Ev.ps 4 rfl ?_
    refine Ev.vir (as := [vI p0]) (rest := [vI 0, vR 58 0]) (by rfl) (by rfl) (by rfl) rfl rfl (Nat.le_of_ble_eq_true rfl) (by rfl) h8 hC ?_
    refine Ev.ps 1 rfl ?_
    refine Ev.oJ (w := w) (by rfl) hw ?_
    refine Ev.ps 2 rfl ?_
    exact Ev.re rfl rfl rfl rfl rfl
  | .inr E, hC, hA =>
    simp only [AgI, List.mem_cons, Prod.mk.injEq, List.not_mem_nil, or_false] at hA
    rcases hA with ⟨rfl, rfl⟩
    refine Cal.mk (n := 4) rfl (Nat.le_of_ble_eq_true rfl) rfl ?_
    refine Ev.ps 4 rfl ?_
    refine Ev.virH (t := 12) (as := [vI p0]) (rest := [vI 0, vR 58 0]) (by rfl) (by rfl) (by rfl) rfl rfl (Nat.le_of_ble_eq_true rfl) (by rfl) h8 hC (by rfl) ?_
    refine Ev.ps 2 rfl ?_
    exact Ev.re rfl rfl rfl rfl rfl
theorem h_use {d : Nat} {p0 p1 : Int32} {h h1 : Hp} {r : Re} {k : Int32} {b : UInt32} {w : UInt64} (hC : Cal d 59 [vR 8 0, vI p0, vI p1] h r h1) (h8 : (hget h 8 0).isSome = true) (hw : hget h1 59 0 = some [vD w]) (hA : AgF [(0, 1), (1, 2)] r k b) : Cal (d + 1) 214 [vR 8 0, vI p0, vI p1, vR 59 0] h (.inl (some (vI k))) (hoF r h1) := by
  match r, hC, hA with
  | .inl (some (.inr (.inr (.inl v)))), hC, hA =>
    obtain ⟨rfl, rfl, hF⟩ := hA
    refine Cal.mk (n := 5) rfl (Nat.le_of_ble_eq_true rfl) rfl ?_
    refine Ev.ps 5 rfl ?_
    refine Ev.vir (as := [vI p0, vI p1]) (rest := [vI 0, vR 59 0]) (by rfl) (by rfl) (by rfl) rfl rfl (Nat.le_of_ble_eq_true rfl) (by rfl) h8 hC ?_
    refine Ev.f2 (by rfl) hF ?_
    refine Ev.oD (w := w) (by rfl) hw ?_
    refine Ev.ps 2 rfl ?_
    exact Ev.re rfl rfl rfl rfl rfl
  | .inr E, hC, hA =>
    simp only [AgF, List.mem_cons, Prod.mk.injEq, List.not_mem_nil, or_false] at hA
    rcases hA with ⟨rfl, rfl⟩ | ⟨rfl, rfl⟩
    · refine Cal.mk (n := 5) rfl (Nat.le_of_ble_eq_true rfl) rfl ?_
      refine Ev.ps 5 rfl ?_
      refine Ev.virH (t := 13) (as := [vI p0, vI p1]) (rest := [vI 0, vR 59 0]) (by rfl) (by rfl) (by rfl) rfl rfl (Nat.le_of_ble_eq_true rfl) (by rfl) h8 hC (by rfl) ?_
      refine Ev.ps 2 rfl ?_
      exact Ev.re rfl rfl rfl rfl rfl
    · refine Cal.mk (n := 5) rfl (Nat.le_of_ble_eq_true rfl) rfl ?_
      refine Ev.ps 5 rfl ?_
      refine Ev.virH (t := 17) (as := [vI p0, vI p1]) (rest := [vI 0, vR 59 0]) (by rfl) (by rfl) (by rfl) rfl rfl (Nat.le_of_ble_eq_true rfl) (by rfl) h8 hC (by rfl) ?_
      refine Ev.ps 2 rfl ?_
      exact Ev.re rfl rfl rfl rfl rfl
theorem h_meanMinutes {d : Nat} {h h1 : Hp} {r : Re} {k : Int32} {b : UInt64} {w : UInt64} (hC : Cal d 60 [vR 8 0] h r h1) (h8 : (hget h 8 0).isSome = true) (hw : hget h1 59 0 = some [vD w]) (hA : AgD [(3, 1)] r k b) : Cal (d + 1) 215 [vR 8 0, vR 59 0] h (.inl (some (vI k))) (hoD r h1) := by
  match r, hC, hA with
  | .inl (some (.inr (.inr (.inr (.inl v))))), hC, hA =>
    obtain ⟨rfl, rfl⟩ := hA
    refine Cal.mk (n := 3) rfl (Nat.le_of_ble_eq_true rfl) rfl ?_
    refine Ev.ps 3 rfl ?_
    refine Ev.vir (as := []) (rest := [vI 0, vR 59 0]) (by rfl) (by rfl) (by rfl) rfl rfl (Nat.le_of_ble_eq_true rfl) (by rfl) h8 hC ?_
    refine Ev.oD (w := w) (by rfl) hw ?_
    refine Ev.ps 2 rfl ?_
    exact Ev.re rfl rfl rfl rfl rfl
  | .inr E, hC, hA =>
    simp only [AgD, List.mem_cons, Prod.mk.injEq, List.not_mem_nil, or_false] at hA
    rcases hA with ⟨rfl, rfl⟩
    refine Cal.mk (n := 3) rfl (Nat.le_of_ble_eq_true rfl) rfl ?_
    refine Ev.ps 3 rfl ?_
    refine Ev.virH (t := 10) (as := []) (rest := [vI 0, vR 59 0]) (by rfl) (by rfl) (by rfl) rfl rfl (Nat.le_of_ble_eq_true rfl) (by rfl) h8 hC (by rfl) ?_
    refine Ev.ps 2 rfl ?_
    exact Ev.re rfl rfl rfl rfl rfl
