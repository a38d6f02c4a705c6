/-! the class's constructors, over any heap (written by gctor.py) -/
theorem hget_put_nb {h : Hp} {s n b : Nat} {o : Ob} (hs : b ≠ n) : hget (hput h s n o) s b = hget h s b := by
  unfold hget hput
  dsimp only
  rw [if_pos rfl, List.getElem?_set_ne (fun z => hs z.symm)]
theorem s_iBar {d : Nat} {h : Hp} {n : Nat} {a b : Int32} (hg : hget h 0 n = some (odf 0))  : Cal d 0 [vR 0 n, vI a, vI b] h (.inl none) (hput h 0 n [vI a, vI b, vI b]) := by
  refine Cal.mk (n := 3) rfl (Nat.le_of_ble_eq_true rfl) rfl ?_
  refine Ev.ps 1 rfl ?_
  refine Ev.obj (by rfl) (by rfl) (Nat.le_of_ble_eq_true rfl) ?_
  refine Ev.ps 2 rfl ?_
  refine Ev.pf (by rfl) (by rfl) (by rfl) (Nat.le_of_ble_eq_true rfl) rfl (Or.inr ⟨by rfl, by rfl⟩) (hg) (show _ = hput h 0 n [vI a, vI 0, vI 0] from rfl) ?_
  refine Ev.ps 2 rfl ?_
  refine Ev.pf (by rfl) (by rfl) (by rfl) (Nat.le_of_ble_eq_true rfl) rfl (Or.inr ⟨by rfl, by rfl⟩) (hget_put (hg)) (show _ = hput h 0 n [vI a, vI b, vI 0] from hput_put) ?_
  refine Ev.ps 2 rfl ?_
  refine Ev.pf (by rfl) (by rfl) (by rfl) (Nat.le_of_ble_eq_true rfl) rfl (Or.inr ⟨by rfl, by rfl⟩) (hget_put (hg)) (show _ = hput h 0 n [vI a, vI b, vI b] from hput_put) ?_
  exact Ev.re rfl rfl rfl rfl rfl
theorem s_iBrk {d : Nat} {h : Hp} {n : Nat} {q : Nat} (hg : hget h 1 n = some (odf 1))  : Cal d 1 [vR 1 n, vR 23 q] h (.inl none) (hput h 1 n [vR 23 q]) := by
  refine Cal.mk (n := 2) rfl (Nat.le_of_ble_eq_true rfl) rfl ?_
  refine Ev.ps 1 rfl ?_
  refine Ev.obj (by rfl) (by rfl) (Nat.le_of_ble_eq_true rfl) ?_
  refine Ev.ps 2 rfl ?_
  refine Ev.pf (by rfl) (by rfl) (by rfl) (Nat.le_of_ble_eq_true rfl) rfl (Or.inr ⟨by rfl, by rfl⟩) (hg) (show _ = hput h 1 n [vR 23 q] from rfl) ?_
  exact Ev.re rfl rfl rfl rfl rfl
theorem s_iCut {d : Nat} {h : Hp} {n : Nat} {q : Nat} {b : Int32} (hg : hget h 2 n = some (odf 2))  : Cal d 3 [vR 2 n, vR 0 q, vI b] h (.inl none) (hput h 2 n [vR 0 q, vI b]) := by
  refine Cal.mk (n := 3) rfl (Nat.le_of_ble_eq_true rfl) rfl ?_
  refine Ev.ps 1 rfl ?_
  refine Ev.obj (by rfl) (by rfl) (Nat.le_of_ble_eq_true rfl) ?_
  refine Ev.ps 2 rfl ?_
  refine Ev.pf (by rfl) (by rfl) (by rfl) (Nat.le_of_ble_eq_true rfl) rfl (Or.inr ⟨by rfl, by rfl⟩) (hg) (show _ = hput h 2 n [vR 0 q, vI 0] from rfl) ?_
  refine Ev.ps 2 rfl ?_
  refine Ev.pf (by rfl) (by rfl) (by rfl) (Nat.le_of_ble_eq_true rfl) rfl (Or.inr ⟨by rfl, by rfl⟩) (hget_put (hg)) (show _ = hput h 2 n [vR 0 q, vI b] from hput_put) ?_
  exact Ev.re rfl rfl rfl rfl rfl
theorem s_iEnt {d : Nat} {h : Hp} {n : Nat} {m c : Nat} {D S M V : Int32} (hg : hget h 3 n = some (odf 3)) (hV : pfit .char (vI V) = true) : Cal d 4 [vR 3 n, vR 7 m, vR 6 c, vI D, vI S, vI M, vI V] h (.inl none) (hput (hnew h 17 [[]] 1 3) 3 n [vR 7 m, vR 6 c, vI D, vI S, vI M, vI (S + M), vI V, vR 17 ((h.1 17).length), vI 119, vI 0]) := by
  refine Cal.mk (n := 7) rfl (Nat.le_of_ble_eq_true rfl) rfl ?_
  refine Ev.ps 1 rfl ?_
  refine Ev.obj (by rfl) (by rfl) (Nat.le_of_ble_eq_true rfl) ?_
  refine Ev.ps 1 rfl ?_
  refine Ev.nwl (by rfl) (by rfl) (by decide) (nlb_ok (by rfl) (by rfl) (Nat.le_of_ble_eq_true rfl) (by rfl) (by rfl) (by rfl)) rfl rfl ?_
  refine Ev.pf (by rfl) (by rfl) (by rfl) (Nat.le_of_ble_eq_true rfl) rfl (Or.inr ⟨by rfl, by rfl⟩) ((hget_new_ne (by decide)).trans (hg)) (show _ = hput (hnew h 17 [[]] 1 3) 3 n [vN, vN, vI 0, vI 0, vI 0, vI 0, vI 0, vR 17 ((h.1 17).length), vI 0, vI 0] from rfl) ?_
  refine Ev.ps 2 rfl ?_
  refine Ev.pf (by rfl) (by rfl) (by rfl) (Nat.le_of_ble_eq_true rfl) rfl (Or.inr ⟨by rfl, by rfl⟩) (hget_put ((hget_new_ne (by decide)).trans (hg))) (show _ = hput (hnew h 17 [[]] 1 3) 3 n [vN, vN, vI 0, vI 0, vI 0, vI 0, vI 0, vR 17 ((h.1 17).length), vI 119, vI 0] from hput_put) ?_
  refine Ev.ps 2 rfl ?_
  refine Ev.pf (by rfl) (by rfl) (by rfl) (Nat.le_of_ble_eq_true rfl) rfl (Or.inr ⟨by rfl, by rfl⟩) (hget_put ((hget_new_ne (by decide)).trans (hg))) (show _ = hput (hnew h 17 [[]] 1 3) 3 n [vN, vN, vI 0, vI 0, vI 0, vI 0, vI 0, vR 17 ((h.1 17).length), vI 119, vI 0] from hput_put) ?_
  refine Ev.ps 2 rfl ?_
  refine Ev.pf (by rfl) (by rfl) (by rfl) (Nat.le_of_ble_eq_true rfl) rfl (Or.inr ⟨by rfl, by rfl⟩) (hget_put ((hget_new_ne (by decide)).trans (hg))) (show _ = hput (hnew h 17 [[]] 1 3) 3 n [vR 7 m, vN, vI 0, vI 0, vI 0, vI 0, vI 0, vR 17 ((h.1 17).length), vI 119, vI 0] from hput_put) ?_
  refine Ev.ps 2 rfl ?_
  refine Ev.pf (by rfl) (by rfl) (by rfl) (Nat.le_of_ble_eq_true rfl) rfl (Or.inr ⟨by rfl, by rfl⟩) (hget_put ((hget_new_ne (by decide)).trans (hg))) (show _ = hput (hnew h 17 [[]] 1 3) 3 n [vR 7 m, vR 6 c, vI 0, vI 0, vI 0, vI 0, vI 0, vR 17 ((h.1 17).length), vI 119, vI 0] from hput_put) ?_
  refine Ev.ps 2 rfl ?_
  refine Ev.pf (by rfl) (by rfl) (by rfl) (Nat.le_of_ble_eq_true rfl) rfl (Or.inr ⟨by rfl, by rfl⟩) (hget_put ((hget_new_ne (by decide)).trans (hg))) (show _ = hput (hnew h 17 [[]] 1 3) 3 n [vR 7 m, vR 6 c, vI D, vI 0, vI 0, vI 0, vI 0, vR 17 ((h.1 17).length), vI 119, vI 0] from hput_put) ?_
  refine Ev.ps 2 rfl ?_
  refine Ev.pf (by rfl) (by rfl) (by rfl) (Nat.le_of_ble_eq_true rfl) rfl (Or.inr ⟨by rfl, by rfl⟩) (hget_put ((hget_new_ne (by decide)).trans (hg))) (show _ = hput (hnew h 17 [[]] 1 3) 3 n [vR 7 m, vR 6 c, vI D, vI S, vI 0, vI 0, vI 0, vR 17 ((h.1 17).length), vI 119, vI 0] from hput_put) ?_
  refine Ev.ps 2 rfl ?_
  refine Ev.pf (by rfl) (by rfl) (by rfl) (Nat.le_of_ble_eq_true rfl) rfl (Or.inr ⟨by rfl, by rfl⟩) (hget_put ((hget_new_ne (by decide)).trans (hg))) (show _ = hput (hnew h 17 [[]] 1 3) 3 n [vR 7 m, vR 6 c, vI D, vI S, vI M, vI 0, vI 0, vR 17 ((h.1 17).length), vI 119, vI 0] from hput_put) ?_
  refine Ev.ps 4 rfl ?_
  refine Ev.pf (by rfl) (by rfl) (by rfl) (Nat.le_of_ble_eq_true rfl) rfl (Or.inr ⟨by rfl, by rfl⟩) (hget_put ((hget_new_ne (by decide)).trans (hg))) (show _ = hput (hnew h 17 [[]] 1 3) 3 n [vR 7 m, vR 6 c, vI D, vI S, vI M, vI (S + M), vI 0, vR 17 ((h.1 17).length), vI 119, vI 0] from hput_put) ?_
  refine Ev.ps 2 rfl ?_
  refine Ev.pf (by rfl) (by rfl) (by rfl) (Nat.le_of_ble_eq_true rfl) (by exact hV) (Or.inr ⟨by rfl, by rfl⟩) (hget_put ((hget_new_ne (by decide)).trans (hg))) (show _ = hput (hnew h 17 [[]] 1 3) 3 n [vR 7 m, vR 6 c, vI D, vI S, vI M, vI (S + M), vI V, vR 17 ((h.1 17).length), vI 119, vI 0] from hput_put) ?_
  exact Ev.re rfl rfl rfl rfl rfl
theorem s_iMach {d : Nat} {h : Hp} {n : Nat} {k : Nat} {s : Int32} (hg : hget h 6 n = some (odf 6))  : Cal d 11 [vR 6 n, vR 4 k, vI s] h (.inl none) (hput (hnew h 16 [[]] 1 3) 6 n [vR 4 k, vI s, vR 16 ((h.1 16).length)]) := by
  refine Cal.mk (n := 3) rfl (Nat.le_of_ble_eq_true rfl) rfl ?_
  refine Ev.ps 1 rfl ?_
  refine Ev.obj (by rfl) (by rfl) (Nat.le_of_ble_eq_true rfl) ?_
  refine Ev.ps 1 rfl ?_
  refine Ev.nwl (by rfl) (by rfl) (by decide) (nlb_ok (by rfl) (by rfl) (Nat.le_of_ble_eq_true rfl) (by rfl) (by rfl) (by rfl)) rfl rfl ?_
  refine Ev.pf (by rfl) (by rfl) (by rfl) (Nat.le_of_ble_eq_true rfl) rfl (Or.inr ⟨by rfl, by rfl⟩) ((hget_new_ne (by decide)).trans (hg)) (show _ = hput (hnew h 16 [[]] 1 3) 6 n [vN, vI 0, vR 16 ((h.1 16).length)] from rfl) ?_
  refine Ev.ps 2 rfl ?_
  refine Ev.pf (by rfl) (by rfl) (by rfl) (Nat.le_of_ble_eq_true rfl) rfl (Or.inr ⟨by rfl, by rfl⟩) (hget_put ((hget_new_ne (by decide)).trans (hg))) (show _ = hput (hnew h 16 [[]] 1 3) 6 n [vR 4 k, vI 0, vR 16 ((h.1 16).length)] from hput_put) ?_
  refine Ev.ps 2 rfl ?_
  refine Ev.pf (by rfl) (by rfl) (by rfl) (Nat.le_of_ble_eq_true rfl) rfl (Or.inr ⟨by rfl, by rfl⟩) (hget_put ((hget_new_ne (by decide)).trans (hg))) (show _ = hput (hnew h 16 [[]] 1 3) 6 n [vR 4 k, vI s, vR 16 ((h.1 16).length)] from hput_put) ?_
  exact Ev.re rfl rfl rfl rfl rfl
theorem s_iLayN {d : Nat} {h : Hp} {n : Nat} {a b : Int32} (hg : hget h 5 n = some (odf 5))  : Cal d 10 [vR 5 n, vI a, vI b, vN] h (.inl none) (hput h 5 n [vI a, vI b, vN, vI 1]) := by
  refine Cal.mk (n := 4) rfl (Nat.le_of_ble_eq_true rfl) rfl ?_
  refine Ev.ps 1 rfl ?_
  refine Ev.obj (by rfl) (by rfl) (Nat.le_of_ble_eq_true rfl) ?_
  refine Ev.ps 2 rfl ?_
  refine Ev.pf (by rfl) (by rfl) (by rfl) (Nat.le_of_ble_eq_true rfl) rfl (Or.inr ⟨by rfl, by rfl⟩) (hg) (show _ = hput h 5 n [vI a, vI 0, vN, vI 0] from rfl) ?_
  refine Ev.ps 2 rfl ?_
  refine Ev.pf (by rfl) (by rfl) (by rfl) (Nat.le_of_ble_eq_true rfl) rfl (Or.inr ⟨by rfl, by rfl⟩) (hget_put (hg)) (show _ = hput h 5 n [vI a, vI b, vN, vI 0] from hput_put) ?_
  refine Ev.ps 2 rfl ?_
  refine Ev.pf (by rfl) (by rfl) (by rfl) (Nat.le_of_ble_eq_true rfl) rfl (Or.inr ⟨by rfl, by rfl⟩) (hget_put (hg)) (show _ = hput h 5 n [vI a, vI b, vN, vI 0] from hput_put) ?_
  refine Ev.ps 5 rfl ?_
  refine Ev.pf (by rfl) (by rfl) (by rfl) (Nat.le_of_ble_eq_true rfl) rfl (Or.inr ⟨by rfl, by rfl⟩) (hget_put (hg)) (show _ = hput h 5 n [vI a, vI b, vN, vI 1] from hput_put) ?_
  exact Ev.re rfl rfl rfl rfl rfl
theorem s_iLayR {d : Nat} {h : Hp} {n : Nat} {a c : Int32} {b : Nat} {x0 x1 x3 : Int32} {x2 : MV} (hg : hget h 5 n = some (odf 5)) (hbn : b ≠ n) (hgb : hget h 5 b = some [vI x0, vI x1, x2, vI x3]) : Cal d 10 [vR 5 n, vI a, vI c, vR 5 b] h (.inl none) (hput h 5 n [vI a, vI c, vR 5 b, vI (x3 + 1)]) := by
  refine Cal.mk (n := 4) rfl (Nat.le_of_ble_eq_true rfl) rfl ?_
  refine Ev.ps 1 rfl ?_
  refine Ev.obj (by rfl) (by rfl) (Nat.le_of_ble_eq_true rfl) ?_
  refine Ev.ps 2 rfl ?_
  refine Ev.pf (by rfl) (by rfl) (by rfl) (Nat.le_of_ble_eq_true rfl) rfl (Or.inr ⟨by rfl, by rfl⟩) (hg) (show _ = hput h 5 n [vI a, vI 0, vN, vI 0] from rfl) ?_
  refine Ev.ps 2 rfl ?_
  refine Ev.pf (by rfl) (by rfl) (by rfl) (Nat.le_of_ble_eq_true rfl) rfl (Or.inr ⟨by rfl, by rfl⟩) (hget_put (hg)) (show _ = hput h 5 n [vI a, vI c, vN, vI 0] from hput_put) ?_
  refine Ev.ps 2 rfl ?_
  refine Ev.pf (by rfl) (by rfl) (by rfl) (Nat.le_of_ble_eq_true rfl) rfl (Or.inr ⟨by rfl, by rfl⟩) (hget_put (hg)) (show _ = hput h 5 n [vI a, vI c, vR 5 b, vI 0] from hput_put) ?_
  refine Ev.ps 4 rfl ?_
  refine Ev.getf (v := vI x3) (by rfl) (by rfl) (by rfl) ((hget_put_nb hbn).trans hgb) rfl ?_
  refine Ev.ps 2 rfl ?_
  refine Ev.pf (by rfl) (by rfl) (by rfl) (Nat.le_of_ble_eq_true rfl) rfl (Or.inr ⟨by rfl, by rfl⟩) (hget_put (hg)) (show _ = hput h 5 n [vI a, vI c, vR 5 b, vI (x3 + 1)] from hput_put) ?_
  exact Ev.re rfl rfl rfl rfl rfl
theorem s_iMem {d : Nat} {h : Hp} {n : Nat}  (hg : hget h 7 n = some (odf 7))  : Cal d 17 [vR 7 n] h (.inl none) (hput (hput (hnew h 20 [pl 4 (fun _ => vI 0)] 1 4) 7 n [vR 20 ((h.1 20).length), vI 0, vI 0]) 20 (h.1 20).length (pl 4 (fun k => vI ((fup (fup (fup (fup (fun _ => (0 : Int32)) 0 (-1)) 1 (-1)) 2 (-1)) 3 (-1)) k)))) := by
  refine Cal.mk (n := 2) rfl (Nat.le_of_ble_eq_true rfl) rfl ?_
  refine Ev.ps 1 rfl ?_
  refine Ev.obj (by rfl) (by rfl) (Nat.le_of_ble_eq_true rfl) ?_
  refine Ev.ps 2 rfl ?_
  refine Ev.na (N := 4) (by rfl) (by rfl) ⟨by rfl, by decide, by rfl⟩ (by omega) rfl (rfl) ?_
  refine Ev.pf (by rfl) (by rfl) (by rfl) (Nat.le_of_ble_eq_true rfl) rfl (Or.inr ⟨by rfl, by rfl⟩) ((hget_new_ne (by decide)).trans (hg)) (show _ = hput (hnew h 20 [pl 4 (fun _ => vI 0)] 1 4) 7 n [vR 20 ((h.1 20).length), vI 0, vI 0] from rfl) ?_
  refine Ev.ps 2 rfl ?_
  refine Ev.pf (by rfl) (by rfl) (by rfl) (Nat.le_of_ble_eq_true rfl) rfl (Or.inr ⟨by rfl, by rfl⟩) (hget_put ((hget_new_ne (by decide)).trans (hg))) (show _ = hput (hnew h 20 [pl 4 (fun _ => vI 0)] 1 4) 7 n [vR 20 ((h.1 20).length), vI 0, vI 0] from hput_put) ?_
  refine Ev.ps 2 rfl ?_
  refine Ev.pf (by rfl) (by rfl) (by rfl) (Nat.le_of_ble_eq_true rfl) rfl (Or.inr ⟨by rfl, by rfl⟩) (hget_put ((hget_new_ne (by decide)).trans (hg))) (show _ = hput (hnew h 20 [pl 4 (fun _ => vI 0)] 1 4) 7 n [vR 20 ((h.1 20).length), vI 0, vI 0] from hput_put) ?_
  refine Ev.ps 4 rfl ?_
  refine Ev.getf (v := vR 20 ((h.1 20).length)) (by rfl) (by rfl) (by rfl) (hget_put ((hget_new_ne (by decide)).trans (hg))) rfl ?_
  refine Ev.arl (N := 4) (by rfl) (by decide) ((hget_put_ne (by decide)).trans (hget_new (h := h))) pl_len ?_
  refine Ev.icmp (by rfl) (by rfl) (fun z => by exact absurd z (by decide)) (fun _ => ?_)
  refine Ev.ps 1 rfl ?_
  refine Ev.getf (v := vR 20 ((h.1 20).length)) (by rfl) (by rfl) (by rfl) (hget_put ((hget_new_ne (by decide)).trans (hg))) rfl ?_
  refine Ev.ps 2 rfl ?_
  refine Ev.asI (k := 0) (by rfl) (by rfl) ((hget_put_ne (by decide)).trans (hget_new (h := h))) (by omega) (by omega) (show _ = hput (hput (hnew h 20 [pl 4 (fun _ => vI 0)] 1 4) 7 n [vR 20 ((h.1 20).length), vI 0, vI 0]) 20 (h.1 20).length (pl 4 (fun k => vI ((fup (fun _ => (0 : Int32)) 0 (-1)) k))) from (congrArg (hput _ _ _) (pl_setI (f := (fun _ => (0 : Int32))) (F := fun _ v => vI v) (v := (-1))))) ?_
  refine Ev.ps 4 rfl ?_
  refine Ev.getf (v := vR 20 ((h.1 20).length)) (by rfl) (by rfl) (by rfl) ((hget_put_ne (by decide)).trans (hget_put ((hget_new_ne (by decide)).trans (hg)))) rfl ?_
  refine Ev.arl (N := 4) (by rfl) (by decide) (hget_put ((hget_put_ne (by decide)).trans (hget_new (h := h)))) pl_len ?_
  refine Ev.icmp (by rfl) (by rfl) (fun z => by exact absurd z (by decide)) (fun _ => ?_)
  refine Ev.ps 1 rfl ?_
  refine Ev.getf (v := vR 20 ((h.1 20).length)) (by rfl) (by rfl) (by rfl) ((hget_put_ne (by decide)).trans (hget_put ((hget_new_ne (by decide)).trans (hg)))) rfl ?_
  refine Ev.ps 2 rfl ?_
  refine Ev.asI (k := 1) (by rfl) (by rfl) (hget_put ((hget_put_ne (by decide)).trans (hget_new (h := h)))) (by omega) (by omega) (show _ = hput (hput (hnew h 20 [pl 4 (fun _ => vI 0)] 1 4) 7 n [vR 20 ((h.1 20).length), vI 0, vI 0]) 20 (h.1 20).length (pl 4 (fun k => vI ((fup (fup (fun _ => (0 : Int32)) 0 (-1)) 1 (-1)) k))) from (congrArg (hput _ _ _) (pl_setI (f := (fup (fun _ => (0 : Int32)) 0 (-1))) (F := fun _ v => vI v) (v := (-1)))).trans hput_put) ?_
  refine Ev.ps 4 rfl ?_
  refine Ev.getf (v := vR 20 ((h.1 20).length)) (by rfl) (by rfl) (by rfl) ((hget_put_ne (by decide)).trans (hget_put ((hget_new_ne (by decide)).trans (hg)))) rfl ?_
  refine Ev.arl (N := 4) (by rfl) (by decide) (hget_put ((hget_put_ne (by decide)).trans (hget_new (h := h)))) pl_len ?_
  refine Ev.icmp (by rfl) (by rfl) (fun z => by exact absurd z (by decide)) (fun _ => ?_)
  refine Ev.ps 1 rfl ?_
  refine Ev.getf (v := vR 20 ((h.1 20).length)) (by rfl) (by rfl) (by rfl) ((hget_put_ne (by decide)).trans (hget_put ((hget_new_ne (by decide)).trans (hg)))) rfl ?_
  refine Ev.ps 2 rfl ?_
  refine Ev.asI (k := 2) (by rfl) (by rfl) (hget_put ((hget_put_ne (by decide)).trans (hget_new (h := h)))) (by omega) (by omega) (show _ = hput (hput (hnew h 20 [pl 4 (fun _ => vI 0)] 1 4) 7 n [vR 20 ((h.1 20).length), vI 0, vI 0]) 20 (h.1 20).length (pl 4 (fun k => vI ((fup (fup (fup (fun _ => (0 : Int32)) 0 (-1)) 1 (-1)) 2 (-1)) k))) from (congrArg (hput _ _ _) (pl_setI (f := (fup (fup (fun _ => (0 : Int32)) 0 (-1)) 1 (-1))) (F := fun _ v => vI v) (v := (-1)))).trans hput_put) ?_
  refine Ev.ps 4 rfl ?_
  refine Ev.getf (v := vR 20 ((h.1 20).length)) (by rfl) (by rfl) (by rfl) ((hget_put_ne (by decide)).trans (hget_put ((hget_new_ne (by decide)).trans (hg)))) rfl ?_
  refine Ev.arl (N := 4) (by rfl) (by decide) (hget_put ((hget_put_ne (by decide)).trans (hget_new (h := h)))) pl_len ?_
  refine Ev.icmp (by rfl) (by rfl) (fun z => by exact absurd z (by decide)) (fun _ => ?_)
  refine Ev.ps 1 rfl ?_
  refine Ev.getf (v := vR 20 ((h.1 20).length)) (by rfl) (by rfl) (by rfl) ((hget_put_ne (by decide)).trans (hget_put ((hget_new_ne (by decide)).trans (hg)))) rfl ?_
  refine Ev.ps 2 rfl ?_
  refine Ev.asI (k := 3) (by rfl) (by rfl) (hget_put ((hget_put_ne (by decide)).trans (hget_new (h := h)))) (by omega) (by omega) (show _ = hput (hput (hnew h 20 [pl 4 (fun _ => vI 0)] 1 4) 7 n [vR 20 ((h.1 20).length), vI 0, vI 0]) 20 (h.1 20).length (pl 4 (fun k => vI ((fup (fup (fup (fup (fun _ => (0 : Int32)) 0 (-1)) 1 (-1)) 2 (-1)) 3 (-1)) k))) from (congrArg (hput _ _ _) (pl_setI (f := (fup (fup (fup (fun _ => (0 : Int32)) 0 (-1)) 1 (-1)) 2 (-1))) (F := fun _ v => vI v) (v := (-1)))).trans hput_put) ?_
  refine Ev.ps 4 rfl ?_
  refine Ev.getf (v := vR 20 ((h.1 20).length)) (by rfl) (by rfl) (by rfl) ((hget_put_ne (by decide)).trans (hget_put ((hget_new_ne (by decide)).trans (hg)))) rfl ?_
  refine Ev.arl (N := 4) (by rfl) (by decide) (hget_put ((hget_put_ne (by decide)).trans (hget_new (h := h)))) pl_len ?_
  refine Ev.icmp (by rfl) (by rfl) (fun _ => ?_) (fun z => by exact absurd z (by decide))
  exact Ev.re rfl rfl rfl rfl rfl
