/-! the start of the law: both objects, and the rows for answers (written by gen89.py) -/
def C0 : CD := mkC (fun _ => 0) (fun k => k) 4 (fun _ => (0, 0, none, 1)) 0 (fun _ => 0) (fun _ => 0) (fun _ => []) 0 (fun _ _ => 0) (fun _ => 0) (fun _ => 0) 0 (fun _ => 0) (fun _ => 0) (fun _ => 0) (fun _ => 0) (fun _ => 0) (fun _ => 0) (fun _ => 0) (fun _ => 0) (fun _ => 0) (fun _ => []) 0 (fun _ => 0) (fun _ => 0) 0 (fun _ => 0) (fun _ => 0) (fun _ => 0) 0 (fun _ => 0) (fun _ _ => 0) (fun _ => 0) 0 [] [] [] []
def R0 : RD := mkR (fun _ => 0) (fun _ => 0) 0 0 (fun _ _ => 0) (fun _ => 0) (fun _ _ => false) 0 (fun _ => 0) (fun _ => 0) (fun _ => 0) (fun _ => 0) (fun _ => 0) (fun _ => 0) (fun _ => 0) (fun _ => 0) (fun _ => 0) (fun _ _ => 0) (fun _ _ => 0) 0 (fun _ => 0) (fun _ => 0) 0 (fun _ => 0) (fun _ k => fup (fun _ => 0) 0 114 k) (fun _ _ => 0) (fun _ => 1) (fun _ _ => 0) 0 0
def W0 (L : Nat) (xs : Nat → Int32) : WD := mkW 0 0 0 L xs [] [] [] 388 3730
theorem h0_gh {L : Nat} {xs : Nat → Int32} : h0 L xs = gh [[], [], [], [], [], [], [], [], [], [], [], [], [], [], [], [], [], [], [], [], [], [], [], [], [], [], [], [], [], [], [], [], [], [], [], [], [], [], [], [], [], [], [], [], [], [], [], [], [], [], [], [], [], [], [], [], [], [], [], [], [], [scOb L xs]] (0, 0) := by
  unfold h0 gh
  refine Prod.ext (funext fun t => ?_) rfl
  dsimp only
  by_cases e : t = sScr
  · subst e
    rfl
  · rw [if_neg e]
    match t, e with
    | 0, _ => rfl
    | 1, _ => rfl
    | 2, _ => rfl
    | 3, _ => rfl
    | 4, _ => rfl
    | 5, _ => rfl
    | 6, _ => rfl
    | 7, _ => rfl
    | 8, _ => rfl
    | 9, _ => rfl
    | 10, _ => rfl
    | 11, _ => rfl
    | 12, _ => rfl
    | 13, _ => rfl
    | 14, _ => rfl
    | 15, _ => rfl
    | 16, _ => rfl
    | 17, _ => rfl
    | 18, _ => rfl
    | 19, _ => rfl
    | 20, _ => rfl
    | 21, _ => rfl
    | 22, _ => rfl
    | 23, _ => rfl
    | 24, _ => rfl
    | 25, _ => rfl
    | 26, _ => rfl
    | 27, _ => rfl
    | 28, _ => rfl
    | 29, _ => rfl
    | 30, _ => rfl
    | 31, _ => rfl
    | 32, _ => rfl
    | 33, _ => rfl
    | 34, _ => rfl
    | 35, _ => rfl
    | 36, _ => rfl
    | 37, _ => rfl
    | 38, _ => rfl
    | 39, _ => rfl
    | 40, _ => rfl
    | 41, _ => rfl
    | 42, _ => rfl
    | 43, _ => rfl
    | 44, _ => rfl
    | 45, _ => rfl
    | 46, _ => rfl
    | 47, _ => rfl
    | 48, _ => rfl
    | 49, _ => rfl
    | 50, _ => rfl
    | 51, _ => rfl
    | 52, _ => rfl
    | 53, _ => rfl
    | 54, _ => rfl
    | 55, _ => rfl
    | 56, _ => rfl
    | 57, _ => rfl
    | 58, _ => rfl
    | 59, _ => rfl
    | 60, _ => rfl
    | 61, e => exact absurd rfl e
    | t + 62, _ => rfl
theorem p52 : pl 4 (fun k => vI ((fup (fup (fup (fup (fun _ => (0 : Int32)) 0 1) 1 1) 2 1) 3 1) k)) = pl 4 (fun k => vI (nI ((fun _ => 1 : Nat → Nat) k))) := rfl
set_option maxRecDepth 4000 in
theorem fin_enc {L : Nat} {xs : Nat → Int32} : gh [[], [], [], [], [[vI 1, vI 0, vI 0, vR 5 0], [vI 2, vI 1, vI 0, vR 5 1], [vI 4, vI 2, vI 0, vR 5 2], [vI 8, vI 3, vI 0, vR 5 3]], [[vI 0, vI 0, vN, vI 1], [vI 0, vI 0, vN, vI 1], [vI 0, vI 0, vN, vI 1], [vI 0, vI 0, vN, vI 1]], [], [], [[vR 10 0, vR 11 0, vR 12 0, vR 13 0, vR 14 0, vR 15 0, vR 21 0, vI 0]], [[vR 25 0, vR 26 0, vI 0, vI 0, vR 27 0, vR 29 0, vR 30 0, vI 0, vR 32 0, vR 33 0, vR 34 0, vR 35 0, vR 36 0, vR 37 0, vR 38 0, vR 39 0, vR 40 0, vR 41 0, vR 43 0, vI 0, vR 45 0, vR 46 0, vI 0, vR 47 0, vR 48 0, vR 50 0, vR 52 0, vR 53 0, vI 0, vI 0]], [[vR 4 0, vR 4 1, vR 4 2, vR 4 3]], [[]], [[]], [[]], [[]], [[]], [], [], [], [], [], [pl 3 (fun _ => vI 0)], [], [], [], [pl 6 (fun _ => vI 0)], [pl 6 (fun _ => vI 0)], [pl 10 (fun i => vR 28 i)], pl 10 (fun _ => pl 4 (fun _ => vI 0)), [pl 10 (fun _ => vL 0)], [pl 4 (fun i => vR 31 i)], pl 4 (fun _ => pl 4 (fun _ => vI 0)), [pl 150 (fun _ => vI 0)], [pl 150 (fun _ => vI 0)], [pl 150 (fun _ => vI 0)], [pl 150 (fun _ => vI 0)], [pl 150 (fun _ => vI 0)], [pl 150 (fun _ => vI 0)], [pl 150 (fun _ => vI 0)], [pl 150 (fun _ => vI 0)], [pl 150 (fun _ => vI 0)], [pl 150 (fun i => vR 42 i)], pl 150 (fun _ => pl 5 (fun _ => vI 0)), [pl 150 (fun i => vR 44 i)], pl 150 (fun _ => pl 5 (fun _ => vI 0)), [pl 30 (fun _ => vI 0)], [pl 30 (fun _ => vI 0)], [pl 3 (fun _ => vI 0)], [pl 4 (fun i => vR 49 i)], [pl 6 (fun k => vI (fup (fun _ => 0) 0 114 k)), pl 6 (fun k => vI (fup (fun _ => 0) 0 114 k)), pl 6 (fun k => vI (fup (fun _ => 0) 0 114 k)), pl 6 (fun k => vI (fup (fun _ => 0) 0 114 k))], [pl 4 (fun i => vR 51 i)], pl 4 (fun _ => pl 6 (fun _ => vI 0)), [pl 4 (fun k => vI (nI ((fun _ => 1 : Nat → Nat) k)))], [pl 20 (fun i => vR 54 i)], pl 20 (fun _ => pl 10 (fun _ => vI 0)), [], [], [], [pl 1 (fun _ => vL 0)], [pl 1 (fun _ => vD 0)], [], [scOb L xs]] (388, 3730) = enc C0 R0 (W0 L xs) := rfl
set_option maxRecDepth 4000 in
theorem lw_start {d L : Nat} {xs : Nat → Int32} {x : Re × Hp} (K : Ev (d + 3) (216, 28, lwL 0 none none none, []) (enc C0 R0 (W0 L xs)) x) : Ev (d + 3) fr0 (h0 L xs) x := by
  rw [h0_gh]
  show Ev (d + 3) (216, 0, [some (vR 61 0), none, none, none, none, none, none, none, none], []) _ x
  refine Lw.nwo (i := 0) (by rfl) (by rfl) ⟨by rfl, by rfl, Nat.le_of_ble_eq_true rfl, by rfl⟩ rfl (show _ = gh [[], [], [], [], [], [], [], [], [[vN, vN, vN, vN, vN, vN, vN, vI 0]], [], [], [], [], [], [], [], [], [], [], [], [], [], [], [], [], [], [], [], [], [], [], [], [], [], [], [], [], [], [], [], [], [], [], [], [], [], [], [], [], [], [], [], [], [], [], [], [], [], [], [], [], [scOb L xs]] (1, 8) from gh_new (Nat.le_of_ble_eq_true rfl) rfl) ?_
  refine Lw.ps 1 rfl ?_
  refine Lw.spe (as := []) (rest := [vR 8 0]) (by rfl) (by rfl) (by rfl) rfl rfl (Nat.le_of_ble_eq_true rfl) (by rfl) (by rfl) (s_iDesk (d := d) (sc := scOb L xs)) ?_
  refine Lw.ps 1 rfl ?_
  refine Lw.nwo (i := 0) (by rfl) (by rfl) ⟨by rfl, by rfl, Nat.le_of_ble_eq_true rfl, by rfl⟩ rfl (show _ = gh [[], [], [], [], [[vI 1, vI 0, vI 0, vR 5 0], [vI 2, vI 1, vI 0, vR 5 1], [vI 4, vI 2, vI 0, vR 5 2], [vI 8, vI 3, vI 0, vR 5 3]], [[vI 0, vI 0, vN, vI 1], [vI 0, vI 0, vN, vI 1], [vI 0, vI 0, vN, vI 1], [vI 0, vI 0, vN, vI 1]], [], [], [[vR 10 0, vR 11 0, vR 12 0, vR 13 0, vR 14 0, vR 15 0, vR 21 0, vI 0]], [[vN, vN, vI 0, vI 0, vN, vN, vN, vI 0, vN, vN, vN, vN, vN, vN, vN, vN, vN, vN, vN, vI 0, vN, vN, vI 0, vN, vN, vN, vN, vN, vI 0, vI 0]], [[vR 4 0, vR 4 1, vR 4 2, vR 4 3]], [[]], [[]], [[]], [[]], [[]], [], [], [], [], [], [pl 3 (fun _ => vI 0)], [], [], [], [], [], [], [], [], [], [], [], [], [], [], [], [], [], [], [], [], [], [], [], [], [], [], [], [], [], [], [], [], [], [], [], [], [], [], [], [scOb L xs]] (21, 143) from gh_new (Nat.le_of_ble_eq_true rfl) rfl) ?_
  refine Lw.ps 1 rfl ?_
  refine Lw.spe (as := []) (rest := [vR 9 0]) (by rfl) (by rfl) (by rfl) rfl rfl (Nat.le_of_ble_eq_true rfl) (by rfl) (by rfl) (s_iModel (d := d + 2) (sc := scOb L xs)) ?_
  refine Lw.ps 2 rfl ?_
  refine Lw.na (N := 1) (i := 0) (by rfl) (by rfl) (by decide) (by decide) rfl (show _ = gh [[], [], [], [], [[vI 1, vI 0, vI 0, vR 5 0], [vI 2, vI 1, vI 0, vR 5 1], [vI 4, vI 2, vI 0, vR 5 2], [vI 8, vI 3, vI 0, vR 5 3]], [[vI 0, vI 0, vN, vI 1], [vI 0, vI 0, vN, vI 1], [vI 0, vI 0, vN, vI 1], [vI 0, vI 0, vN, vI 1]], [], [], [[vR 10 0, vR 11 0, vR 12 0, vR 13 0, vR 14 0, vR 15 0, vR 21 0, vI 0]], [[vR 25 0, vR 26 0, vI 0, vI 0, vR 27 0, vR 29 0, vR 30 0, vI 0, vR 32 0, vR 33 0, vR 34 0, vR 35 0, vR 36 0, vR 37 0, vR 38 0, vR 39 0, vR 40 0, vR 41 0, vR 43 0, vI 0, vR 45 0, vR 46 0, vI 0, vR 47 0, vR 48 0, vR 50 0, vR 52 0, vR 53 0, vI 0, vI 0]], [[vR 4 0, vR 4 1, vR 4 2, vR 4 3]], [[]], [[]], [[]], [[]], [[]], [], [], [], [], [], [pl 3 (fun _ => vI 0)], [], [], [], [pl 6 (fun _ => vI 0)], [pl 6 (fun _ => vI 0)], [pl 10 (fun i => vR 28 i)], pl 10 (fun _ => pl 4 (fun _ => vI 0)), [pl 10 (fun _ => vL 0)], [pl 4 (fun i => vR 31 i)], pl 4 (fun _ => pl 4 (fun _ => vI 0)), [pl 150 (fun _ => vI 0)], [pl 150 (fun _ => vI 0)], [pl 150 (fun _ => vI 0)], [pl 150 (fun _ => vI 0)], [pl 150 (fun _ => vI 0)], [pl 150 (fun _ => vI 0)], [pl 150 (fun _ => vI 0)], [pl 150 (fun _ => vI 0)], [pl 150 (fun _ => vI 0)], [pl 150 (fun i => vR 42 i)], pl 150 (fun _ => pl 5 (fun _ => vI 0)), [pl 150 (fun i => vR 44 i)], pl 150 (fun _ => pl 5 (fun _ => vI 0)), [pl 30 (fun _ => vI 0)], [pl 30 (fun _ => vI 0)], [pl 3 (fun _ => vI 0)], [pl 4 (fun i => vR 49 i)], [pl 6 (fun k => vI (fup (fun _ => 0) 0 114 k)), pl 6 (fun k => vI (fup (fun _ => 0) 0 114 k)), pl 6 (fun k => vI (fup (fun _ => 0) 0 114 k)), pl 6 (fun k => vI (fup (fun _ => 0) 0 114 k))], [pl 4 (fun i => vR 51 i)], pl 4 (fun _ => pl 6 (fun _ => vI 0)), [pl 4 (fun k => vI ((fup (fup (fup (fup (fun _ => (0 : Int32)) 0 1) 1 1) 2 1) 3 1) k))], [pl 20 (fun i => vR 54 i)], pl 20 (fun _ => pl 10 (fun _ => vI 0)), [], [], [], [pl 1 (fun _ => vL 0)], [], [], [scOb L xs]] (387, 3729) from gh_new (Nat.le_of_ble_eq_true rfl) rfl) ?_
  refine Lw.ps 2 rfl ?_
  refine Lw.na (N := 1) (i := 0) (by rfl) (by rfl) (by decide) (by decide) rfl (show _ = gh [[], [], [], [], [[vI 1, vI 0, vI 0, vR 5 0], [vI 2, vI 1, vI 0, vR 5 1], [vI 4, vI 2, vI 0, vR 5 2], [vI 8, vI 3, vI 0, vR 5 3]], [[vI 0, vI 0, vN, vI 1], [vI 0, vI 0, vN, vI 1], [vI 0, vI 0, vN, vI 1], [vI 0, vI 0, vN, vI 1]], [], [], [[vR 10 0, vR 11 0, vR 12 0, vR 13 0, vR 14 0, vR 15 0, vR 21 0, vI 0]], [[vR 25 0, vR 26 0, vI 0, vI 0, vR 27 0, vR 29 0, vR 30 0, vI 0, vR 32 0, vR 33 0, vR 34 0, vR 35 0, vR 36 0, vR 37 0, vR 38 0, vR 39 0, vR 40 0, vR 41 0, vR 43 0, vI 0, vR 45 0, vR 46 0, vI 0, vR 47 0, vR 48 0, vR 50 0, vR 52 0, vR 53 0, vI 0, vI 0]], [[vR 4 0, vR 4 1, vR 4 2, vR 4 3]], [[]], [[]], [[]], [[]], [[]], [], [], [], [], [], [pl 3 (fun _ => vI 0)], [], [], [], [pl 6 (fun _ => vI 0)], [pl 6 (fun _ => vI 0)], [pl 10 (fun i => vR 28 i)], pl 10 (fun _ => pl 4 (fun _ => vI 0)), [pl 10 (fun _ => vL 0)], [pl 4 (fun i => vR 31 i)], pl 4 (fun _ => pl 4 (fun _ => vI 0)), [pl 150 (fun _ => vI 0)], [pl 150 (fun _ => vI 0)], [pl 150 (fun _ => vI 0)], [pl 150 (fun _ => vI 0)], [pl 150 (fun _ => vI 0)], [pl 150 (fun _ => vI 0)], [pl 150 (fun _ => vI 0)], [pl 150 (fun _ => vI 0)], [pl 150 (fun _ => vI 0)], [pl 150 (fun i => vR 42 i)], pl 150 (fun _ => pl 5 (fun _ => vI 0)), [pl 150 (fun i => vR 44 i)], pl 150 (fun _ => pl 5 (fun _ => vI 0)), [pl 30 (fun _ => vI 0)], [pl 30 (fun _ => vI 0)], [pl 3 (fun _ => vI 0)], [pl 4 (fun i => vR 49 i)], [pl 6 (fun k => vI (fup (fun _ => 0) 0 114 k)), pl 6 (fun k => vI (fup (fun _ => 0) 0 114 k)), pl 6 (fun k => vI (fup (fun _ => 0) 0 114 k)), pl 6 (fun k => vI (fup (fun _ => 0) 0 114 k))], [pl 4 (fun i => vR 51 i)], pl 4 (fun _ => pl 6 (fun _ => vI 0)), [pl 4 (fun k => vI ((fup (fup (fup (fup (fun _ => (0 : Int32)) 0 1) 1 1) 2 1) 3 1) k))], [pl 20 (fun i => vR 54 i)], pl 20 (fun _ => pl 10 (fun _ => vI 0)), [], [], [], [pl 1 (fun _ => vL 0)], [pl 1 (fun _ => vD 0)], [], [scOb L xs]] (388, 3730) from gh_new (Nat.le_of_ble_eq_true rfl) rfl) ?_
  refine Lw.ps 3 rfl ?_
  rw [p52, fin_enc]
  exact K
