/-! the law's loop (written by gen98k.py) -/
section LP
variable {d N i q : Nat} {Xs : Nat → Int32} {C : CD} {R : RD} {W : WD} {h : Hp} {x : Re × Hp} {o6 o7 o8 : Option MV}
theorem Lw.aln {pc s n : Nat} {L : Lo} {st : List MV} {ob : Ob} (hc : codeLw pc = some (.arraylength, 1)) (hk : (sk s).1 = 1 ∨ sk s = (4, 0)) (hg : hget h s n = some ob) (k : Ev d (216, pc + 1, L, vI (Int32.ofNat ob.length) :: st) h x) : Ev d (216, pc, L, vR s n :: st) h x :=
  Lw.r hc rfl (z := (pc + 1, L, vI (Int32.ofNat ob.length) :: st)) (by simp only [hrd, hg]; rw [if_pos ⟨trivial, hk⟩]) k
theorem nI_m7 (hL : N ≤ 3584) : (nI N - (Int8.ofInt 7).toInt32).toInt = (N : Int) - 7 := by
  have e7 : (Int8.ofInt 7).toInt32.toInt = 7 := by decide
  have en : (nI N).toInt = N := nI_toInt (by omega)
  rw [i_sub (by rw [en, e7]; omega) (by rw [en, e7]; omega), en, e7]
theorem lw_head (hL : N ≤ 3584) (hi : i + 6 < N) (hs : hget h 61 0 = some (pl N (fun k => vI (Xs k)))) (K : Ev d (216, 45, lwL i o6 o7 o8, [vI (Xs i &&& (Int8.ofInt 63).toInt32)]) h x) : Ev d (216, 28, lwL i o6 o7 o8, []) h x := by
  refine Lw.ps 2 rfl ?_
  refine Lw.aln (by rfl) (by decide) hs ?_
  rw [pl_len]
  refine Lw.ps 2 rfl ?_
  refine Lw.icmp (t := 2944) (by rfl) (by rfl) (fun z => ?_) (fun _ => ?_)
  · have z2 : nI N - (Int8.ofInt 7).toInt32 < nI i := of_decide_eq_true z
    rw [i_lt, nI_m7 hL, nI_toInt (by omega)] at z2
    omega
  · refine Lw.ps 2 rfl ?_
    refine Lw.ld (by rfl) hL (by omega) hs ?_
    refine Lw.ps 2 rfl ?_
    exact K
theorem lw_stop (hL : N ≤ 3584) (hi2 : N < i + 7) (hi3 : i < 4000) (hs : hget h 61 0 = some (pl N (fun k => vI (Xs k)))) : Ev d (216, 28, lwL i o6 o7 o8, []) h (.inl (some (vI 1)), h) := by
  refine Lw.ps 2 rfl ?_
  refine Lw.aln (by rfl) (by decide) hs ?_
  rw [pl_len]
  refine Lw.ps 2 rfl ?_
  refine Lw.icmp (t := 2944) (by rfl) (by rfl) (fun _ => ?_) (fun z => ?_)
  · refine Lw.ps 1 rfl ?_
    exact Lw.re rfl rfl rfl rfl rfl
  · have z2 : ¬ nI N - (Int8.ofInt 7).toInt32 < nI i := of_decide_eq_false z
    rw [i_lt, nI_m7 hL, nI_toInt (by omega)] at z2
    omega
theorem lw_back (K : Ev d (216, 28, lwL (i + 7) o6 o7 o8, []) h x) : Ev d (216, 2938, lwL i o6 o7 o8, []) h x := by
  refine Lw.p (i := .iinc 5 7) (len := 3) (pc' := 2941) (L' := [some (vR 61 0), some (vR 8 0), some (vR 9 0), some (vR 58 0), some (vR 59 0), some (vI (nI i + Int32.ofInt 7)), o6, o7, o8]) (st' := []) (by rfl) rfl ?_
  rw [cstI (k := 7) rfl]
  exact Lw.ps 1 rfl K
theorem sw_in {v : Int32} : (v.toInt < 0 ∨ 40 < v.toInt) ∨ ∃ k : Nat, k < 41 ∧ v = nI k := by
  by_cases h : v.toInt < 0 ∨ 40 < v.toInt
  · exact Or.inl h
  · refine Or.inr ⟨v.toInt.toNat, by omega, Int32.toInt.inj ?_⟩
    rw [nI_toInt (by omega)]
    omega
theorem lw_turn (hL : N ≤ 3584) (hi : i + 6 < N) (h : Inv2 N Xs q C R W) : ∃ C2 R2 W2, Inv2 N Xs (q + 1) C2 R2 W2 ∧ ∀ x, (∀ o6 o7 o8, Ev (d + 21) (216, 28, lwL (i + 7) o6 o7 o8, []) (enc C2 R2 W2) x) → ∀ o6 o7 o8, Ev (d + 21) (216, 28, lwL i o6 o7 o8, []) (enc C R W) x := by
  have hs : hget (enc C R W) 61 0 = some (pl N (fun k => vI (Xs k))) := by
    obtain ⟨zO, zD, zX, zG5, zG6, zG7, zc, zn, rfl, -, -, -⟩ := h
    exact rd61
  have hgo : ∀ {t : Nat}, (∃ C2 R2 W2, Inv2 N Xs (q + 1) C2 R2 W2 ∧ ∀ x, (∀ o6 o7 o8, Ev (d + 21) (216, 2938, lwL i o6 o7 o8, []) (enc C2 R2 W2) x) → ∀ o6 o7 o8, Ev (d + 21) (216, t, lwL i o6 o7 o8, []) (enc C R W) x) → (∀ {o6 o7 o8 : Option MV} (h : Hp) (x : Re × Hp), Ev (d + 21) (216, t, lwL i o6 o7 o8, []) h x → Ev (d + 21) (216, 45, lwL i o6 o7 o8, [vI (Xs i &&& (Int8.ofInt 63).toInt32)]) h x) → ∃ C2 R2 W2, Inv2 N Xs (q + 1) C2 R2 W2 ∧ ∀ x, (∀ o6 o7 o8, Ev (d + 21) (216, 28, lwL (i + 7) o6 o7 o8, []) (enc C2 R2 W2) x) → ∀ o6 o7 o8, Ev (d + 21) (216, 28, lwL i o6 o7 o8, []) (enc C R W) x := by
    rintro t ⟨C2, R2, W2, a1, a2⟩ hg
    exact ⟨C2, R2, W2, a1, fun x K o6 o7 o8 => lw_head hL hi hs (hg _ _ (a2 x (fun o6 o7 o8 => lw_back (K o6 o7 o8)) o6 o7 o8))⟩
  obtain hv | ⟨k, hk, hv⟩ := sw_in (v := Xs i &&& (Int8.ofInt 63).toInt32)
  · refine hgo (t := 2938) ⟨C, R, W, ?_, fun x K => K⟩ (fun h x K => Lw.p (i := .tableswitch 2893 0 40 #[179, 247, 291, 304, 379, 447, 534, 654, 774, 894, 950, 1006, 1019, 1063, 1143, 1211, 1279, 1347, 1441, 1535, 1603, 1671, 1751, 1807, 1863, 1931, 1999, 2067, 2135, 2203, 2271, 2339, 2407, 2475, 2543, 2599, 2655, 2711, 2725, 2815, 2880]) (len := 179) (by rfl) (show (if _ then _ else _) = _ from (if_pos hv).trans rfl) K)
    obtain ⟨zO, zD, zX, zG5, zG6, zG7, zc, zn, rfl, h1, h2, h3⟩ := h
    exact inv2_mk h1 (Nat.le_trans h2 (Nat.add_le_add_left (Nat.mul_le_mul_left _ (Nat.le_succ _)) _)) (Nat.le_trans h3 (Nat.add_le_add_left (Nat.mul_le_mul_left _ (Nat.le_succ _)) _))
  rw [hv] at hgo
  clear hv
  revert hgo
  match k, hk with
  | 0, _ => exact fun hgo => hgo (st_addMachine hL hi h) (fun h x K => Lw.p rfl rfl K)
  | 1, _ => exact fun hgo => hgo (st_addMember hL hi h) (fun h x K => Lw.p rfl rfl K)
  | 2, _ => exact fun hgo => hgo (st_day hL hi h) (fun h x K => Lw.p rfl rfl K)
  | 3, _ => exact fun hgo => hgo (st_addNeed hL hi h) (fun h x K => Lw.p rfl rfl K)
  | 4, _ => exact fun hgo => hgo (st_induct hL hi h) (fun h x K => Lw.p rfl rfl K)
  | 5, _ => exact fun hgo => hgo (st_isLive hL hi h) (fun h x K => Lw.p rfl rfl K)
  | 6, _ => exact fun hgo => hgo (st_book hL hi h) (fun h x K => Lw.p rfl rfl K)
  | 7, _ => exact fun hgo => hgo (st_await hL hi h) (fun h x K => Lw.p rfl rfl K)
  | 8, _ => exact fun hgo => hgo (st_check hL hi h) (fun h x K => Lw.p rfl rfl K)
  | 9, _ => exact fun hgo => hgo (st_cancel hL hi h) (fun h x K => Lw.p rfl rfl K)
  | 10, _ => exact fun hgo => hgo (st_stateOf hL hi h) (fun h x K => Lw.p rfl rfl K)
  | 11, _ => exact fun hgo => hgo (st_entries hL hi h) (fun h x K => Lw.p rfl rfl K)
  | 12, _ => exact fun hgo => hgo (st_endDay hL hi h) (fun h x K => Lw.p rfl rfl K)
  | 13, _ => exact fun hgo => hgo (st_minuteAt hL hi h) (fun h x K => Lw.p rfl rfl K)
  | 14, _ => exact fun hgo => hgo (st_usedMinutes hL hi h) (fun h x K => Lw.p rfl rfl K)
  | 15, _ => exact fun hgo => hgo (st_usedByMinutes hL hi h) (fun h x K => Lw.p rfl rfl K)
  | 16, _ => exact fun hgo => hgo (st_setupMinutes hL hi h) (fun h x K => Lw.p rfl rfl K)
  | 17, _ => exact fun hgo => hgo (st_firstStart hL hi h) (fun h x K => Lw.p rfl rfl K)
  | 18, _ => exact fun hgo => hgo (st_firstByMinutes hL hi h) (fun h x K => Lw.p rfl rfl K)
  | 19, _ => exact fun hgo => hgo (st_waiting hL hi h) (fun h x K => Lw.p rfl rfl K)
  | 20, _ => exact fun hgo => hgo (st_deliver hL hi h) (fun h x K => Lw.p rfl rfl K)
  | 21, _ => exact fun hgo => hgo (st_cut hL hi h) (fun h x K => Lw.p rfl rfl K)
  | 22, _ => exact fun hgo => hgo (st_freeOf hL hi h) (fun h x K => Lw.p rfl rfl K)
  | 23, _ => exact fun hgo => hgo (st_freeByCuts hL hi h) (fun h x K => Lw.p rfl rfl K)
  | 24, _ => exact fun hgo => hgo (st_setPrice hL hi h) (fun h x K => Lw.p rfl rfl K)
  | 25, _ => exact fun hgo => hgo (st_setRate hL hi h) (fun h x K => Lw.p rfl rfl K)
  | 26, _ => exact fun hgo => hgo (st_addFee hL hi h) (fun h x K => Lw.p rfl rfl K)
  | 27, _ => exact fun hgo => hgo (st_addCap hL hi h) (fun h x K => Lw.p rfl rfl K)
  | 28, _ => exact fun hgo => hgo (st_addDouble hL hi h) (fun h x K => Lw.p rfl rfl K)
  | 29, _ => exact fun hgo => hgo (st_addDiscount hL hi h) (fun h x K => Lw.p rfl rfl K)
  | 30, _ => exact fun hgo => hgo (st_costOf hL hi h) (fun h x K => Lw.p rfl rfl K)
  | 31, _ => exact fun hgo => hgo (st_breakDown hL hi h) (fun h x K => Lw.p rfl rfl K)
  | 32, _ => exact fun hgo => hgo (st_shareOf hL hi h) (fun h x K => Lw.p rfl rfl K)
  | 33, _ => exact fun hgo => hgo (st_pay hL hi h) (fun h x K => Lw.p rfl rfl K)
  | 34, _ => exact fun hgo => hgo (st_owes hL hi h) (fun h x K => Lw.p rfl rfl K)
  | 35, _ => exact fun hgo => hgo (st_owesByEntries hL hi h) (fun h x K => Lw.p rfl rfl K)
  | 36, _ => exact fun hgo => hgo (st_dueOf hL hi h) (fun h x K => Lw.p rfl rfl K)
  | 37, _ => exact fun hgo => hgo (st_takings hL hi h) (fun h x K => Lw.p rfl rfl K)
  | 38, _ => exact fun hgo => hgo (st_use hL hi h) (fun h x K => Lw.p rfl rfl K)
  | 39, _ => exact fun hgo => hgo (st_meanMinutes hL hi h) (fun h x K => Lw.p rfl rfl K)
  | 40, _ => exact fun hgo => hgo (st_isSound hL hi h) (fun h x K => Lw.p rfl rfl K)
  | k + 41, hk => exact absurd hk (by omega)
theorem lw_loop (hL : N ≤ 3584) : ∀ (w q i : Nat) (C : CD) (R : RD) (W : WD), i = 7 * q → q + w = 512 → Inv2 N Xs q C R W → ∃ h', (h'.2.1 ≤ 603072 ∧ h'.2.2 ≤ 7215210) ∧ ∀ o6 o7 o8, Ev (d + 21) (216, 28, lwL i o6 o7 o8, []) (enc C R W) (.inl (some (vI 1)), h')
  | w, q, i, C, R, W, hiq, hqw, h => by
    by_cases c : i + 6 < N
    · match w with
      | 0 => exact absurd c (by omega)
      | w + 1 =>
        obtain ⟨C2, R2, W2, a1, a2⟩ := lw_turn (d := d) hL c h
        obtain ⟨h', b1, b2⟩ := lw_loop hL w (q + 1) (i + 7) C2 R2 W2 (by omega) (by omega) a1
        exact ⟨h', b1, a2 _ b2⟩
    · obtain ⟨zO, zD, zX, zG5, zG6, zG7, zc, zn, rfl, h1, h2, h3⟩ := h
      refine ⟨_, ⟨?_, ?_⟩, fun o6 o7 o8 => lw_stop hL (by omega) (by omega) rd61⟩
      · have e : 388 + 1170 * q ≤ 388 + 1170 * 512 := Nat.add_le_add_left (Nat.mul_le_mul_left _ (by omega)) _
        exact Nat.le_trans h2 (Nat.le_trans e (by decide))
      · have e : 3730 + 14000 * q ≤ 3730 + 14000 * 512 := Nat.add_le_add_left (Nat.mul_le_mul_left _ (by omega)) _
        exact Nat.le_trans (Nat.le_trans (Nat.le_add_right _ _) h3) (Nat.le_trans e (by decide))
end LP
theorem inv_0 : Inv C0 R0 := by
  have z0 : ∀ (e : Nat) (P : Prop), e < 0 → P := fun e P he => absurd he (Nat.not_lt_zero e)
  have zz : (0 : Int32) = 0 + 0 := by decide
  have hq : (fun _ : Nat => (0 : Int32)) = (fun e => (fun _ : Nat => (0 : Int32)) e + (fun _ : Nat => (0 : Int32)) e) := funext (fun _ => zz)
  have hC : C0 = mkC (fun _ => 0) (fun k => k) 4 (fun _ => (0, 0, none, 1)) 0 (fun _ => 0) (fun _ => 0) (fun _ => []) 0 (fun _ _ => 0) (fun _ => 0) (fun _ => 0) 0 (fun _ => 0) (fun _ => 0) (fun _ => 0) (fun _ => 0) (fun _ => 0) (fun e => (fun _ : Nat => (0 : Int32)) e + (fun _ : Nat => (0 : Int32)) e) (fun _ => 0) (fun _ => 0) (fun _ => 0) (fun _ => []) 0 (fun _ => 0) (fun _ => 0) 0 (fun _ => 0) (fun _ => 0) (fun _ => 0) 0 (fun _ => 0) (fun _ _ => 0) (fun _ => 0) 0 [] [] [] [] := by
    rw [← hq]
    rfl
  rw [hC]
  refine inv_mk (mh := fun _ => []) (cu := fun _ => []) (ly := fun _ => (0, 0, none, 1)) (tf := fun k => k) (nd := fun _ _ => false) (Ls := fun _ k => fup (fun _ => 0) 0 114 k) (lm := fun _ => 1) (Lnum := fun _ _ => 0) ⟨?_, ?_, ?_, ?_, ?_, ?_, ?_, ?_, ?_, ?_, ?_, ?_, ?_, ?_, ?_, ?_, ?_, ?_, ?_, ?_⟩
  · exact ⟨by decide, by decide, by decide, by decide, by decide, fun _ => by first | (dsimp only; decide) | (dsimp only; done), fun e he => z0 e _ he, fun e he => z0 e _ he, fun e he => z0 e _ he, fun _ => by first | (dsimp only; decide) | (dsimp only; done), fun k hk => hk, fun _ => by first | (dsimp only; decide) | (dsimp only; done), fun m e he => absurd he List.not_mem_nil, fun _ => by first | (dsimp only; decide) | (dsimp only; done), fun e c he => absurd he List.not_mem_nil, fun _ => by first | (dsimp only; decide) | (dsimp only; done), fun l hl => ⟨1, by decide, by decide, rfl, rfl⟩⟩
  · exact ⟨by decide, by decide, by decide, by decide, by decide, fun _ => by first | (dsimp only; decide) | (dsimp only; done), fun _ => by first | (dsimp only; decide) | (dsimp only; done), fun _ => by first | (dsimp only; decide) | (dsimp only; done), fun _ => by first | (dsimp only; decide) | (dsimp only; done), fun _ _ => by first | (dsimp only; decide) | (dsimp only; done), fun _ => by first | (dsimp only; decide) | (dsimp only; done), fun _ => by first | (dsimp only; decide) | (dsimp only; done)⟩
  · exact ⟨fun _ => 0, fun _ => Nat.zero_le _, fun a b _ _ z => nomatch z⟩
  · exact fun a b _ _ => ⟨fun _ => rfl, fun _ => Int32.zero_and⟩
  · exact fun _ _ => Or.inr (by first | (dsimp only; decide) | (dsimp only; done))
  · exact fun _ _ => by first | (dsimp only; decide) | (dsimp only; done)
  · exact fun _ _ _ => rfl
  · decide
  · exact ⟨fun e he => z0 e _ he, fun _ => by first | (dsimp only; decide) | (dsimp only; done), fun e f he => z0 e _ he, fun m => ⟨List.Pairwise.nil, fun e => ⟨fun z => absurd z List.not_mem_nil, fun z => z0 e _ z.1⟩⟩, fun e f he => z0 e _ he, fun e he => z0 e _ he, fun e he => z0 e _ he⟩
  · exact fun e he => z0 e _ he
  · exact fun _ => by unfold chr; first | (dsimp only; decide) | (dsimp only; done)
  · exact fun e he => z0 e _ he
  · exact fun _ _ => rfl
  · exact fun e he => z0 e _ he
  · exact fun k _ => ⟨⟨rfl, rfl, rfl, rfl⟩, rfl, fun _ => by first | (dsimp only; decide) | (dsimp only; done)⟩
  · exact fun e he => z0 e _ he
  · exact ⟨fun e he => z0 e _ he, fun _ _ _ => rfl⟩
  · exact ⟨fun _ => by first | (dsimp only; decide) | (dsimp only; done), fun _ _ => rfl⟩
  · exact fun _ _ => rfl
  · exact fun e he => z0 e _ he
theorem the_run (L : Nat) (hL : L ≤ 3584) (xs : Nat → Int32) : ∃ n h', run 60 n fr0 (h0 L xs) = some (.inl (some (vI 1)), h') ∧ h'.2.1 ≤ 603072 ∧ h'.2.2 ≤ 7215210 := by
  obtain ⟨h', b1, b2⟩ := lw_loop (d := 39) (N := L) (Xs := xs) hL 512 0 0 C0 R0 (W0 L xs) rfl rfl (inv2_mk inv_0 (Nat.le_refl _) (Nat.le_refl _))
  obtain ⟨n, e⟩ := lw_start (d := 57) (L := L) (xs := xs) (b2 none none none)
  exact ⟨n, h', e, b1.1, b1.2⟩
