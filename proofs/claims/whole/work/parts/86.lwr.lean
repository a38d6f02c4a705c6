/-! rules for the law's own code (42, 42y by program: the same rules over codeLw) -/
section LX
variable {d pc : Nat} {L : Lo} {st : List MV} {h : Hp} {x : Re × Hp} {i : Instr} {len : Nat}
theorem Lw.p {pc' : Nat} {L' : Lo} {st' : List MV} (hc : codeLw pc = some (i, len)) (hs : pin i len pc L st = some (pc', L', st')) (k : Ev d (216, pc', L', st') h x) : Ev d (216, pc, L, st) h x := by
  obtain ⟨h1, h2⟩ := codeLw_ok hc
  exact Ev.go (z := ((216, pc', L', st'), h)) (by unfold stp; simp only [h1, h2, hs]) k
theorem Lw.r {z : Nat × Lo × List MV} (hc : codeLw pc = some (i, len)) (hp : pin i len pc L st = none) (hs : hrd (mcl 216) i len pc L st h = some z) (k : Ev d (216, z.1, z.2.1, z.2.2) h x) : Ev d (216, pc, L, st) h x := by
  obtain ⟨h1, h2⟩ := codeLw_ok hc
  exact Ev.go (z := ((216, z), h)) (by unfold stp; simp only [h1, h2, hp, hs]) k
theorem Lw.w {z : Nat × Lo × List MV × Hp} (hc : codeLw pc = some (i, len)) (hp : pin i len pc L st = none) (hr : hrd (mcl 216) i len pc L st h = none) (hs : hwr 216 i len pc L st h = some z) (k : Ev d (216, z.1, z.2.1, z.2.2.1) z.2.2.2 x) : Ev d (216, pc, L, st) h x := by
  obtain ⟨h1, h2⟩ := codeLw_ok hc
  exact Ev.go (z := ((216, z.1, z.2.1, z.2.2.1), z.2.2.2)) (by unfold stp; simp only [h1, h2, hp, hr, hs]) k
theorem Lw.re {v : Option MV} (hc : codeLw pc = some (i, len)) (hp : pin i len pc L st = none) (hr : hrd (mcl 216) i len pc L st h = none) (hw : hwr 216 i len pc L st h = none) (hs : rst i len st ((mrow 216).bind (fun r => r.2.2.2.1)) = some v) : Ev d (216, pc, L, st) h (.inl v, h) := by
  obtain ⟨h1, h2⟩ := codeLw_ok hc
  exact Ev.ret (by unfold stp; simp only [h1, h2, hp, hr, hw, hs])
theorem Lw.br {b : Bool} {t : Nat} {L1 L2 : Lo} {s1 s2 : List MV} {t2 : Nat} (hc : codeLw pc = some (i, len)) (hs : pin i len pc L st = if b = true then some (t, L1, s1) else some (t2, L2, s2)) (k1 : b = true → Ev d (216, t, L1, s1) h x) (k2 : b = false → Ev d (216, t2, L2, s2) h x) : Ev d (216, pc, L, st) h x := by
  cases b with
  | true => exact Lw.p hc (hs.trans (if_pos rfl)) (k1 rfl)
  | false => exact Lw.p hc (hs.trans (if_neg (by simp))) (k2 rfl)
theorem Lw.icmp {c : ClassFile.Cond} {off : Int} {a b : Int32} {t : Nat} (hc : codeLw pc = some (.if_icmp c off, 3)) (ht : tgt pc off = some t) (k1 : cmpB c a b = true → Ev d (216, t, L, st) h x) (k2 : cmpB c a b = false → Ev d (216, pc + 3, L, st) h x) : Ev d (216, pc, L, vI b :: vI a :: st) h x :=
  Lw.br (b := cmpB c a b) hc (by simp only [pin, pcm, ht, if_true]; cases c <;> rfl) k1 k2
theorem Lw.ifi {c : ClassFile.Cond} {off : Int} {a : Int32} {t : Nat} (hc : codeLw pc = some (.ifCond c off, 3)) (ht : tgt pc off = some t) (k1 : cmp0 c a = true → Ev d (216, t, L, st) h x) (k2 : cmp0 c a = false → Ev d (216, pc + 3, L, st) h x) : Ev d (216, pc, L, vI a :: st) h x :=
  Lw.br (b := cmp0 c a) hc (by simp only [pin, pif, ht, if_true]; cases c <;> rfl) k1 k2
def exeL : Nat → Nat → Lo → List MV → Option (Nat × Lo × List MV)
  | 0, pc, L, st => some (pc, L, st)
  | n + 1, pc, L, st => match codeLw pc with
    | some (i, len) => match pin i len pc L st with
      | some (pc', L', st') => exeL n pc' L' st'
      | none => none
    | none => none
theorem Lw.ps : ∀ (n : Nat) {pc : Nat} {L : Lo} {st : List MV} {pc' : Nat} {L' : Lo} {st' : List MV}, exeL n pc L st = some (pc', L', st') → Ev d (216, pc', L', st') h x → Ev d (216, pc, L, st) h x
  | 0, pc, L, st, _, _, _, hs, k => by cases hs; exact k
  | n + 1, pc, L, st, _, _, _, hs, k => by
    unfold exeL at hs
    split at hs
    · rename_i i len hq
      split at hs
      · rename_i p1 p2 p3 hw
        exact Lw.p hq hw (Lw.ps n hs k)
      · cases hs
    · cases hs
theorem callL_stp {i : Instr} {idx y2 : Nat} (hi : i = .invokestatic idx ∨ i = .invokespecial idx ∨ i = .invokevirtual idx) (hc : codeLw pc = some (i, 3)) (hm : ml (mcl 216) idx = some y2) : stp (216, pc, L, st) h = (cst 216 i 3 pc L st h).map (fun z => .inr (.inr z)) := by
  obtain ⟨h1, h2⟩ := codeLw_ok hc
  have hj := mljl hm
  have hr : hrd (mcl 216) i 3 pc L st h = none := by
    rcases hi with rfl | rfl | rfl
    · simp only [hrd, hj]
      split
      · split <;> rfl
      · rfl
    · simp only [hrd, hj]
      split
      · simp
      · rfl
    · simp only [hrd, hj]
      split
      · split
        · simp
        · rfl
      · split
        · simp
        · rfl
      · rfl
  have hw : hwr 216 i 3 pc L st h = none := by
    rcases hi with rfl | rfl | rfl
    · rfl
    · rfl
    · simp only [hwr, hj]
  unfold stp
  rcases hi with rfl | rfl | rfl <;> simp only [h1, h2, hr, hw] <;> rfl
theorem cstL_S {idx y2 n : Nat} {as rest : List MV} (hm : ml (mcl 216) idx = some y2) {f : Nat × Nat × Nat × Nat × Nat × Nat} (hf : mfct[y2]? = some f) (h0 : f.2.1 = 0) (hn : f.2.2.2.2.2 = n) (hl : as.length = n) (hcat : (rest.map mcat).sum ≤ 8) : cst 216 (.invokestatic idx) 3 pc L (as.reverse ++ rest) h = (ent y2 as).map (fun fr => (fr, (216, pc, L, rest))) := by
  subst hn
  unfold cst
  simp only [hm, hf]
  have e1 : f.2.2.2.2.2 = as.reverse.length := by rw [List.length_reverse]; exact hl.symm
  rw [if_pos ⟨trivial, h0, by rw [e1, List.length_append]; omega⟩, if_pos trivial, e1, List.drop_left' rfl, List.take_left' rfl, if_pos hcat, List.reverse_reverse]
theorem cstL_V {i : Instr} {k idx y2 n s m : Nat} {as rest : List MV} (hi : (k = 1 ∧ i = .invokespecial idx) ∨ (k = 2 ∧ i = .invokevirtual idx)) (hm : ml (mcl 216) idx = some y2) {f : Nat × Nat × Nat × Nat × Nat × Nat} (hf : mfct[y2]? = some f) (h0 : f.2.1 = k) (hn : f.2.2.2.2.2 = n) (hl : as.length = n) (hcat : (rest.map mcat).sum ≤ 8) (hk : sk s = (0, mcl y2)) (ho : (hget h s m).isSome = true) : cst 216 i 3 pc L (as.reverse ++ vR s m :: rest) h = (ent y2 (vR s m :: as)).map (fun fr => (fr, (216, pc, L, rest))) := by
  subst hn
  have e1 : f.2.2.2.2.2 = as.reverse.length := by rw [List.length_reverse]; exact hl.symm
  rcases hi with ⟨rfl, rfl⟩ | ⟨rfl, rfl⟩
  · unfold cst
    simp only [hm, hf]
    rw [if_pos ⟨trivial, h0, by rw [e1, List.length_append]; omega⟩, if_neg (by decide), e1, List.drop_left' rfl, List.take_left' rfl, List.reverse_reverse]
    exact if_pos ⟨hcat, hk, ho⟩
  · unfold cst
    simp only [hm, hf]
    rw [if_pos ⟨trivial, h0, by rw [e1, List.length_append]; omega⟩, if_neg (by decide), e1, List.drop_left' rfl, List.take_left' rfl, List.reverse_reverse]
    exact if_pos ⟨hcat, hk, ho⟩
theorem Lw.sta {idx y2 n : Nat} {as rest : List MV} {v : Option MV} {h1 : Hp} (hc : codeLw pc = some (.invokestatic idx, 3)) (hm : ml (mcl 216) idx = some y2) (hf : (mfct[y2]?).map (fun f => (f.2.1, f.2.2.2.2.2)) = some (0, n)) (hst : st = as.reverse ++ rest) (hl : as.length = n) (hcat : (rest.map mcat).sum ≤ 8) (hC : Cal d y2 as h (.inl v) h1) (k : Ev (d + 1) (216, pc + 3, L, v.toList ++ rest) h1 x) : Ev (d + 1) (216, pc, L, st) h x := by
  subst hst
  obtain ⟨fr, e1, e2⟩ := hC
  obtain ⟨f, hf, hz⟩ := Option.map_eq_some_iff.mp hf
  obtain ⟨z1, z2⟩ := Prod.mk.inj hz
  exact Ev.call (z := (fr, (216, pc, L, rest))) (w := ((216, pc + 3, L, v.toList ++ rest), h1)) (by rw [callL_stp (Or.inl rfl) hc hm, cstL_S hm hf z1 z2 hl hcat, e1]; rfl) e2 rfl k
theorem Lw.vir {idx y2 n s m : Nat} {as rest : List MV} {v : Option MV} {h1 : Hp} (hc : codeLw pc = some (.invokevirtual idx, 3)) (hm : ml (mcl 216) idx = some y2) (hf : (mfct[y2]?).map (fun f => (f.2.1, f.2.2.2.2.2)) = some (2, n)) (hst : st = as.reverse ++ vR s m :: rest) (hl : as.length = n) (hcat : (rest.map mcat).sum ≤ 8) (hk : sk s = (0, mcl y2)) (ho : (hget h s m).isSome = true) (hC : Cal d y2 (vR s m :: as) h (.inl v) h1) (k : Ev (d + 1) (216, pc + 3, L, v.toList ++ rest) h1 x) : Ev (d + 1) (216, pc, L, st) h x := by
  subst hst
  obtain ⟨fr, e1, e2⟩ := hC
  obtain ⟨f, hf, hz⟩ := Option.map_eq_some_iff.mp hf
  obtain ⟨z1, z2⟩ := Prod.mk.inj hz
  exact Ev.call (z := (fr, (216, pc, L, rest))) (w := ((216, pc + 3, L, v.toList ++ rest), h1)) (by rw [callL_stp (Or.inr (Or.inr rfl)) hc hm, cstL_V (k := 2) (Or.inr ⟨rfl, rfl⟩) hm hf z1 z2 hl hcat hk ho, e1]; rfl) e2 rfl k
theorem Lw.spe {idx y2 n s m : Nat} {as rest : List MV} {v : Option MV} {h1 : Hp} (hc : codeLw pc = some (.invokespecial idx, 3)) (hm : ml (mcl 216) idx = some y2) (hf : (mfct[y2]?).map (fun f => (f.2.1, f.2.2.2.2.2)) = some (1, n)) (hst : st = as.reverse ++ vR s m :: rest) (hl : as.length = n) (hcat : (rest.map mcat).sum ≤ 8) (hk : sk s = (0, mcl y2)) (ho : (hget h s m).isSome = true) (hC : Cal d y2 (vR s m :: as) h (.inl v) h1) (k : Ev (d + 1) (216, pc + 3, L, v.toList ++ rest) h1 x) : Ev (d + 1) (216, pc, L, st) h x := by
  subst hst
  obtain ⟨fr, e1, e2⟩ := hC
  obtain ⟨f, hf, hz⟩ := Option.map_eq_some_iff.mp hf
  obtain ⟨z1, z2⟩ := Prod.mk.inj hz
  exact Ev.call (z := (fr, (216, pc, L, rest))) (w := ((216, pc + 3, L, v.toList ++ rest), h1)) (by rw [callL_stp (Or.inr (Or.inl rfl)) hc hm, cstL_V (k := 1) (Or.inl ⟨rfl, rfl⟩) hm hf z1 z2 hl hcat hk ho, e1]; rfl) e2 rfl k
theorem Lw.nwo {idx s i : Nat} {h' : Hp} (hc : codeLw pc = some (.new idx, 3)) (ha : al 216 pc = some s) (hk : (sk s).1 = 0 ∧ (sk s).2 = s ∧ s < 10 ∧ cl (mcl 216) idx = some s) (hs : (h.1 s).length = i) (he : hnew h s [odf s] 1 (fN s) = h') (k : Ev d (216, pc + 3, L, vR s i :: st) h' x) : Ev d (216, pc, L, st) h x := by
  subst he hs
  refine Lw.w hc rfl rfl (z := (pc + 3, L, vR s (h.1 s).length :: st, hnew h s [odf s] 1 (fN s))) ?_ k
  simp only [hwr, ha]
  rw [if_pos ⟨trivial, hk.1, hk.2.1, hk.2.2.1, hk.2.2.2⟩]
theorem Lw.na {s N i : Nat} {t : _} {h' : Hp} (hc : codeLw pc = some (.newarray t, 2)) (ha : al 216 pc = some s) (hk : (sk s).1 = 1 ∧ (sk s).2 < 5 ∧ newarray.typeOf t = aty (sk s).2) (hN : N ≤ 60000) (hs : (h.1 s).length = i) (he : hnew h s [pl N (fun _ => adf (sk s).2)] 1 N = h') (K : Ev d (216, pc + 2, L, vR s i :: st) h' x) : Ev d (216, pc, L, vI (nI N) :: st) h x := by
  subst he hs
  refine Lw.w hc rfl rfl (z := (pc + 2, L, vR s (h.1 s).length :: st, hnew h s [pl N (fun _ => adf (sk s).2)] 1 N)) ?_ K
  simp only [hwr, ha]
  rw [if_pos ⟨trivial, hk.1, hk.2.1, hk.2.2, nI_pos (by omega), by rw [nI_clamp (by omega)]; exact hN⟩, nI_clamp (by omega), rep_pl]
theorem cstI {n : Int} {k : Nat} (h : Int32.ofInt n = nI k) (i : Nat) : nI i + Int32.ofInt n = nI (i + k) := by
  rw [h]
  exact (Int32.ofNat_add i k).symm
/-- the arguments of a script -/
def lwL (i : Nat) (o6 o7 o8 : Option MV) : Lo := [some (vR 61 0), some (vR 8 0), some (vR 9 0), some (vR 58 0), some (vR 59 0), some (vI (nI i)), o6, o7, o8]
theorem Lw.ld {N k : Nat} {Xs : Nat → Int32} (hc : codeLw pc = some (.iaload, 1)) (hN : N ≤ 3584) (hk : k < N) (hg : hget h 61 0 = some (pl N (fun k => vI (Xs k)))) (K : Ev d (216, pc + 1, L, vI (Xs k) :: st) h x) : Ev d (216, pc, L, vI (nI k) :: vR 61 0 :: st) h x :=
  Lw.r hc rfl (parr_pl (ok := fun k => k == (1, 0) || k == (4, 0)) (s := 61) (by decide) hg hk (by omega)) K
theorem Lw.a1 {N i k : Nat} {n : Int} {Xs : Nat → Int32} {o6 o7 o8 : Option MV} (c1 : codeLw pc = some (.aload_n 0, 1)) (c2 : codeLw (pc + 1) = some (.iload 5, 2)) (c3 : codeLw (pc + 1 + 2) = some (.iconst n, 1)) (c4 : codeLw (pc + 1 + 2 + 1) = some (.iadd, 1)) (c5 : codeLw (pc + 1 + 2 + 1 + 1) = some (.iaload, 1)) (hn : Int32.ofInt n = nI k) (hN : N ≤ 3584) (hk : i + k < N) (hg : hget h 61 0 = some (pl N (fun k => vI (Xs k)))) (K : Ev d (216, pc + 1 + 2 + 1 + 1 + 1, lwL i o6 o7 o8, vI (Xs (i + k)) :: st) h x) : Ev d (216, pc, lwL i o6 o7 o8, st) h x := by
  refine Lw.p c1 rfl ?_
  refine Lw.p c2 rfl ?_
  refine Lw.p c3 rfl ?_
  refine Lw.p c4 (st' := vI (nI i + Int32.ofInt n) :: vR 61 0 :: st) rfl ?_
  rw [cstI hn]
  exact Lw.ld c5 hN hk hg K
theorem Lw.a2 {N i k : Nat} {n : Int} {Xs : Nat → Int32} {o6 o7 o8 : Option MV} (c1 : codeLw pc = some (.aload_n 0, 1)) (c2 : codeLw (pc + 1) = some (.iload 5, 2)) (c3 : codeLw (pc + 1 + 2) = some (.bipush n, 2)) (c4 : codeLw (pc + 1 + 2 + 2) = some (.iadd, 1)) (c5 : codeLw (pc + 1 + 2 + 2 + 1) = some (.iaload, 1)) (hn : (Int8.ofInt n).toInt32 = nI k) (hN : N ≤ 3584) (hk : i + k < N) (hg : hget h 61 0 = some (pl N (fun k => vI (Xs k)))) (K : Ev d (216, pc + 1 + 2 + 2 + 1 + 1, lwL i o6 o7 o8, vI (Xs (i + k)) :: st) h x) : Ev d (216, pc, lwL i o6 o7 o8, st) h x := by
  refine Lw.p c1 rfl ?_
  refine Lw.p c2 rfl ?_
  refine Lw.p c3 rfl ?_
  refine Lw.p c4 (st' := vI (nI i + (Int8.ofInt n).toInt32) :: vR 61 0 :: st) rfl ?_
  rw [hn, show nI i + nI k = nI (i + k) from (Int32.ofNat_add i k).symm]
  exact Lw.ld c5 hN hk hg K
/-- the character of a script's int -/
def chOf (v : Int32) : Int32 := (v.toUInt32 % 65536).toInt32
theorem Lw.jl {w : Int64} (hc : codeLw pc = some (.laload, 1)) (hg : hget h 58 0 = some [vL w]) (K : Ev d (216, pc + 1, L, vL w :: st) h x) : Ev d (216, pc, L, vI 0 :: vR 58 0 :: st) h x :=
  Lw.r hc rfl (parr_pl (N := 1) (k := 0) (f := fun _ => vL w) (ok := fun k => k == (1, 1)) (s := 58) (by decide) hg (by decide) (by decide)) K
theorem Lw.dl {w : UInt64} (hc : codeLw pc = some (.daload, 1)) (hg : hget h 59 0 = some [vD w]) (K : Ev d (216, pc + 1, L, vD w :: st) h x) : Ev d (216, pc, L, vI 0 :: vR 59 0 :: st) h x :=
  Lw.r hc rfl (parr_pl (N := 1) (k := 0) (f := fun _ => vD w) (ok := fun k => k == (1, 4)) (s := 59) (by decide) hg (by decide) (by decide)) K
end LX
theorem Ev.oJ {d y pc : Nat} {L : Lo} {st : List MV} {h : Hp} {x : Re × Hp} {w v : Int64} (hc : codeAt y pc = some (.lastore, 1)) (hg : hget h 58 0 = some [vL w]) (K : Ev d (y, pc + 1, L, st) (hput h 58 0 [vL v]) x) : Ev d (y, pc, L, vL v :: vI 0 :: vR 58 0 :: st) h x :=
  Ev.asJ (N := 1) (k := 0) (f := fun _ => vL w) hc (by decide) hg (by decide) (by decide) (show hput h 58 0 ((pl 1 (fun _ => vL w)).set 0 (vL v)) = _ from rfl) K
theorem Ev.oD {d y pc : Nat} {L : Lo} {st : List MV} {h : Hp} {x : Re × Hp} {w v : UInt64} (hc : codeAt y pc = some (.dastore, 1)) (hg : hget h 59 0 = some [vD w]) (K : Ev d (y, pc + 1, L, st) (hput h 59 0 [vD v]) x) : Ev d (y, pc, L, vD v :: vI 0 :: vR 59 0 :: st) h x :=
  Ev.w hc rfl rfl (z := (pc + 1, L, st, hput h 59 0 [vD v])) (wst_pl (t := 4) (N := 1) (k := 0) (f := fun _ => vD w) (v := vD v) (w := vD v) (by decide) hg (by decide) (by decide) rfl rfl) K
theorem Ev.f2 {d y pc : Nat} {L : Lo} {st : List MV} {h : Hp} {z : Re × Hp} {v : UInt32} (hc : codeAt y pc = some (.f2d, 1)) (hF : FP.f2d v &&& 0x7fffffffffffffff ≤ 0x7ff0000000000000) (K : Ev d (y, pc + 1, L, vD (FP.f2d v) :: st) h z) : Ev d (y, pc, L, vF v :: st) h z :=
  Ev.p hc (st' := vD (FP.f2d v) :: st) (by dsimp only [pin, p1f]; rw [if_pos rfl, if_pos hF]; rfl) K
theorem Lw.f2 {d pc : Nat} {L : Lo} {st : List MV} {h : Hp} {z : Re × Hp} {v : UInt32} (hc : codeLw pc = some (.f2d, 1)) (hF : FP.f2d v &&& 0x7fffffffffffffff ≤ 0x7ff0000000000000) (K : Ev d (216, pc + 1, L, vD (FP.f2d v) :: st) h z) : Ev d (216, pc, L, vF v :: st) h z :=
  Lw.p hc (st' := vD (FP.f2d v) :: st) (by dsimp only [pin, p1f]; rw [if_pos rfl, if_pos hF]; rfl) K
theorem order_self (x : FP.Core.Datum) (h : ¬ x = .nan) : FP.Core.order x x = some .eq := by
  cases x with
  | nan => exact absurd rfl h
  | inf s => simp only [FP.Core.order, Option.some.injEq]; exact Int.compare_eq_eq.mpr rfl
  | fin s c q => simp only [FP.Core.order, Option.some.injEq]; exact Int.compare_eq_eq.mpr rfl
theorem dcmp_self {a : UInt64} (h : a &&& 0x7fffffffffffffff ≤ 0x7ff0000000000000) : Op.cmpValue (FP.dcmp a a) .l = 0 := by
  have hn : ¬ FP.Core.decode FP.Core.b64 a.toNat = .nan := by
    intro z
    rw [UInt64.le_iff_toNat_le, UInt64.toNat_and, show (0x7fffffffffffffff : UInt64).toNat = 2 ^ 63 - 1 from rfl, Nat.and_two_pow_sub_one_eq_mod, show (0x7ff0000000000000 : UInt64).toNat = 9218868437227405312 from rfl] at h
    unfold FP.Core.decode at z
    split at z
    · rename_i e
      split at z
      · cases z
      · rename_i e2
        have e : a.toNat / 4503599627370496 % 2048 = 2047 := e
        have e2 : ¬ a.toNat % 4503599627370496 = 0 := e2
        omega
    · split at z <;> cases z
  have e : FP.dcmp a a = some .eq := order_self _ hn
  rw [e]
  rfl
theorem lg_self (w : Int64) : lg_cmp w w = 0 := by
  unfold lg_cmp
  simp
/-- what class and reference must say of a call: exceptions by number, and their codes -/
def AgI (es : List (Nat × Int32)) (r : Re) (k b : Int32) : Prop := match r with
  | .inl (some (.inl v)) => k = 0 ∧ v = b
  | .inl _ => False
  | .inr E => (E, k) ∈ es
def hoI (r : Re) (h : Hp) : Hp := match r with
  | .inl (some (.inl v)) => hput h 58 0 [vL v.toInt64]
  | .inl _ => h
  | .inr _ => hnew h sX [[]] 0 0
def AgF (es : List (Nat × Int32)) (r : Re) (k : Int32) (b : UInt32) : Prop := match r with
  | .inl (some (.inr (.inr (.inl v)))) => k = 0 ∧ v = b ∧ FP.f2d v &&& 0x7fffffffffffffff ≤ 0x7ff0000000000000
  | .inl _ => False
  | .inr E => (E, k) ∈ es
def hoF (r : Re) (h : Hp) : Hp := match r with
  | .inl (some (.inr (.inr (.inl v)))) => hput h 59 0 [vD (FP.f2d v)]
  | .inl _ => h
  | .inr _ => hnew h sX [[]] 0 0
def AgD (es : List (Nat × Int32)) (r : Re) (k : Int32) (b : UInt64) : Prop := match r with
  | .inl (some (.inr (.inr (.inr (.inl v))))) => k = 0 ∧ v = b
  | .inl _ => False
  | .inr E => (E, k) ∈ es
def hoD (r : Re) (h : Hp) : Hp := match r with
  | .inl (some (.inr (.inr (.inr (.inl v))))) => hput h 59 0 [vD v]
  | .inl _ => h
  | .inr _ => hnew h sX [[]] 0 0
