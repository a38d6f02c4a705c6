/-! rules for runs over the state's heap: conditions with both sides as they stand, rows, stores, lists -/
def Da (o : Option MV) : Prop := ∀ w, o = some w → mcat w = 1
theorem Da.n : Da none := fun _ h => nomatch h
theorem Da.i {x : Int32} : Da (some (vI x)) := fun _ h => by cases h; rfl
theorem Da.r {s i : Nat} : Da (some (vR s i)) := fun _ h => by cases h; rfl
theorem Da.z : Da (some vN) := fun _ h => by cases h; rfl
section RU
variable {d y pc : Nat} {L : Lo} {st : List MV} {h : Hp} {x : Re × Hp}
theorem Ev.ilt {off : Int} {a b : Int32} {t : Nat} (hc : codeAt y pc = some (.if_icmp .lt off, 3)) (ht : tgt pc off = some t) (k1 : a < b → Ev d (y, t, L, st) h x) (k2 : ¬ a < b → Ev d (y, pc + 3, L, st) h x) : Ev d (y, pc, L, vI b :: vI a :: st) h x :=
  Ev.icmp hc ht (fun c => k1 (of_decide_eq_true c)) (fun c => k2 (of_decide_eq_false c))
theorem Ev.ige {off : Int} {a b : Int32} {t : Nat} (hc : codeAt y pc = some (.if_icmp .ge off, 3)) (ht : tgt pc off = some t) (k1 : a < b → Ev d (y, pc + 3, L, st) h x) (k2 : ¬ a < b → Ev d (y, t, L, st) h x) : Ev d (y, pc, L, vI b :: vI a :: st) h x :=
  Ev.icmp hc ht (fun c => k2 (Int32.not_lt.mpr (of_decide_eq_true c))) (fun c => k1 (Int32.not_le.mp (of_decide_eq_false c)))
theorem Ev.igt {off : Int} {a b : Int32} {t : Nat} (hc : codeAt y pc = some (.if_icmp .gt off, 3)) (ht : tgt pc off = some t) (k1 : b < a → Ev d (y, t, L, st) h x) (k2 : ¬ b < a → Ev d (y, pc + 3, L, st) h x) : Ev d (y, pc, L, vI b :: vI a :: st) h x :=
  Ev.icmp hc ht (fun c => k1 (of_decide_eq_true c)) (fun c => k2 (of_decide_eq_false c))
theorem Ev.ile {off : Int} {a b : Int32} {t : Nat} (hc : codeAt y pc = some (.if_icmp .le off, 3)) (ht : tgt pc off = some t) (k1 : b < a → Ev d (y, pc + 3, L, st) h x) (k2 : ¬ b < a → Ev d (y, t, L, st) h x) : Ev d (y, pc, L, vI b :: vI a :: st) h x :=
  Ev.icmp hc ht (fun c => k2 (Int32.not_lt.mpr (of_decide_eq_true c))) (fun c => k1 (Int32.not_le.mp (of_decide_eq_false c)))
theorem Ev.ieq {off : Int} {a b : Int32} {t : Nat} (hc : codeAt y pc = some (.if_icmp .eq off, 3)) (ht : tgt pc off = some t) (k1 : a = b → Ev d (y, t, L, st) h x) (k2 : ¬ a = b → Ev d (y, pc + 3, L, st) h x) : Ev d (y, pc, L, vI b :: vI a :: st) h x :=
  Ev.icmp hc ht (fun c => k1 (of_decide_eq_true c)) (fun c => k2 (of_decide_eq_false c))
theorem Ev.ine {off : Int} {a b : Int32} {t : Nat} (hc : codeAt y pc = some (.if_icmp .ne off, 3)) (ht : tgt pc off = some t) (k1 : a = b → Ev d (y, pc + 3, L, st) h x) (k2 : ¬ a = b → Ev d (y, t, L, st) h x) : Ev d (y, pc, L, vI b :: vI a :: st) h x :=
  Ev.icmp hc ht (fun c => k2 (of_decide_eq_true c)) (fun c => k1 (Decidable.not_not.mp (of_decide_eq_false c)))
theorem Ev.zlt {off : Int} {a : Int32} {t : Nat} (hc : codeAt y pc = some (.ifCond .lt off, 3)) (ht : tgt pc off = some t) (k1 : a < 0 → Ev d (y, t, L, st) h x) (k2 : ¬ a < 0 → Ev d (y, pc + 3, L, st) h x) : Ev d (y, pc, L, vI a :: st) h x :=
  Ev.ifi hc ht (fun c => k1 (of_decide_eq_true c)) (fun c => k2 (of_decide_eq_false c))
theorem Ev.zge {off : Int} {a : Int32} {t : Nat} (hc : codeAt y pc = some (.ifCond .ge off, 3)) (ht : tgt pc off = some t) (k1 : a < 0 → Ev d (y, pc + 3, L, st) h x) (k2 : ¬ a < 0 → Ev d (y, t, L, st) h x) : Ev d (y, pc, L, vI a :: st) h x :=
  Ev.ifi hc ht (fun c => k2 (Int32.not_lt.mpr (of_decide_eq_true c))) (fun c => k1 (Int32.not_le.mp (of_decide_eq_false c)))
theorem Ev.zgt {off : Int} {a : Int32} {t : Nat} (hc : codeAt y pc = some (.ifCond .gt off, 3)) (ht : tgt pc off = some t) (k1 : 0 < a → Ev d (y, t, L, st) h x) (k2 : ¬ 0 < a → Ev d (y, pc + 3, L, st) h x) : Ev d (y, pc, L, vI a :: st) h x :=
  Ev.ifi hc ht (fun c => k1 (of_decide_eq_true c)) (fun c => k2 (of_decide_eq_false c))
theorem Ev.zle {off : Int} {a : Int32} {t : Nat} (hc : codeAt y pc = some (.ifCond .le off, 3)) (ht : tgt pc off = some t) (k1 : 0 < a → Ev d (y, pc + 3, L, st) h x) (k2 : ¬ 0 < a → Ev d (y, t, L, st) h x) : Ev d (y, pc, L, vI a :: st) h x :=
  Ev.ifi hc ht (fun c => k2 (Int32.not_lt.mpr (of_decide_eq_true c))) (fun c => k1 (Int32.not_le.mp (of_decide_eq_false c)))
theorem Ev.zeq {off : Int} {a : Int32} {t : Nat} (hc : codeAt y pc = some (.ifCond .eq off, 3)) (ht : tgt pc off = some t) (k1 : a = 0 → Ev d (y, t, L, st) h x) (k2 : ¬ a = 0 → Ev d (y, pc + 3, L, st) h x) : Ev d (y, pc, L, vI a :: st) h x :=
  Ev.ifi hc ht (fun c => k1 (of_decide_eq_true c)) (fun c => k2 (of_decide_eq_false c))
theorem Ev.zne {off : Int} {a : Int32} {t : Nat} (hc : codeAt y pc = some (.ifCond .ne off, 3)) (ht : tgt pc off = some t) (k1 : a = 0 → Ev d (y, pc + 3, L, st) h x) (k2 : ¬ a = 0 → Ev d (y, t, L, st) h x) : Ev d (y, pc, L, vI a :: st) h x :=
  Ev.ifi hc ht (fun c => k2 (of_decide_eq_true c)) (fun c => k1 (Decidable.not_not.mp (of_decide_eq_false c)))
/-! both sides small numbers -/
theorem Ev.iltN {off : Int} {a b : Nat} {t : Nat} (ha : a < 2 ^ 31) (hb : b < 2 ^ 31) (hc : codeAt y pc = some (.if_icmp .lt off, 3)) (ht : tgt pc off = some t) (k1 : a < b → Ev d (y, t, L, st) h x) (k2 : ¬ a < b → Ev d (y, pc + 3, L, st) h x) : Ev d (y, pc, L, vI (nI b) :: vI (nI a) :: st) h x :=
  Ev.ilt hc ht (fun c => k1 ((nI_ltI ha hb).mp c)) (fun c => k2 (fun z => c ((nI_ltI ha hb).mpr z)))
theorem Ev.igeN {off : Int} {a b : Nat} {t : Nat} (ha : a < 2 ^ 31) (hb : b < 2 ^ 31) (hc : codeAt y pc = some (.if_icmp .ge off, 3)) (ht : tgt pc off = some t) (k1 : a < b → Ev d (y, pc + 3, L, st) h x) (k2 : ¬ a < b → Ev d (y, t, L, st) h x) : Ev d (y, pc, L, vI (nI b) :: vI (nI a) :: st) h x :=
  Ev.ige hc ht (fun c => k1 ((nI_ltI ha hb).mp c)) (fun c => k2 (fun z => c ((nI_ltI ha hb).mpr z)))
theorem Ev.igtN {off : Int} {a b : Nat} {t : Nat} (ha : a < 2 ^ 31) (hb : b < 2 ^ 31) (hc : codeAt y pc = some (.if_icmp .gt off, 3)) (ht : tgt pc off = some t) (k1 : b < a → Ev d (y, t, L, st) h x) (k2 : ¬ b < a → Ev d (y, pc + 3, L, st) h x) : Ev d (y, pc, L, vI (nI b) :: vI (nI a) :: st) h x :=
  Ev.igt hc ht (fun c => k1 ((nI_ltI hb ha).mp c)) (fun c => k2 (fun z => c ((nI_ltI hb ha).mpr z)))
theorem Ev.ileN {off : Int} {a b : Nat} {t : Nat} (ha : a < 2 ^ 31) (hb : b < 2 ^ 31) (hc : codeAt y pc = some (.if_icmp .le off, 3)) (ht : tgt pc off = some t) (k1 : b < a → Ev d (y, pc + 3, L, st) h x) (k2 : ¬ b < a → Ev d (y, t, L, st) h x) : Ev d (y, pc, L, vI (nI b) :: vI (nI a) :: st) h x :=
  Ev.ile hc ht (fun c => k1 ((nI_ltI hb ha).mp c)) (fun c => k2 (fun z => c ((nI_ltI hb ha).mpr z)))
theorem Ev.ieqN {off : Int} {a b : Nat} {t : Nat} (ha : a < 2 ^ 31) (hb : b < 2 ^ 31) (hc : codeAt y pc = some (.if_icmp .eq off, 3)) (ht : tgt pc off = some t) (k1 : a = b → Ev d (y, t, L, st) h x) (k2 : ¬ a = b → Ev d (y, pc + 3, L, st) h x) : Ev d (y, pc, L, vI (nI b) :: vI (nI a) :: st) h x :=
  Ev.ieq hc ht (fun c => k1 ((nI_eq ha hb).mp c)) (fun c => k2 (fun z => c ((nI_eq ha hb).mpr z)))
theorem Ev.ineN {off : Int} {a b : Nat} {t : Nat} (ha : a < 2 ^ 31) (hb : b < 2 ^ 31) (hc : codeAt y pc = some (.if_icmp .ne off, 3)) (ht : tgt pc off = some t) (k1 : a = b → Ev d (y, pc + 3, L, st) h x) (k2 : ¬ a = b → Ev d (y, t, L, st) h x) : Ev d (y, pc, L, vI (nI b) :: vI (nI a) :: st) h x :=
  Ev.ine hc ht (fun c => k1 ((nI_eq ha hb).mp c)) (fun c => k2 (fun z => c ((nI_eq ha hb).mpr z)))
/-! truth values -/
theorem bI_t : bI true = 1 := rfl
theorem bI_f : bI false = 0 := rfl
theorem Ev.ifbe {off : Int} {b : Bool} {t : Nat} (hc : codeAt y pc = some (.ifCond .eq off, 3)) (ht : tgt pc off = some t) (k1 : b = true → Ev d (y, pc + 3, L, st) h x) (k2 : ¬ b = true → Ev d (y, t, L, st) h x) : Ev d (y, pc, L, vI (bI b) :: st) h x := by
  refine Ev.zeq hc ht (fun c => ?_) (fun c => ?_)
  · cases b with
    | true => exact absurd c (by decide)
    | false => exact k2 (by decide)
  · cases b with
    | true => exact k1 rfl
    | false => exact absurd rfl c
theorem Ev.ifbn {off : Int} {b : Bool} {t : Nat} (hc : codeAt y pc = some (.ifCond .ne off, 3)) (ht : tgt pc off = some t) (k1 : b = true → Ev d (y, t, L, st) h x) (k2 : ¬ b = true → Ev d (y, pc + 3, L, st) h x) : Ev d (y, pc, L, vI (bI b) :: st) h x := by
  refine Ev.zne hc ht (fun c => ?_) (fun c => ?_)
  · cases b with
    | true => exact absurd c (by decide)
    | false => exact k2 (by decide)
  · cases b with
    | true => exact k1 rfl
    | false => exact absurd rfl c
/-! references of one site -/
theorem Ev.ane {off : Int} {s m1 m2 t : Nat} (hc : codeAt y pc = some (.if_acmp .ne off, 3)) (ht : tgt pc off = some t) (h1 : (sk s).1 < 3) (k1 : m1 = m2 → Ev d (y, pc + 3, L, st) h x) (k2 : ¬ m1 = m2 → Ev d (y, t, L, st) h x) : Ev d (y, pc, L, vR s m2 :: vR s m1 :: st) h x :=
  Ev.acne hc ht h1 h1 (fun c => k2 (fun z => c (by rw [z]))) (fun c => k1 (Prod.mk.inj c).2)
theorem Ev.aeq {off : Int} {s m1 m2 t : Nat} (hc : codeAt y pc = some (.if_acmp .eq off, 3)) (ht : tgt pc off = some t) (h1 : (sk s).1 < 3) (k1 : m1 = m2 → Ev d (y, t, L, st) h x) (k2 : ¬ m1 = m2 → Ev d (y, pc + 3, L, st) h x) : Ev d (y, pc, L, vR s m2 :: vR s m1 :: st) h x := by
  by_cases e : m1 = m2
  · refine Ev.p hc ?_ (k1 e)
    simp only [pin, pac, Option.all_some, decide_eq_true_eq, h1, and_self, if_true, ht]
    rw [if_pos (by rw [e])]
  · refine Ev.p hc ?_ (k2 e)
    simp only [pin, pac, Option.all_some, decide_eq_true_eq, h1, and_self, if_true, ht]
    rw [if_neg (by simp only [Option.some.injEq, decide_eq_true_eq]; exact fun z => e (Prod.mk.inj z).2.symm)]
/-! rows -/
theorem parr_pl {ok : Nat × Nat → Bool} {s n N k : Nat} {f : Nat → MV} (hk : ok (sk s) = true) (hg : hget h s n = some (pl N f)) (hN : k < N) (hN2 : N < 2 ^ 31) : parr ok 1 pc L (vI (nI k) :: vR s n :: st) h = some (pc + 1, L, f k :: st) := by
  simp only [parr, hg]
  rw [if_pos ⟨trivial, hk, nI_pos (by omega)⟩, nI_clamp (by omega), pl_get hN]
  rfl
theorem Ev.aiI {s n N k : Nat} {f : Nat → MV} {v : MV} (hc : codeAt y pc = some (.iaload, 1)) (hk : ((sk s) == (1, 0) || (sk s) == (4, 0)) = true) (hg : hget h s n = some (pl N f)) (hN2 : N < 2 ^ 31) (hN : k < N) (hv : f k = v) (K : Ev d (y, pc + 1, L, v :: st) h x) : Ev d (y, pc, L, vI (nI k) :: vR s n :: st) h x := by
  subst hv
  exact Ev.r hc rfl (parr_pl (ok := fun k => k == (1, 0) || k == (4, 0)) hk hg hN hN2) K
theorem Ev.aiJ {s n N k : Nat} {f : Nat → MV} {v : MV} (hc : codeAt y pc = some (.laload, 1)) (hk : ((sk s) == (1, 1)) = true) (hg : hget h s n = some (pl N f)) (hN2 : N < 2 ^ 31) (hN : k < N) (hv : f k = v) (K : Ev d (y, pc + 1, L, v :: st) h x) : Ev d (y, pc, L, vI (nI k) :: vR s n :: st) h x := by
  subst hv
  exact Ev.r hc rfl (parr_pl (ok := fun k => k == (1, 1)) hk hg hN hN2) K
theorem Ev.aiB {s n N k : Nat} {f : Nat → MV} {v : MV} (hc : codeAt y pc = some (.baload, 1)) (hk : ((sk s) == (1, 2)) = true) (hg : hget h s n = some (pl N f)) (hN2 : N < 2 ^ 31) (hN : k < N) (hv : f k = v) (K : Ev d (y, pc + 1, L, v :: st) h x) : Ev d (y, pc, L, vI (nI k) :: vR s n :: st) h x := by
  subst hv
  exact Ev.r hc rfl (parr_pl (ok := fun k => k == (1, 2)) hk hg hN hN2) K
theorem Ev.aiC {s n N k : Nat} {f : Nat → MV} {v : MV} (hc : codeAt y pc = some (.caload, 1)) (hk : ((sk s) == (1, 3)) = true) (hg : hget h s n = some (pl N f)) (hN2 : N < 2 ^ 31) (hN : k < N) (hv : f k = v) (K : Ev d (y, pc + 1, L, v :: st) h x) : Ev d (y, pc, L, vI (nI k) :: vR s n :: st) h x := by
  subst hv
  exact Ev.r hc rfl (parr_pl (ok := fun k => k == (1, 3)) hk hg hN hN2) K
theorem Ev.aiA {s n N k : Nat} {f : Nat → MV} {v : MV} (hc : codeAt y pc = some (.aaload, 1)) (hk : ((sk s) == (1, 5) || (sk s) == (1, 6) || (sk s) == (1, 7)) = true) (hg : hget h s n = some (pl N f)) (hN2 : N < 2 ^ 31) (hN : k < N) (hv : f k = v) (K : Ev d (y, pc + 1, L, v :: st) h x) : Ev d (y, pc, L, vI (nI k) :: vR s n :: st) h x := by
  subst hv
  exact Ev.r hc rfl (parr_pl (ok := fun k => k == (1, 5) || k == (1, 6) || k == (1, 7)) hk hg hN hN2) K
theorem wst_pl {t : Nat} {cv : MV → Option MV} {s n N k : Nat} {f : Nat → MV} {v w : MV} {h' : Hp} (hk : sk s = (1, t)) (hg : hget h s n = some (pl N f)) (hN : k < N) (hN2 : N < 2 ^ 31) (hv : cv v = some w) (he : hput h s n ((pl N f).set k w) = h') : wst t cv 1 pc L (v :: vI (nI k) :: vR s n :: st) h = some (pc + 1, L, st, h') := by
  simp only [wst, hg]
  rw [if_pos ⟨trivial, hk, nI_pos (by omega), by rw [nI_clamp (by omega), pl_len]; exact hN⟩, nI_clamp (by omega), hv, ← he]
  rfl
theorem Ev.asI {s n N k : Nat} {f : Nat → MV} {v : Int32} {h' : Hp} (hc : codeAt y pc = some (.iastore, 1)) (hk : sk s = (1, 0)) (hg : hget h s n = some (pl N f)) (hN2 : N < 2 ^ 31) (hN : k < N) (he : hput h s n ((pl N f).set k (vI v)) = h') (K : Ev d (y, pc + 1, L, st) h' x) : Ev d (y, pc, L, vI v :: vI (nI k) :: vR s n :: st) h x :=
  Ev.w hc rfl rfl (z := (pc + 1, L, st, h')) (wst_pl (t := 0) hk hg hN hN2 rfl he) K
theorem Ev.asJ {s n N k : Nat} {f : Nat → MV} {v : Int64} {h' : Hp} (hc : codeAt y pc = some (.lastore, 1)) (hk : sk s = (1, 1)) (hg : hget h s n = some (pl N f)) (hN2 : N < 2 ^ 31) (hN : k < N) (he : hput h s n ((pl N f).set k (vL v)) = h') (K : Ev d (y, pc + 1, L, st) h' x) : Ev d (y, pc, L, vL v :: vI (nI k) :: vR s n :: st) h x :=
  Ev.w hc rfl rfl (z := (pc + 1, L, st, h')) (wst_pl (t := 1) hk hg hN hN2 rfl he) K
theorem Ev.asB {s n N k : Nat} {f : Nat → MV} {v : Int32} {h' : Hp} (hc : codeAt y pc = some (.bastore, 1)) (hk : sk s = (1, 2)) (hv1 : v &&& 1 = v) (hg : hget h s n = some (pl N f)) (hN2 : N < 2 ^ 31) (hN : k < N) (he : hput h s n ((pl N f).set k (vI v)) = h') (K : Ev d (y, pc + 1, L, st) h' x) : Ev d (y, pc, L, vI v :: vI (nI k) :: vR s n :: st) h x :=
  Ev.w hc rfl rfl (z := (pc + 1, L, st, h')) (wst_pl (t := 2) hk hg hN hN2 (w := vI v) (congrArg (fun z => some (vI z)) hv1) he) K
def chr (v : Int32) : Prop := v.toUInt32.toUInt16.toUInt32.toInt32 = v
theorem Ev.asC {s n N k : Nat} {f : Nat → MV} {v : Int32} {h' : Hp} (hc : codeAt y pc = some (.castore, 1)) (hk : sk s = (1, 3)) (hv1 : chr v) (hg : hget h s n = some (pl N f)) (hN2 : N < 2 ^ 31) (hN : k < N) (he : hput h s n ((pl N f).set k (vI v)) = h') (K : Ev d (y, pc + 1, L, st) h' x) : Ev d (y, pc, L, vI v :: vI (nI k) :: vR s n :: st) h x :=
  Ev.w hc rfl rfl (z := (pc + 1, L, st, h')) (wst_pl (t := 3) hk hg hN hN2 (w := vI v) (congrArg (fun z => some (vI z)) hv1) he) K
theorem Ev.pf {idx s n ci fk : Nat} {ob : Ob} {v : MV} {h' : Hp} (hc : codeAt y pc = some (.putfield idx, 3)) (hf : fl (mcl y) idx = some (ci, fk)) (hk : sk s = (0, ci)) (hz : fk < ob.length) (hp : pfit ((vtys.getD ci (fun _ => .int)) fk) v = true) (hfin : (fT ci fk).2.2.2 = false ∨ ((mfct[y]?).map (fun f => f.2.1) = some 1 ∧ mcl y = ci)) (hg : hget h s n = some ob) (he : hput h s n (ob.set fk v) = h') (k : Ev d (y, pc + 3, L, st) h' x) : Ev d (y, pc, L, v :: vR s n :: st) h x := by
  subst he
  exact Ev.putf hc hf hk hg hz hp hfin k
/-! lists -/
theorem Ev.lz {idx s n N : Nat} {ob : Ob} (hc : codeAt y pc = some (.invokevirtual idx, 3)) (hj : jl (mcl y) idx = some 3) (hk : sk s = (2, 0)) (hcat : (st.map mcat).sum ≤ 8) (hg : hget h s n = some ob) (hl : ob.length = N) (k : Ev d (y, pc + 3, L, vI (nI N) :: st) h x) : Ev d (y, pc, L, vR s n :: st) h x := by
  subst hl
  exact Ev.lsz hc hj hk hcat hg k
theorem Ev.lg {idx s n j : Nat} {ob : Ob} {v : MV} (hc : codeAt y pc = some (.invokevirtual idx, 3)) (hj : jl (mcl y) idx = some 2) (hk : sk s = (2, 0)) (hcat : (st.map mcat).sum ≤ 8) (hg : hget h s n = some ob) (h0 : j < 2 ^ 31) (hv : ob[j]? = some v) (k : Ev d (y, pc + 3, L, v :: st) h x) : Ev d (y, pc, L, vI (nI j) :: vR s n :: st) h x :=
  Ev.lgt hc hj hk hcat hg (nI_pos h0) (by rw [nI_clamp h0]; exact hv) k
theorem range_get {n j s : Nat} (hj : j < n) : ((List.range n).map (vR s))[j]? = some (vR s j) := by rw [List.getElem?_map, List.getElem?_range hj]; rfl
theorem range_len {n s : Nat} : ((List.range n).map (vR s)).length = n := by rw [List.length_map, List.length_range]
/-! stores beside a local that isn't known -/
theorem lset_nw {i : Nat} {v : MV} (h4 : mcat v = 1) (hD : ∀ w, lget L (i - 1) = some w → mcat w = 1) : lset L i v = L.set i (some v) := by
  unfold lset
  rw [if_neg (by omega)]
  unfold lclr
  cases i with
  | zero => rfl
  | succ j =>
    dsimp only
    cases hl : lget L j with
    | none => rfl
    | some w =>
      have := hD w hl
      dsimp only
      rw [if_neg (by omega)]
theorem Ev.stn {ins : Instr} {len i kd n : Nat} {v : MV} (hc : codeAt y pc = some (ins, len)) (hp : pin ins len pc L (v :: st) = pst kd n len pc L (v :: st) i) (h1 : len = n) (h2 : mkd v = kd) (h3 : i + 1 ≤ L.length) (h4 : mcat v = 1) (hD : ∀ w, lget L (i - 1) = some w → mcat w = 1) (k : Ev d (y, pc + n, L.set i (some v), st) h x) : Ev d (y, pc, L, v :: st) h x := by
  refine Ev.p hc (hp.trans ?_) k
  unfold pst
  dsimp only
  rw [if_pos ⟨h1, h2, by rw [h4]; exact h3⟩, lset_nw h4 hD]
theorem Ev.inn {i : Nat} {m : Int} {a : Int32} (hc : codeAt y pc = some (.iinc i m, 3)) (ha : lget L i = some (vI a)) (hD : ∀ w, lget L (i - 1) = some w → mcat w = 1) (k : Ev d (y, pc + 3, L.set i (some (vI (a + Int32.ofInt m))), st) h x) : Ev d (y, pc, L, st) h x := by
  refine Ev.p hc ?_ k
  unfold pin pii
  dsimp only
  rw [ha]
  dsimp only
  rw [if_pos rfl, lset_nw rfl hD]
end RU
section RV
variable {d y pc : Nat} {L : Lo} {st : List MV} {h : Hp} {x : Re × Hp}
theorem Ev.st1 {a b : Int32} (e : a = b) (k : Ev d (y, pc, L, vI b :: st) h x) : Ev d (y, pc, L, vI a :: st) h x := by
  subst e
  exact k
theorem Ev.st2 {v : MV} {a b : Int32} (e : a = b) (k : Ev d (y, pc, L, v :: vI b :: st) h x) : Ev d (y, pc, L, v :: vI a :: st) h x := by
  subst e
  exact k
theorem Ev.arl {s n N : Nat} {ob : Ob} (hc : codeAt y pc = some (.arraylength, 1)) (hk : (sk s).1 = 1 ∨ sk s = (4, 0)) (hg : hget h s n = some ob) (hl : ob.length = N) (k : Ev d (y, pc + 1, L, vI (nI N) :: st) h x) : Ev d (y, pc, L, vR s n :: st) h x := by
  subst hl
  exact Ev.aln hc hk hg k
theorem Ev.eqx {x' : Re × Hp} (e : x = x') (k : Ev d (y, pc, L, st) h x') : Ev d (y, pc, L, st) h x := by
  subst e
  exact k
end RV
theorem mkd_refO {o : Option Nat} : mkd (refO o) = 4 := by cases o <;> rfl
theorem mcat_refO {o : Option Nat} : mcat (refO o) = 1 := by cases o <;> rfl
theorem mkd_refL {o : Option Nat} : mkd (refL o) = 4 := by cases o <;> rfl
theorem mcat_refL {o : Option Nat} : mcat (refL o) = 1 := by cases o <;> rfl
theorem Da.o_refO {o : Option Nat} : Da (some (refO o)) := fun _ h => by cases h; exact mcat_refO
theorem nI_nm1 {k : Nat} (h : k < 2 ^ 31) : ¬ nI k = -1 := fun e => nI_pos h (by rw [e]; decide)
/-- an argument as a number -/
def nP (p : Int32) : Nat := p.toNatClampNeg
theorem nP_of {p : Int32} {n : Nat} (hn : n < 2 ^ 31) (h0 : ¬ p < 0) (h1 : p < nI n) : p = nI (nP p) ∧ nP p < n := by
  obtain ⟨j, hj, rfl⟩ := nI_of h0
  have h2 := (nI_ltI hj hn).mp h1
  unfold nP
  rw [nI_clamp hj]
  exact ⟨rfl, h2⟩
theorem nP_nI {k : Nat} (h : k < 2 ^ 31) : nP (nI k) = k := nI_clamp h
theorem rstB {b : Bool} {rt : Option FieldType} (h : rt = some .boolean) : rst .ireturn 1 [vI (bI b)] rt = some (some (vI (bI b))) := by
  subst h
  cases b <;> rfl
theorem rstC {v : Int32} {rt : Option FieldType} (h : rt = some .char) (hc : chr v) : rst .ireturn 1 [vI v] rt = some (some (vI v)) := by
  subst h
  exact if_pos ⟨rfl, Or.inr (Or.inr ⟨rfl, hc⟩)⟩
def oE {α β : Type} (o : Option α) (n : β) (s : α → β) : β := match o with
  | none => n
  | some a => s a
