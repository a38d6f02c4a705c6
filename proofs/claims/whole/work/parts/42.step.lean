/-! steps of a run, by kinds of instructions -/
section SX
variable {d y pc : Nat} {L : Lo} {st : List MV} {h : Hp} {x : Re × Hp} {i : Instr} {len : Nat}
theorem Ev.p {pc' : Nat} {L' : Lo} {st' : List MV} (hc : codeAt y pc = some (i, len)) (hs : pin i len pc L st = some (pc', L', st')) (k : Ev d (y, pc', L', st') h x) : Ev d (y, pc, L, st) h x := by
  obtain ⟨h1, h2⟩ := codeAt_ok hc
  exact Ev.go (z := ((y, pc', L', st'), h)) (by unfold stp; simp only [h1, h2, hs]) k
theorem Ev.r {z : Nat × Lo × List MV} (hc : codeAt y pc = some (i, len)) (hp : pin i len pc L st = none) (hs : hrd (mcl y) i len pc L st h = some z) (k : Ev d (y, z.1, z.2.1, z.2.2) h x) : Ev d (y, pc, L, st) h x := by
  obtain ⟨h1, h2⟩ := codeAt_ok hc
  exact Ev.go (z := ((y, z), h)) (by unfold stp; simp only [h1, h2, hp, hs]) k
theorem Ev.w {z : Nat × Lo × List MV × Hp} (hc : codeAt y pc = some (i, len)) (hp : pin i len pc L st = none) (hr : hrd (mcl y) i len pc L st h = none) (hs : hwr y i len pc L st h = some z) (k : Ev d (y, z.1, z.2.1, z.2.2.1) z.2.2.2 x) : Ev d (y, pc, L, st) h x := by
  obtain ⟨h1, h2⟩ := codeAt_ok hc
  exact Ev.go (z := ((y, z.1, z.2.1, z.2.2.1), z.2.2.2)) (by unfold stp; simp only [h1, h2, hp, hr, hs]) k
theorem Ev.re {v : Option MV} (hc : codeAt y pc = some (i, len)) (hp : pin i len pc L st = none) (hr : hrd (mcl y) i len pc L st h = none) (hw : hwr y i len pc L st h = none) (hs : rst i len st ((mrow y).bind (fun r => r.2.2.2.1)) = some v) : Ev d (y, pc, L, st) h (.inl v, h) := by
  obtain ⟨h1, h2⟩ := codeAt_ok hc
  exact Ev.ret (by unfold stp; simp only [h1, h2, hp, hr, hw, hs])
theorem Ev.br {b : Bool} {t : Nat} {L1 L2 : Lo} {s1 s2 : List MV} {t2 : Nat} (hc : codeAt y pc = some (i, len)) (hs : pin i len pc L st = if b = true then some (t, L1, s1) else some (t2, L2, s2)) (k1 : b = true → Ev d (y, t, L1, s1) h x) (k2 : b = false → Ev d (y, t2, L2, s2) h x) : Ev d (y, pc, L, st) h x := by
  cases b with
  | true => exact Ev.p hc (hs.trans (if_pos rfl)) (k1 rfl)
  | false => exact Ev.p hc (hs.trans (if_neg (by simp))) (k2 rfl)
def cmpB (c : ClassFile.Cond) (a b : Int32) : Bool := match c with | .eq => decide (a = b) | .ne => decide (¬ a = b) | .lt => decide (a < b) | .ge => decide (b ≤ a) | .gt => decide (b < a) | .le => decide (a ≤ b)
def cmp0 (c : ClassFile.Cond) (a : Int32) : Bool := match c with | .eq => decide (a = 0) | .ne => decide (¬ a = 0) | .lt => decide (a < 0) | .ge => decide (0 ≤ a) | .gt => decide (0 < a) | .le => decide (a ≤ 0)
theorem Ev.icmp {c : ClassFile.Cond} {off : Int} {a b : Int32} {t : Nat} (hc : codeAt y pc = some (.if_icmp c off, 3)) (ht : tgt pc off = some t) (k1 : cmpB c a b = true → Ev d (y, t, L, st) h x) (k2 : cmpB c a b = false → Ev d (y, pc + 3, L, st) h x) : Ev d (y, pc, L, vI b :: vI a :: st) h x :=
  Ev.br (b := cmpB c a b) hc (by simp only [pin, pcm, ht, if_true]; cases c <;> rfl) k1 k2
theorem Ev.ifi {c : ClassFile.Cond} {off : Int} {a : Int32} {t : Nat} (hc : codeAt y pc = some (.ifCond c off, 3)) (ht : tgt pc off = some t) (k1 : cmp0 c a = true → Ev d (y, t, L, st) h x) (k2 : cmp0 c a = false → Ev d (y, pc + 3, L, st) h x) : Ev d (y, pc, L, vI a :: st) h x :=
  Ev.br (b := cmp0 c a) hc (by simp only [pin, pif, ht, if_true]; cases c <;> rfl) k1 k2
def exe : Nat → Nat → Nat → Lo → List MV → Option (Nat × Lo × List MV)
  | 0, _, pc, L, st => some (pc, L, st)
  | n + 1, y, pc, L, st => match codeAt y pc with
    | some (i, len) => match pin i len pc L st with
      | some (pc', L', st') => exe n y pc' L' st'
      | none => none
    | none => none
/-- n steps without heap or tables -/
theorem Ev.ps : ∀ (n : Nat) {pc : Nat} {L : Lo} {st : List MV} {pc' : Nat} {L' : Lo} {st' : List MV}, exe n y pc L st = some (pc', L', st') → Ev d (y, pc', L', st') h x → Ev d (y, pc, L, st) h x
  | 0, pc, L, st, _, _, _, hs, k => by cases hs; exact k
  | n + 1, pc, L, st, _, _, _, hs, k => by
    unfold exe at hs
    split at hs
    · rename_i i len hq
      split at hs
      · rename_i p1 p2 p3 hw
        exact Ev.p hq hw (Ev.ps n hs k)
      · cases hs
    · cases hs
theorem Ev.getf {idx s n ci fk : Nat} {ob : Ob} {v : MV} (hc : codeAt y pc = some (.getfield idx, 3)) (hf : fl (mcl y) idx = some (ci, fk)) (hk : sk s = (0, ci)) (hg : hget h s n = some ob) (hv : ob[fk]? = some v) (k : Ev d (y, pc + 3, L, v :: st) h x) : Ev d (y, pc, L, vR s n :: st) h x :=
  Ev.r hc rfl (z := (pc + 3, L, v :: st)) (by simp only [hrd, hf, hg, hk, and_self, if_true, hv, Option.map_some]) k
theorem Ev.putf {idx s n ci fk : Nat} {ob : Ob} {v : MV} (hc : codeAt y pc = some (.putfield idx, 3)) (hf : fl (mcl y) idx = some (ci, fk)) (hk : sk s = (0, ci)) (hg : hget h s n = some ob) (hz : fk < ob.length) (hp : pfit ((vtys.getD ci (fun _ => .int)) fk) v = true) (hfin : (fT ci fk).2.2.2 = false ∨ ((mfct[y]?).map (fun f => f.2.1) = some 1 ∧ mcl y = ci)) (k : Ev d (y, pc + 3, L, st) (hput h s n (ob.set fk v)) x) : Ev d (y, pc, L, v :: vR s n :: st) h x :=
  Ev.w hc rfl rfl (z := (pc + 3, L, st, hput h s n (ob.set fk v))) (by simp only [hwr, hf, hg]; rw [if_pos ⟨trivial, hk, hz, hp, hfin⟩]) k
/-- a call of a method: what it comes to -/
def Cal (d y : Nat) (as : List MV) (h : Hp) (r : Re) (h' : Hp) : Prop := ∃ fr, ent y as = some fr ∧ Ev d fr h (r, h')
theorem Cal.mk {as : List MV} {r : Re} {h' : Hp} {n : Nat} (hm : (mrow y).map (fun r => r.2.2.1) = some n) (hl : as.length ≤ n) (ha : as.all (fun v => mcat v == 1) = true) (k : Ev d (y, 0, as.map some ++ List.replicate (n - as.length) none, []) h (r, h')) : Cal d y as h r h' := by
  cases hr : mrow y with
  | none => rw [hr] at hm; cases hm
  | some row =>
    rw [hr] at hm
    have hn : row.2.2.1 = n := Option.some.inj hm
    subst hn
    refine ⟨_, ?_, k⟩
    unfold ent
    rw [hr]
    exact if_pos ⟨hl, ha⟩
theorem Cal.dd {d' : Nat} {as : List MV} {r : Re} {h' : Hp} (c : Cal d y as h r h') (hd : d ≤ d') : Cal d' y as h r h' := by
  obtain ⟨fr, h1, h2⟩ := c
  exact ⟨fr, h1, h2.d hd⟩
end SX
