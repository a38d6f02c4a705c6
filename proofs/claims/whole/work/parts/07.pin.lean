theorem pac_inv {len pc : Nat} {L : Lo} {st : List MV} {off : Int} {b : Bool} {z} (h : pac len pc L st off b = some z) : ∃ p q st1, ∃ t : Nat, st = .inr (.inr (.inr (.inr p))) :: .inr (.inr (.inr (.inr q))) :: st1 ∧ len = 3 ∧ (∀ u, p = some u → (sk u.1).1 < 3) ∧ (∀ u, q = some u → (sk u.1).1 < 3) ∧ (pc : Int) + off = (t : Int) ∧ ((decide (p = q) = b ∧ z = (t, L, st1)) ∨ (¬ decide (p = q) = b ∧ z = (pc + 3, L, st1))) := by
  unfold pac at h
  split at h
  · split at h
    · rename_i e
      obtain ⟨e1, e2, e3⟩ := e
      split at h
      · rename_i t ht
        refine ⟨_, _, _, t, rfl, e1, fun u hu => ?_, fun u hu => ?_, tgt_s ht, ?_⟩
        · subst hu; simpa using e2
        · subst hu; simpa using e3
        · split at h
          · rename_i g; cases h; exact Or.inl ⟨g, rfl⟩
          · rename_i g; cases h; exact Or.inr ⟨g, rfl⟩
      · cases h
    · cases h
  · cases h
/-- an address stands for one place, but where what was caught, or the script, stands -/
def InjR (ρ : Nat → List Nat) : Prop := ∀ (s i s' i' a : Nat), (sk s).1 < 3 → (sk s').1 < 3 → (ρ s)[i]? = some a → (ρ s')[i']? = some a → s = s' ∧ i = i'
theorem vr_rf {ρ : Nat → List Nat} {q : Option (Nat × Nat)} {w : Value} (h : vr ρ (.inr (.inr (.inr (.inr q)))) w) : ∃ r : Option Nat, w = va_rf r ∧ (q = none ↔ r = none) ∧ ∀ u, q = some u → ∃ a, (ρ u.1)[u.2]? = some a ∧ r = some a := by
  rcases q with _ | u
  · exact ⟨none, h, by simp, fun u hu => by cases hu⟩
  · obtain ⟨a, h1, h2⟩ := h
    exact ⟨some a, h2, by simp, fun v hv => by cases hv; exact ⟨a, h1, rfl⟩⟩
theorem vr_eq {ρ : Nat → List Nat} (hI : InjR ρ) {p q : Option (Nat × Nat)} (hp : ∀ u, p = some u → (sk u.1).1 < 3) (hq : ∀ u, q = some u → (sk u.1).1 < 3) {rp rq : Option Nat} (h1 : p = none ↔ rp = none) (h2 : ∀ u, p = some u → ∃ a, (ρ u.1)[u.2]? = some a ∧ rp = some a) (h3 : q = none ↔ rq = none) (h4 : ∀ u, q = some u → ∃ a, (ρ u.1)[u.2]? = some a ∧ rq = some a) : p = q ↔ rq = rp := by
  constructor
  · rintro rfl
    cases p with
    | none => rw [h1.mp rfl, h3.mp rfl]
    | some u =>
      obtain ⟨a, e1, e2⟩ := h2 u rfl
      obtain ⟨b, e3, e4⟩ := h4 u rfl
      rw [e2, e4, Option.some.inj (e1.symm.trans e3)]
  · intro e
    cases p with
    | none => exact (h3.mpr (e.trans (h1.mp rfl))).symm
    | some u =>
      cases q with
      | none =>
        have := h1.mpr (e.symm.trans (h3.mp rfl))
        cases this
      | some w =>
        obtain ⟨a, e1, e2⟩ := h2 u rfl
        obtain ⟨b, e3, e4⟩ := h4 w rfl
        have hab : a = b := Option.some.inj (e2.symm.trans (e.symm.trans e4))
        subst hab
        obtain ⟨x1, x2⟩ := hI _ _ _ _ _ (hp u rfl) (hq w rfl) e1 e3
        exact congrArg some (Prod.ext x1 x2)
theorem mkd_i {ρ : Nat → List Nat} {v : MV} {w : Value} (h : vr ρ v w) (hk : mkd v = 0) : ∃ x, v = .inl x ∧ w = .int x := by
  rcases v with x | x | x | x | x <;> first | (exact ⟨x, rfl, h⟩) | (exact absurd hk (by simp [mkd]))
theorem mkd_l {ρ : Nat → List Nat} {v : MV} {w : Value} (h : vr ρ v w) (hk : mkd v = 1) : ∃ x, v = .inr (.inl x) ∧ w = .long x := by
  rcases v with x | x | x | x | x <;> first | (exact ⟨x, rfl, h⟩) | (exact absurd hk (by simp [mkd]))
theorem mkd_f {ρ : Nat → List Nat} {v : MV} {w : Value} (h : vr ρ v w) (hk : mkd v = 2) : ∃ x, v = .inr (.inr (.inl x)) ∧ w = .float x := by
  rcases v with x | x | x | x | x <;> first | (exact ⟨x, rfl, h⟩) | (exact absurd hk (by simp [mkd]))
theorem mkd_d {ρ : Nat → List Nat} {v : MV} {w : Value} (h : vr ρ v w) (hk : mkd v = 3) : ∃ x, v = .inr (.inr (.inr (.inl x))) ∧ w = .double x := by
  rcases v with x | x | x | x | x <;> first | (exact ⟨x, rfl, h⟩) | (exact absurd hk (by simp [mkd]))
theorem mkd_r {ρ : Nat → List Nat} {v : MV} {w : Value} (h : vr ρ v w) (hk : mkd v = 4) : (∃ q, v = .inr (.inr (.inr (.inr q)))) ∧ (w = .null ∨ ∃ a, w = .ref a) := by
  rcases v with x | x | x | x | (_ | q)
  · exact absurd hk (by simp [mkd])
  · exact absurd hk (by simp [mkd])
  · exact absurd hk (by simp [mkd])
  · exact absurd hk (by simp [mkd])
  · exact ⟨⟨_, rfl⟩, Or.inl h⟩
  · obtain ⟨a, -, rfl⟩ := h
    exact ⟨⟨_, rfl⟩, Or.inr ⟨a, rfl⟩⟩
section PIN
variable {p : Program} {l : Launch} {e : Env} {R : Room} {s : State} {m : MethodId} {args : Array Value} {below : List Frame} {meth : Method} {c : Code} {H : Heap} {locs : List Loc} {cells slots : Nat} {Q : State → Prop}
variable {cc : ByteArray} {pc : Nat} {ls : Array Slot} {st' : List Value} {ρ : Nat → List Nat} {nL : Nat} {L : Lo} {st : List MV}
set_option maxHeartbeats 4000000 in
theorem pin_ok (hx : p.tables.exec = Jvm.exec) (hb : c.code = cc) (hI : InjR ρ) {i : Instr} {len : Nat} {z : Nat × Lo × List MV} (h : pin i len pc L st = some z) (hd : decode cc pc = .ok (i, len)) (hl : lrel ρ ls L nL) (hs : srel ρ st st')
    (k : ∀ (ls2 : Array Slot) (st2 : List Value), lrel ρ ls2 z.2.1 nL → srel ρ z.2.2 st2 → W p l e R s m args below meth c H locs cells slots Q (F0 m z.1 ls2 st2)) : W p l e R s m args below meth c H locs cells slots Q (F0 m pc ls st') := by
  cases i with
  | iconst n => obtain ⟨rfl, rfl⟩ := p0_inv h; exact lv_iconst hx hb hd rfl (k _ _ hl ⟨_, _, rfl, rfl, hs⟩)
  | bipush n => obtain ⟨rfl, rfl⟩ := p0_inv h; exact lv_bipush hx hb hd rfl (k _ _ hl ⟨_, _, rfl, rfl, hs⟩)
  | sipush n => obtain ⟨rfl, rfl⟩ := p0_inv h; exact lv_sipush hx hb hd rfl (k _ _ hl ⟨_, _, rfl, rfl, hs⟩)
  | lconst n => obtain ⟨rfl, rfl⟩ := p0_inv h; exact lv_lconst hx hb hd rfl (k _ _ hl ⟨_, _, rfl, rfl, hs⟩)
  | fconst n =>
    simp only [pin] at h
    split at h
    · rename_i hn; subst hn; obtain ⟨rfl, rfl⟩ := p0_inv h; exact lv_fconst0 hx hb hd (k _ _ hl ⟨_, _, rfl, rfl, hs⟩)
    · cases h
  | dconst n =>
    simp only [pin] at h
    split at h
    · rename_i hn; subst hn; obtain ⟨rfl, rfl⟩ := p0_inv h; exact lv_dconst0 hx hb hd (k _ _ hl ⟨_, _, rfl, rfl, hs⟩)
    · cases h
  | aconst_null => obtain ⟨rfl, rfl⟩ := p0_inv h; exact lv_null hx hb hd (k _ _ hl ⟨_, _, rfl, rfl, hs⟩)
  | iload_n i =>
    obtain ⟨v, h1, h2, rfl, rfl⟩ := pld_inv h
    obtain ⟨w, h3, h4⟩ := hl.2.2.2 _ _ h1
    obtain ⟨x, rfl, rfl⟩ := mkd_i h4 h2
    exact lv_iload_n hx hb hd rfl h3 (k _ _ hl ⟨_, _, rfl, h4, hs⟩)
  | iload i =>
    obtain ⟨v, h1, h2, rfl, rfl⟩ := pld_inv h
    obtain ⟨w, h3, h4⟩ := hl.2.2.2 _ _ h1
    obtain ⟨x, rfl, rfl⟩ := mkd_i h4 h2
    exact lv_iload hx hb hd h3 (k _ _ hl ⟨_, _, rfl, h4, hs⟩)
  | lload_n i =>
    obtain ⟨v, h1, h2, rfl, rfl⟩ := pld_inv h
    obtain ⟨w, h3, h4⟩ := hl.2.2.2 _ _ h1
    obtain ⟨x, rfl, rfl⟩ := mkd_l h4 h2
    exact lv_lload_n hx hb hd rfl h3 (k _ _ hl ⟨_, _, rfl, h4, hs⟩)
  | lload i =>
    obtain ⟨v, h1, h2, rfl, rfl⟩ := pld_inv h
    obtain ⟨w, h3, h4⟩ := hl.2.2.2 _ _ h1
    obtain ⟨x, rfl, rfl⟩ := mkd_l h4 h2
    exact lv_lload hx hb hd h3 (k _ _ hl ⟨_, _, rfl, h4, hs⟩)
  | fload i =>
    obtain ⟨v, h1, h2, rfl, rfl⟩ := pld_inv h
    obtain ⟨w, h3, h4⟩ := hl.2.2.2 _ _ h1
    obtain ⟨x, rfl, rfl⟩ := mkd_f h4 h2
    exact lv_fload hx hb hd h3 (k _ _ hl ⟨_, _, rfl, h4, hs⟩)
  | dload i =>
    obtain ⟨v, h1, h2, rfl, rfl⟩ := pld_inv h
    obtain ⟨w, h3, h4⟩ := hl.2.2.2 _ _ h1
    obtain ⟨x, rfl, rfl⟩ := mkd_d h4 h2
    exact lv_dload hx hb hd h3 (k _ _ hl ⟨_, _, rfl, h4, hs⟩)
  | aload_n i =>
    obtain ⟨v, h1, h2, rfl, rfl⟩ := pld_inv h
    obtain ⟨w, h3, h4⟩ := hl.2.2.2 _ _ h1
    rcases (mkd_r h4 h2).2 with rfl | ⟨a, rfl⟩
    · exact lv_aload_nN hx hb hd rfl h3 (k _ _ hl ⟨_, _, rfl, h4, hs⟩)
    · exact lv_aload_n hx hb hd rfl h3 (k _ _ hl ⟨_, _, rfl, h4, hs⟩)
  | aload i =>
    obtain ⟨v, h1, h2, rfl, rfl⟩ := pld_inv h
    obtain ⟨w, h3, h4⟩ := hl.2.2.2 _ _ h1
    rcases (mkd_r h4 h2).2 with rfl | ⟨a, rfl⟩
    · exact lv_aloadN hx hb hd h3 (k _ _ hl ⟨_, _, rfl, h4, hs⟩)
    · exact lv_aload hx hb hd h3 (k _ _ hl ⟨_, _, rfl, h4, hs⟩)
  | istore_n i =>
    obtain ⟨v, st1, rfl, h2, rfl, h3, rfl⟩ := pst_inv h
    obtain ⟨w, ws, rfl, h4, h5⟩ := hs
    obtain ⟨x, rfl, rfl⟩ := mkd_i h4 h2
    exact lv_istore_n hx hb hd rfl (lall_has hl) (by rw [← hl.2.1]; exact h3) rfl fun ls2 h6 => k _ _ (lrel_st1 hl rfl h4 h6) h5
  | istore i =>
    obtain ⟨v, st1, rfl, h2, rfl, h3, rfl⟩ := pst_inv h
    obtain ⟨w, ws, rfl, h4, h5⟩ := hs
    obtain ⟨x, rfl, rfl⟩ := mkd_i h4 h2
    exact lv_istore hx hb hd (lall_has hl) (by rw [← hl.2.1]; exact h3) rfl fun ls2 h6 => k _ _ (lrel_st1 hl rfl h4 h6) h5
  | lstore_n i =>
    obtain ⟨v, st1, rfl, h2, rfl, h3, rfl⟩ := pst_inv h
    obtain ⟨w, ws, rfl, h4, h5⟩ := hs
    obtain ⟨x, rfl, rfl⟩ := mkd_l h4 h2
    exact lv_lstore_n hx hb hd rfl (lall_has hl) (by rw [← hl.2.1]; exact h3) rfl fun ls2 h6 => k _ _ (lrel_st2 hl rfl h4 h6) h5
  | lstore i =>
    obtain ⟨v, st1, rfl, h2, rfl, h3, rfl⟩ := pst_inv h
    obtain ⟨w, ws, rfl, h4, h5⟩ := hs
    obtain ⟨x, rfl, rfl⟩ := mkd_l h4 h2
    exact lv_lstore hx hb hd (lall_has hl) (by rw [← hl.2.1]; exact h3) rfl fun ls2 h6 => k _ _ (lrel_st2 hl rfl h4 h6) h5
  | fstore i =>
    obtain ⟨v, st1, rfl, h2, rfl, h3, rfl⟩ := pst_inv h
    obtain ⟨w, ws, rfl, h4, h5⟩ := hs
    obtain ⟨x, rfl, rfl⟩ := mkd_f h4 h2
    exact lv_fstore hx hb hd (lall_has hl) (by rw [← hl.2.1]; exact h3) rfl fun ls2 h6 => k _ _ (lrel_st1 hl rfl h4 h6) h5
  | dstore i =>
    obtain ⟨v, st1, rfl, h2, rfl, h3, rfl⟩ := pst_inv h
    obtain ⟨w, ws, rfl, h4, h5⟩ := hs
    obtain ⟨x, rfl, rfl⟩ := mkd_d h4 h2
    exact lv_dstore hx hb hd (lall_has hl) (by rw [← hl.2.1]; exact h3) rfl fun ls2 h6 => k _ _ (lrel_st2 hl rfl h4 h6) h5
  | astore_n i =>
    obtain ⟨v, st1, rfl, h2, rfl, h3, rfl⟩ := pst_inv h
    obtain ⟨w, ws, rfl, h4, h5⟩ := hs
    obtain ⟨⟨q, rfl⟩, rfl | ⟨a, rfl⟩⟩ := mkd_r h4 h2
    · exact lv_astore_nN hx hb hd rfl (lall_has hl) (by rw [← hl.2.1]; exact h3) rfl fun ls2 h6 => k _ _ (lrel_st1 hl rfl h4 h6) h5
    · exact lv_astore_n hx hb hd rfl (lall_has hl) (by rw [← hl.2.1]; exact h3) rfl fun ls2 h6 => k _ _ (lrel_st1 hl rfl h4 h6) h5
  | astore i =>
    obtain ⟨v, st1, rfl, h2, rfl, h3, rfl⟩ := pst_inv h
    obtain ⟨w, ws, rfl, h4, h5⟩ := hs
    obtain ⟨⟨q, rfl⟩, rfl | ⟨a, rfl⟩⟩ := mkd_r h4 h2
    · exact lv_astoreN hx hb hd (lall_has hl) (by rw [← hl.2.1]; exact h3) rfl fun ls2 h6 => k _ _ (lrel_st1 hl rfl h4 h6) h5
    · exact lv_astore hx hb hd (lall_has hl) (by rw [← hl.2.1]; exact h3) rfl fun ls2 h6 => k _ _ (lrel_st1 hl rfl h4 h6) h5
  | iinc i n =>
    simp only [pin, pii] at h
    split at h
    · rename_i x hx1
      split at h
      · rename_i e
        cases h
        subst e
        obtain ⟨w, h3, h4⟩ := hl.2.2.2 _ _ hx1
        obtain rfl : w = .int x := h4
        obtain ⟨j, hj⟩ := List.getElem?_of_mem ((lall_mem hl.1).mpr h3)
        exact lv_iinc hx hb hd (lall_has hl) hj rfl (by rw [← hl.2.1]; exact lget_lt hx1) rfl fun ls2 h6 => k _ _ (lrel_st1 (v := vI (x + Int32.ofInt n)) hl rfl rfl h6) hs
      · cases h
    · cases h
  | iadd => obtain ⟨x, y, st1, v, rfl, rfl, h1, rfl⟩ := p2i_inv h; cases h1; obtain ⟨_, _, rfl, rfl, _, st2, rfl, rfl, h5⟩ := hs; exact lv_iadd hx hb hd (k _ _ hl ⟨_, _, rfl, rfl, h5⟩)
  | isub => obtain ⟨x, y, st1, v, rfl, rfl, h1, rfl⟩ := p2i_inv h; cases h1; obtain ⟨_, _, rfl, rfl, _, st2, rfl, rfl, h5⟩ := hs; exact lv_isub hx hb hd (k _ _ hl ⟨_, _, rfl, rfl, h5⟩)
  | imul => obtain ⟨x, y, st1, v, rfl, rfl, h1, rfl⟩ := p2i_inv h; cases h1; obtain ⟨_, _, rfl, rfl, _, st2, rfl, rfl, h5⟩ := hs; exact lv_imul hx hb hd (k _ _ hl ⟨_, _, rfl, rfl, h5⟩)
  | idiv =>
    obtain ⟨x, y, st1, v, rfl, rfl, h1, rfl⟩ := p2i_inv h
    split at h1
    · cases h1
    · rename_i hne; cases h1; obtain ⟨_, _, rfl, rfl, _, st2, rfl, rfl, h5⟩ := hs; exact lv_idiv hx hb hd hne (k _ _ hl ⟨_, _, rfl, rfl, h5⟩)
  | iand => obtain ⟨x, y, st1, v, rfl, rfl, h1, rfl⟩ := p2i_inv h; cases h1; obtain ⟨_, _, rfl, rfl, _, st2, rfl, rfl, h5⟩ := hs; exact lv_iand hx hb hd (k _ _ hl ⟨_, _, rfl, rfl, h5⟩)
  | ior => obtain ⟨x, y, st1, v, rfl, rfl, h1, rfl⟩ := p2i_inv h; cases h1; obtain ⟨_, _, rfl, rfl, _, st2, rfl, rfl, h5⟩ := hs; exact lv_ior hx hb hd (k _ _ hl ⟨_, _, rfl, rfl, h5⟩)
  | ishl => obtain ⟨x, y, st1, v, rfl, rfl, h1, rfl⟩ := p2i_inv h; cases h1; obtain ⟨_, _, rfl, rfl, _, st2, rfl, rfl, h5⟩ := hs; exact lv_ishl hx hb hd (k _ _ hl ⟨_, _, rfl, rfl, h5⟩)
  | ineg => obtain ⟨x, st1, rfl, rfl, rfl⟩ := p1i_inv h; obtain ⟨_, st2, rfl, rfl, h5⟩ := hs; exact lv_ineg hx hb hd (k _ _ hl ⟨_, _, rfl, rfl, h5⟩)
  | i2l => obtain ⟨x, st1, rfl, rfl, rfl⟩ := p1i_inv h; obtain ⟨_, st2, rfl, rfl, h5⟩ := hs; exact lv_i2l hx hb hd rfl (k _ _ hl ⟨_, _, rfl, rfl, h5⟩)
  | i2c => obtain ⟨x, st1, rfl, rfl, rfl⟩ := p1i_inv h; obtain ⟨_, st2, rfl, rfl, h5⟩ := hs; exact lv_i2c hx hb hd rfl (k _ _ hl ⟨_, _, rfl, rfl, h5⟩)
  | i2f => obtain ⟨x, st1, rfl, rfl, rfl⟩ := p1i_inv h; obtain ⟨_, st2, rfl, rfl, h5⟩ := hs; exact lv_i2f hx hb hd (k _ _ hl ⟨_, _, rfl, rfl, h5⟩)
  | i2d => obtain ⟨x, st1, rfl, rfl, rfl⟩ := p1i_inv h; obtain ⟨_, st2, rfl, rfl, h5⟩ := hs; exact lv_i2d hx hb hd (k _ _ hl ⟨_, _, rfl, rfl, h5⟩)
  | l2i => obtain ⟨x, st1, rfl, rfl, rfl⟩ := p1l_inv h; obtain ⟨_, st2, rfl, rfl, h5⟩ := hs; exact lv_l2i hx hb hd rfl (k _ _ hl ⟨_, _, rfl, rfl, h5⟩)
  | lneg => obtain ⟨x, st1, rfl, rfl, rfl⟩ := p1l_inv h; obtain ⟨_, st2, rfl, rfl, h5⟩ := hs; exact lv_lneg hx hb hd (k _ _ hl ⟨_, _, rfl, rfl, h5⟩)
  | f2d =>
    obtain ⟨x, st1, v, rfl, rfl, h1, rfl⟩ := p1f_inv h
    split at h1
    · rename_i hne; cases h1; obtain ⟨_, st2, rfl, rfl, h5⟩ := hs; exact lv_f2d hx hb hd hne (k _ _ hl ⟨_, _, rfl, rfl, h5⟩)
    · cases h1
  | ladd => obtain ⟨x, y, st1, v, rfl, rfl, h1, rfl⟩ := p2l_inv h; cases h1; obtain ⟨_, _, rfl, rfl, _, st2, rfl, rfl, h5⟩ := hs; exact lv_ladd hx hb hd (k _ _ hl ⟨_, _, rfl, rfl, h5⟩)
  | lmul => obtain ⟨x, y, st1, v, rfl, rfl, h1, rfl⟩ := p2l_inv h; cases h1; obtain ⟨_, _, rfl, rfl, _, st2, rfl, rfl, h5⟩ := hs; exact lv_lmul hx hb hd (k _ _ hl ⟨_, _, rfl, rfl, h5⟩)
  | ldiv =>
    obtain ⟨x, y, st1, v, rfl, rfl, h1, rfl⟩ := p2l_inv h
    split at h1
    · cases h1
    · rename_i hne; cases h1; obtain ⟨_, _, rfl, rfl, _, st2, rfl, rfl, h5⟩ := hs; exact lv_ldiv hx hb hd hne (k _ _ hl ⟨_, _, rfl, rfl, h5⟩)
  | lrem =>
    obtain ⟨x, y, st1, v, rfl, rfl, h1, rfl⟩ := p2l_inv h
    split at h1
    · cases h1
    · rename_i hne; cases h1; obtain ⟨_, _, rfl, rfl, _, st2, rfl, rfl, h5⟩ := hs; exact lv_lrem hx hb hd hne (k _ _ hl ⟨_, _, rfl, rfl, h5⟩)
  | lcmp => obtain ⟨x, y, st1, v, rfl, rfl, h1, rfl⟩ := p2l_inv h; cases h1; obtain ⟨_, _, rfl, rfl, _, st2, rfl, rfl, h5⟩ := hs; exact W.lcmp hx hb hd (k _ _ hl ⟨_, _, rfl, rfl, h5⟩)
  | fdiv =>
    obtain ⟨x, y, st1, v, rfl, rfl, h1, rfl⟩ := p2f_inv h
    split at h1
    · rename_i hne; cases h1; obtain ⟨_, _, rfl, rfl, _, st2, rfl, rfl, h5⟩ := hs; exact lv_fdiv hx hb hd hne (k _ _ hl ⟨_, _, rfl, rfl, h5⟩)
    · cases h1
  | ddiv =>
    obtain ⟨x, y, st1, v, rfl, rfl, h1, rfl⟩ := p2d_inv h
    split at h1
    · rename_i hne; cases h1; obtain ⟨_, _, rfl, rfl, _, st2, rfl, rfl, h5⟩ := hs; exact lv_ddiv hx hb hd hne (k _ _ hl ⟨_, _, rfl, rfl, h5⟩)
    · cases h1
  | fcmp o => obtain ⟨x, y, st1, v, rfl, rfl, h1, rfl⟩ := p2f_inv h; cases h1; obtain ⟨_, _, rfl, rfl, _, st2, rfl, rfl, h5⟩ := hs; exact lv_fcmp hx hb hd (k _ _ hl ⟨_, _, rfl, rfl, h5⟩)
  | dcmp o => obtain ⟨x, y, st1, v, rfl, rfl, h1, rfl⟩ := p2d_inv h; cases h1; obtain ⟨_, _, rfl, rfl, _, st2, rfl, rfl, h5⟩ := hs; exact lv_dcmp hx hb hd (k _ _ hl ⟨_, _, rfl, rfl, h5⟩)
  | dup =>
    simp only [pin, pdu] at h
    split at h
    · split at h
      · rename_i g; cases h; obtain ⟨rfl, g2⟩ := g; obtain ⟨w, st2, rfl, h4, h5⟩ := hs; exact lv_dup hx hb hd (by rw [vr_cat h4]; exact g2) (k _ _ hl ⟨_, _, rfl, h4, _, _, rfl, h4, h5⟩)
      · cases h
    · cases h
  | pop =>
    simp only [pin, ppo] at h
    split at h
    · split at h
      · rename_i g; cases h; obtain ⟨rfl, g2⟩ := g; obtain ⟨w, st2, rfl, h4, h5⟩ := hs; exact lv_pop hx hb hd (by rw [vr_cat h4]; exact g2) (k _ _ hl h5)
      · cases h
    · cases h
  | dup2 =>
    simp only [pin, pd2] at h
    split at h
    · split at h
      · rename_i g; cases h; obtain ⟨rfl, g2, g3⟩ := g; obtain ⟨w, _, rfl, h4, w2, st2, rfl, h6, h5⟩ := hs
        exact lv_dup2_11 hx hb hd (by rw [vr_cat h4]; exact g2) (by rw [vr_cat h6]; exact g3) (k _ _ hl ⟨_, _, rfl, h4, _, _, rfl, h6, _, _, rfl, h4, _, _, rfl, h6, h5⟩)
      · cases h
    · cases h
  | goto off =>
    simp only [pin] at h
    split at h
    · rename_i g; subst g; obtain ⟨t, h1, rfl⟩ := tgt_inv h; exact lv_goto hx hb hd h1 (k _ _ hl hs)
    · cases h
  | ifCond c1 off =>
    obtain ⟨x, st1, t, rfl, rfl, ht, h3⟩ := pif_inv h
    obtain ⟨_, st2, rfl, rfl, h5⟩ := hs
    cases c1
    · rcases h3 with ⟨h4, rfl⟩ | ⟨h4, rfl⟩
      · exact lv_if_eq hx hb hd ht (fun _ => k _ _ hl h5) (fun q => absurd (by simpa using h4) q)
      · exact lv_if_eq hx hb hd ht (fun q => absurd q (by simpa using h4)) (fun _ => k _ _ hl h5)
    · rcases h3 with ⟨h4, rfl⟩ | ⟨h4, rfl⟩
      · exact lv_if_ne hx hb hd ht (fun _ => k _ _ hl h5) (fun q => absurd q (by simpa using h4))
      · exact lv_if_ne hx hb hd ht (fun q => absurd (by simpa using h4) q) (fun _ => k _ _ hl h5)
    · rcases h3 with ⟨h4, rfl⟩ | ⟨h4, rfl⟩
      · exact lv_if_lt hx hb hd ht (fun _ => k _ _ hl h5) (fun q => absurd (by simpa using h4) q)
      · exact lv_if_lt hx hb hd ht (fun q => absurd q (by simpa using h4)) (fun _ => k _ _ hl h5)
    · rcases h3 with ⟨h4, rfl⟩ | ⟨h4, rfl⟩
      · exact lv_if_ge hx hb hd ht (fun _ => k _ _ hl h5) (fun q => absurd (by simpa using h4) q)
      · exact lv_if_ge hx hb hd ht (fun q => absurd q (by simpa using h4)) (fun _ => k _ _ hl h5)
    · rcases h3 with ⟨h4, rfl⟩ | ⟨h4, rfl⟩
      · exact lv_if_gt hx hb hd ht (fun _ => k _ _ hl h5) (fun q => absurd (by simpa using h4) q)
      · exact lv_if_gt hx hb hd ht (fun q => absurd q (by simpa using h4)) (fun _ => k _ _ hl h5)
    · rcases h3 with ⟨h4, rfl⟩ | ⟨h4, rfl⟩
      · exact lv_if_le hx hb hd ht (fun _ => k _ _ hl h5) (fun q => absurd (by simpa using h4) q)
      · exact lv_if_le hx hb hd ht (fun q => absurd q (by simpa using h4)) (fun _ => k _ _ hl h5)
  | if_icmp c1 off =>
    obtain ⟨x, y, st1, t, rfl, rfl, ht, h3⟩ := pcm_inv h
    obtain ⟨_, _, rfl, rfl, _, st2, rfl, rfl, h5⟩ := hs
    cases c1
    · rcases h3 with ⟨h4, rfl⟩ | ⟨h4, rfl⟩
      · exact lv_icmp_eq hx hb hd ht (fun _ => k _ _ hl h5) (fun q => absurd (by simpa using h4) q)
      · exact lv_icmp_eq hx hb hd ht (fun q => absurd q (by simpa using h4)) (fun _ => k _ _ hl h5)
    · rcases h3 with ⟨h4, rfl⟩ | ⟨h4, rfl⟩
      · exact lv_icmp_ne hx hb hd ht (fun _ => k _ _ hl h5) (fun q => absurd q (by simpa using h4))
      · exact lv_icmp_ne hx hb hd ht (fun q => absurd (by simpa using h4) q) (fun _ => k _ _ hl h5)
    · rcases h3 with ⟨h4, rfl⟩ | ⟨h4, rfl⟩
      · exact lv_icmp_lt hx hb hd ht (fun _ => k _ _ hl h5) (fun q => absurd (by simpa using h4) q)
      · exact lv_icmp_lt hx hb hd ht (fun q => absurd q (by simpa using h4)) (fun _ => k _ _ hl h5)
    · rcases h3 with ⟨h4, rfl⟩ | ⟨h4, rfl⟩
      · exact lv_icmp_ge hx hb hd ht (fun _ => k _ _ hl h5) (fun q => absurd (by simpa using h4) q)
      · exact lv_icmp_ge hx hb hd ht (fun q => absurd q (by simpa using h4)) (fun _ => k _ _ hl h5)
    · rcases h3 with ⟨h4, rfl⟩ | ⟨h4, rfl⟩
      · exact lv_icmp_gt hx hb hd ht (fun _ => k _ _ hl h5) (fun q => absurd (by simpa using h4) q)
      · exact lv_icmp_gt hx hb hd ht (fun q => absurd q (by simpa using h4)) (fun _ => k _ _ hl h5)
    · rcases h3 with ⟨h4, rfl⟩ | ⟨h4, rfl⟩
      · exact lv_icmp_le hx hb hd ht (fun _ => k _ _ hl h5) (fun q => absurd (by simpa using h4) q)
      · exact lv_icmp_le hx hb hd ht (fun q => absurd q (by simpa using h4)) (fun _ => k _ _ hl h5)
  | if_acmp c1 off =>
    obtain ⟨p1, q1, st1, t, rfl, rfl, hp, hq, ht, h3⟩ := pac_inv h
    obtain ⟨_, _, rfl, h6, _, st2, rfl, h7, h5⟩ := hs
    obtain ⟨r1, rfl, e1, e2⟩ := vr_rf h6
    obtain ⟨r2, rfl, e3, e4⟩ := vr_rf h7
    have he := vr_eq hI hp hq e1 e2 e3 e4
    cases c1
    · rcases h3 with ⟨h4, rfl⟩ | ⟨h4, rfl⟩
      · have h8 := he.mp (by simpa using h4)
        exact lv_acmp_eq hx hb hd ht (fun _ => k _ _ hl h5) (fun q => absurd h8 q)
      · have h8 : ¬ r2 = r1 := fun z => h4 (by simpa using he.mpr z)
        exact lv_acmp_eq hx hb hd ht (fun q => absurd q h8) (fun _ => k _ _ hl h5)
    · rcases h3 with ⟨h4, rfl⟩ | ⟨h4, rfl⟩
      · have h8 : ¬ r2 = r1 := fun z => (by simpa using h4 : ¬ p1 = q1) (he.mpr z)
        exact lv_acmp_ne hx hb hd ht (fun _ => k _ _ hl h5) (fun q => absurd q h8)
      · have h8 := he.mp (by simpa using h4)
        exact lv_acmp_ne hx hb hd ht (fun q => absurd h8 q) (fun _ => k _ _ hl h5)
  | ifnull off =>
    obtain ⟨q, st1, t, rfl, rfl, ht, h3⟩ := pnl_inv h
    obtain ⟨_, st2, rfl, h6, h5⟩ := hs
    rcases q with _ | u
    · obtain rfl : _ = Value.null := h6
      rcases h3 with ⟨h4, rfl⟩ | ⟨h4, rfl⟩
      · exact lv_ifnullN hx hb hd ht (k _ _ hl h5)
      · exact absurd rfl h4
    · obtain ⟨a, -, rfl⟩ := h6
      rcases h3 with ⟨h4, rfl⟩ | ⟨h4, rfl⟩
      · cases h4
      · exact lv_ifnull hx hb hd (k _ _ hl h5)
  | ifnonnull off =>
    obtain ⟨q, st1, t, rfl, rfl, ht, h3⟩ := pnl_inv h
    obtain ⟨_, st2, rfl, h6, h5⟩ := hs
    rcases q with _ | u
    · obtain rfl : _ = Value.null := h6
      rcases h3 with ⟨h4, rfl⟩ | ⟨h4, rfl⟩
      · cases h4
      · exact lv_ifnonnullN hx hb hd (k _ _ hl h5)
    · obtain ⟨a, -, rfl⟩ := h6
      rcases h3 with ⟨h4, rfl⟩ | ⟨h4, rfl⟩
      · exact lv_ifnonnull hx hb hd ht (k _ _ hl h5)
      · exact absurd rfl h4
  | tableswitch d lo hi offs =>
    simp only [pin, ptw] at h
    split at h
    · obtain ⟨_, st2, rfl, rfl, h5⟩ := hs
      split at h
      · rename_i g
        obtain ⟨t, h1, rfl⟩ := tgt_inv h
        exact lv_tableOut hx hb hd g h1 (k _ _ hl h5)
      · rename_i g
        split at h
        · rename_i o ho
          obtain ⟨t, h1, rfl⟩ := tgt_inv h
          exact lv_tableIn hx hb hd (fun q => g (Or.inl q)) (fun q => g (Or.inr q)) ho h1 (k _ _ hl h5)
        · cases h
    · cases h
  | _ => simp [pin] at h
end PIN
