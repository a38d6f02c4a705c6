/-! LAYER 2: what a run comes to, as a value; its equations -/
theorem run_succ : ∀ (n d : Nat) (fr : Fr) (h : Hp) (x : Re × Hp), run d n fr h = some x → run d (n + 1) fr h = some x
  | 0, d, fr, h, x, e => by simp [run] at e
  | n + 1, d, fr, h, x, e => by
    unfold run at e ⊢
    split at e
    · cases e
    · rename_i r hr
      exact e
    · rename_i z hr
      exact run_succ n _ _ _ _ e
    · rename_i z hr
      cases d with
      | zero => cases e
      | succ d =>
        dsimp only at e ⊢
        split at e
        · cases e
        · rename_i r h1
          rw [run_succ n _ _ _ _ h1]
          dsimp only
          split at e
          · cases e
          · rename_i r' h2
            exact e
          · rename_i w h2
            exact run_succ n _ _ _ _ e
theorem run_le {n n' d : Nat} {fr : Fr} {h : Hp} {x : Re × Hp} (e : run d n fr h = some x) (hn : n ≤ n') : run d n' fr h = some x := by
  obtain ⟨k, rfl⟩ := Nat.exists_eq_add_of_le hn
  clear hn
  induction k with
  | zero => exact e
  | succ k ih => exact run_succ _ _ _ _ _ ih
theorem run_d : ∀ (n d : Nat) (fr : Fr) (h : Hp) (x : Re × Hp), run d n fr h = some x → run (d + 1) n fr h = some x
  | 0, d, fr, h, x, e => by simp [run] at e
  | n + 1, d, fr, h, x, e => by
    unfold run at e ⊢
    split at e
    · cases e
    · rename_i r hr
      exact e
    · rename_i z hr
      exact run_d n _ _ _ _ e
    · rename_i z hr
      cases d with
      | zero => cases e
      | succ d =>
        dsimp only at e ⊢
        split at e
        · cases e
        · rename_i r h1
          rw [run_d n _ _ _ _ h1]
          dsimp only
          split at e
          · cases e
          · rename_i r' h2
            exact e
          · rename_i w h2
            exact run_d n _ _ _ _ e
theorem run_de {n d d' : Nat} {fr : Fr} {h : Hp} {x : Re × Hp} (e : run d n fr h = some x) (hd : d ≤ d') : run d' n fr h = some x := by
  obtain ⟨k, rfl⟩ := Nat.exists_eq_add_of_le hd
  clear hd
  induction k with
  | zero => exact e
  | succ k ih => exact run_d _ _ _ _ _ ih
/-- the run from fr, over h, comes to x -/
def Ev (d : Nat) (fr : Fr) (h : Hp) (x : Re × Hp) : Prop := ∃ n, run d n fr h = some x
theorem Ev.d {d d' : Nat} {fr : Fr} {h : Hp} {x : Re × Hp} (e : Ev d fr h x) (hd : d ≤ d') : Ev d' fr h x := by
  obtain ⟨n, e⟩ := e
  exact ⟨n, run_de e hd⟩
theorem Ev.det {d d' : Nat} {fr : Fr} {h : Hp} {x x' : Re × Hp} (e : Ev d fr h x) (e' : Ev d' fr h x') : x = x' := by
  obtain ⟨n, e⟩ := e
  obtain ⟨n', e'⟩ := e'
  have h1 := run_de (run_le e (Nat.le_max_left n n')) (Nat.le_max_left d d')
  have h2 := run_de (run_le e' (Nat.le_max_right n n')) (Nat.le_max_right d d')
  exact Option.some.inj (h1.symm.trans h2)
theorem Ev.ret {d : Nat} {fr : Fr} {h : Hp} {x : Re × Hp} (hs : stp fr h = some (.inl x)) : Ev d fr h x := ⟨1, by unfold run; rw [hs]⟩
theorem Ev.go {d : Nat} {fr : Fr} {h : Hp} {z : Fr × Hp} {x : Re × Hp} (hs : stp fr h = some (.inr (.inl z))) (k : Ev d z.1 z.2 x) : Ev d fr h x := by
  obtain ⟨n, e⟩ := k
  exact ⟨n + 1, by unfold run; rw [hs]; exact e⟩
theorem Ev.call {d : Nat} {fr : Fr} {h : Hp} {z : Fr × (Nat × Nat × Lo × List MV)} {r : Re} {h1 : Hp} {w : Fr × Hp} {x : Re × Hp} (hs : stp fr h = some (.inr (.inr z))) (hc : Ev d z.1 h (r, h1)) (ha : aft z.2 r h1 = some (.inr w)) (k : Ev (d + 1) w.1 w.2 x) : Ev (d + 1) fr h x := by
  obtain ⟨n1, e1⟩ := hc
  obtain ⟨n2, e2⟩ := k
  refine ⟨max n1 n2 + 1, ?_⟩
  unfold run
  rw [hs]
  dsimp only
  rw [run_le e1 (Nat.le_max_left n1 n2)]
  dsimp only
  rw [ha]
  exact run_le e2 (Nat.le_max_right n1 n2)
theorem Ev.thru {d : Nat} {fr : Fr} {h : Hp} {z : Fr × (Nat × Nat × Lo × List MV)} {r : Re} {h1 : Hp} {x : Re × Hp} (hs : stp fr h = some (.inr (.inr z))) (hc : Ev d z.1 h (r, h1)) (ha : aft z.2 r h1 = some (.inl x)) : Ev (d + 1) fr h x := by
  obtain ⟨n1, e1⟩ := hc
  refine ⟨n1 + 1, ?_⟩
  unfold run
  rw [hs]
  dsimp only
  rw [e1]
  dsimp only
  rw [ha]
