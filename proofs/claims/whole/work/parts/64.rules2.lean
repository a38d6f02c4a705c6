/-! rules for rows that a method makes for itself; greatest and least; facts for the reference's calls -/
def cstW (W : WD) (a b : Nat) : WD := uwn (uwc W (wc W + a)) (wn W + b)
section RW
variable {d y pc : Nat} {L : Lo} {st : List MV} {h : Hp} {x : Re × Hp}
theorem rep_pl {α : Type} {n : Nat} {v : α} : List.replicate n v = pl n (fun _ => v) := by
  unfold pl
  rw [List.map_const', List.length_range]
theorem Ev.na {s N i : Nat} {t : _} {h' : Hp} (hc : codeAt y pc = some (.newarray t, 2)) (ha : al y pc = some s) (hk : (sk s).1 = 1 ∧ (sk s).2 < 5 ∧ newarray.typeOf t = aty (sk s).2) (hN : N ≤ 60000) (hs : (h.1 s).length = i) (he : hnew h s [pl N (fun _ => adf (sk s).2)] 1 N = h') (K : Ev d (y, pc + 2, L, vR s i :: st) h' x) : Ev d (y, pc, L, vI (nI N) :: st) h x := by
  subst he hs
  refine Ev.w hc rfl rfl (z := (pc + 2, L, vR s (h.1 s).length :: st, hnew h s [pl N (fun _ => adf (sk s).2)] 1 N)) ?_ K
  simp only [hwr, ha]
  rw [if_pos ⟨trivial, hk.1, hk.2.1, hk.2.2, nI_pos (by omega), by rw [nI_clamp (by omega)]; exact hN⟩, nI_clamp (by omega), rep_pl]
theorem Ev.mx {idx : Nat} {a b : Int32} (hc : codeAt y pc = some (.invokestatic idx, 3)) (hj : jl (mcl y) idx = some 7) (hcat : (st.map mcat).sum ≤ 8) (k : Ev d (y, pc + 3, L, vI (if a < b then b else a) :: st) h x) : Ev d (y, pc, L, vI b :: vI a :: st) h x :=
  Ev.r hc rfl (z := (pc + 3, L, vI (if a < b then b else a) :: st)) (by simp only [hrd]; rw [if_pos ⟨trivial, hcat⟩, if_pos hj]) k
theorem Ev.mn {idx : Nat} {a b : Int32} (hc : codeAt y pc = some (.invokestatic idx, 3)) (hj : jl (mcl y) idx = some 8) (hcat : (st.map mcat).sum ≤ 8) (k : Ev d (y, pc + 3, L, vI (if b < a then b else a) :: st) h x) : Ev d (y, pc, L, vI b :: vI a :: st) h x :=
  Ev.r hc rfl (z := (pc + 3, L, vI (if b < a then b else a) :: st)) (by simp only [hrd]; rw [if_pos ⟨trivial, hcat⟩, if_neg (by rw [hj]; decide), if_pos hj]) k
end RW
section GA
variable {C : CD} {R : RD} {W : WD} {g : List Ob} {o o' : Ob} {W' : WD}
theorem app_get {α : Type} {g : List α} {o : α} : (g ++ [o])[g.length]? = some o := by simp
theorem app_set {α : Type} {g : List α} {o o' : α} : (g ++ [o]).set g.length o' = g ++ [o'] := by simp
theorem gG5 (h : wG5 W = g ++ [o]) : hget (enc C R W) 55 g.length = some o := (congrArg (fun l : List Ob => l[g.length]?) h).trans app_get
theorem gG6 (h : wG6 W = g ++ [o]) : hget (enc C R W) 56 g.length = some o := (congrArg (fun l : List Ob => l[g.length]?) h).trans app_get
theorem gG7 (h : wG7 W = g ++ [o]) : hget (enc C R W) 57 g.length = some o := (congrArg (fun l : List Ob => l[g.length]?) h).trans app_get
theorem wG5' (h : wG5 W = g ++ [o]) (h' : uwG5 W (g ++ [o']) = W') : hput (enc C R W) 55 g.length o' = enc C R W' := by
  subst h'
  exact e_put (g ++ [o']) (by decide) ((congrArg (fun l : List Ob => l.set g.length o') h).trans app_set) rfl rfl
theorem wG6' (h : wG6 W = g ++ [o]) (h' : uwG6 W (g ++ [o']) = W') : hput (enc C R W) 56 g.length o' = enc C R W' := by
  subst h'
  exact e_put (g ++ [o']) (by decide) ((congrArg (fun l : List Ob => l.set g.length o') h).trans app_set) rfl rfl
theorem wG7' (h : wG7 W = g ++ [o]) (h' : uwG7 W (g ++ [o']) = W') : hput (enc C R W) 57 g.length o' = enc C R W' := by
  subst h'
  exact e_put (g ++ [o']) (by decide) ((congrArg (fun l : List Ob => l.set g.length o') h).trans app_set) rfl rfl
theorem nG5 {n : Nat} : hnew (enc C R W) 55 [o] 1 n = enc C R (uwG5 (cstW W 1 n) (wG5 W ++ [o])) := e_new (wG5 W ++ [o]) (by decide) rfl rfl rfl
theorem nG6 {n : Nat} : hnew (enc C R W) 56 [o] 1 n = enc C R (uwG6 (cstW W 1 n) (wG6 W ++ [o])) := e_new (wG6 W ++ [o]) (by decide) rfl rfl rfl
theorem nG7 {n : Nat} : hnew (enc C R W) 57 [o] 1 n = enc C R (uwG7 (cstW W 1 n) (wG7 W ++ [o])) := e_new (wG7 W ++ [o]) (by decide) rfl rfl rfl
end GA
theorem lacks_pos {R : RD} {p0 p1 D S M V : Int32} (h : ¬ 0 < f_r_lacks R p0 p1 D S M V) : f_r_isMember R p0 = true ∧ f_r_isMachine R p1 = true := by
  unfold f_r_lacks at h
  repeat' split at h
  all_goals first | exact absurd (by decide) h | exact ⟨by assumption, by assumption⟩
theorem may_pos {R : RD} {p0 D F : Int32} (h : (f_r_may R p0 D F).1 = true) : f_r_isMachine R p0 = true := by
  unfold f_r_may at h
  split at h
  · assumption
  · cases h
theorem chr_letter {R : RD} {m mc : Nat} {D S M V : Int32} : chr (f_r_letter R m mc D S M V) := by
  unfold f_r_letter
  repeat' split
  all_goals (unfold chr; decide)
/-- how many wait -/
def wcnt (s : Nat → Int32) : Nat → Nat
  | 0 => 0
  | n + 1 => wcnt s n + if s n = 119 then 1 else 0
theorem wcnt_out {s : Nat → Int32} {e : Nat} {v : Int32} : ∀ n, n ≤ e → wcnt (fup s e v) n = wcnt s n
  | 0, _ => rfl
  | n + 1, h => by
    unfold wcnt
    rw [wcnt_out n (by omega), fup_ne (by omega)]
theorem wcnt_dec {s : Nat → Int32} {e : Nat} {v : Int32} (h1 : s e = 119) (h2 : ¬ v = 119) : ∀ n, e < n → wcnt (fup s e v) n + 1 = wcnt s n
  | 0, h => absurd h (by omega)
  | n + 1, h => by
    unfold wcnt
    by_cases e1 : n = e
    · subst e1
      rw [wcnt_out n (Nat.le_refl _), fup_same, if_neg h2, if_pos h1]
    · have := wcnt_dec h1 h2 n (by omega)
      rw [fup_ne e1]
      omega
theorem fs_end {M : Int32} {j : Nat} (h : f_r_in M 1 240 = true) (hj : j + 0 = 480) : 480 < nI j + M := by
  have hj : j = 480 := by omega
  subst hj
  unfold f_r_in at h
  split at h
  · cases h
  · rename_i h0
    split at h
    · cases h
    · rename_i h1
      have h0 := Int32.not_lt.mp h0
      have h1 := Int32.not_lt.mp h1
      rw [Int32.le_iff_toInt_le] at h0 h1
      rw [Int32.lt_iff_toInt_lt, Int32.toInt_add, nI_toInt (by decide)]
      rw [show (1 : Int32).toInt = 1 from rfl] at h0
      rw [show (240 : Int32).toInt = 240 from rfl] at h1
      rw [show (480 : Int32).toInt = 480 from rfl, Int.bmod_eq_of_le (by omega) (by omega)]
      omega
theorem nI_sm1 (k : Nat) : nI k - 1 = nI k + (-1) := Int32.sub_eq_add_neg _ _
