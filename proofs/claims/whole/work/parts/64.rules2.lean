/-! rules for rows that a method makes for itself; greatest and least; facts for the reference's calls -/
section RW
variable {d y pc : Nat} {L : Lo} {st : List MV} {h : Hp} {x : Re × Hp}
theorem rep_pl {α : Type} {n : Nat} {v : α} : List.replicate n v = pl n (fun _ => v) := by
  unfold pl
  rw [List.map_const', List.length_range]
theorem Ev.na {s N i : Nat} {t : _} {h' : Hp} (hc : codeAt y pc = some (.newarray t, 2)) (ha : al y pc = some s) (hk : (sk s).1 = 1 ∧ (sk s).2 < 5 ∧ newarray.typeOf t = aty (sk s).2) (hN : N ≤ 60000) (hs : (h.1 s).length = i) (he : hnew h s [pl N (fun _ => adf (sk s).2)] 1 N = h') (K : Ev d (y, pc + 2, L, vR s i :: st) h' x) : Ev d (y, pc, L, vI (nI N) :: st) h x := by
  subst he hs
  refine Ev.w hc rfl rfl (z := (pc + 2, L, vR s (h.1 s).length :: st, hnew h s [pl N (fun _ => adf (sk s).2)] 1 N)) ?_ K
  simp only [hwr, ha]
  rw [if_pos ⟨trivial, hk.1, hk.2.1, hk.2.2, nI_pos (by omega), by rw [nI_clamp (by omega)]; exact hN⟩, nI_clamp (by omega), rep_pl]
theorem Ev.mx {idx : Nat} {a b : Int32} (hc : codeAt y pc = some (.invokestatic idx, 3)) (hj : jl (mcl y) idx = some 7) (hcat : (st.map mcat).sum ≤ 8) (k : Ev d (y, pc + 3, L, vI (if a < b then b else a) :: st) h x) : Ev d (y, pc, L, vI b :: vI a :: st) h x :=
  Ev.r hc rfl (z := (pc + 3, L, vI (if a < b then b else a) :: st)) (by simp only [hrd]; rw [if_pos ⟨trivial, hcat⟩, if_pos hj]) k
theorem Ev.mn {idx : Nat} {a b : Int32} (hc : codeAt y pc = some (.invokestatic idx, 3)) (hj : jl (mcl y) idx = some 8) (hcat : (st.map mcat).sum ≤ 8) (k : Ev d (y, pc + 3, L, vI (if b < a then b else a) :: st) h x) : Ev d (y, pc, L, vI b :: vI a :: st) h x :=
  Ev.r hc rfl (z := (pc + 3, L, vI (if b < a then b else a) :: st)) (by simp only [hrd]; rw [if_pos ⟨trivial, hcat⟩, if_neg (by rw [hj]; decide), if_pos hj]) k
end RW
theorem lacks_pos {aDay : Int32} {aMac : Nat} {aMem : Nat} {p0 p1 D S M V : Int32} (h : ¬ 0 < f_r_lacks aDay aMac aMem p0 p1 D S M V) : f_r_isMember aMem p0 = true ∧ f_r_isMachine aMac p1 = true := by
  unfold f_r_lacks at h
  repeat' split at h
  all_goals first | exact absurd (by decide) h | exact ⟨by assumption, by assumption⟩
theorem may_pos {aDay : Int32} {aMac : Nat} {p0 D F : Int32} (h : (f_r_may aDay aMac p0 D F).1 = true) : f_r_isMachine aMac p0 = true := by
  unfold f_r_may at h
  split at h
  · assumption
  · cases h
theorem chr_letter {aDy : Nat → Int32} {aEnt : Nat} {aLe : Nat → Int32} {aMk : Nat → Nat} {aMo : Nat → Nat} {aNd : Nat → Nat → Bool} {aOw : Nat → Nat} {aSt : Nat → Int32} {aSta : Nat → Int32} {aSu : Nat → Int32} {aTk : Nat → Nat → Int32} {aWk : Nat → Int32} {m mc : Nat} {D S M V : Int32} : chr (f_r_letter aDy aEnt aLe aMk aMo aNd aOw aSt aSta aSu aTk aWk m mc D S M V) := by
  unfold f_r_letter
  repeat' split
  all_goals (unfold chr; decide)
/-- how many wait -/
def wcnt (s : Nat → Int32) : Nat → Nat
  | 0 => 0
  | n + 1 => wcnt s n + if s n = 119 then 1 else 0
theorem wcnt_out {s : Nat → Int32} {e : Nat} {v : Int32} : ∀ n, n ≤ e → wcnt (fup s e v) n = wcnt s n
  | 0, _ => rfl
  | n + 1, h => by
    unfold wcnt
    rw [wcnt_out n (by omega), fup_ne (by omega)]
theorem wcnt_dec {s : Nat → Int32} {e : Nat} {v : Int32} (h1 : s e = 119) (h2 : ¬ v = 119) : ∀ n, e < n → wcnt (fup s e v) n + 1 = wcnt s n
  | 0, h => absurd h (by omega)
  | n + 1, h => by
    unfold wcnt
    by_cases e1 : n = e
    · subst e1
      rw [wcnt_out n (Nat.le_refl _), fup_same, if_neg h2, if_pos h1]
    · have := wcnt_dec h1 h2 n (by omega)
      rw [fup_ne e1]
      omega
theorem fs_end {M : Int32} {j : Nat} (h : f_r_in M 1 240 = true) (hj : j + 0 = 480) : 480 < nI j + M := by
  have hj : j = 480 := by omega
  subst hj
  unfold f_r_in at h
  split at h
  · cases h
  · rename_i h0
    split at h
    · cases h
    · rename_i h1
      have h0 := Int32.not_lt.mp h0
      have h1 := Int32.not_lt.mp h1
      rw [Int32.le_iff_toInt_le] at h0 h1
      rw [Int32.lt_iff_toInt_lt, Int32.toInt_add, nI_toInt (by decide)]
      rw [show (1 : Int32).toInt = 1 from rfl] at h0
      rw [show (240 : Int32).toInt = 240 from rfl] at h1
      rw [show (480 : Int32).toInt = 480 from rfl, Int.bmod_eq_of_le (by omega) (by omega)]
      omega
theorem nI_sm1 (k : Nat) : nI k - 1 = nI k + (-1) := Int32.sub_eq_add_neg _ _
theorem chr_minuteL {aDy : Nat → Int32} {aLe : Nat → Int32} {aMo : Nat → Nat} {aSt : Nat → Int32} {aSta : Nat → Int32} {aSu : Nat → Int32} {aWk : Nat → Int32} {mc : Nat} {D M : Int32} : ∀ (k j : Nat) (bh bf : Option Nat), chr (r_minute_L9 aDy aLe aMo aSt aSta aSu aWk mc D M k j bh bf) := by
  intro k
  induction k with
  | zero =>
    intro j bh bf
    rw [r_minute_L9]
    cases bh <;> cases bf <;> dsimp only [oE] <;> repeat' split
    all_goals (unfold chr; decide)
  | succ k ih =>
    intro j bh bf
    rw [r_minute_L9]
    cases bh <;> cases bf <;> dsimp only [oE] <;> repeat' split
    all_goals first | exact ih _ _ _ | (unfold chr; decide)
theorem chr_minute {aDy : Nat → Int32} {aEnt : Nat} {aLe : Nat → Int32} {aMo : Nat → Nat} {aSt : Nat → Int32} {aSta : Nat → Int32} {aSu : Nat → Int32} {aWk : Nat → Int32} {mc : Nat} {D M : Int32} : chr (f_r_minute aDy aEnt aLe aMo aSt aSta aSu aWk mc D M) := chr_minuteL _ _ _ _
section RL
variable {d y pc : Nat} {L : Lo} {st : List MV} {h : Hp} {x : Re × Hp}
theorem co_F {o idx : Nat} {v : Int32} (h : co o idx = some v) : True := trivial
theorem Ev.lcI {idx : Nat} {v : Int32} (hc : codeAt y pc = some (.ldc idx, 2)) (hv : co (mcl y) idx = some v) (k : Ev d (y, pc + 2, L, vI v :: st) h x) : Ev d (y, pc, L, st) h x :=
  Ev.r hc rfl (z := (pc + 2, L, vI v :: st)) (by simp only [hrd, hv]; rfl) k
theorem Ev.lcIw {idx : Nat} {v : Int32} (hc : codeAt y pc = some (.ldc_w idx, 3)) (hv : co (mcl y) idx = some v) (k : Ev d (y, pc + 3, L, vI v :: st) h x) : Ev d (y, pc, L, st) h x :=
  Ev.r hc rfl (z := (pc + 3, L, vI v :: st)) (by simp only [hrd, hv]; rfl) k
theorem Ev.lcF {idx : Nat} {v : UInt32} (hc : codeAt y pc = some (.ldc idx, 2)) (hn : co (mcl y) idx = none) (hv : coF (mcl y) idx = some v) (k : Ev d (y, pc + 2, L, vF v :: st) h x) : Ev d (y, pc, L, st) h x :=
  Ev.r hc rfl (z := (pc + 2, L, vF v :: st)) (by simp only [hrd, hn, hv]; rfl) k
theorem Ev.lcFw {idx : Nat} {v : UInt32} (hc : codeAt y pc = some (.ldc_w idx, 3)) (hn : co (mcl y) idx = none) (hv : coF (mcl y) idx = some v) (k : Ev d (y, pc + 3, L, vF v :: st) h x) : Ev d (y, pc, L, st) h x :=
  Ev.r hc rfl (z := (pc + 3, L, vF v :: st)) (by simp only [hrd, hn, hv]; rfl) k
theorem Ev.lcJ {idx : Nat} {v : Int64} (hc : codeAt y pc = some (.ldc2_w idx, 3)) (hv : coL (mcl y) idx = some v) (k : Ev d (y, pc + 3, L, vL v :: st) h x) : Ev d (y, pc, L, st) h x :=
  Ev.r hc rfl (z := (pc + 3, L, vL v :: st)) (by simp only [hrd, hv]; rfl) k
end RL
