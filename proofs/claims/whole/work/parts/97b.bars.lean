/-! bars and cuts: what is free, class and reference alike -/
def sI (f : Nat → Int32) : Nat → Nat → Int32
  | 0, _ => 0
  | k + 1, j => f j + sI f k (j + 1)
theorem sI_congr {f g : Nat → Int32} : ∀ k j, (∀ q, j ≤ q → q < j + k → f q = g q) → sI f k j = sI g k j
  | 0, _, _ => rfl
  | k + 1, j, h => by rw [sI, sI, h j (by omega) (by omega), sI_congr k (j + 1) (fun q h1 h2 => h q (by omega) (by omega))]
theorem sI_app {f : Nat → Int32} : ∀ k j, sI f (k + 1) j = sI f k j + f (j + k)
  | 0, j => by
    rw [sI, sI, sI, Nat.add_zero, Int32.add_zero, Int32.zero_add]
  | k + 1, j => by
    rw [sI, sI_app k (j + 1), sI, show j + 1 + k = j + (k + 1) by omega, Int32.add_assoc]
theorem sI_zero {f : Nat → Int32} : ∀ k j, (∀ q, j ≤ q → q < j + k → f q = 0) → sI f k j = 0
  | 0, _, _ => rfl
  | k + 1, j, h => by
    rw [sI, h j (by omega) (by omega), sI_zero k (j + 1) (fun q h1 h2 => h q (by omega) (by omega)), Int32.add_zero]
/-- one term changes -/
theorem sI_one {f g : Nat → Int32} {e : Nat} : ∀ k j, j ≤ e → e < j + k → (∀ q, j ≤ q → q < j + k → q ≠ e → g q = f q) → sI g k j = sI f k j + (g e - f e)
  | 0, j, h1, h2, _ => absurd h2 (by omega)
  | k + 1, j, h1, h2, h => by
    rw [sI, sI]
    by_cases he : j = e
    · subst he
      rw [sI_congr (g := f) k (j + 1) (fun q q1 q2 => h q (by omega) (by omega) (by omega))]
      grind
    · rw [sI_one k (j + 1) (by omega) (by omega) (fun q q1 q2 q3 => h q (by omega) (by omega) q3), h j (by omega) (by omega) (fun z => he z)]
      grind
/-- what the cuts of an entry take from a bar -/
def tkR (sta : Nat → Int32) (cm : Nat → Nat) (cb : Nat → Nat → Nat) (cl : Nat → Nat → Int32) (b e : Nat) : Int32 := if sta e = 98 ∨ sta e = 100 then sI (fun q => if cb e q = b then cl e q + 3 else 0) (cm e) 0 else 0
section BA
variable {n cn : Nat} {sta bl bf : Nat → Int32} {cm : Nat → Nat} {cb : Nat → Nat → Nat} {cl : Nat → Nat → Int32} {cu : Nat → List Nat} {qcb : Nat → Nat} {qcl : Nat → Int32} {b : Nat}
theorem r_free_L20_s {e : Nat} (ha : sta e = 98 ∨ sta e = 100) : ∀ k j lf, r_free_L20 cb cl sta b e k j lf = lf - sI (fun q => if cb e q = b then cl e q + 3 else 0) k j
  | 0, j, lf => by
    rw [r_free_L20, sI]
    exact (Int32.sub_zero lf).symm
  | k + 1, j, lf => by
    have ih := fun lf => r_free_L20_s ha k (j + 1) lf
    have hz : ∀ a b : Int32, lf - a - b = lf - (a + b) := fun a b => by grind
    have hz0 : ∀ b : Int32, lf - 0 - b = lf - (0 + b) := fun b => hz 0 b
    rw [r_free_L20, sI]
    by_cases h1 : sta e = 98
    · rw [if_pos h1]
      by_cases c : cb e j = b
      · rw [if_pos c, if_pos c, ih, hz]
      · rw [if_neg c, if_neg c, ih, hz]
    · rw [if_neg h1, if_pos (ha.resolve_left h1)]
      by_cases c : cb e j = b
      · rw [if_pos c, if_pos c, ih, hz]
      · rw [if_neg c, if_neg c, ih, hz]
theorem r_free_L20_n {e : Nat} (ha : ¬ (sta e = 98 ∨ sta e = 100)) : ∀ k j lf, r_free_L20 cb cl sta b e k j lf = lf
  | 0, j, lf => rfl
  | k + 1, j, lf => by rw [r_free_L20, if_neg (fun z => ha (Or.inl z)), if_neg (fun z => ha (Or.inr z))]
theorem r_free_L9_s : ∀ k j lf, r_free_L9 cb cl cm sta b k j lf = lf - sI (tkR sta cm cb cl b) k j
  | 0, j, lf => by
    rw [r_free_L9, sI]
    exact (Int32.sub_zero lf).symm
  | k + 1, j, lf => by
    have hz : ∀ a b : Int32, lf - a - b = lf - (a + b) := fun a b => by grind
    rw [r_free_L9, r_free_L9_s k (j + 1), sI, ← hz]
    congr 1
    unfold tkR
    by_cases c : sta j = 98 ∨ sta j = 100
    · rw [if_pos c, r_free_L20_s c]
    · rw [if_neg c, r_free_L20_n c, Int32.sub_zero]
theorem r_free_s : f_r_free bl cb cl cm n sta b = bl b - sI (tkR sta cm cb cl b) n 0 := r_free_L9_s n 0 (bl b)
theorem c_taken_s {e : Nat} : ∀ k j tk, c_taken_L4 qcb qcl cu e b k j tk = tk + sI (fun q => if qcb ((cu e).getD q 0) = b then qcl ((cu e).getD q 0) + 3 else 0) k j
  | 0, j, tk => by
    rw [c_taken_L4, sI]
    exact (Int32.add_zero tk).symm
  | k + 1, j, tk => by
    rw [c_taken_L4, sI]
    by_cases c : qcb ((cu e).getD j 0) = b
    · rw [if_pos c, if_pos c, c_taken_s k (j + 1), Int32.add_assoc]
    · rw [if_neg c, if_neg c, c_taken_s k (j + 1), Int32.zero_add]
theorem c_left_s : ∀ k j lf, c_left_L7 qcb qcl cu b k j lf = lf - sI (fun e => f_c_taken qcb qcl cu e b) k j
  | 0, j, lf => by
    rw [c_left_L7, sI]
    exact (Int32.sub_zero lf).symm
  | k + 1, j, lf => by
    have hz : ∀ a b : Int32, lf - a - b = lf - (a + b) := fun a b => by grind
    rw [c_left_L7, c_left_s k (j + 1), sI, ← hz]
/-- the class's lists of cuts and the reference's rows -/
def CutOk (n : Nat) (sta : Nat → Int32) (cu : Nat → List Nat) (qcb : Nat → Nat) (qcl : Nat → Int32) (cm : Nat → Nat) (cb : Nat → Nat → Nat) (cl : Nat → Nat → Int32) : Prop := ∀ e, e < n → (act (sta e) → (cu e).length = cm e ∧ ∀ k, k < cm e → qcb ((cu e).getD k 0) = cb e k ∧ qcl ((cu e).getD k 0) = cl e k) ∧ (¬ act (sta e) → cu e = []) ∧ (sta e = 119 → cm e = 0)
theorem taken_eq (hC : CutOk n sta cu qcb qcl cm cb cl) {e : Nat} (he : e < n) : f_c_taken qcb qcl cu e b = tkR sta cm cb cl b e := by
  obtain ⟨c1, c2, -⟩ := hC e he
  unfold f_c_taken tkR
  rw [c_taken_s, Int32.zero_add]
  by_cases a : sta e = 98 ∨ sta e = 100
  · obtain ⟨l1, l2⟩ := c1 a
    rw [if_pos a, l1]
    refine sI_congr _ _ (fun q _ hq => ?_)
    obtain ⟨m1, m2⟩ := l2 q (by omega)
    rw [m1, m2]
  · rw [if_neg a, c2 a]
    rfl
theorem left_eq (hC : CutOk n sta cu qcb qcl cm cb cl) : f_c_left bl qcb qcl cu n b = f_r_free bl cb cl cm n sta b := by
  unfold f_c_left
  rw [c_left_s, r_free_s]
  congr 1
  exact sI_congr n 0 (fun q _ hq => taken_eq hC (by omega))
/-- an entry ends: what its cuts took is free again -/
theorem withdraw_bf {e : Nat} : ∀ k j bf, c_withdraw_L19 qcb qcl cu e k j bf b = bf b + sI (fun q => if qcb ((cu e).getD q 0) = b then qcl ((cu e).getD q 0) + 3 else 0) k j
  | 0, j, bf => by
    rw [c_withdraw_L19, sI]
    exact (Int32.add_zero _).symm
  | k + 1, j, bf => by
    rw [c_withdraw_L19, withdraw_bf k (j + 1), sI]
    by_cases c : qcb ((cu e).getD j 0) = b
    · rw [if_pos c, c, fup_same, Int32.add_assoc]
    · rw [if_neg c, fup_ne (fun z => c z.symm), Int32.zero_add]
theorem tkR_ne {e f : Nat} {v : Int32} (h : f ≠ e) : tkR (fup sta e v) cm cb cl b f = tkR sta cm cb cl b f := by
  unfold tkR
  rw [fup_ne h]
theorem free_withdraw {e : Nat} (he : e < n) : f_r_free bl cb cl cm n (fup sta e 99) b = f_r_free bl cb cl cm n sta b + tkR sta cm cb cl b e := by
  rw [r_free_s, r_free_s, sI_one (f := tkR sta cm cb cl b) (g := tkR (fup sta e 99) cm cb cl b) (e := e) n 0 (by omega) (by omega) (fun q _ _ hq => tkR_ne hq)]
  have : tkR (fup sta e 99) cm cb cl b e = 0 := by
    unfold tkR
    rw [fup_same, if_neg (by decide)]
  rw [this]
  grind
theorem free_congr {sta' : Nat → Int32} (h : ∀ e, e < n → tkR sta' cm cb cl b e = tkR sta cm cb cl b e) : f_r_free bl cb cl cm n sta' b = f_r_free bl cb cl cm n sta b := by
  rw [r_free_s, r_free_s]
  congr 1
  exact sI_congr n 0 (fun q _ hq => h q (by omega))
theorem cut_withdraw (hC : CutOk n sta cu qcb qcl cm cb cl) {e : Nat} : CutOk n (fup sta e 99) (fup cu e []) qcb qcl cm cb cl := by
  intro f hf
  by_cases h : f = e
  · subst h
    rw [fup_same, fup_same]
    exact ⟨fun z => absurd z (by unfold act; decide), fun _ => rfl, fun z => absurd z (by decide)⟩
  · rw [fup_ne h, fup_ne h]
    exact hC f hf
/-- what waits has no cuts: booking it changes nothing of bars -/
theorem cut_stepW {sta' : Nat → Int32} (hC : CutOk n sta cu qcb qcl cm cb cl) (h : StepW n sta sta') : CutOk n sta' cu qcb qcl cm cb cl := by
  intro e he
  obtain ⟨c1, c2, c3⟩ := hC e he
  rcases h e with q | ⟨-, q1, q2⟩
  · rw [q]
    exact ⟨c1, c2, c3⟩
  · have hna : ¬ act (sta e) := by
      rw [q1]
      unfold act
      decide
    have h0 := c3 q1
    rw [q2]
    refine ⟨fun _ => ⟨?_, fun k hk => absurd hk (by omega)⟩, fun z => absurd (Or.inl rfl) z, fun z => absurd z (by decide)⟩
    rw [c2 hna, h0]
    rfl
theorem free_step {sta' : Nat → Int32} (hC : CutOk n sta cu qcb qcl cm cb cl) (h : StepW n sta sta') : f_r_free bl cb cl cm n sta' b = f_r_free bl cb cl cm n sta b := by
  refine free_congr (fun e he => ?_)
  obtain ⟨c1, c2, c3⟩ := hC e he
  unfold tkR
  rcases h e with q | ⟨-, q1, q2⟩
  · rw [q]
  · rw [q1, q2, if_pos (Or.inl rfl), if_neg (by decide), c3 q1]
    rfl
/-- the day's end -/
def StepD (n : Nat) (sta sta' : Nat → Int32) : Prop := ∀ e, sta' e = sta e ∨ (e < n ∧ ((sta e = 98 ∧ sta' e = 100) ∨ (sta e = 119 ∧ sta' e = 120)))
theorem cut_stepD {sta' : Nat → Int32} (hC : CutOk n sta cu qcb qcl cm cb cl) (h : StepD n sta sta') : CutOk n sta' cu qcb qcl cm cb cl := by
  intro e he
  obtain ⟨c1, c2, c3⟩ := hC e he
  rcases h e with q | ⟨-, ⟨q1, q2⟩ | ⟨q1, q2⟩⟩
  · rw [q]
    exact ⟨c1, c2, c3⟩
  · rw [q2]
    exact ⟨fun _ => c1 (Or.inl q1), fun z => absurd (Or.inr rfl) z, fun z => absurd z (by decide)⟩
  · rw [q2]
    exact ⟨fun z => absurd z (by unfold act; decide), fun _ => c2 (by rw [q1]; unfold act; decide), fun z => absurd z (by decide)⟩
theorem free_stepD {sta' : Nat → Int32} (h : StepD n sta sta') : f_r_free bl cb cl cm n sta' b = f_r_free bl cb cl cm n sta b := by
  refine free_congr (fun e he => ?_)
  unfold tkR
  rcases h e with q | ⟨-, ⟨q1, q2⟩ | ⟨q1, q2⟩⟩
  · rw [q]
  · rw [q1, q2, if_pos (Or.inl rfl), if_pos (Or.inr rfl)]
  · rw [q1, q2, if_neg (by decide), if_neg (by decide)]
/-! the tightest bar -/
theorem tight_eq {mt : Nat → Nat} {n1 p0 p1 : Nat} {L : Int32} (hmt : ∀ b, mt b < 3) (hp1 : p1 < 3) : ∀ (k j : Nat) (best : Option Nat) (least : Int32), (∀ q, j ≤ q → q < j + k → bf q = f_r_free bl cb cl cm n sta q) → (∀ q, best = some q → least = f_r_free bl cb cl cm n sta q) → r_cut_L81 bl cb cl cm n mt sta p0 p1 L k j best = oE (c_tight_L8 bf mt (nI p1) (L + 3) k j best least) (0, cm, cb, cl, 4) (fun k7 => (nI k7, fup cm p0 ((cm p0) + 1), fup cb p0 (fup (cb p0) (cm p0) k7), fup cl p0 (fup (cl p0) (cm p0) L), 0))
  | 0, j, best, least, _, _ => rfl
  | k + 1, j, best, least, hb, hl => by
    have ih := fun best least h => tight_eq (mt := mt) (p0 := p0) (L := L) (n1 := n1) hmt hp1 k (j + 1) best least (fun q q1 q2 => hb q (by omega) (by omega)) h
    have hj := hb j (by omega) (by omega)
    rw [r_cut_L81, c_tight_L8, ← hj]
    by_cases c : mt j = p1
    · rw [if_pos c, if_pos (show nI (mt j) = nI p1 by rw [c])]
      by_cases c2 : bf j < L + 3
      · rw [if_pos c2, if_pos c2, ih best least hl]
      · rw [if_neg c2, if_neg c2]
        cases best with
        | none => exact ih (some j) (bf j) (fun q hq => by cases hq; exact hj)
        | some x =>
          have hx := hl x rfl
          show (if bf j < f_r_free bl cb cl cm n sta x then _ else _) = oE (if bf j < least then _ else _) _ _
          rw [← hx]
          by_cases c3 : bf j < least
          · rw [if_pos c3, if_pos c3]
            exact ih (some j) (bf j) (fun q hq => by cases hq; exact hj)
          · rw [if_neg c3, if_neg c3]
            exact ih (some x) least (fun q hq => by cases hq; exact hx)
    · have hmj := hmt j
      rw [if_neg c, if_neg (fun z => c ((nI_eq (by omega) (by omega)).mp z)), ih best least hl]
theorem tight_ltX {mt : Nat → Nat} {M L : Int32} : ∀ (k j : Nat) (best : Option Nat) (least : Int32) (r : Nat), c_tight_L8 bf mt M L k j best least = some r → best = some r ∨ r < j + k
  | 0, j, best, least, r, h => Or.inl h
  | k + 1, j, best, least, r, h => by
    have ih := fun best least h => tight_ltX (mt := mt) (M := M) (L := L) k (j + 1) best least r h
    rw [c_tight_L8] at h
    have fin : ∀ best least, c_tight_L8 bf mt M L k (j + 1) best least = some r → best = some r ∨ r < j + (k + 1) := fun best least h => by
      rcases ih best least h with q | q
      · exact Or.inl q
      · exact Or.inr (by omega)
    have fin2 : ∀ least, c_tight_L8 bf mt M L k (j + 1) (some j) least = some r → r < j + (k + 1) := fun least h => by
      rcases fin (some j) least h with q | q
      · cases q
        omega
      · exact q
    by_cases c : nI (mt j) = M
    · rw [if_pos c] at h
      by_cases c2 : bf j < L
      · rw [if_pos c2] at h
        exact fin _ _ h
      · rw [if_neg c2] at h
        cases best with
        | none => exact Or.inr (fin2 _ h)
        | some x =>
          have h : (if bf j < least then c_tight_L8 bf mt M L k (j + 1) (some j) (bf j) else c_tight_L8 bf mt M L k (j + 1) (some x) least) = some r := h
          by_cases c3 : bf j < least
          · rw [if_pos c3] at h
            exact Or.inr (fin2 _ h)
          · rw [if_neg c3] at h
            exact fin _ _ h
    · rw [if_neg c] at h
      exact fin _ _ h
/-- a cut is added -/
theorem free_cut {e r : Nat} {L : Int32} (he : e < n) (hs : sta e = 98) : f_r_free bl (fup cb e (fup (cb e) (cm e) r)) (fup cl e (fup (cl e) (cm e) L)) (fup cm e (cm e + 1)) n sta b = f_r_free bl cb cl cm n sta b - (if r = b then L + 3 else 0) := by
  have hne : ∀ q, q ≠ e → tkR sta (fup cm e (cm e + 1)) (fup cb e (fup (cb e) (cm e) r)) (fup cl e (fup (cl e) (cm e) L)) b q = tkR sta cm cb cl b q := by
    intro q hq
    unfold tkR
    rw [fup_ne hq, fup_ne hq, fup_ne hq]
  have heq : tkR sta (fup cm e (cm e + 1)) (fup cb e (fup (cb e) (cm e) r)) (fup cl e (fup (cl e) (cm e) L)) b e = tkR sta cm cb cl b e + (if r = b then L + 3 else 0) := by
    unfold tkR
    rw [if_pos (Or.inl hs), if_pos (Or.inl hs), fup_same, fup_same, fup_same, sI_app, Nat.zero_add, fup_same, fup_same]
    congr 1
    refine sI_congr _ _ (fun q _ hq => ?_)
    rw [fup_ne (show q ≠ cm e by omega), fup_ne (show q ≠ cm e by omega)]
  rw [r_free_s, r_free_s, sI_one (f := tkR sta cm cb cl b) (e := e) n 0 (by omega) (by omega) (fun q _ _ hq => hne q hq), heq]
  grind
theorem cut_cut (hC : CutOk n sta cu qcb qcl cm cb cl) {e r : Nat} {L : Int32} (he : e < n) (hs : sta e = 98) (hcu : ∀ f c, c ∈ cu f → c < cn) : CutOk n sta (fup cu e (cu e ++ [cn])) (fup qcb cn r) (fup qcl cn L) (fup cm e (cm e + 1)) (fup cb e (fup (cb e) (cm e) r)) (fup cl e (fup (cl e) (cm e) L)) := by
  intro f hf
  obtain ⟨c1, c2, c3⟩ := hC f hf
  have hget : ∀ k, k < (cu f).length → (cu f).getD k 0 ≠ cn := by
    intro k hk
    have := hcu f _ (getD_mem (d := 0) hk)
    omega
  by_cases h : f = e
  · subst h
    obtain ⟨l1, l2⟩ := c1 (Or.inl hs)
    rw [fup_same, fup_same, fup_same, fup_same]
    refine ⟨fun _ => ⟨by rw [List.length_append, l1]; rfl, fun k hk => ?_⟩, fun z => absurd (Or.inl hs) z, fun z => by rw [hs] at z; exact absurd z (by decide)⟩
    by_cases hkc : k = cm f
    · subst hkc
      have : (cu f ++ [cn]).getD (cm f) 0 = cn := by
        rw [List.getD_eq_getElem?_getD, List.getElem?_append_right (by omega), l1, Nat.sub_self]
        rfl
      rw [this, fup_same, fup_same, fup_same, fup_same]
      exact ⟨rfl, rfl⟩
    · have hk' : k < cm f := by omega
      have : (cu f ++ [cn]).getD k 0 = (cu f).getD k 0 := by
        rw [List.getD_eq_getElem?_getD, List.getElem?_append_left (by omega), ← List.getD_eq_getElem?_getD]
      rw [this, fup_ne (hget k (by omega)), fup_ne (hget k (by omega)), fup_ne hkc, fup_ne hkc]
      exact l2 k hk'
  · rw [fup_ne h, fup_ne h, fup_ne h, fup_ne h]
    refine ⟨fun a => ?_, c2, c3⟩
    obtain ⟨l1, l2⟩ := c1 a
    refine ⟨l1, fun k hk => ?_⟩
    rw [fup_ne (hget k (by omega)), fup_ne (hget k (by omega))]
    exact l2 k hk
end BA
