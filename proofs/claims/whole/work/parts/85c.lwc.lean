/-! the law's own instructions, all of them -/
def lgrps : List (List (List CI)) := [lgrp_0, lgrp_1, lgrp_2, lgrp_3, lgrp_4, lgrp_5, lgrp_6, lgrp_7, lgrp_8, lgrp_9, lgrp_10, lgrp_11]
def codeLw (pc : Nat) : CI := (((lgrps.getD (pc / 256) []).getD (pc / 16 % 16) []).getD (pc % 16) none)
theorem lgk_all : ∀ (g : Nat) (c : List (List CI)), lgrps[g]? = some c → ∀ (j : Nat) (r : List CI), c[j]? = some r → okLw (16 * g + j) r = true := by
  intro g c h
  match g, h with
  | 0, h => cases h; exact lgk_0
  | 1, h => cases h; exact lgk_1
  | 2, h => cases h; exact lgk_2
  | 3, h => cases h; exact lgk_3
  | 4, h => cases h; exact lgk_4
  | 5, h => cases h; exact lgk_5
  | 6, h => cases h; exact lgk_6
  | 7, h => cases h; exact lgk_7
  | 8, h => cases h; exact lgk_8
  | 9, h => cases h; exact lgk_9
  | 10, h => cases h; exact lgk_10
  | 11, h => cases h; exact lgk_11
  | g + 12, h => exact absurd h (by simp [lgrps])
set_option maxRecDepth 100000 in
theorem th_law_all : thtab.all (fun q => !(q.1 == 216)) = true := by decide +kernel
theorem th_law (pc : Nat) : th 216 pc = none := by
  unfold th
  rw [List.find?_eq_none.mpr]
  · rfl
  · intro q hq hz
    have h1 := List.all_eq_true.mp th_law_all q hq
    simp only [Bool.and_eq_true] at hz
    rw [hz.1] at h1
    exact absurd h1 (by decide)
theorem codeLw_ok {pc : Nat} {q : Instr × Nat} (h : codeLw pc = some q) : dec 216 pc = some q ∧ th 216 pc = none := by
  refine ⟨?_, th_law pc⟩
  unfold codeLw at h
  have h3 := getD_some h (by simp)
  have n2 : ((lgrps.getD (pc / 256) []).getD (pc / 16 % 16) []) ≠ [] := fun z => by rw [z] at h3; simp at h3
  have h2 := getD_some rfl n2
  have n1 : (lgrps.getD (pc / 256) []) ≠ [] := fun z => by rw [z] at h2; simp at h2
  have h1 := getD_some rfl n1
  have k2 := lgk_all _ _ h1 _ _ h2
  have k3 := zi_all (show okLw _ _ = true from k2) h3
  simp only [decide_eq_true_eq] at k3
  have e : 16 * (16 * (pc / 256) + pc / 16 % 16) + pc % 16 = pc := by omega
  rw [e] at k3
  unfold dec
  rw [row_law]
  unfold decL at k3
  dsimp only
  generalize decode code pc = z at k3 ⊢
  cases z with
  | error _ => cases k3
  | ok q2 => exact k3
