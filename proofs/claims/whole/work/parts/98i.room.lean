/-! one call of the law: the invariant with the room (written by gen98i.py) -/
def Inv2 (N : Nat) (xs : Nat → Int32) (q : Nat) (C : CD) (R : RD) (W : WD) : Prop := ∃ zO zD zX zG5 zG6 zG7 zc zn, W = mkW zO zD zX N xs zG5 zG6 zG7 zc zn ∧ Inv C R ∧ zc ≤ 388 + 1170 * q ∧ zn + 310 * wcnt (cSt C) (cEn C) ≤ 3730 + 14000 * q
theorem inv2_mk {N q : Nat} {xs : Nat → Int32} {C : CD} {R : RD} {zO : Int64} {zD : UInt64} {zX : Nat} {zG5 zG6 zG7 : List Ob} {zc zn : Nat} (h : Inv C R) (h1 : zc ≤ 388 + 1170 * q) (h2 : zn + 310 * wcnt (cSt C) (cEn C) ≤ 3730 + 14000 * q) : Inv2 N xs q C R (mkW zO zD zX N xs zG5 zG6 zG7 zc zn) := ⟨zO, zD, zX, zG5, zG6, zG7, zc, zn, rfl, h, h1, h2⟩
set_option maxRecDepth 8000 in
theorem rm1 {a b q : Nat} (h : a ≤ 388 + 1170 * q) (h1 : b ≤ a + 200) : b ≤ 388 + 1170 * (q + 1) := by
  rw [Nat.mul_succ]
  generalize 1170 * q = t at *
  omega
set_option maxRecDepth 8000 in
theorem rm2 {a b w w' q : Nat} (h : a + 310 * w ≤ 3730 + 14000 * q) (h1 : b + 310 * w' ≤ a + 310 * w + 3000) : b + 310 * w' ≤ 3730 + 14000 * (q + 1) := by
  rw [Nat.mul_succ]
  generalize 14000 * q = t at *
  generalize 310 * w = u at *
  generalize 310 * w' = u' at *
  omega
set_option maxRecDepth 8000 in
theorem rm1r {a b c q : Nat} (h : a ≤ 388 + 1170 * q) (h1 : b ≤ a + 200) (h2 : c ≤ b + 900) : c ≤ 388 + 1170 * (q + 1) := by
  rw [Nat.mul_succ]
  generalize 1170 * q = t at *
  omega
set_option maxRecDepth 8000 in
theorem rm2r {a b c w w' q : Nat} (h : a + 310 * w ≤ 3730 + 14000 * q) (h1 : b + 310 * w' ≤ a + 310 * w + 3000) (h2 : c ≤ b + 9000) : c + 310 * w' ≤ 3730 + 14000 * (q + 1) := by
  rw [Nat.mul_succ]
  generalize 14000 * q = t at *
  generalize 310 * w = u at *
  generalize 310 * w' = u' at *
  omega
theorem chr_chOf {v : Int32} : chr (chOf v) := by
  unfold chr chOf
  rw [UInt32.toUInt32_toInt32, UInt32.toUInt32_toUInt16]
  congr 1
  refine UInt32.toNat.inj ?_
  rw [UInt32.toNat_mod, UInt32.toNat_mod]
  exact Nat.mod_mod _ _
section HO
variable {C : CD} {R : RD} {zO : Int64} {zD : UInt64} {zX zL : Nat} {zXs : Nat → Int32} {zG5 zG6 zG7 : List Ob} {zc zn : Nat}
theorem nw60 : hnew (enc C R (mkW zO zD zX zL zXs zG5 zG6 zG7 zc zn)) sX [[]] 0 0 = enc C R (mkW zO zD (zX + 1) zL zXs zG5 zG6 zG7 zc zn) := e_new (List.replicate (zX + 1) []) (by decide) (show List.replicate zX [] ++ [[]] = List.replicate (zX + 1) [] from List.replicate_succ'.symm) rfl rfl
theorem hoI_enc {es : List (Nat × Int32)} {r : Re} {k b : Int32} (hA : AgI es r k b) (hz : ∀ p ∈ es, ¬ p.2 = 0) : ∃ zO' zX', hoI r (enc C R (mkW zO zD zX zL zXs zG5 zG6 zG7 zc zn)) = enc C R (mkW zO' zD zX' zL zXs zG5 zG6 zG7 zc zn) ∧ (k = 0 → zO' = b.toInt64) := by
  match r, hA with
  | .inl (some (.inl v)), hA => exact ⟨v.toInt64, zX, wr58, fun _ => congrArg Int32.toInt64 hA.2⟩
  | .inr E, hA => exact ⟨zO, zX + 1, nw60, fun z => absurd z (hz _ hA)⟩
theorem hoF_enc {es : List (Nat × Int32)} {r : Re} {k : Int32} {b : UInt32} (hA : AgF es r k b) (hz : ∀ p ∈ es, ¬ p.2 = 0) : ∃ zD' zX', hoF r (enc C R (mkW zO zD zX zL zXs zG5 zG6 zG7 zc zn)) = enc C R (mkW zO zD' zX' zL zXs zG5 zG6 zG7 zc zn) ∧ (k = 0 → zD' = FP.f2d b ∧ FP.f2d b &&& 0x7fffffffffffffff ≤ 0x7ff0000000000000) := by
  match r, hA with
  | .inl (some (.inr (.inr (.inl v)))), hA => exact ⟨FP.f2d v, zX, wr59, fun _ => ⟨congrArg FP.f2d hA.2.1, by rw [← hA.2.1]; exact hA.2.2⟩⟩
  | .inr E, hA => exact ⟨zD, zX + 1, nw60, fun z => absurd z (hz _ hA)⟩
theorem hoD_enc {es : List (Nat × Int32)} {r : Re} {k : Int32} {b : UInt64} (hA : AgD es r k b) (hz : ∀ p ∈ es, ¬ p.2 = 0) : ∃ zD' zX', hoD r (enc C R (mkW zO zD zX zL zXs zG5 zG6 zG7 zc zn)) = enc C R (mkW zO zD' zX' zL zXs zG5 zG6 zG7 zc zn) ∧ (k = 0 → zD' = b) := by
  match r, hA with
  | .inl (some (.inr (.inr (.inr (.inl v))))), hA => exact ⟨v, zX, wr59, fun _ => hA.2⟩
  | .inr E, hA => exact ⟨zD, zX + 1, nw60, fun z => absurd z (hz _ hA)⟩
end HO
section RR
variable {nb : Nat → Int32} {tf : Nat → Nat} {ln : Nat} {ly : Nat → Ly} {mac : Nat} {mk : Nat → Nat} {su : Nat → Int32} {mh : Nat → List Nat} {mem : Nat} {tk : Nat → Nat → Int32} {po : Nat → Int32} {pp : Nat → Int32} {n : Nat} {ow : Nat → Nat} {mo : Nat → Nat} {dy : Nat → Int32} {st : Nat → Int32} {le : Nat → Int32} {wk : Nat → Int32} {sta : Nat → Int32} {du : Nat → Int32} {cu : Nat → List Nat} {cn : Nat} {qcb : Nat → Nat} {qcl : Nat → Int32} {bar : Nat} {mt : Nat → Nat} {bl : Nat → Int32} {bf : Nat → Int32} {brk : Nat} {kl : Nat → Nat} {ks : Nat → Nat → Int32} {day : Int32} {paid : Nat → Int64} {nd : Nat → Nat → Bool} {cm : Nat → Nat} {cb : Nat → Nat → Nat} {cl : Nat → Nat → Int32} {Ls : Nat → Nat → Int32} {Lnum : Nat → Nat → Int32} {lm : Nat → Nat} {sh : Nat → Nat → Int32} {pr : Nat → Int32} {G2 : List Ob} {G4 : List Ob} {thr : Int32} {x : Int32} {zG5 zG6 zG7 : List Ob} {zc zn : Nat} {p0 X : Int32}
theorem rr_cancel : (f_r_cancel day du dy n le lm Lnum Ls mk mo nd ow st sta su tk wk zG5 zc zn p0).2.2.2.2.2.1 ≤ zc + 900 ∧ (f_r_cancel day du dy n le lm Lnum Ls mk mo nd ow st sta su tk wk zG5 zc zn p0).2.2.2.2.2.2 ≤ zn + 9000 := by
  unfold f_r_cancel
  repeat' split
  all_goals exact ⟨by dsimp only; omega, by dsimp only; omega⟩
theorem rr_costOf : (f_r_costOf lm Lnum Ls zG5 zc zn p0 X).2.2.2.1 ≤ zc + 900 ∧ (f_r_costOf lm Lnum Ls zG5 zc zn p0 X).2.2.2.2 ≤ zn + 9000 := by
  unfold f_r_costOf
  repeat' split
  all_goals exact ⟨by dsimp only; omega, by dsimp only; omega⟩
theorem rr_breakDown : (f_r_breakDown brk day dy n le mac mem mo ow sh sta zG6 zG7 zc zn p0 X).2.2.2.2.2.2.1 ≤ zc + 900 ∧ (f_r_breakDown brk day dy n le mac mem mo ow sh sta zG6 zG7 zc zn p0 X).2.2.2.2.2.2.2 ≤ zn + 9000 := by
  unfold f_r_breakDown
  repeat' split
  all_goals exact ⟨by dsimp only; omega, by dsimp only; omega⟩
theorem rr_L32 : ∀ (k j : Nat) (ct : Int32) (sta du : Nat → Int32) (G5 : List Ob) (c z : Nat), (r_endDay_L32 cb cl cm day dy le lm Lnum Ls mk mo mt pr k j ct sta du G5 c z).2.2.2.2.1 ≤ c + k ∧ (r_endDay_L32 cb cl cm day dy le lm Lnum Ls mk mo mt pr k j ct sta du G5 c z).2.2.2.2.2 ≤ z + 6 * k
  | 0, _, _, _, _, _, _, _ => ⟨Nat.le_refl _, Nat.le_refl _⟩
  | k + 1, j, ct, sta, du, G5, c, z => by
    have ih := fun ct sta du G5 c z => rr_L32 k (j + 1) ct sta du G5 c z
    rw [r_endDay_L32]
    repeat' split
    all_goals first
      | exact ⟨Nat.le_trans (ih _ _ _ _ _ _).1 (by omega), Nat.le_trans (ih _ _ _ _ _ _).2 (by omega)⟩
theorem rr_endDay (hn : n ≤ 150) : (f_r_endDay cb cl cm day du dy n le lm Lnum Ls mk mo mt nd ow pr st sta su tk wk zG5 zc zn).2.2.2.2.2.2.1 ≤ zc + 900 ∧ (f_r_endDay cb cl cm day du dy n le lm Lnum Ls mk mo mt nd ow pr st sta su tk wk zG5 zc zn).2.2.2.2.2.2.2 ≤ zn + 9000 := by
  have h := rr_L32 (cb := cb) (cl := cl) (cm := cm) (day := day) (dy := dy) (le := le) (lm := lm) (Lnum := Lnum) (Ls := Ls) (mk := mk) (mo := mo) (mt := mt) (pr := pr) n 0 0 sta du zG5 zc zn
  unfold f_r_endDay
  split
  · exact ⟨by dsimp only; omega, by dsimp only; omega⟩
  · exact ⟨by dsimp only; omega, by dsimp only; omega⟩
end RR
