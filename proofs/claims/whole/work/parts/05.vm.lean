/-! A SMALL MACHINE over the tables: values whose references are (site, number); a heap that is, for each site, the list of what it has made; runs as a function.
    That the JVM does what it does is proved once (06 and on); every method is then read here. -/
abbrev MV : Type := Int32 ⊕ (Int64 ⊕ (UInt32 ⊕ (UInt64 ⊕ Option (Nat × Nat))))
abbrev Ob : Type := List MV
abbrev Hp : Type := (Nat → List Ob) × Nat × Nat
abbrev Lo : Type := List (Option MV)
abbrev Fr : Type := Nat × Nat × Lo × List MV
abbrev Re : Type := Option MV ⊕ Nat
abbrev vI (x : Int32) : MV := .inl x
abbrev vL (x : Int64) : MV := .inr (.inl x)
abbrev vF (x : UInt32) : MV := .inr (.inr (.inl x))
abbrev vD (x : UInt64) : MV := .inr (.inr (.inr (.inl x)))
abbrev vN : MV := .inr (.inr (.inr (.inr none)))
abbrev vR (s i : Nat) : MV := .inr (.inr (.inr (.inr (some (s, i)))))
def mcat : MV → Nat
  | .inl _ => 1
  | .inr (.inl _) => 2
  | .inr (.inr (.inl _)) => 1
  | .inr (.inr (.inr (.inl _))) => 2
  | .inr (.inr (.inr (.inr _))) => 1
def mrow (y : Nat) : Option MRow := mtab[y]?
def dec (y pc : Nat) : Option (Instr × Nat) := match mrow y with
  | some r => match decode r.2.1 pc with
    | .ok q => some q
    | .error _ => none
  | none => none
def lget (L : Lo) (i : Nat) : Option MV := (L[i]?).join
def lclr (L : Lo) (i : Nat) : Lo := match i with
  | 0 => L
  | j + 1 => match lget L j with
    | some v => if mcat v = 2 then L.set j none else L
    | none => L
def lset (L : Lo) (i : Nat) (v : MV) : Lo := if mcat v = 2 then ((lclr L i).set i (some v)).set (i + 1) none else (lclr L i).set i (some v)
abbrev PR : Type := Option (Nat × Lo × List MV)
def tgt (pc : Nat) (off : Int) : Option Nat := if 0 ≤ (pc : Int) + off then some ((pc : Int) + off).toNat else none
def p0 (n len pc : Nat) (L : Lo) (st : List MV) (v : MV) : PR := if len = n then some (pc + n, L, v :: st) else none
def p1i (len pc : Nat) (L : Lo) (st : List MV) (f : Int32 → MV) : PR := match st with
  | .inl x :: st => if len = 1 then some (pc + 1, L, f x :: st) else none
  | _ => none
def p1l (len pc : Nat) (L : Lo) (st : List MV) (f : Int64 → MV) : PR := match st with
  | .inr (.inl x) :: st => if len = 1 then some (pc + 1, L, f x :: st) else none
  | _ => none
def p1f (len pc : Nat) (L : Lo) (st : List MV) (f : UInt32 → Option MV) : PR := match st with
  | .inr (.inr (.inl x)) :: st => if len = 1 then (f x).map (fun v => (pc + 1, L, v :: st)) else none
  | _ => none
def p2i (len pc : Nat) (L : Lo) (st : List MV) (f : Int32 → Int32 → Option MV) : PR := match st with
  | .inl y :: .inl x :: st => if len = 1 then (f x y).map (fun v => (pc + 1, L, v :: st)) else none
  | _ => none
def p2l (len pc : Nat) (L : Lo) (st : List MV) (f : Int64 → Int64 → Option MV) : PR := match st with
  | .inr (.inl y) :: .inr (.inl x) :: st => if len = 1 then (f x y).map (fun v => (pc + 1, L, v :: st)) else none
  | _ => none
def p2f (len pc : Nat) (L : Lo) (st : List MV) (f : UInt32 → UInt32 → Option MV) : PR := match st with
  | .inr (.inr (.inl y)) :: .inr (.inr (.inl x)) :: st => if len = 1 then (f x y).map (fun v => (pc + 1, L, v :: st)) else none
  | _ => none
def p2d (len pc : Nat) (L : Lo) (st : List MV) (f : UInt64 → UInt64 → Option MV) : PR := match st with
  | .inr (.inr (.inr (.inl y))) :: .inr (.inr (.inr (.inl x))) :: st => if len = 1 then (f x y).map (fun v => (pc + 1, L, v :: st)) else none
  | _ => none
/-- kinds of values: 0 int, 1 long, 2 float, 3 double, 4 reference -/
def mkd : MV → Nat
  | .inl _ => 0
  | .inr (.inl _) => 1
  | .inr (.inr (.inl _)) => 2
  | .inr (.inr (.inr (.inl _))) => 3
  | .inr (.inr (.inr (.inr _))) => 4
def pld (k n len pc : Nat) (L : Lo) (st : List MV) (i : Nat) : PR := match lget L i with
  | some v => if len = n ∧ mkd v = k then some (pc + n, L, v :: st) else none
  | none => none
def pst (k n len pc : Nat) (L : Lo) (st : List MV) (i : Nat) : PR := match st with
  | v :: st => if len = n ∧ mkd v = k ∧ i + mcat v ≤ L.length then some (pc + n, lset L i v, st) else none
  | [] => none
def pif (len pc : Nat) (L : Lo) (st : List MV) (off : Int) (f : Int32 → Bool) : PR := match st with
  | .inl x :: st => if len = 3 then (match tgt pc off with | some t => if f x then some (t, L, st) else some (pc + 3, L, st) | none => none) else none
  | _ => none
def pcm (len pc : Nat) (L : Lo) (st : List MV) (off : Int) (f : Int32 → Int32 → Bool) : PR := match st with
  | .inl y :: .inl x :: st => if len = 3 then (match tgt pc off with | some t => if f x y then some (t, L, st) else some (pc + 3, L, st) | none => none) else none
  | _ => none
def pnl (len pc : Nat) (L : Lo) (st : List MV) (off : Int) (b : Bool) : PR := match st with
  | .inr (.inr (.inr (.inr q))) :: st => if len = 3 then (match tgt pc off with | some t => if q.isNone = b then some (t, L, st) else some (pc + 3, L, st) | none => none) else none
  | _ => none
/-- what a site makes -/
def sk (s : Nat) : Nat × Nat := sktab.getD s (9, 0)
def pac (len pc : Nat) (L : Lo) (st : List MV) (off : Int) (b : Bool) : PR := match st with
  | .inr (.inr (.inr (.inr p))) :: .inr (.inr (.inr (.inr q))) :: st =>
    if len = 3 ∧ (p.all (fun z => (sk z.1).1 < 3)) ∧ (q.all (fun z => (sk z.1).1 < 3)) then (match tgt pc off with | some t => if decide (p = q) = b then some (t, L, st) else some (pc + 3, L, st) | none => none) else none
  | _ => none
def pdu (len pc : Nat) (L : Lo) (st : List MV) : PR := match st with
  | v :: st => if len = 1 ∧ mcat v = 1 then some (pc + 1, L, v :: v :: st) else none
  | [] => none
def ppo (len pc : Nat) (L : Lo) (st : List MV) : PR := match st with
  | v :: st => if len = 1 ∧ mcat v = 1 then some (pc + 1, L, st) else none
  | [] => none
def pd2 (len pc : Nat) (L : Lo) (st : List MV) : PR := match st with
  | v :: w :: st => if len = 1 ∧ mcat v = 1 ∧ mcat w = 1 then some (pc + 1, L, v :: w :: v :: w :: st) else none
  | _ => none
def pii (len pc : Nat) (L : Lo) (st : List MV) (i : Nat) (n : Int) : PR := match lget L i with
  | some (.inl x) => if len = 3 then some (pc + 3, lset L i (vI (x + Int32.ofInt n)), st) else none
  | _ => none
def ptw (pc : Nat) (L : Lo) (st : List MV) (d lo hi : Int) (offs : Array Int) : PR := match st with
  | .inl x :: st => if x.toInt < lo ∨ hi < x.toInt then (tgt pc d).map (fun t => (t, L, st)) else match offs[(x.toInt - lo).toNat]? with
    | some o => (tgt pc o).map (fun t => (t, L, st))
    | none => none
  | _ => none
/-- instructions that touch neither heap nor tables -/
def pin (i : Instr) (len pc : Nat) (L : Lo) (st : List MV) : PR := match i with
  | .iconst n => p0 1 len pc L st (vI (Int32.ofInt n))
  | .bipush n => p0 2 len pc L st (vI (Int8.ofInt n).toInt32)
  | .sipush n => p0 3 len pc L st (vI (Int16.ofInt n).toInt32)
  | .lconst n => p0 1 len pc L st (vL (Int64.ofNat (n : Nat)))
  | .fconst n => if n = 0 then p0 1 len pc L st (vF FP.fconst0) else none
  | .dconst n => if n = 0 then p0 1 len pc L st (vD FP.dconst0) else none
  | .aconst_null => p0 1 len pc L st vN
  | .iload_n k => pld 0 1 len pc L st k
  | .iload k => pld 0 2 len pc L st k
  | .lload_n k => pld 1 1 len pc L st k
  | .lload k => pld 1 2 len pc L st k
  | .fload k => pld 2 2 len pc L st k
  | .dload k => pld 3 2 len pc L st k
  | .aload_n k => pld 4 1 len pc L st k
  | .aload k => pld 4 2 len pc L st k
  | .istore_n k => pst 0 1 len pc L st k
  | .istore k => pst 0 2 len pc L st k
  | .lstore_n k => pst 1 1 len pc L st k
  | .lstore k => pst 1 2 len pc L st k
  | .fstore k => pst 2 2 len pc L st k
  | .dstore k => pst 3 2 len pc L st k
  | .astore_n k => pst 4 1 len pc L st k
  | .astore k => pst 4 2 len pc L st k
  | .iinc k n => pii len pc L st k n
  | .iadd => p2i len pc L st (fun x y => some (vI (x + y)))
  | .isub => p2i len pc L st (fun x y => some (vI (x - y)))
  | .imul => p2i len pc L st (fun x y => some (vI (x * y)))
  | .idiv => p2i len pc L st (fun x y => if y = 0 then none else some (vI (x / y)))
  | .iand => p2i len pc L st (fun x y => some (vI (x &&& y)))
  | .ior => p2i len pc L st (fun x y => some (vI (x ||| y)))
  | .ishl => p2i len pc L st (fun x y => some (vI (x <<< (y &&& 31))))
  | .ineg => p1i len pc L st (fun x => vI (-x))
  | .i2l => p1i len pc L st (fun x => vL x.toInt64)
  | .i2c => p1i len pc L st (fun x => vI (x.toUInt32 % 65536).toInt32)
  | .i2f => p1i len pc L st (fun x => vF (FP.i2f x))
  | .i2d => p1i len pc L st (fun x => vD (FP.i2d x))
  | .l2i => p1l len pc L st (fun x => vI x.toInt32)
  | .lneg => p1l len pc L st (fun x => vL (-x))
  | .f2d => p1f len pc L st (fun x => if FP.f2d x &&& 0x7fffffffffffffff ≤ 0x7ff0000000000000 then some (vD (FP.f2d x)) else none)
  | .ladd => p2l len pc L st (fun x y => some (vL (x + y)))
  | .lmul => p2l len pc L st (fun x y => some (vL (x * y)))
  | .ldiv => p2l len pc L st (fun x y => if y = 0 then none else some (vL (x / y)))
  | .lrem => p2l len pc L st (fun x y => if y = 0 then none else some (vL (x - x / y * y)))
  | .lcmp => p2l len pc L st (fun x y => some (vI (lg_cmp x y)))
  | .fdiv => p2f len pc L st (fun x y => if FP.fdiv x y &&& 0x7fffffff ≤ 0x7f800000 then some (vF (FP.fdiv x y)) else none)
  | .ddiv => p2d len pc L st (fun x y => if FP.ddiv x y &&& 0x7fffffffffffffff ≤ 0x7ff0000000000000 then some (vD (FP.ddiv x y)) else none)
  | .fcmp o => p2f len pc L st (fun x y => some (vI (Op.cmpValue (FP.fcmp x y) o)))
  | .dcmp o => p2d len pc L st (fun x y => some (vI (Op.cmpValue (FP.dcmp x y) o)))
  | .dup => pdu len pc L st
  | .pop => ppo len pc L st
  | .dup2 => pd2 len pc L st
  | .goto off => if len = 3 then (tgt pc off).map (fun t => (t, L, st)) else none
  | .ifCond c off => pif len pc L st off (fun x => match c with
    | .eq => decide (x = 0) | .ne => decide (¬ x = 0) | .lt => decide (x < 0) | .ge => decide (0 ≤ x) | .gt => decide (0 < x) | .le => decide (x ≤ 0))
  | .if_icmp c off => pcm len pc L st off (fun x y => match c with
    | .eq => decide (x = y) | .ne => decide (¬ x = y) | .lt => decide (x < y) | .ge => decide (y ≤ x) | .gt => decide (y < x) | .le => decide (x ≤ y))
  | .if_acmp c off => pac len pc L st off (match c with | .eq => true | .ne => false)
  | .ifnull off => pnl len pc L st off true
  | .ifnonnull off => pnl len pc L st off false
  | .tableswitch d lo hi offs => ptw pc L st d lo hi offs
  | _ => none
/-! entries of the constant pools -/
def fl (o idx : Nat) : Option (Nat × Nat) := (fltab.find? (fun q => q.1 == o && q.2.1 == idx)).map (fun q => (q.2.2.1, q.2.2.2.1))
def ml (o idx : Nat) : Option Nat := (mltab.find? (fun q => q.1 == o && q.2.1 == idx)).map (fun q => q.2.2.1)
def jl (o idx : Nat) : Option Nat := (jltab.find? (fun q => q.1 == o && q.2.1 == idx)).map (fun q => q.2.2.1)
def cl (o idx : Nat) : Option Nat := (cltab.find? (fun q => q.1 == o && q.2.1 == idx)).map (fun q => q.2.2.1)
def co (o idx : Nat) : Option Int32 := (cotab.find? (fun q => q.1 == o && q.2.1 == idx)).map (fun q => q.2.2.1)
def coL (o idx : Nat) : Option Int64 := (coLtab.find? (fun q => q.1 == o && q.2.1 == idx)).map (fun q => q.2.2.1)
def coF (o idx : Nat) : Option UInt32 := (coFtab.find? (fun q => q.1 == o && q.2.1 == idx)).map (fun q => q.2.2.1)
def exl (o idx : Nat) : Option Nat := (extab.find? (fun q => q.1 == o && q.2.1 == idx)).map (fun q => q.2.2.1)
def mat (o idx : Nat) : Option Nat := (matab.find? (fun q => q.1 == o && q.2.1 == idx)).map (fun q => q.2.2.1)
def al (y pc : Nat) : Option Nat := (altab.find? (fun q => q.1 == y && q.2.1 == pc)).map (fun q => q.2.2)
def th (y pc : Nat) : Option Nat := (thtab.find? (fun q => q.1 == y && q.2.1 == pc)).map (fun q => q.2.2.1)
/-! the heap -/
def hget (h : Hp) (s i : Nat) : Option Ob := (h.1 s)[i]?
def hput (h : Hp) (s i : Nat) (o : Ob) : Hp := (fun t => if t = s then (h.1 s).set i o else h.1 t, h.2)
def hnew (h : Hp) (s : Nat) (os : List Ob) (c n : Nat) : Hp := (fun t => if t = s then h.1 s ++ os else h.1 t, h.2.1 + c, h.2.2 + n)
def hcst (h : Hp) (c n : Nat) : Hp := (h.1, h.2.1 + c, h.2.2 + n)
def aty (t : Nat) : FieldType := ([.int, .long, .boolean, .char, .double, .array .int, .array .boolean, .array .char] : List FieldType).getD t .int
def adf (t : Nat) : MV := ([vI 0, vL 0, vI 0, vI 0, vD 0] : List MV).getD t vN
def tdf : FieldType → MV
  | .long => vL 0
  | .float => vF 0
  | .double => vD 0
  | .object _ => vN
  | .array _ => vN
  | _ => vI 0
/-- a value fits a field of a type as it stands -/
def pfit : FieldType → MV → Bool
  | .int, .inl _ => true
  | .char, .inl x => decide (x.toUInt32.toUInt16.toUInt32.toInt32 = x) && decide (0 ≤ x) && decide (x ≤ 65535)
  | .boolean, .inl x => decide (x = 0) || decide (x = 1)
  | .long, .inr (.inl _) => true
  | .object _, .inr (.inr (.inr (.inr _))) => true
  | .array _, .inr (.inr (.inr (.inr _))) => true
  | _, _ => false
def parr (ok : Nat × Nat → Bool) (len pc : Nat) (L : Lo) (st : List MV) (h : Hp) : PR := match st with
  | .inl j :: .inr (.inr (.inr (.inr (some q)))) :: st => match hget h q.1 q.2 with
    | some ob => if len = 1 ∧ ok (sk q.1) = true ∧ ¬ j < 0 then (ob[j.toNatClampNeg]?).map (fun v => (pc + 1, L, v :: st)) else none
    | none => none
  | _ => none
/-- instructions that read heap or tables and write neither -/
def hrd (o : Nat) (i : Instr) (len pc : Nat) (L : Lo) (st : List MV) (h : Hp) : PR := match i with
  | .getfield idx => match st with
    | .inr (.inr (.inr (.inr (some q)))) :: st => match fl o idx with
      | some z => match hget h q.1 q.2 with
        | some ob => if len = 3 ∧ sk q.1 = (0, z.1) then (ob[z.2]?).map (fun v => (pc + 3, L, v :: st)) else none
        | none => none
      | none => none
    | _ => none
  | .iaload => parr (fun k => k == (1, 0) || k == (4, 0)) len pc L st h
  | .laload => parr (fun k => k == (1, 1)) len pc L st h
  | .baload => parr (fun k => k == (1, 2)) len pc L st h
  | .caload => parr (fun k => k == (1, 3)) len pc L st h
  | .daload => parr (fun k => k == (1, 4)) len pc L st h
  | .aaload => parr (fun k => k == (1, 5) || k == (1, 6) || k == (1, 7)) len pc L st h
  | .arraylength => match st with
    | .inr (.inr (.inr (.inr (some q)))) :: st => match hget h q.1 q.2 with
      | some ob => if len = 1 ∧ ((sk q.1).1 = 1 ∨ sk q.1 = (4, 0)) then some (pc + 1, L, vI (Int32.ofNat ob.length) :: st) else none
      | none => none
    | _ => none
  | .checkcast idx => match st with
    | .inr (.inr (.inr (.inr none))) :: st => if len = 3 then some (pc + 3, L, vN :: st) else none
    | .inr (.inr (.inr (.inr (some q)))) :: st => if len = 3 ∧ (cl o idx).map (fun c => (0, c)) = some (sk q.1) ∧ (hget h q.1 q.2).isSome then some (pc + 3, L, vR q.1 q.2 :: st) else none
    | _ => none
  | .ldc idx => match co o idx with
    | some v => if len = 2 then some (pc + 2, L, vI v :: st) else none
    | none => match coF o idx with
      | some v => if len = 2 then some (pc + 2, L, vF v :: st) else none
      | none => none
  | .ldc_w idx => match co o idx with
    | some v => if len = 3 then some (pc + 3, L, vI v :: st) else none
    | none => match coF o idx with
      | some v => if len = 3 then some (pc + 3, L, vF v :: st) else none
      | none => none
  | .ldc2_w idx => match coL o idx with
    | some v => if len = 3 then some (pc + 3, L, vL v :: st) else none
    | none => none
  | .invokestatic idx => match st with
    | .inl y :: .inl x :: st => if len = 3 ∧ (st.map mcat).sum ≤ 8 then (if jl o idx = some 7 then some (pc + 3, L, vI (if x < y then y else x) :: st) else if jl o idx = some 8 then some (pc + 3, L, vI (if y < x then y else x) :: st) else none) else none
    | _ => none
  | .invokespecial idx => match st with
    | .inr (.inr (.inr (.inr (some _)))) :: st => if len = 3 ∧ (st.map mcat).sum ≤ 8 ∧ jl o idx = some 9 then some (pc + 3, L, st) else none
    | _ => none
  | .invokevirtual idx => match st with
    | .inl j :: .inr (.inr (.inr (.inr (some q)))) :: st => match hget h q.1 q.2 with
      | some ob => if len = 3 ∧ (st.map mcat).sum ≤ 8 ∧ jl o idx = some 2 ∧ sk q.1 = (2, 0) ∧ ¬ j < 0 then (ob[j.toNatClampNeg]?).map (fun v => (pc + 3, L, v :: st)) else none
      | none => none
    | .inr (.inr (.inr (.inr (some q)))) :: st => match hget h q.1 q.2 with
      | some ob => if len = 3 ∧ (st.map mcat).sum ≤ 8 ∧ jl o idx = some 3 ∧ sk q.1 = (2, 0) then some (pc + 3, L, vI (Int32.ofNat ob.length) :: st) else none
      | none => none
    | _ => none
  | _ => none
/-- what the lists of a site hold: references to what this site makes -/
def les (s : Nat) : Nat := ([4, 6, 7, 3, 0, 1, 3, 2] : List Nat).getD (s - 10) 0
abbrev PW : Type := Option (Nat × Lo × List MV × Hp)
def wst (t : Nat) (cv : MV → Option MV) (len pc : Nat) (L : Lo) (st : List MV) (h : Hp) : PW := match st with
  | v :: .inl j :: .inr (.inr (.inr (.inr (some q)))) :: st => match hget h q.1 q.2 with
    | some ob => if len = 1 ∧ sk q.1 = (1, t) ∧ ¬ j < 0 ∧ j.toNatClampNeg < ob.length then (cv v).map (fun w => (pc + 1, L, st, hput h q.1 q.2 (ob.set j.toNatClampNeg w))) else none
    | none => none
  | _ => none
/-- calls of a list's members that write it -/
def wls (k len pc : Nat) (L : Lo) (st : List MV) (h : Hp) : PW := match k with
  | 1 => match st with
    | .inr (.inr (.inr (.inr (some z)))) :: .inr (.inr (.inr (.inr (some q)))) :: st => match hget h q.1 q.2 with
      | some ob => if len = 3 ∧ (st.map mcat).sum ≤ 8 ∧ sk q.1 = (2, 0) ∧ (hget h z.1 z.2).isSome ∧ z.1 = les q.1 ∧ ob.length < 30000 then some (pc + 3, L, vI 1 :: st, hput (hcst h 1 (2 * ob.length + 10)) q.1 q.2 (ob ++ [vR z.1 z.2])) else none
      | none => none
    | _ => none
  | 4 => match st with
    | .inl j :: .inr (.inr (.inr (.inr (some q)))) :: st => match hget h q.1 q.2 with
      | some ob => if len = 3 ∧ (st.map mcat).sum ≤ 8 ∧ sk q.1 = (2, 0) ∧ ¬ j < 0 then (ob[j.toNatClampNeg]?).map (fun v => (pc + 3, L, v :: st, hput h q.1 q.2 (ob.eraseIdx j.toNatClampNeg))) else none
      | none => none
    | _ => none
  | 5 => match st with
    | .inr (.inr (.inr (.inr (some q)))) :: st => match hget h q.1 q.2 with
      | some _ => if len = 3 ∧ (st.map mcat).sum ≤ 8 ∧ sk q.1 = (2, 0) then some (pc + 3, L, st, hput h q.1 q.2 []) else none
      | none => none
    | _ => none
  | 6 => match st with
    | .inr (.inr (.inr (.inr (some z)))) :: .inl j :: .inr (.inr (.inr (.inr (some q)))) :: st => match hget h q.1 q.2 with
      | some ob => if len = 3 ∧ (st.map mcat).sum ≤ 8 ∧ sk q.1 = (2, 0) ∧ (hget h z.1 z.2).isSome ∧ z.1 = les q.1 ∧ ¬ j < 0 ∧ j.toNatClampNeg ≤ ob.length ∧ ob.length < 30000 then some (pc + 3, L, st, hput (hcst h 1 (2 * ob.length + 10)) q.1 q.2 (ob.insertIdx j.toNatClampNeg (vR z.1 z.2))) else none
      | none => none
    | _ => none
  | _ => none
/-- what a new object of a class holds -/
def odf (ci : Nat) : Ob := ((vtys.getD ci (fun _ => .int)) |> fun ty => (List.range (fN ci)).map (fun k => tdf (ty k)))
def ity (t : Nat) : Nat := if t = 5 then 0 else if t = 6 then 2 else 3
def nlb (y pc idx s0 : Nat) (st : List MV) : Bool := decide (sk s0 = (2, 0)) && decide (cl (mcl y) idx = some 11) && decide ((st.map mcat).sum ≤ 6) && decide (dec y (pc + 3) = some (.dup, 1)) && (match dec y (pc + 4) with | some (.invokespecial i2, 3) => decide (jl (mcl y) i2 = some 0) | _ => false)
/-- instructions that write the heap or make cells -/
def hwr (y : Nat) (i : Instr) (len pc : Nat) (L : Lo) (st : List MV) (h : Hp) : PW := match i with
  | .putfield idx => match st with
    | v :: .inr (.inr (.inr (.inr (some q)))) :: st => match fl (mcl y) idx with
      | some z => match hget h q.1 q.2 with
        | some ob => if len = 3 ∧ sk q.1 = (0, z.1) ∧ z.2 < ob.length ∧ pfit ((vtys.getD z.1 (fun _ => .int)) z.2) v = true ∧ ((fT z.1 z.2).2.2.2 = false ∨ ((mfct[y]?).map (fun f => f.2.1) = some 1 ∧ mcl y = z.1)) then some (pc + 3, L, st, hput h q.1 q.2 (ob.set z.2 v)) else none
        | none => none
      | none => none
    | _ => none
  | .iastore => wst 0 (fun v => match v with | .inl x => some (vI x) | _ => none) len pc L st h
  | .lastore => wst 1 (fun v => match v with | .inr (.inl x) => some (vL x) | _ => none) len pc L st h
  | .bastore => wst 2 (fun v => match v with | .inl x => some (vI (x &&& 1)) | _ => none) len pc L st h
  | .castore => wst 3 (fun v => match v with | .inl x => some (vI x.toUInt32.toUInt16.toUInt32.toInt32) | _ => none) len pc L st h
  | .dastore => wst 4 (fun v => match v with | .inr (.inr (.inr (.inl x))) => some (vD x) | _ => none) len pc L st h
  | .invokevirtual idx => match jl (mcl y) idx with
    | some k => wls k len pc L st h
    | none => none
  | .new idx => match al y pc with
    | some s => if len = 3 ∧ (sk s).1 = 0 ∧ (sk s).2 = s ∧ s < 10 ∧ cl (mcl y) idx = some s then some (pc + 3, L, vR s (h.1 s).length :: st, hnew h s [odf s] 1 (fN s))
      else if len = 3 ∧ nlb y pc idx s st = true then some (pc + 7, L, vR s (h.1 s).length :: st, hnew h s [[]] 1 3) else none
    | none => none
  | .newarray t => match al y pc with
    | some s => match st with
      | .inl n :: st => if len = 2 ∧ (sk s).1 = 1 ∧ (sk s).2 < 5 ∧ newarray.typeOf t = aty (sk s).2 ∧ ¬ n < 0 ∧ n.toNatClampNeg ≤ 60000 then some (pc + 2, L, vR s (h.1 s).length :: st, hnew h s [List.replicate n.toNatClampNeg (adf (sk s).2)] 1 n.toNatClampNeg) else none
      | _ => none
    | none => none
  | .multianewarray idx dims => match al y pc with
    | some s => match st with
      | .inl k :: .inl n :: st => if len = 4 ∧ dims = 2 ∧ mat (mcl y) idx = some (sk s).2 ∧ (sk s).1 = 1 ∧ (5 ≤ (sk s).2 ∧ (sk s).2 ≤ 7) ∧ sk (s + 1) = (1, ity (sk s).2) ∧ ¬ n < 0 ∧ ¬ k < 0 ∧ n.toNatClampNeg ≤ 60000 ∧ k.toNatClampNeg ≤ 60000 then
          some (pc + 4, L, vR s (h.1 s).length :: st, hnew (hnew h s [(List.range n.toNatClampNeg).map (fun j => vR (s + 1) ((h.1 (s + 1)).length + j))] 1 n.toNatClampNeg) (s + 1) (List.replicate n.toNatClampNeg (List.replicate k.toNatClampNeg (adf (sk (s + 1)).2))) n.toNatClampNeg (n.toNatClampNeg * k.toNatClampNeg)) else none
      | _ => none
    | none => none
  | _ => none
def isRt : Option FieldType → Bool
  | some (.object _) => true
  | some (.array _) => true
  | _ => false
/-- returns -/
def rst (i : Instr) (len : Nat) (st : List MV) (rt : Option FieldType) : Option (Option MV) := match i with
  | .ireturn => match st with
    | [.inl x] => if len = 1 ∧ (rt = some .int ∨ (rt = some .boolean ∧ x &&& 1 = x) ∨ (rt = some .char ∧ x.toUInt32.toUInt16.toUInt32.toInt32 = x)) then some (some (vI x)) else none
    | _ => none
  | .lreturn => match st with
    | [.inr (.inl x)] => if len = 1 ∧ rt = some .long then some (some (vL x)) else none
    | _ => none
  | .freturn => match st with
    | [.inr (.inr (.inl x))] => if len = 1 ∧ rt = some .float then some (some (vF x)) else none
    | _ => none
  | .dreturn => match st with
    | [.inr (.inr (.inr (.inl x)))] => if len = 1 ∧ rt = some .double then some (some (vD x)) else none
    | _ => none
  | .areturn => match st with
    | [.inr (.inr (.inr (.inr q)))] => if len = 1 ∧ isRt rt = true then some (some (.inr (.inr (.inr (.inr q))))) else none
    | _ => none
  | .return_ => match st with
    | [] => if len = 1 ∧ rt = none then some none else none
    | _ => none
  | _ => none
abbrev SR : Type := (Re × Hp) ⊕ ((Fr × Hp) ⊕ (Fr × (Nat × Nat × Lo × List MV)))
/-- the frame of a call: the method, its arguments -/
def ent (y : Nat) (as : List MV) : Option Fr := match mrow y with
  | some r => if as.length ≤ r.2.2.1 ∧ as.all (fun v => mcat v == 1) = true then some (y, 0, as.map some ++ List.replicate (r.2.2.1 - as.length) none, []) else none
  | none => none
def cst (y : Nat) (i : Instr) (len pc : Nat) (L : Lo) (st : List MV) (h : Hp) : Option (Fr × (Nat × Nat × Lo × List MV)) :=
  match (match i with | .invokestatic idx => some (0, idx) | .invokespecial idx => some (1, idx) | .invokevirtual idx => some (2, idx) | _ => none) with
  | some (kd, idx) => match ml (mcl y) idx with
    | some y2 => match mfct[y2]? with
      | some f => if len = 3 ∧ f.2.1 = kd ∧ f.2.2.2.2.2 ≤ st.length then
          (if kd = 0 then (if ((st.drop f.2.2.2.2.2).map mcat).sum ≤ 8 then (ent y2 (st.take f.2.2.2.2.2).reverse).map (fun fr => (fr, (y, pc, L, st.drop f.2.2.2.2.2))) else none)
           else match st.drop f.2.2.2.2.2 with
            | .inr (.inr (.inr (.inr (some q)))) :: rest => if (rest.map mcat).sum ≤ 8 ∧ sk q.1 = (0, mcl y2) ∧ (hget h q.1 q.2).isSome then (ent y2 (vR q.1 q.2 :: (st.take f.2.2.2.2.2).reverse)).map (fun fr => (fr, (y, pc, L, rest))) else none
            | _ => none) else none
      | none => none
    | none => none
  | none => none
def stp (fr : Fr) (h : Hp) : Option SR := match dec fr.1 fr.2.1 with
  | none => none
  | some (i, len) => match th fr.1 fr.2.1 with
    | some E => if fr.2.2.2.isEmpty = true then some (.inl (.inr E, hcst h 1 6)) else none
    | none => match pin i len fr.2.1 fr.2.2.1 fr.2.2.2 with
      | some z => some (.inr (.inl ((fr.1, z), h)))
      | none => match hrd (mcl fr.1) i len fr.2.1 fr.2.2.1 fr.2.2.2 h with
        | some z => some (.inr (.inl ((fr.1, z), h)))
        | none => match hwr fr.1 i len fr.2.1 fr.2.2.1 fr.2.2.2 h with
          | some z => some (.inr (.inl ((fr.1, z.1, z.2.1, z.2.2.1), z.2.2.2)))
          | none => match rst i len fr.2.2.2 ((mrow fr.1).bind (fun r => r.2.2.2.1)) with
            | some v => some (.inl (.inl v, h))
            | none => (cst fr.1 i len fr.2.1 fr.2.2.1 fr.2.2.2 h).map (fun z => .inr (.inr z))
/-- where an exception that comes out of a call goes: to the caller's caller, or to a row of the table -/
def hnd (y pc E : Nat) : Option (Option Nat) := match mrow y with
  | some r => match r.2.2.2.2 with
    | [] => some none
    | hh => match hh.find? (fun q => decide (q.1 ≤ pc) && decide (pc < q.2.1) && decide (exl (mcl y) q.2.2.2 = some E)) with
      | some q => some (some q.2.2.1)
      | none => none
  | none => none
def aft (k : Nat × Nat × Lo × List MV) (r : Re) (h : Hp) : Option ((Re × Hp) ⊕ (Fr × Hp)) := match r with
  | .inl v => some (.inr ((k.1, k.2.1 + 3, k.2.2.1, v.toList ++ k.2.2.2), h))
  | .inr E => match hnd k.1 k.2.1 E with
    | some none => some (.inl (.inr E, h))
    | some (some t) => some (.inr ((k.1, t, k.2.2.1, [vR sX (h.1 sX).length]), hnew h sX [[]] 0 0))
    | none => none
/-- d: calls that may stand open; n: steps -/
def run : Nat → Nat → Fr → Hp → Option (Re × Hp)
  | _, 0, _, _ => none
  | d, n + 1, fr, h => match stp fr h with
    | none => none
    | some (.inl r) => some r
    | some (.inr (.inl z)) => run d n z.1 z.2
    | some (.inr (.inr z)) => match d with
      | 0 => none
      | d' + 1 => match run d' n z.1 h with
        | none => none
        | some r => match aft z.2 r.1 r.2 with
          | none => none
          | some (.inl r') => some r'
          | some (.inr w) => run (d' + 1) n w.1 w.2
