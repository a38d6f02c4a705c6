/-! the law's own instructions by place (written by gen85.py) -/
def decL (pc : Nat) : Option (Instr × Nat) := match decode code pc with
  | .ok q => some q
  | .error _ => none
def okLw (i : Nat) (r : List CI) : Bool := r.zipIdx.all (fun q => match q.1 with | none => true | some z => decide (decL (16 * i + q.2) = some z))
def lrow_0 : List CI := [some (.new 8, 3), none, none, some (.dup, 1), some (.invokespecial 145, 3), none, none, some (.astore_n 1, 1), some (.new 146, 3), none, none, some (.dup, 1), some (.invokespecial 148, 3), none, none, some (.astore_n 2, 1)]
set_option maxRecDepth 100000 in
set_option maxHeartbeats 4000000 in
theorem lok_0 : okLw 0 lrow_0 = true := by decide +kernel
def lrow_1 : List CI := [some (.iconst 1, 1), some (.newarray .long, 2), none, some (.astore_n 3, 1), some (.iconst 1, 1), some (.newarray .double, 2), none, some (.astore 4, 2), none, some (.iconst 0, 1), some (.istore 5, 2), none, some (.iload 5, 2), none, some (.aload_n 0, 1), some (.arraylength, 1)]
set_option maxRecDepth 100000 in
set_option maxHeartbeats 4000000 in
theorem lok_1 : okLw 1 lrow_1 = true := by decide +kernel
def lrow_2 : List CI := [some (.bipush 7, 2), none, some (.isub, 1), some (.if_icmp .gt 2909, 3), none, none, some (.aload_n 0, 1), some (.iload 5, 2), none, some (.iaload, 1), some (.bipush 63, 2), none, some (.iand, 1), some (.tableswitch 2893 0 40 #[179, 247, 291, 304, 379, 447, 534, 654, 774, 894, 950, 1006, 1019, 1063, 1143, 1211, 1279, 1347, 1441, 1535, 1603, 1671, 1751, 1807, 1863, 1931, 1999, 2067, 2135, 2203, 2271, 2339, 2407, 2475, 2543, 2599, 2655, 2711, 2725, 2815, 2880], 179), none, none]
set_option maxRecDepth 100000 in
set_option maxHeartbeats 4000000 in
theorem lok_2 : okLw 2 lrow_2 = true := by decide +kernel
def lrow_3 : List CI := [none, none, none, none, none, none, none, none, none, none, none, none, none, none, none, none]
set_option maxRecDepth 100000 in
set_option maxHeartbeats 4000000 in
theorem lok_3 : okLw 3 lrow_3 = true := by decide +kernel
def lrow_4 : List CI := [none, none, none, none, none, none, none, none, none, none, none, none, none, none, none, none]
set_option maxRecDepth 100000 in
set_option maxHeartbeats 4000000 in
theorem lok_4 : okLw 4 lrow_4 = true := by decide +kernel
def lrow_5 : List CI := [none, none, none, none, none, none, none, none, none, none, none, none, none, none, none, none]
set_option maxRecDepth 100000 in
set_option maxHeartbeats 4000000 in
theorem lok_5 : okLw 5 lrow_5 = true := by decide +kernel
def lrow_6 : List CI := [none, none, none, none, none, none, none, none, none, none, none, none, none, none, none, none]
set_option maxRecDepth 100000 in
set_option maxHeartbeats 4000000 in
theorem lok_6 : okLw 6 lrow_6 = true := by decide +kernel
def lrow_7 : List CI := [none, none, none, none, none, none, none, none, none, none, none, none, none, none, none, none]
set_option maxRecDepth 100000 in
set_option maxHeartbeats 4000000 in
theorem lok_7 : okLw 7 lrow_7 = true := by decide +kernel
def lrow_8 : List CI := [none, none, none, none, none, none, none, none, none, none, none, none, none, none, none, none]
set_option maxRecDepth 100000 in
set_option maxHeartbeats 4000000 in
theorem lok_8 : okLw 8 lrow_8 = true := by decide +kernel
def lrow_9 : List CI := [none, none, none, none, none, none, none, none, none, none, none, none, none, none, none, none]
set_option maxRecDepth 100000 in
set_option maxHeartbeats 4000000 in
theorem lok_9 : okLw 9 lrow_9 = true := by decide +kernel
def lrow_10 : List CI := [none, none, none, none, none, none, none, none, none, none, none, none, none, none, none, none]
set_option maxRecDepth 100000 in
set_option maxHeartbeats 4000000 in
theorem lok_10 : okLw 10 lrow_10 = true := by decide +kernel
def lrow_11 : List CI := [none, none, none, none, none, none, none, none, none, none, none, none, none, none, none, none]
set_option maxRecDepth 100000 in
set_option maxHeartbeats 4000000 in
theorem lok_11 : okLw 11 lrow_11 = true := by decide +kernel
def lrow_12 : List CI := [none, none, none, none, none, none, none, none, none, none, none, none, none, none, none, none]
set_option maxRecDepth 100000 in
set_option maxHeartbeats 4000000 in
theorem lok_12 : okLw 12 lrow_12 = true := by decide +kernel
def lrow_13 : List CI := [none, none, none, none, none, none, none, none, none, none, none, none, none, none, none, none]
set_option maxRecDepth 100000 in
set_option maxHeartbeats 4000000 in
theorem lok_13 : okLw 13 lrow_13 = true := by decide +kernel
def lrow_14 : List CI := [some (.aload_n 1, 1), some (.aload_n 0, 1), some (.iload 5, 2), none, some (.iconst 1, 1), some (.iadd, 1), some (.iaload, 1), some (.aload_n 0, 1), some (.iload 5, 2), none, some (.iconst 2, 1), some (.iadd, 1), some (.iaload, 1), some (.aload_n 3, 1), some (.invokestatic 149, 3), none]
set_option maxRecDepth 100000 in
set_option maxHeartbeats 4000000 in
theorem lok_14 : okLw 14 lrow_14 = true := by decide +kernel
def lrow_15 : List CI := [none, some (.istore 6, 2), none, some (.aload_n 2, 1), some (.aload_n 0, 1), some (.iload 5, 2), none, some (.iconst 1, 1), some (.iadd, 1), some (.iaload, 1), some (.aload_n 0, 1), some (.iload 5, 2), none, some (.iconst 2, 1), some (.iadd, 1), some (.iaload, 1)]
set_option maxRecDepth 100000 in
set_option maxHeartbeats 4000000 in
theorem lok_15 : okLw 15 lrow_15 = true := by decide +kernel
def lgrp_0 : List (List CI) := [lrow_0, lrow_1, lrow_2, lrow_3, lrow_4, lrow_5, lrow_6, lrow_7, lrow_8, lrow_9, lrow_10, lrow_11, lrow_12, lrow_13, lrow_14, lrow_15]
theorem lgk_0 : ∀ (j : Nat) (r : List CI), lgrp_0[j]? = some r → okLw (16 * 0 + j) r = true := by
  intro j r h
  match j, h with
  | 0, h => cases h; exact lok_0
  | 1, h => cases h; exact lok_1
  | 2, h => cases h; exact lok_2
  | 3, h => cases h; exact lok_3
  | 4, h => cases h; exact lok_4
  | 5, h => cases h; exact lok_5
  | 6, h => cases h; exact lok_6
  | 7, h => cases h; exact lok_7
  | 8, h => cases h; exact lok_8
  | 9, h => cases h; exact lok_9
  | 10, h => cases h; exact lok_10
  | 11, h => cases h; exact lok_11
  | 12, h => cases h; exact lok_12
  | 13, h => cases h; exact lok_13
  | 14, h => cases h; exact lok_14
  | 15, h => cases h; exact lok_15
  | j + 16, h => exact absurd h (by simp [lgrp_0])
def lrow_16 : List CI := [some (.invokevirtual 154, 3), none, none, some (.istore 7, 2), none, some (.aload_n 2, 1), some (.invokevirtual 155, 3), none, none, some (.iload 6, 2), none, some (.if_icmp .eq 5, 3), none, none, some (.iconst 0, 1), some (.ireturn, 1)]
set_option maxRecDepth 100000 in
set_option maxHeartbeats 4000000 in
theorem lok_16 : okLw 16 lrow_16 = true := by decide +kernel
def lrow_17 : List CI := [some (.iload 6, 2), none, some (.ifCond .ne 15, 3), none, none, some (.aload_n 3, 1), some (.iconst 0, 1), some (.laload, 1), some (.iload 7, 2), none, some (.i2l, 1), some (.lcmp, 1), some (.ifCond .eq 5, 3), none, none, some (.iconst 0, 1)]
set_option maxRecDepth 100000 in
set_option maxHeartbeats 4000000 in
theorem lok_17 : okLw 17 lrow_17 = true := by decide +kernel
def lrow_18 : List CI := [some (.ireturn, 1), some (.goto 2649, 3), none, none, some (.aload_n 1, 1), some (.aload_n 3, 1), some (.invokestatic 158, 3), none, none, some (.istore 6, 2), none, some (.aload_n 2, 1), some (.invokevirtual 161, 3), none, none, some (.istore 7, 2)]
set_option maxRecDepth 100000 in
set_option maxHeartbeats 4000000 in
theorem lok_18 : okLw 18 lrow_18 = true := by decide +kernel
def lrow_19 : List CI := [none, some (.aload_n 2, 1), some (.invokevirtual 155, 3), none, none, some (.iload 6, 2), none, some (.if_icmp .eq 5, 3), none, none, some (.iconst 0, 1), some (.ireturn, 1), some (.iload 6, 2), none, some (.ifCond .ne 15, 3), none]
set_option maxRecDepth 100000 in
set_option maxHeartbeats 4000000 in
theorem lok_19 : okLw 19 lrow_19 = true := by decide +kernel
def lrow_20 : List CI := [none, some (.aload_n 3, 1), some (.iconst 0, 1), some (.laload, 1), some (.iload 7, 2), none, some (.i2l, 1), some (.lcmp, 1), some (.ifCond .eq 5, 3), none, none, some (.iconst 0, 1), some (.ireturn, 1), some (.goto 2605, 3), none, none]
set_option maxRecDepth 100000 in
set_option maxHeartbeats 4000000 in
theorem lok_20 : okLw 20 lrow_20 = true := by decide +kernel
def lrow_21 : List CI := [some (.aload_n 1, 1), some (.invokevirtual 162, 3), none, none, some (.aload_n 2, 1), some (.invokevirtual 165, 3), none, none, some (.if_icmp .eq 2594, 3), none, none, some (.iconst 0, 1), some (.ireturn, 1), some (.aload_n 1, 1), some (.aload_n 0, 1), some (.iload 5, 2)]
set_option maxRecDepth 100000 in
set_option maxHeartbeats 4000000 in
theorem lok_21 : okLw 21 lrow_21 = true := by decide +kernel
def lrow_22 : List CI := [none, some (.iconst 1, 1), some (.iadd, 1), some (.iaload, 1), some (.aload_n 0, 1), some (.iload 5, 2), none, some (.iconst 2, 1), some (.iadd, 1), some (.iaload, 1), some (.aload_n 3, 1), some (.invokestatic 166, 3), none, none, some (.istore 6, 2), none]
set_option maxRecDepth 100000 in
set_option maxHeartbeats 4000000 in
theorem lok_22 : okLw 22 lrow_22 = true := by decide +kernel
def lrow_23 : List CI := [some (.aload_n 2, 1), some (.aload_n 0, 1), some (.iload 5, 2), none, some (.iconst 1, 1), some (.iadd, 1), some (.iaload, 1), some (.aload_n 0, 1), some (.iload 5, 2), none, some (.iconst 2, 1), some (.iadd, 1), some (.iaload, 1), some (.invokevirtual 168, 3), none, none]
set_option maxRecDepth 100000 in
set_option maxHeartbeats 4000000 in
theorem lok_23 : okLw 23 lrow_23 = true := by decide +kernel
def lrow_24 : List CI := [some (.istore 7, 2), none, some (.aload_n 2, 1), some (.invokevirtual 155, 3), none, none, some (.iload 6, 2), none, some (.if_icmp .eq 5, 3), none, none, some (.iconst 0, 1), some (.ireturn, 1), some (.iload 6, 2), none, some (.ifCond .ne 22, 3)]
set_option maxRecDepth 100000 in
set_option maxHeartbeats 4000000 in
theorem lok_24 : okLw 24 lrow_24 = true := by decide +kernel
def lrow_25 : List CI := [none, none, some (.aload_n 3, 1), some (.iconst 0, 1), some (.laload, 1), some (.iload 7, 2), none, some (.ifCond .eq 7, 3), none, none, some (.lconst 1, 1), some (.goto 4, 3), none, none, some (.lconst 0, 1), some (.lcmp, 1)]
set_option maxRecDepth 100000 in
set_option maxHeartbeats 4000000 in
theorem lok_25 : okLw 25 lrow_25 = true := by decide +kernel
def lrow_26 : List CI := [some (.ifCond .eq 5, 3), none, none, some (.iconst 0, 1), some (.ireturn, 1), some (.goto 2517, 3), none, none, some (.aload_n 1, 1), some (.aload_n 0, 1), some (.iload 5, 2), none, some (.iconst 1, 1), some (.iadd, 1), some (.iaload, 1), some (.aload_n 0, 1)]
set_option maxRecDepth 100000 in
set_option maxHeartbeats 4000000 in
theorem lok_26 : okLw 26 lrow_26 = true := by decide +kernel
def lrow_27 : List CI := [some (.iload 5, 2), none, some (.iconst 2, 1), some (.iadd, 1), some (.iaload, 1), some (.aload_n 3, 1), some (.invokestatic 169, 3), none, none, some (.istore 6, 2), none, some (.aload_n 2, 1), some (.aload_n 0, 1), some (.iload 5, 2), none, some (.iconst 1, 1)]
set_option maxRecDepth 100000 in
set_option maxHeartbeats 4000000 in
theorem lok_27 : okLw 27 lrow_27 = true := by decide +kernel
def lrow_28 : List CI := [some (.iadd, 1), some (.iaload, 1), some (.aload_n 0, 1), some (.iload 5, 2), none, some (.iconst 2, 1), some (.iadd, 1), some (.iaload, 1), some (.invokevirtual 171, 3), none, none, some (.istore 7, 2), none, some (.aload_n 2, 1), some (.invokevirtual 155, 3), none]
set_option maxRecDepth 100000 in
set_option maxHeartbeats 4000000 in
theorem lok_28 : okLw 28 lrow_28 = true := by decide +kernel
def lrow_29 : List CI := [none, some (.iload 6, 2), none, some (.if_icmp .eq 5, 3), none, none, some (.iconst 0, 1), some (.ireturn, 1), some (.iload 6, 2), none, some (.ifCond .ne 15, 3), none, none, some (.aload_n 3, 1), some (.iconst 0, 1), some (.laload, 1)]
set_option maxRecDepth 100000 in
set_option maxHeartbeats 4000000 in
theorem lok_29 : okLw 29 lrow_29 = true := by decide +kernel
def lrow_30 : List CI := [some (.iload 7, 2), none, some (.i2l, 1), some (.lcmp, 1), some (.ifCond .eq 5, 3), none, none, some (.iconst 0, 1), some (.ireturn, 1), some (.goto 2449, 3), none, none, some (.aload_n 1, 1), some (.aload_n 0, 1), some (.iload 5, 2), none]
set_option maxRecDepth 100000 in
set_option maxHeartbeats 4000000 in
theorem lok_30 : okLw 30 lrow_30 = true := by decide +kernel
def lrow_31 : List CI := [some (.iconst 1, 1), some (.iadd, 1), some (.iaload, 1), some (.aload_n 0, 1), some (.iload 5, 2), none, some (.iconst 2, 1), some (.iadd, 1), some (.iaload, 1), some (.aload_n 0, 1), some (.iload 5, 2), none, some (.iconst 3, 1), some (.iadd, 1), some (.iaload, 1), some (.aload_n 3, 1)]
set_option maxRecDepth 100000 in
set_option maxHeartbeats 4000000 in
theorem lok_31 : okLw 31 lrow_31 = true := by decide +kernel
def lgrp_1 : List (List CI) := [lrow_16, lrow_17, lrow_18, lrow_19, lrow_20, lrow_21, lrow_22, lrow_23, lrow_24, lrow_25, lrow_26, lrow_27, lrow_28, lrow_29, lrow_30, lrow_31]
theorem lgk_1 : ∀ (j : Nat) (r : List CI), lgrp_1[j]? = some r → okLw (16 * 1 + j) r = true := by
  intro j r h
  match j, h with
  | 0, h => cases h; exact lok_16
  | 1, h => cases h; exact lok_17
  | 2, h => cases h; exact lok_18
  | 3, h => cases h; exact lok_19
  | 4, h => cases h; exact lok_20
  | 5, h => cases h; exact lok_21
  | 6, h => cases h; exact lok_22
  | 7, h => cases h; exact lok_23
  | 8, h => cases h; exact lok_24
  | 9, h => cases h; exact lok_25
  | 10, h => cases h; exact lok_26
  | 11, h => cases h; exact lok_27
  | 12, h => cases h; exact lok_28
  | 13, h => cases h; exact lok_29
  | 14, h => cases h; exact lok_30
  | 15, h => cases h; exact lok_31
  | j + 16, h => exact absurd h (by simp [lgrp_1])
def lrow_32 : List CI := [some (.invokestatic 172, 3), none, none, some (.istore 6, 2), none, some (.aload_n 2, 1), some (.aload_n 0, 1), some (.iload 5, 2), none, some (.iconst 1, 1), some (.iadd, 1), some (.iaload, 1), some (.aload_n 0, 1), some (.iload 5, 2), none, some (.iconst 2, 1)]
set_option maxRecDepth 100000 in
set_option maxHeartbeats 4000000 in
theorem lok_32 : okLw 32 lrow_32 = true := by decide +kernel
def lrow_33 : List CI := [some (.iadd, 1), some (.iaload, 1), some (.aload_n 0, 1), some (.iload 5, 2), none, some (.iconst 3, 1), some (.iadd, 1), some (.iaload, 1), some (.invokevirtual 175, 3), none, none, some (.istore 7, 2), none, some (.aload_n 2, 1), some (.invokevirtual 155, 3), none]
set_option maxRecDepth 100000 in
set_option maxHeartbeats 4000000 in
theorem lok_33 : okLw 33 lrow_33 = true := by decide +kernel
def lrow_34 : List CI := [none, some (.iload 6, 2), none, some (.if_icmp .eq 5, 3), none, none, some (.iconst 0, 1), some (.ireturn, 1), some (.iload 6, 2), none, some (.ifCond .ne 22, 3), none, none, some (.aload_n 3, 1), some (.iconst 0, 1), some (.laload, 1)]
set_option maxRecDepth 100000 in
set_option maxHeartbeats 4000000 in
theorem lok_34 : okLw 34 lrow_34 = true := by decide +kernel
def lrow_35 : List CI := [some (.iload 7, 2), none, some (.ifCond .eq 7, 3), none, none, some (.lconst 1, 1), some (.goto 4, 3), none, none, some (.lconst 0, 1), some (.lcmp, 1), some (.ifCond .eq 5, 3), none, none, some (.iconst 0, 1), some (.ireturn, 1)]
set_option maxRecDepth 100000 in
set_option maxHeartbeats 4000000 in
theorem lok_35 : okLw 35 lrow_35 = true := by decide +kernel
def lrow_36 : List CI := [some (.goto 2362, 3), none, none, some (.aload_n 1, 1), some (.aload_n 0, 1), some (.iload 5, 2), none, some (.iconst 1, 1), some (.iadd, 1), some (.iaload, 1), some (.aload_n 0, 1), some (.iload 5, 2), none, some (.iconst 2, 1), some (.iadd, 1), some (.iaload, 1)]
set_option maxRecDepth 100000 in
set_option maxHeartbeats 4000000 in
theorem lok_36 : okLw 36 lrow_36 = true := by decide +kernel
def lrow_37 : List CI := [some (.aload_n 0, 1), some (.iload 5, 2), none, some (.iconst 3, 1), some (.iadd, 1), some (.iaload, 1), some (.aload_n 0, 1), some (.iload 5, 2), none, some (.iconst 4, 1), some (.iadd, 1), some (.iaload, 1), some (.aload_n 0, 1), some (.iload 5, 2), none, some (.iconst 5, 1)]
set_option maxRecDepth 100000 in
set_option maxHeartbeats 4000000 in
theorem lok_37 : okLw 37 lrow_37 = true := by decide +kernel
def lrow_38 : List CI := [some (.iadd, 1), some (.iaload, 1), some (.aload_n 0, 1), some (.iload 5, 2), none, some (.bipush 6, 2), none, some (.iadd, 1), some (.iaload, 1), some (.i2c, 1), some (.aload_n 3, 1), some (.invokestatic 176, 3), none, none, some (.istore 6, 2), none]
set_option maxRecDepth 100000 in
set_option maxHeartbeats 4000000 in
theorem lok_38 : okLw 38 lrow_38 = true := by decide +kernel
def lrow_39 : List CI := [some (.aload_n 2, 1), some (.aload_n 0, 1), some (.iload 5, 2), none, some (.iconst 1, 1), some (.iadd, 1), some (.iaload, 1), some (.aload_n 0, 1), some (.iload 5, 2), none, some (.iconst 2, 1), some (.iadd, 1), some (.iaload, 1), some (.aload_n 0, 1), some (.iload 5, 2), none]
set_option maxRecDepth 100000 in
set_option maxHeartbeats 4000000 in
theorem lok_39 : okLw 39 lrow_39 = true := by decide +kernel
def lrow_40 : List CI := [some (.iconst 3, 1), some (.iadd, 1), some (.iaload, 1), some (.aload_n 0, 1), some (.iload 5, 2), none, some (.iconst 4, 1), some (.iadd, 1), some (.iaload, 1), some (.aload_n 0, 1), some (.iload 5, 2), none, some (.iconst 5, 1), some (.iadd, 1), some (.iaload, 1), some (.aload_n 0, 1)]
set_option maxRecDepth 100000 in
set_option maxHeartbeats 4000000 in
theorem lok_40 : okLw 40 lrow_40 = true := by decide +kernel
def lrow_41 : List CI := [some (.iload 5, 2), none, some (.bipush 6, 2), none, some (.iadd, 1), some (.iaload, 1), some (.i2c, 1), some (.invokevirtual 179, 3), none, none, some (.istore 7, 2), none, some (.aload_n 2, 1), some (.invokevirtual 155, 3), none, none]
set_option maxRecDepth 100000 in
set_option maxHeartbeats 4000000 in
theorem lok_41 : okLw 41 lrow_41 = true := by decide +kernel
def lrow_42 : List CI := [some (.iload 6, 2), none, some (.if_icmp .eq 5, 3), none, none, some (.iconst 0, 1), some (.ireturn, 1), some (.iload 6, 2), none, some (.ifCond .ne 15, 3), none, none, some (.aload_n 3, 1), some (.iconst 0, 1), some (.laload, 1), some (.iload 7, 2)]
set_option maxRecDepth 100000 in
set_option maxHeartbeats 4000000 in
theorem lok_42 : okLw 42 lrow_42 = true := by decide +kernel
def lrow_43 : List CI := [none, some (.i2l, 1), some (.lcmp, 1), some (.ifCond .eq 5, 3), none, none, some (.iconst 0, 1), some (.ireturn, 1), some (.goto 2242, 3), none, none, some (.aload_n 1, 1), some (.aload_n 0, 1), some (.iload 5, 2), none, some (.iconst 1, 1)]
set_option maxRecDepth 100000 in
set_option maxHeartbeats 4000000 in
theorem lok_43 : okLw 43 lrow_43 = true := by decide +kernel
def lrow_44 : List CI := [some (.iadd, 1), some (.iaload, 1), some (.aload_n 0, 1), some (.iload 5, 2), none, some (.iconst 2, 1), some (.iadd, 1), some (.iaload, 1), some (.aload_n 0, 1), some (.iload 5, 2), none, some (.iconst 3, 1), some (.iadd, 1), some (.iaload, 1), some (.aload_n 0, 1), some (.iload 5, 2)]
set_option maxRecDepth 100000 in
set_option maxHeartbeats 4000000 in
theorem lok_44 : okLw 44 lrow_44 = true := by decide +kernel
def lrow_45 : List CI := [none, some (.iconst 4, 1), some (.iadd, 1), some (.iaload, 1), some (.aload_n 0, 1), some (.iload 5, 2), none, some (.iconst 5, 1), some (.iadd, 1), some (.iaload, 1), some (.aload_n 0, 1), some (.iload 5, 2), none, some (.bipush 6, 2), none, some (.iadd, 1)]
set_option maxRecDepth 100000 in
set_option maxHeartbeats 4000000 in
theorem lok_45 : okLw 45 lrow_45 = true := by decide +kernel
def lrow_46 : List CI := [some (.iaload, 1), some (.i2c, 1), some (.aload_n 3, 1), some (.invokestatic 180, 3), none, none, some (.istore 6, 2), none, some (.aload_n 2, 1), some (.aload_n 0, 1), some (.iload 5, 2), none, some (.iconst 1, 1), some (.iadd, 1), some (.iaload, 1), some (.aload_n 0, 1)]
set_option maxRecDepth 100000 in
set_option maxHeartbeats 4000000 in
theorem lok_46 : okLw 46 lrow_46 = true := by decide +kernel
def lrow_47 : List CI := [some (.iload 5, 2), none, some (.iconst 2, 1), some (.iadd, 1), some (.iaload, 1), some (.aload_n 0, 1), some (.iload 5, 2), none, some (.iconst 3, 1), some (.iadd, 1), some (.iaload, 1), some (.aload_n 0, 1), some (.iload 5, 2), none, some (.iconst 4, 1), some (.iadd, 1)]
set_option maxRecDepth 100000 in
set_option maxHeartbeats 4000000 in
theorem lok_47 : okLw 47 lrow_47 = true := by decide +kernel
def lgrp_2 : List (List CI) := [lrow_32, lrow_33, lrow_34, lrow_35, lrow_36, lrow_37, lrow_38, lrow_39, lrow_40, lrow_41, lrow_42, lrow_43, lrow_44, lrow_45, lrow_46, lrow_47]
theorem lgk_2 : ∀ (j : Nat) (r : List CI), lgrp_2[j]? = some r → okLw (16 * 2 + j) r = true := by
  intro j r h
  match j, h with
  | 0, h => cases h; exact lok_32
  | 1, h => cases h; exact lok_33
  | 2, h => cases h; exact lok_34
  | 3, h => cases h; exact lok_35
  | 4, h => cases h; exact lok_36
  | 5, h => cases h; exact lok_37
  | 6, h => cases h; exact lok_38
  | 7, h => cases h; exact lok_39
  | 8, h => cases h; exact lok_40
  | 9, h => cases h; exact lok_41
  | 10, h => cases h; exact lok_42
  | 11, h => cases h; exact lok_43
  | 12, h => cases h; exact lok_44
  | 13, h => cases h; exact lok_45
  | 14, h => cases h; exact lok_46
  | 15, h => cases h; exact lok_47
  | j + 16, h => exact absurd h (by simp [lgrp_2])
def lrow_48 : List CI := [some (.iaload, 1), some (.aload_n 0, 1), some (.iload 5, 2), none, some (.iconst 5, 1), some (.iadd, 1), some (.iaload, 1), some (.aload_n 0, 1), some (.iload 5, 2), none, some (.bipush 6, 2), none, some (.iadd, 1), some (.iaload, 1), some (.i2c, 1), some (.invokevirtual 182, 3)]
set_option maxRecDepth 100000 in
set_option maxHeartbeats 4000000 in
theorem lok_48 : okLw 48 lrow_48 = true := by decide +kernel
def lrow_49 : List CI := [none, none, some (.istore 7, 2), none, some (.aload_n 2, 1), some (.invokevirtual 155, 3), none, none, some (.iload 6, 2), none, some (.if_icmp .eq 5, 3), none, none, some (.iconst 0, 1), some (.ireturn, 1), some (.iload 6, 2)]
set_option maxRecDepth 100000 in
set_option maxHeartbeats 4000000 in
theorem lok_49 : okLw 49 lrow_49 = true := by decide +kernel
def lrow_50 : List CI := [none, some (.ifCond .ne 15, 3), none, none, some (.aload_n 3, 1), some (.iconst 0, 1), some (.laload, 1), some (.iload 7, 2), none, some (.i2l, 1), some (.lcmp, 1), some (.ifCond .eq 5, 3), none, none, some (.iconst 0, 1), some (.ireturn, 1)]
set_option maxRecDepth 100000 in
set_option maxHeartbeats 4000000 in
theorem lok_50 : okLw 50 lrow_50 = true := by decide +kernel
def lrow_51 : List CI := [some (.goto 2122, 3), none, none, some (.aload_n 1, 1), some (.aload_n 0, 1), some (.iload 5, 2), none, some (.iconst 1, 1), some (.iadd, 1), some (.iaload, 1), some (.aload_n 0, 1), some (.iload 5, 2), none, some (.iconst 2, 1), some (.iadd, 1), some (.iaload, 1)]
set_option maxRecDepth 100000 in
set_option maxHeartbeats 4000000 in
theorem lok_51 : okLw 51 lrow_51 = true := by decide +kernel
def lrow_52 : List CI := [some (.aload_n 0, 1), some (.iload 5, 2), none, some (.iconst 3, 1), some (.iadd, 1), some (.iaload, 1), some (.aload_n 0, 1), some (.iload 5, 2), none, some (.iconst 4, 1), some (.iadd, 1), some (.iaload, 1), some (.aload_n 0, 1), some (.iload 5, 2), none, some (.iconst 5, 1)]
set_option maxRecDepth 100000 in
set_option maxHeartbeats 4000000 in
theorem lok_52 : okLw 52 lrow_52 = true := by decide +kernel
def lrow_53 : List CI := [some (.iadd, 1), some (.iaload, 1), some (.aload_n 0, 1), some (.iload 5, 2), none, some (.bipush 6, 2), none, some (.iadd, 1), some (.iaload, 1), some (.i2c, 1), some (.aload_n 3, 1), some (.invokestatic 183, 3), none, none, some (.istore 6, 2), none]
set_option maxRecDepth 100000 in
set_option maxHeartbeats 4000000 in
theorem lok_53 : okLw 53 lrow_53 = true := by decide +kernel
def lrow_54 : List CI := [some (.aload_n 2, 1), some (.aload_n 0, 1), some (.iload 5, 2), none, some (.iconst 1, 1), some (.iadd, 1), some (.iaload, 1), some (.aload_n 0, 1), some (.iload 5, 2), none, some (.iconst 2, 1), some (.iadd, 1), some (.iaload, 1), some (.aload_n 0, 1), some (.iload 5, 2), none]
set_option maxRecDepth 100000 in
set_option maxHeartbeats 4000000 in
theorem lok_54 : okLw 54 lrow_54 = true := by decide +kernel
def lrow_55 : List CI := [some (.iconst 3, 1), some (.iadd, 1), some (.iaload, 1), some (.aload_n 0, 1), some (.iload 5, 2), none, some (.iconst 4, 1), some (.iadd, 1), some (.iaload, 1), some (.aload_n 0, 1), some (.iload 5, 2), none, some (.iconst 5, 1), some (.iadd, 1), some (.iaload, 1), some (.aload_n 0, 1)]
set_option maxRecDepth 100000 in
set_option maxHeartbeats 4000000 in
theorem lok_55 : okLw 55 lrow_55 = true := by decide +kernel
def lrow_56 : List CI := [some (.iload 5, 2), none, some (.bipush 6, 2), none, some (.iadd, 1), some (.iaload, 1), some (.i2c, 1), some (.invokevirtual 185, 3), none, none, some (.istore 7, 2), none, some (.aload_n 2, 1), some (.invokevirtual 155, 3), none, none]
set_option maxRecDepth 100000 in
set_option maxHeartbeats 4000000 in
theorem lok_56 : okLw 56 lrow_56 = true := by decide +kernel
def lrow_57 : List CI := [some (.iload 6, 2), none, some (.if_icmp .eq 5, 3), none, none, some (.iconst 0, 1), some (.ireturn, 1), some (.iload 6, 2), none, some (.ifCond .ne 15, 3), none, none, some (.aload_n 3, 1), some (.iconst 0, 1), some (.laload, 1), some (.iload 7, 2)]
set_option maxRecDepth 100000 in
set_option maxHeartbeats 4000000 in
theorem lok_57 : okLw 57 lrow_57 = true := by decide +kernel
def lrow_58 : List CI := [none, some (.i2l, 1), some (.lcmp, 1), some (.ifCond .eq 5, 3), none, none, some (.iconst 0, 1), some (.ireturn, 1), some (.goto 2002, 3), none, none, some (.aload_n 1, 1), some (.aload_n 0, 1), some (.iload 5, 2), none, some (.iconst 1, 1)]
set_option maxRecDepth 100000 in
set_option maxHeartbeats 4000000 in
theorem lok_58 : okLw 58 lrow_58 = true := by decide +kernel
def lrow_59 : List CI := [some (.iadd, 1), some (.iaload, 1), some (.aload_n 3, 1), some (.invokestatic 186, 3), none, none, some (.istore 6, 2), none, some (.aload_n 2, 1), some (.aload_n 0, 1), some (.iload 5, 2), none, some (.iconst 1, 1), some (.iadd, 1), some (.iaload, 1), some (.invokevirtual 189, 3)]
set_option maxRecDepth 100000 in
set_option maxHeartbeats 4000000 in
theorem lok_59 : okLw 59 lrow_59 = true := by decide +kernel
def lrow_60 : List CI := [none, none, some (.istore 7, 2), none, some (.aload_n 2, 1), some (.invokevirtual 155, 3), none, none, some (.iload 6, 2), none, some (.if_icmp .eq 5, 3), none, none, some (.iconst 0, 1), some (.ireturn, 1), some (.iload 6, 2)]
set_option maxRecDepth 100000 in
set_option maxHeartbeats 4000000 in
theorem lok_60 : okLw 60 lrow_60 = true := by decide +kernel
def lrow_61 : List CI := [none, some (.ifCond .ne 15, 3), none, none, some (.aload_n 3, 1), some (.iconst 0, 1), some (.laload, 1), some (.iload 7, 2), none, some (.i2l, 1), some (.lcmp, 1), some (.ifCond .eq 5, 3), none, none, some (.iconst 0, 1), some (.ireturn, 1)]
set_option maxRecDepth 100000 in
set_option maxHeartbeats 4000000 in
theorem lok_61 : okLw 61 lrow_61 = true := by decide +kernel
def lrow_62 : List CI := [some (.goto 1946, 3), none, none, some (.aload_n 1, 1), some (.aload_n 0, 1), some (.iload 5, 2), none, some (.iconst 1, 1), some (.iadd, 1), some (.iaload, 1), some (.aload_n 3, 1), some (.invokestatic 190, 3), none, none, some (.istore 6, 2), none]
set_option maxRecDepth 100000 in
set_option maxHeartbeats 4000000 in
theorem lok_62 : okLw 62 lrow_62 = true := by decide +kernel
def lrow_63 : List CI := [some (.aload_n 2, 1), some (.aload_n 0, 1), some (.iload 5, 2), none, some (.iconst 1, 1), some (.iadd, 1), some (.iaload, 1), some (.invokevirtual 192, 3), none, none, some (.istore 7, 2), none, some (.aload_n 2, 1), some (.invokevirtual 155, 3), none, none]
set_option maxRecDepth 100000 in
set_option maxHeartbeats 4000000 in
theorem lok_63 : okLw 63 lrow_63 = true := by decide +kernel
def lgrp_3 : List (List CI) := [lrow_48, lrow_49, lrow_50, lrow_51, lrow_52, lrow_53, lrow_54, lrow_55, lrow_56, lrow_57, lrow_58, lrow_59, lrow_60, lrow_61, lrow_62, lrow_63]
theorem lgk_3 : ∀ (j : Nat) (r : List CI), lgrp_3[j]? = some r → okLw (16 * 3 + j) r = true := by
  intro j r h
  match j, h with
  | 0, h => cases h; exact lok_48
  | 1, h => cases h; exact lok_49
  | 2, h => cases h; exact lok_50
  | 3, h => cases h; exact lok_51
  | 4, h => cases h; exact lok_52
  | 5, h => cases h; exact lok_53
  | 6, h => cases h; exact lok_54
  | 7, h => cases h; exact lok_55
  | 8, h => cases h; exact lok_56
  | 9, h => cases h; exact lok_57
  | 10, h => cases h; exact lok_58
  | 11, h => cases h; exact lok_59
  | 12, h => cases h; exact lok_60
  | 13, h => cases h; exact lok_61
  | 14, h => cases h; exact lok_62
  | 15, h => cases h; exact lok_63
  | j + 16, h => exact absurd h (by simp [lgrp_3])
def lrow_64 : List CI := [some (.iload 6, 2), none, some (.if_icmp .eq 5, 3), none, none, some (.iconst 0, 1), some (.ireturn, 1), some (.iload 6, 2), none, some (.ifCond .ne 15, 3), none, none, some (.aload_n 3, 1), some (.iconst 0, 1), some (.laload, 1), some (.iload 7, 2)]
set_option maxRecDepth 100000 in
set_option maxHeartbeats 4000000 in
theorem lok_64 : okLw 64 lrow_64 = true := by decide +kernel
def lrow_65 : List CI := [none, some (.i2l, 1), some (.lcmp, 1), some (.ifCond .eq 5, 3), none, none, some (.iconst 0, 1), some (.ireturn, 1), some (.goto 1890, 3), none, none, some (.aload_n 1, 1), some (.invokevirtual 193, 3), none, none, some (.aload_n 2, 1)]
set_option maxRecDepth 100000 in
set_option maxHeartbeats 4000000 in
theorem lok_65 : okLw 65 lrow_65 = true := by decide +kernel
def lrow_66 : List CI := [some (.invokevirtual 196, 3), none, none, some (.if_icmp .eq 1879, 3), none, none, some (.iconst 0, 1), some (.ireturn, 1), some (.aload_n 1, 1), some (.aload_n 3, 1), some (.invokestatic 197, 3), none, none, some (.istore 6, 2), none, some (.aload_n 2, 1)]
set_option maxRecDepth 100000 in
set_option maxHeartbeats 4000000 in
theorem lok_66 : okLw 66 lrow_66 = true := by decide +kernel
def lrow_67 : List CI := [some (.invokevirtual 199, 3), none, none, some (.istore 7, 2), none, some (.aload_n 2, 1), some (.invokevirtual 155, 3), none, none, some (.iload 6, 2), none, some (.if_icmp .eq 5, 3), none, none, some (.iconst 0, 1), some (.ireturn, 1)]
set_option maxRecDepth 100000 in
set_option maxHeartbeats 4000000 in
theorem lok_67 : okLw 67 lrow_67 = true := by decide +kernel
def lrow_68 : List CI := [some (.iload 6, 2), none, some (.ifCond .ne 15, 3), none, none, some (.aload_n 3, 1), some (.iconst 0, 1), some (.laload, 1), some (.iload 7, 2), none, some (.i2l, 1), some (.lcmp, 1), some (.ifCond .eq 5, 3), none, none, some (.iconst 0, 1)]
set_option maxRecDepth 100000 in
set_option maxHeartbeats 4000000 in
theorem lok_68 : okLw 68 lrow_68 = true := by decide +kernel
def lrow_69 : List CI := [some (.ireturn, 1), some (.goto 1833, 3), none, none, some (.aload_n 1, 1), some (.aload_n 0, 1), some (.iload 5, 2), none, some (.iconst 1, 1), some (.iadd, 1), some (.iaload, 1), some (.aload_n 0, 1), some (.iload 5, 2), none, some (.iconst 2, 1), some (.iadd, 1)]
set_option maxRecDepth 100000 in
set_option maxHeartbeats 4000000 in
theorem lok_69 : okLw 69 lrow_69 = true := by decide +kernel
def lrow_70 : List CI := [some (.iaload, 1), some (.aload_n 0, 1), some (.iload 5, 2), none, some (.iconst 3, 1), some (.iadd, 1), some (.iaload, 1), some (.aload_n 3, 1), some (.invokestatic 200, 3), none, none, some (.istore 6, 2), none, some (.aload_n 2, 1), some (.aload_n 0, 1), some (.iload 5, 2)]
set_option maxRecDepth 100000 in
set_option maxHeartbeats 4000000 in
theorem lok_70 : okLw 70 lrow_70 = true := by decide +kernel
def lrow_71 : List CI := [none, some (.iconst 1, 1), some (.iadd, 1), some (.iaload, 1), some (.aload_n 0, 1), some (.iload 5, 2), none, some (.iconst 2, 1), some (.iadd, 1), some (.iaload, 1), some (.aload_n 0, 1), some (.iload 5, 2), none, some (.iconst 3, 1), some (.iadd, 1), some (.iaload, 1)]
set_option maxRecDepth 100000 in
set_option maxHeartbeats 4000000 in
theorem lok_71 : okLw 71 lrow_71 = true := by decide +kernel
def lrow_72 : List CI := [some (.invokevirtual 202, 3), none, none, some (.istore 7, 2), none, some (.aload_n 2, 1), some (.invokevirtual 155, 3), none, none, some (.iload 6, 2), none, some (.if_icmp .eq 5, 3), none, none, some (.iconst 0, 1), some (.ireturn, 1)]
set_option maxRecDepth 100000 in
set_option maxHeartbeats 4000000 in
theorem lok_72 : okLw 72 lrow_72 = true := by decide +kernel
def lrow_73 : List CI := [some (.iload 6, 2), none, some (.ifCond .ne 15, 3), none, none, some (.aload_n 3, 1), some (.iconst 0, 1), some (.laload, 1), some (.iload 7, 2), none, some (.i2l, 1), some (.lcmp, 1), some (.ifCond .eq 5, 3), none, none, some (.iconst 0, 1)]
set_option maxRecDepth 100000 in
set_option maxHeartbeats 4000000 in
theorem lok_73 : okLw 73 lrow_73 = true := by decide +kernel
def lrow_74 : List CI := [some (.ireturn, 1), some (.goto 1753, 3), none, none, some (.aload_n 1, 1), some (.aload_n 0, 1), some (.iload 5, 2), none, some (.iconst 1, 1), some (.iadd, 1), some (.iaload, 1), some (.aload_n 0, 1), some (.iload 5, 2), none, some (.iconst 2, 1), some (.iadd, 1)]
set_option maxRecDepth 100000 in
set_option maxHeartbeats 4000000 in
theorem lok_74 : okLw 74 lrow_74 = true := by decide +kernel
def lrow_75 : List CI := [some (.iaload, 1), some (.aload_n 3, 1), some (.invokestatic 203, 3), none, none, some (.istore 6, 2), none, some (.aload_n 2, 1), some (.aload_n 0, 1), some (.iload 5, 2), none, some (.iconst 1, 1), some (.iadd, 1), some (.iaload, 1), some (.aload_n 0, 1), some (.iload 5, 2)]
set_option maxRecDepth 100000 in
set_option maxHeartbeats 4000000 in
theorem lok_75 : okLw 75 lrow_75 = true := by decide +kernel
def lrow_76 : List CI := [none, some (.iconst 2, 1), some (.iadd, 1), some (.iaload, 1), some (.invokevirtual 205, 3), none, none, some (.istore 7, 2), none, some (.aload_n 2, 1), some (.invokevirtual 155, 3), none, none, some (.iload 6, 2), none, some (.if_icmp .eq 5, 3)]
set_option maxRecDepth 100000 in
set_option maxHeartbeats 4000000 in
theorem lok_76 : okLw 76 lrow_76 = true := by decide +kernel
def lrow_77 : List CI := [none, none, some (.iconst 0, 1), some (.ireturn, 1), some (.iload 6, 2), none, some (.ifCond .ne 15, 3), none, none, some (.aload_n 3, 1), some (.iconst 0, 1), some (.laload, 1), some (.iload 7, 2), none, some (.i2l, 1), some (.lcmp, 1)]
set_option maxRecDepth 100000 in
set_option maxHeartbeats 4000000 in
theorem lok_77 : okLw 77 lrow_77 = true := by decide +kernel
def lrow_78 : List CI := [some (.ifCond .eq 5, 3), none, none, some (.iconst 0, 1), some (.ireturn, 1), some (.goto 1685, 3), none, none, some (.aload_n 1, 1), some (.aload_n 0, 1), some (.iload 5, 2), none, some (.iconst 1, 1), some (.iadd, 1), some (.iaload, 1), some (.aload_n 0, 1)]
set_option maxRecDepth 100000 in
set_option maxHeartbeats 4000000 in
theorem lok_78 : okLw 78 lrow_78 = true := by decide +kernel
def lrow_79 : List CI := [some (.iload 5, 2), none, some (.iconst 2, 1), some (.iadd, 1), some (.iaload, 1), some (.aload_n 3, 1), some (.invokestatic 206, 3), none, none, some (.istore 6, 2), none, some (.aload_n 2, 1), some (.aload_n 0, 1), some (.iload 5, 2), none, some (.iconst 1, 1)]
set_option maxRecDepth 100000 in
set_option maxHeartbeats 4000000 in
theorem lok_79 : okLw 79 lrow_79 = true := by decide +kernel
def lgrp_4 : List (List CI) := [lrow_64, lrow_65, lrow_66, lrow_67, lrow_68, lrow_69, lrow_70, lrow_71, lrow_72, lrow_73, lrow_74, lrow_75, lrow_76, lrow_77, lrow_78, lrow_79]
theorem lgk_4 : ∀ (j : Nat) (r : List CI), lgrp_4[j]? = some r → okLw (16 * 4 + j) r = true := by
  intro j r h
  match j, h with
  | 0, h => cases h; exact lok_64
  | 1, h => cases h; exact lok_65
  | 2, h => cases h; exact lok_66
  | 3, h => cases h; exact lok_67
  | 4, h => cases h; exact lok_68
  | 5, h => cases h; exact lok_69
  | 6, h => cases h; exact lok_70
  | 7, h => cases h; exact lok_71
  | 8, h => cases h; exact lok_72
  | 9, h => cases h; exact lok_73
  | 10, h => cases h; exact lok_74
  | 11, h => cases h; exact lok_75
  | 12, h => cases h; exact lok_76
  | 13, h => cases h; exact lok_77
  | 14, h => cases h; exact lok_78
  | 15, h => cases h; exact lok_79
  | j + 16, h => exact absurd h (by simp [lgrp_4])
def lrow_80 : List CI := [some (.iadd, 1), some (.iaload, 1), some (.aload_n 0, 1), some (.iload 5, 2), none, some (.iconst 2, 1), some (.iadd, 1), some (.iaload, 1), some (.invokevirtual 208, 3), none, none, some (.istore 7, 2), none, some (.aload_n 2, 1), some (.invokevirtual 155, 3), none]
set_option maxRecDepth 100000 in
set_option maxHeartbeats 4000000 in
theorem lok_80 : okLw 80 lrow_80 = true := by decide +kernel
def lrow_81 : List CI := [none, some (.iload 6, 2), none, some (.if_icmp .eq 5, 3), none, none, some (.iconst 0, 1), some (.ireturn, 1), some (.iload 6, 2), none, some (.ifCond .ne 15, 3), none, none, some (.aload_n 3, 1), some (.iconst 0, 1), some (.laload, 1)]
set_option maxRecDepth 100000 in
set_option maxHeartbeats 4000000 in
theorem lok_81 : okLw 81 lrow_81 = true := by decide +kernel
def lrow_82 : List CI := [some (.iload 7, 2), none, some (.i2l, 1), some (.lcmp, 1), some (.ifCond .eq 5, 3), none, none, some (.iconst 0, 1), some (.ireturn, 1), some (.goto 1617, 3), none, none, some (.aload_n 1, 1), some (.aload_n 0, 1), some (.iload 5, 2), none]
set_option maxRecDepth 100000 in
set_option maxHeartbeats 4000000 in
theorem lok_82 : okLw 82 lrow_82 = true := by decide +kernel
def lrow_83 : List CI := [some (.iconst 1, 1), some (.iadd, 1), some (.iaload, 1), some (.aload_n 0, 1), some (.iload 5, 2), none, some (.iconst 2, 1), some (.iadd, 1), some (.iaload, 1), some (.aload_n 3, 1), some (.invokestatic 209, 3), none, none, some (.istore 6, 2), none, some (.aload_n 2, 1)]
set_option maxRecDepth 100000 in
set_option maxHeartbeats 4000000 in
theorem lok_83 : okLw 83 lrow_83 = true := by decide +kernel
def lrow_84 : List CI := [some (.aload_n 0, 1), some (.iload 5, 2), none, some (.iconst 1, 1), some (.iadd, 1), some (.iaload, 1), some (.aload_n 0, 1), some (.iload 5, 2), none, some (.iconst 2, 1), some (.iadd, 1), some (.iaload, 1), some (.invokevirtual 211, 3), none, none, some (.istore 7, 2)]
set_option maxRecDepth 100000 in
set_option maxHeartbeats 4000000 in
theorem lok_84 : okLw 84 lrow_84 = true := by decide +kernel
def lrow_85 : List CI := [none, some (.aload_n 2, 1), some (.invokevirtual 155, 3), none, none, some (.iload 6, 2), none, some (.if_icmp .eq 5, 3), none, none, some (.iconst 0, 1), some (.ireturn, 1), some (.iload 6, 2), none, some (.ifCond .ne 15, 3), none]
set_option maxRecDepth 100000 in
set_option maxHeartbeats 4000000 in
theorem lok_85 : okLw 85 lrow_85 = true := by decide +kernel
def lrow_86 : List CI := [none, some (.aload_n 3, 1), some (.iconst 0, 1), some (.laload, 1), some (.iload 7, 2), none, some (.i2l, 1), some (.lcmp, 1), some (.ifCond .eq 5, 3), none, none, some (.iconst 0, 1), some (.ireturn, 1), some (.goto 1549, 3), none, none]
set_option maxRecDepth 100000 in
set_option maxHeartbeats 4000000 in
theorem lok_86 : okLw 86 lrow_86 = true := by decide +kernel
def lrow_87 : List CI := [some (.aload_n 1, 1), some (.aload_n 0, 1), some (.iload 5, 2), none, some (.iconst 1, 1), some (.iadd, 1), some (.iaload, 1), some (.aload_n 0, 1), some (.iload 5, 2), none, some (.iconst 2, 1), some (.iadd, 1), some (.iaload, 1), some (.aload_n 0, 1), some (.iload 5, 2), none]
set_option maxRecDepth 100000 in
set_option maxHeartbeats 4000000 in
theorem lok_87 : okLw 87 lrow_87 = true := by decide +kernel
def lrow_88 : List CI := [some (.iconst 3, 1), some (.iadd, 1), some (.iaload, 1), some (.aload_n 0, 1), some (.iload 5, 2), none, some (.iconst 4, 1), some (.iadd, 1), some (.iaload, 1), some (.i2c, 1), some (.aload_n 3, 1), some (.invokestatic 212, 3), none, none, some (.istore 6, 2), none]
set_option maxRecDepth 100000 in
set_option maxHeartbeats 4000000 in
theorem lok_88 : okLw 88 lrow_88 = true := by decide +kernel
def lrow_89 : List CI := [some (.aload_n 2, 1), some (.aload_n 0, 1), some (.iload 5, 2), none, some (.iconst 1, 1), some (.iadd, 1), some (.iaload, 1), some (.aload_n 0, 1), some (.iload 5, 2), none, some (.iconst 2, 1), some (.iadd, 1), some (.iaload, 1), some (.aload_n 0, 1), some (.iload 5, 2), none]
set_option maxRecDepth 100000 in
set_option maxHeartbeats 4000000 in
theorem lok_89 : okLw 89 lrow_89 = true := by decide +kernel
def lrow_90 : List CI := [some (.iconst 3, 1), some (.iadd, 1), some (.iaload, 1), some (.aload_n 0, 1), some (.iload 5, 2), none, some (.iconst 4, 1), some (.iadd, 1), some (.iaload, 1), some (.i2c, 1), some (.invokevirtual 215, 3), none, none, some (.istore 7, 2), none, some (.aload_n 2, 1)]
set_option maxRecDepth 100000 in
set_option maxHeartbeats 4000000 in
theorem lok_90 : okLw 90 lrow_90 = true := by decide +kernel
def lrow_91 : List CI := [some (.invokevirtual 155, 3), none, none, some (.iload 6, 2), none, some (.if_icmp .eq 5, 3), none, none, some (.iconst 0, 1), some (.ireturn, 1), some (.iload 6, 2), none, some (.ifCond .ne 15, 3), none, none, some (.aload_n 3, 1)]
set_option maxRecDepth 100000 in
set_option maxHeartbeats 4000000 in
theorem lok_91 : okLw 91 lrow_91 = true := by decide +kernel
def lrow_92 : List CI := [some (.iconst 0, 1), some (.laload, 1), some (.iload 7, 2), none, some (.i2l, 1), some (.lcmp, 1), some (.ifCond .eq 5, 3), none, none, some (.iconst 0, 1), some (.ireturn, 1), some (.goto 1455, 3), none, none, some (.aload_n 1, 1), some (.aload_n 0, 1)]
set_option maxRecDepth 100000 in
set_option maxHeartbeats 4000000 in
theorem lok_92 : okLw 92 lrow_92 = true := by decide +kernel
def lrow_93 : List CI := [some (.iload 5, 2), none, some (.iconst 1, 1), some (.iadd, 1), some (.iaload, 1), some (.aload_n 0, 1), some (.iload 5, 2), none, some (.iconst 2, 1), some (.iadd, 1), some (.iaload, 1), some (.aload_n 0, 1), some (.iload 5, 2), none, some (.iconst 3, 1), some (.iadd, 1)]
set_option maxRecDepth 100000 in
set_option maxHeartbeats 4000000 in
theorem lok_93 : okLw 93 lrow_93 = true := by decide +kernel
def lrow_94 : List CI := [some (.iaload, 1), some (.aload_n 0, 1), some (.iload 5, 2), none, some (.iconst 4, 1), some (.iadd, 1), some (.iaload, 1), some (.i2c, 1), some (.aload_n 3, 1), some (.invokestatic 216, 3), none, none, some (.istore 6, 2), none, some (.aload_n 2, 1), some (.aload_n 0, 1)]
set_option maxRecDepth 100000 in
set_option maxHeartbeats 4000000 in
theorem lok_94 : okLw 94 lrow_94 = true := by decide +kernel
def lrow_95 : List CI := [some (.iload 5, 2), none, some (.iconst 1, 1), some (.iadd, 1), some (.iaload, 1), some (.aload_n 0, 1), some (.iload 5, 2), none, some (.iconst 2, 1), some (.iadd, 1), some (.iaload, 1), some (.aload_n 0, 1), some (.iload 5, 2), none, some (.iconst 3, 1), some (.iadd, 1)]
set_option maxRecDepth 100000 in
set_option maxHeartbeats 4000000 in
theorem lok_95 : okLw 95 lrow_95 = true := by decide +kernel
def lgrp_5 : List (List CI) := [lrow_80, lrow_81, lrow_82, lrow_83, lrow_84, lrow_85, lrow_86, lrow_87, lrow_88, lrow_89, lrow_90, lrow_91, lrow_92, lrow_93, lrow_94, lrow_95]
theorem lgk_5 : ∀ (j : Nat) (r : List CI), lgrp_5[j]? = some r → okLw (16 * 5 + j) r = true := by
  intro j r h
  match j, h with
  | 0, h => cases h; exact lok_80
  | 1, h => cases h; exact lok_81
  | 2, h => cases h; exact lok_82
  | 3, h => cases h; exact lok_83
  | 4, h => cases h; exact lok_84
  | 5, h => cases h; exact lok_85
  | 6, h => cases h; exact lok_86
  | 7, h => cases h; exact lok_87
  | 8, h => cases h; exact lok_88
  | 9, h => cases h; exact lok_89
  | 10, h => cases h; exact lok_90
  | 11, h => cases h; exact lok_91
  | 12, h => cases h; exact lok_92
  | 13, h => cases h; exact lok_93
  | 14, h => cases h; exact lok_94
  | 15, h => cases h; exact lok_95
  | j + 16, h => exact absurd h (by simp [lgrp_5])
