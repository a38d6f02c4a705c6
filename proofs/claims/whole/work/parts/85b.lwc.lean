/-! the law's own instructions, second half -/
def lrow_96 : List CI := [some (.iaload, 1), some (.aload_n 0, 1), some (.iload 5, 2), none, some (.iconst 4, 1), some (.iadd, 1), some (.iaload, 1), some (.i2c, 1), some (.invokevirtual 218, 3), none, none, some (.istore 7, 2), none, some (.aload_n 2, 1), some (.invokevirtual 155, 3), none]
set_option maxRecDepth 100000 in
set_option maxHeartbeats 4000000 in
theorem lok_96 : okLw 96 lrow_96 = true := by decide +kernel
def lrow_97 : List CI := [none, some (.iload 6, 2), none, some (.if_icmp .eq 5, 3), none, none, some (.iconst 0, 1), some (.ireturn, 1), some (.iload 6, 2), none, some (.ifCond .ne 15, 3), none, none, some (.aload_n 3, 1), some (.iconst 0, 1), some (.laload, 1)]
set_option maxRecDepth 100000 in
set_option maxHeartbeats 4000000 in
theorem lok_97 : okLw 97 lrow_97 = true := by decide +kernel
def lrow_98 : List CI := [some (.iload 7, 2), none, some (.i2l, 1), some (.lcmp, 1), some (.ifCond .eq 5, 3), none, none, some (.iconst 0, 1), some (.ireturn, 1), some (.goto 1361, 3), none, none, some (.aload_n 1, 1), some (.aload_n 0, 1), some (.iload 5, 2), none]
set_option maxRecDepth 100000 in
set_option maxHeartbeats 4000000 in
theorem lok_98 : okLw 98 lrow_98 = true := by decide +kernel
def lrow_99 : List CI := [some (.iconst 1, 1), some (.iadd, 1), some (.iaload, 1), some (.aload_n 0, 1), some (.iload 5, 2), none, some (.iconst 2, 1), some (.iadd, 1), some (.iaload, 1), some (.aload_n 3, 1), some (.invokestatic 219, 3), none, none, some (.istore 6, 2), none, some (.aload_n 2, 1)]
set_option maxRecDepth 100000 in
set_option maxHeartbeats 4000000 in
theorem lok_99 : okLw 99 lrow_99 = true := by decide +kernel
def lrow_100 : List CI := [some (.aload_n 0, 1), some (.iload 5, 2), none, some (.iconst 1, 1), some (.iadd, 1), some (.iaload, 1), some (.aload_n 0, 1), some (.iload 5, 2), none, some (.iconst 2, 1), some (.iadd, 1), some (.iaload, 1), some (.invokevirtual 221, 3), none, none, some (.istore 7, 2)]
set_option maxRecDepth 100000 in
set_option maxHeartbeats 4000000 in
theorem lok_100 : okLw 100 lrow_100 = true := by decide +kernel
def lrow_101 : List CI := [none, some (.aload_n 2, 1), some (.invokevirtual 155, 3), none, none, some (.iload 6, 2), none, some (.if_icmp .eq 5, 3), none, none, some (.iconst 0, 1), some (.ireturn, 1), some (.iload 6, 2), none, some (.ifCond .ne 15, 3), none]
set_option maxRecDepth 100000 in
set_option maxHeartbeats 4000000 in
theorem lok_101 : okLw 101 lrow_101 = true := by decide +kernel
def lrow_102 : List CI := [none, some (.aload_n 3, 1), some (.iconst 0, 1), some (.laload, 1), some (.iload 7, 2), none, some (.i2l, 1), some (.lcmp, 1), some (.ifCond .eq 5, 3), none, none, some (.iconst 0, 1), some (.ireturn, 1), some (.goto 1293, 3), none, none]
set_option maxRecDepth 100000 in
set_option maxHeartbeats 4000000 in
theorem lok_102 : okLw 102 lrow_102 = true := by decide +kernel
def lrow_103 : List CI := [some (.aload_n 1, 1), some (.aload_n 0, 1), some (.iload 5, 2), none, some (.iconst 1, 1), some (.iadd, 1), some (.iaload, 1), some (.aload_n 0, 1), some (.iload 5, 2), none, some (.iconst 2, 1), some (.iadd, 1), some (.iaload, 1), some (.aload_n 3, 1), some (.invokestatic 222, 3), none]
set_option maxRecDepth 100000 in
set_option maxHeartbeats 4000000 in
theorem lok_103 : okLw 103 lrow_103 = true := by decide +kernel
def lrow_104 : List CI := [none, some (.istore 6, 2), none, some (.aload_n 2, 1), some (.aload_n 0, 1), some (.iload 5, 2), none, some (.iconst 1, 1), some (.iadd, 1), some (.iaload, 1), some (.aload_n 0, 1), some (.iload 5, 2), none, some (.iconst 2, 1), some (.iadd, 1), some (.iaload, 1)]
set_option maxRecDepth 100000 in
set_option maxHeartbeats 4000000 in
theorem lok_104 : okLw 104 lrow_104 = true := by decide +kernel
def lrow_105 : List CI := [some (.invokevirtual 224, 3), none, none, some (.istore 7, 2), none, some (.aload_n 2, 1), some (.invokevirtual 155, 3), none, none, some (.iload 6, 2), none, some (.if_icmp .eq 5, 3), none, none, some (.iconst 0, 1), some (.ireturn, 1)]
set_option maxRecDepth 100000 in
set_option maxHeartbeats 4000000 in
theorem lok_105 : okLw 105 lrow_105 = true := by decide +kernel
def lrow_106 : List CI := [some (.iload 6, 2), none, some (.ifCond .ne 15, 3), none, none, some (.aload_n 3, 1), some (.iconst 0, 1), some (.laload, 1), some (.iload 7, 2), none, some (.i2l, 1), some (.lcmp, 1), some (.ifCond .eq 5, 3), none, none, some (.iconst 0, 1)]
set_option maxRecDepth 100000 in
set_option maxHeartbeats 4000000 in
theorem lok_106 : okLw 106 lrow_106 = true := by decide +kernel
def lrow_107 : List CI := [some (.ireturn, 1), some (.goto 1225, 3), none, none, some (.aload_n 1, 1), some (.aload_n 0, 1), some (.iload 5, 2), none, some (.iconst 1, 1), some (.iadd, 1), some (.iaload, 1), some (.aload_n 0, 1), some (.iload 5, 2), none, some (.iconst 2, 1), some (.iadd, 1)]
set_option maxRecDepth 100000 in
set_option maxHeartbeats 4000000 in
theorem lok_107 : okLw 107 lrow_107 = true := by decide +kernel
def lrow_108 : List CI := [some (.iaload, 1), some (.aload_n 0, 1), some (.iload 5, 2), none, some (.iconst 3, 1), some (.iadd, 1), some (.iaload, 1), some (.aload_n 3, 1), some (.invokestatic 225, 3), none, none, some (.istore 6, 2), none, some (.aload_n 2, 1), some (.aload_n 0, 1), some (.iload 5, 2)]
set_option maxRecDepth 100000 in
set_option maxHeartbeats 4000000 in
theorem lok_108 : okLw 108 lrow_108 = true := by decide +kernel
def lrow_109 : List CI := [none, some (.iconst 1, 1), some (.iadd, 1), some (.iaload, 1), some (.aload_n 0, 1), some (.iload 5, 2), none, some (.iconst 2, 1), some (.iadd, 1), some (.iaload, 1), some (.aload_n 0, 1), some (.iload 5, 2), none, some (.iconst 3, 1), some (.iadd, 1), some (.iaload, 1)]
set_option maxRecDepth 100000 in
set_option maxHeartbeats 4000000 in
theorem lok_109 : okLw 109 lrow_109 = true := by decide +kernel
def lrow_110 : List CI := [some (.invokevirtual 227, 3), none, none, some (.istore 7, 2), none, some (.aload_n 2, 1), some (.invokevirtual 155, 3), none, none, some (.iload 6, 2), none, some (.if_icmp .eq 5, 3), none, none, some (.iconst 0, 1), some (.ireturn, 1)]
set_option maxRecDepth 100000 in
set_option maxHeartbeats 4000000 in
theorem lok_110 : okLw 110 lrow_110 = true := by decide +kernel
def lrow_111 : List CI := [some (.iload 6, 2), none, some (.ifCond .ne 15, 3), none, none, some (.aload_n 3, 1), some (.iconst 0, 1), some (.laload, 1), some (.iload 7, 2), none, some (.i2l, 1), some (.lcmp, 1), some (.ifCond .eq 5, 3), none, none, some (.iconst 0, 1)]
set_option maxRecDepth 100000 in
set_option maxHeartbeats 4000000 in
theorem lok_111 : okLw 111 lrow_111 = true := by decide +kernel
def lgrp_6 : List (List CI) := [lrow_96, lrow_97, lrow_98, lrow_99, lrow_100, lrow_101, lrow_102, lrow_103, lrow_104, lrow_105, lrow_106, lrow_107, lrow_108, lrow_109, lrow_110, lrow_111]
theorem lgk_6 : ∀ (j : Nat) (r : List CI), lgrp_6[j]? = some r → okLw (16 * 6 + j) r = true := by
  intro j r h
  match j, h with
  | 0, h => cases h; exact lok_96
  | 1, h => cases h; exact lok_97
  | 2, h => cases h; exact lok_98
  | 3, h => cases h; exact lok_99
  | 4, h => cases h; exact lok_100
  | 5, h => cases h; exact lok_101
  | 6, h => cases h; exact lok_102
  | 7, h => cases h; exact lok_103
  | 8, h => cases h; exact lok_104
  | 9, h => cases h; exact lok_105
  | 10, h => cases h; exact lok_106
  | 11, h => cases h; exact lok_107
  | 12, h => cases h; exact lok_108
  | 13, h => cases h; exact lok_109
  | 14, h => cases h; exact lok_110
  | 15, h => cases h; exact lok_111
  | j + 16, h => exact absurd h (by simp [lgrp_6])
def lrow_112 : List CI := [some (.ireturn, 1), some (.goto 1145, 3), none, none, some (.aload_n 1, 1), some (.aload_n 0, 1), some (.iload 5, 2), none, some (.iconst 1, 1), some (.iadd, 1), some (.iaload, 1), some (.aload_n 3, 1), some (.invokestatic 228, 3), none, none, some (.istore 6, 2)]
set_option maxRecDepth 100000 in
set_option maxHeartbeats 4000000 in
theorem lok_112 : okLw 112 lrow_112 = true := by decide +kernel
def lrow_113 : List CI := [none, some (.aload_n 2, 1), some (.aload_n 0, 1), some (.iload 5, 2), none, some (.iconst 1, 1), some (.iadd, 1), some (.iaload, 1), some (.invokevirtual 230, 3), none, none, some (.istore 7, 2), none, some (.aload_n 2, 1), some (.invokevirtual 155, 3), none]
set_option maxRecDepth 100000 in
set_option maxHeartbeats 4000000 in
theorem lok_113 : okLw 113 lrow_113 = true := by decide +kernel
def lrow_114 : List CI := [none, some (.iload 6, 2), none, some (.if_icmp .eq 5, 3), none, none, some (.iconst 0, 1), some (.ireturn, 1), some (.iload 6, 2), none, some (.ifCond .ne 15, 3), none, none, some (.aload_n 3, 1), some (.iconst 0, 1), some (.laload, 1)]
set_option maxRecDepth 100000 in
set_option maxHeartbeats 4000000 in
theorem lok_114 : okLw 114 lrow_114 = true := by decide +kernel
def lrow_115 : List CI := [some (.iload 7, 2), none, some (.i2l, 1), some (.lcmp, 1), some (.ifCond .eq 5, 3), none, none, some (.iconst 0, 1), some (.ireturn, 1), some (.goto 1089, 3), none, none, some (.aload_n 1, 1), some (.aload_n 0, 1), some (.iload 5, 2), none]
set_option maxRecDepth 100000 in
set_option maxHeartbeats 4000000 in
theorem lok_115 : okLw 115 lrow_115 = true := by decide +kernel
def lrow_116 : List CI := [some (.iconst 1, 1), some (.iadd, 1), some (.iaload, 1), some (.aload_n 3, 1), some (.invokestatic 231, 3), none, none, some (.istore 6, 2), none, some (.aload_n 2, 1), some (.aload_n 0, 1), some (.iload 5, 2), none, some (.iconst 1, 1), some (.iadd, 1), some (.iaload, 1)]
set_option maxRecDepth 100000 in
set_option maxHeartbeats 4000000 in
theorem lok_116 : okLw 116 lrow_116 = true := by decide +kernel
def lrow_117 : List CI := [some (.invokevirtual 233, 3), none, none, some (.istore 7, 2), none, some (.aload_n 2, 1), some (.invokevirtual 155, 3), none, none, some (.iload 6, 2), none, some (.if_icmp .eq 5, 3), none, none, some (.iconst 0, 1), some (.ireturn, 1)]
set_option maxRecDepth 100000 in
set_option maxHeartbeats 4000000 in
theorem lok_117 : okLw 117 lrow_117 = true := by decide +kernel
def lrow_118 : List CI := [some (.iload 6, 2), none, some (.ifCond .ne 15, 3), none, none, some (.aload_n 3, 1), some (.iconst 0, 1), some (.laload, 1), some (.iload 7, 2), none, some (.i2l, 1), some (.lcmp, 1), some (.ifCond .eq 5, 3), none, none, some (.iconst 0, 1)]
set_option maxRecDepth 100000 in
set_option maxHeartbeats 4000000 in
theorem lok_118 : okLw 118 lrow_118 = true := by decide +kernel
def lrow_119 : List CI := [some (.ireturn, 1), some (.goto 1033, 3), none, none, some (.aload_n 1, 1), some (.aload_n 0, 1), some (.iload 5, 2), none, some (.iconst 1, 1), some (.iadd, 1), some (.iaload, 1), some (.aload_n 0, 1), some (.iload 5, 2), none, some (.iconst 2, 1), some (.iadd, 1)]
set_option maxRecDepth 100000 in
set_option maxHeartbeats 4000000 in
theorem lok_119 : okLw 119 lrow_119 = true := by decide +kernel
def lrow_120 : List CI := [some (.iaload, 1), some (.aload_n 3, 1), some (.invokestatic 234, 3), none, none, some (.istore 6, 2), none, some (.aload_n 2, 1), some (.aload_n 0, 1), some (.iload 5, 2), none, some (.iconst 1, 1), some (.iadd, 1), some (.iaload, 1), some (.aload_n 0, 1), some (.iload 5, 2)]
set_option maxRecDepth 100000 in
set_option maxHeartbeats 4000000 in
theorem lok_120 : okLw 120 lrow_120 = true := by decide +kernel
def lrow_121 : List CI := [none, some (.iconst 2, 1), some (.iadd, 1), some (.iaload, 1), some (.invokevirtual 236, 3), none, none, some (.istore 7, 2), none, some (.aload_n 2, 1), some (.invokevirtual 155, 3), none, none, some (.iload 6, 2), none, some (.if_icmp .eq 5, 3)]
set_option maxRecDepth 100000 in
set_option maxHeartbeats 4000000 in
theorem lok_121 : okLw 121 lrow_121 = true := by decide +kernel
def lrow_122 : List CI := [none, none, some (.iconst 0, 1), some (.ireturn, 1), some (.iload 6, 2), none, some (.ifCond .ne 15, 3), none, none, some (.aload_n 3, 1), some (.iconst 0, 1), some (.laload, 1), some (.iload 7, 2), none, some (.i2l, 1), some (.lcmp, 1)]
set_option maxRecDepth 100000 in
set_option maxHeartbeats 4000000 in
theorem lok_122 : okLw 122 lrow_122 = true := by decide +kernel
def lrow_123 : List CI := [some (.ifCond .eq 5, 3), none, none, some (.iconst 0, 1), some (.ireturn, 1), some (.goto 965, 3), none, none, some (.aload_n 1, 1), some (.aload_n 0, 1), some (.iload 5, 2), none, some (.iconst 1, 1), some (.iadd, 1), some (.iaload, 1), some (.aload_n 0, 1)]
set_option maxRecDepth 100000 in
set_option maxHeartbeats 4000000 in
theorem lok_123 : okLw 123 lrow_123 = true := by decide +kernel
def lrow_124 : List CI := [some (.iload 5, 2), none, some (.iconst 2, 1), some (.iadd, 1), some (.iaload, 1), some (.aload_n 3, 1), some (.invokestatic 237, 3), none, none, some (.istore 6, 2), none, some (.aload_n 2, 1), some (.aload_n 0, 1), some (.iload 5, 2), none, some (.iconst 1, 1)]
set_option maxRecDepth 100000 in
set_option maxHeartbeats 4000000 in
theorem lok_124 : okLw 124 lrow_124 = true := by decide +kernel
def lrow_125 : List CI := [some (.iadd, 1), some (.iaload, 1), some (.aload_n 0, 1), some (.iload 5, 2), none, some (.iconst 2, 1), some (.iadd, 1), some (.iaload, 1), some (.invokevirtual 239, 3), none, none, some (.istore 7, 2), none, some (.aload_n 2, 1), some (.invokevirtual 155, 3), none]
set_option maxRecDepth 100000 in
set_option maxHeartbeats 4000000 in
theorem lok_125 : okLw 125 lrow_125 = true := by decide +kernel
def lrow_126 : List CI := [none, some (.iload 6, 2), none, some (.if_icmp .eq 5, 3), none, none, some (.iconst 0, 1), some (.ireturn, 1), some (.iload 6, 2), none, some (.ifCond .ne 15, 3), none, none, some (.aload_n 3, 1), some (.iconst 0, 1), some (.laload, 1)]
set_option maxRecDepth 100000 in
set_option maxHeartbeats 4000000 in
theorem lok_126 : okLw 126 lrow_126 = true := by decide +kernel
def lrow_127 : List CI := [some (.iload 7, 2), none, some (.i2l, 1), some (.lcmp, 1), some (.ifCond .eq 5, 3), none, none, some (.iconst 0, 1), some (.ireturn, 1), some (.goto 897, 3), none, none, some (.aload_n 1, 1), some (.aload_n 0, 1), some (.iload 5, 2), none]
set_option maxRecDepth 100000 in
set_option maxHeartbeats 4000000 in
theorem lok_127 : okLw 127 lrow_127 = true := by decide +kernel
def lgrp_7 : List (List CI) := [lrow_112, lrow_113, lrow_114, lrow_115, lrow_116, lrow_117, lrow_118, lrow_119, lrow_120, lrow_121, lrow_122, lrow_123, lrow_124, lrow_125, lrow_126, lrow_127]
theorem lgk_7 : ∀ (j : Nat) (r : List CI), lgrp_7[j]? = some r → okLw (16 * 7 + j) r = true := by
  intro j r h
  match j, h with
  | 0, h => cases h; exact lok_112
  | 1, h => cases h; exact lok_113
  | 2, h => cases h; exact lok_114
  | 3, h => cases h; exact lok_115
  | 4, h => cases h; exact lok_116
  | 5, h => cases h; exact lok_117
  | 6, h => cases h; exact lok_118
  | 7, h => cases h; exact lok_119
  | 8, h => cases h; exact lok_120
  | 9, h => cases h; exact lok_121
  | 10, h => cases h; exact lok_122
  | 11, h => cases h; exact lok_123
  | 12, h => cases h; exact lok_124
  | 13, h => cases h; exact lok_125
  | 14, h => cases h; exact lok_126
  | 15, h => cases h; exact lok_127
  | j + 16, h => exact absurd h (by simp [lgrp_7])
def lrow_128 : List CI := [some (.iconst 1, 1), some (.iadd, 1), some (.iaload, 1), some (.aload_n 0, 1), some (.iload 5, 2), none, some (.iconst 2, 1), some (.iadd, 1), some (.iaload, 1), some (.aload_n 3, 1), some (.invokestatic 240, 3), none, none, some (.istore 6, 2), none, some (.aload_n 2, 1)]
set_option maxRecDepth 100000 in
set_option maxHeartbeats 4000000 in
theorem lok_128 : okLw 128 lrow_128 = true := by decide +kernel
def lrow_129 : List CI := [some (.aload_n 0, 1), some (.iload 5, 2), none, some (.iconst 1, 1), some (.iadd, 1), some (.iaload, 1), some (.aload_n 0, 1), some (.iload 5, 2), none, some (.iconst 2, 1), some (.iadd, 1), some (.iaload, 1), some (.invokevirtual 242, 3), none, none, some (.istore 7, 2)]
set_option maxRecDepth 100000 in
set_option maxHeartbeats 4000000 in
theorem lok_129 : okLw 129 lrow_129 = true := by decide +kernel
def lrow_130 : List CI := [none, some (.aload_n 2, 1), some (.invokevirtual 155, 3), none, none, some (.iload 6, 2), none, some (.if_icmp .eq 5, 3), none, none, some (.iconst 0, 1), some (.ireturn, 1), some (.iload 6, 2), none, some (.ifCond .ne 15, 3), none]
set_option maxRecDepth 100000 in
set_option maxHeartbeats 4000000 in
theorem lok_130 : okLw 130 lrow_130 = true := by decide +kernel
def lrow_131 : List CI := [none, some (.aload_n 3, 1), some (.iconst 0, 1), some (.laload, 1), some (.iload 7, 2), none, some (.i2l, 1), some (.lcmp, 1), some (.ifCond .eq 5, 3), none, none, some (.iconst 0, 1), some (.ireturn, 1), some (.goto 829, 3), none, none]
set_option maxRecDepth 100000 in
set_option maxHeartbeats 4000000 in
theorem lok_131 : okLw 131 lrow_131 = true := by decide +kernel
def lrow_132 : List CI := [some (.aload_n 1, 1), some (.aload_n 0, 1), some (.iload 5, 2), none, some (.iconst 1, 1), some (.iadd, 1), some (.iaload, 1), some (.aload_n 0, 1), some (.iload 5, 2), none, some (.iconst 2, 1), some (.iadd, 1), some (.iaload, 1), some (.aload_n 3, 1), some (.invokestatic 243, 3), none]
set_option maxRecDepth 100000 in
set_option maxHeartbeats 4000000 in
theorem lok_132 : okLw 132 lrow_132 = true := by decide +kernel
def lrow_133 : List CI := [none, some (.istore 6, 2), none, some (.aload_n 2, 1), some (.aload_n 0, 1), some (.iload 5, 2), none, some (.iconst 1, 1), some (.iadd, 1), some (.iaload, 1), some (.aload_n 0, 1), some (.iload 5, 2), none, some (.iconst 2, 1), some (.iadd, 1), some (.iaload, 1)]
set_option maxRecDepth 100000 in
set_option maxHeartbeats 4000000 in
theorem lok_133 : okLw 133 lrow_133 = true := by decide +kernel
def lrow_134 : List CI := [some (.invokevirtual 245, 3), none, none, some (.istore 7, 2), none, some (.aload_n 2, 1), some (.invokevirtual 155, 3), none, none, some (.iload 6, 2), none, some (.if_icmp .eq 5, 3), none, none, some (.iconst 0, 1), some (.ireturn, 1)]
set_option maxRecDepth 100000 in
set_option maxHeartbeats 4000000 in
theorem lok_134 : okLw 134 lrow_134 = true := by decide +kernel
def lrow_135 : List CI := [some (.iload 6, 2), none, some (.ifCond .ne 15, 3), none, none, some (.aload_n 3, 1), some (.iconst 0, 1), some (.laload, 1), some (.iload 7, 2), none, some (.i2l, 1), some (.lcmp, 1), some (.ifCond .eq 5, 3), none, none, some (.iconst 0, 1)]
set_option maxRecDepth 100000 in
set_option maxHeartbeats 4000000 in
theorem lok_135 : okLw 135 lrow_135 = true := by decide +kernel
def lrow_136 : List CI := [some (.ireturn, 1), some (.goto 761, 3), none, none, some (.aload_n 1, 1), some (.aload_n 0, 1), some (.iload 5, 2), none, some (.iconst 1, 1), some (.iadd, 1), some (.iaload, 1), some (.aload_n 0, 1), some (.iload 5, 2), none, some (.iconst 2, 1), some (.iadd, 1)]
set_option maxRecDepth 100000 in
set_option maxHeartbeats 4000000 in
theorem lok_136 : okLw 136 lrow_136 = true := by decide +kernel
def lrow_137 : List CI := [some (.iaload, 1), some (.aload_n 3, 1), some (.invokestatic 246, 3), none, none, some (.istore 6, 2), none, some (.aload_n 2, 1), some (.aload_n 0, 1), some (.iload 5, 2), none, some (.iconst 1, 1), some (.iadd, 1), some (.iaload, 1), some (.aload_n 0, 1), some (.iload 5, 2)]
set_option maxRecDepth 100000 in
set_option maxHeartbeats 4000000 in
theorem lok_137 : okLw 137 lrow_137 = true := by decide +kernel
def lrow_138 : List CI := [none, some (.iconst 2, 1), some (.iadd, 1), some (.iaload, 1), some (.invokevirtual 248, 3), none, none, some (.istore 7, 2), none, some (.aload_n 2, 1), some (.invokevirtual 155, 3), none, none, some (.iload 6, 2), none, some (.if_icmp .eq 5, 3)]
set_option maxRecDepth 100000 in
set_option maxHeartbeats 4000000 in
theorem lok_138 : okLw 138 lrow_138 = true := by decide +kernel
def lrow_139 : List CI := [none, none, some (.iconst 0, 1), some (.ireturn, 1), some (.iload 6, 2), none, some (.ifCond .ne 15, 3), none, none, some (.aload_n 3, 1), some (.iconst 0, 1), some (.laload, 1), some (.iload 7, 2), none, some (.i2l, 1), some (.lcmp, 1)]
set_option maxRecDepth 100000 in
set_option maxHeartbeats 4000000 in
theorem lok_139 : okLw 139 lrow_139 = true := by decide +kernel
def lrow_140 : List CI := [some (.ifCond .eq 5, 3), none, none, some (.iconst 0, 1), some (.ireturn, 1), some (.goto 693, 3), none, none, some (.aload_n 1, 1), some (.aload_n 0, 1), some (.iload 5, 2), none, some (.iconst 1, 1), some (.iadd, 1), some (.iaload, 1), some (.aload_n 0, 1)]
set_option maxRecDepth 100000 in
set_option maxHeartbeats 4000000 in
theorem lok_140 : okLw 140 lrow_140 = true := by decide +kernel
def lrow_141 : List CI := [some (.iload 5, 2), none, some (.iconst 2, 1), some (.iadd, 1), some (.iaload, 1), some (.aload_n 3, 1), some (.invokestatic 249, 3), none, none, some (.istore 6, 2), none, some (.aload_n 2, 1), some (.aload_n 0, 1), some (.iload 5, 2), none, some (.iconst 1, 1)]
set_option maxRecDepth 100000 in
set_option maxHeartbeats 4000000 in
theorem lok_141 : okLw 141 lrow_141 = true := by decide +kernel
def lrow_142 : List CI := [some (.iadd, 1), some (.iaload, 1), some (.aload_n 0, 1), some (.iload 5, 2), none, some (.iconst 2, 1), some (.iadd, 1), some (.iaload, 1), some (.invokevirtual 251, 3), none, none, some (.istore 7, 2), none, some (.aload_n 2, 1), some (.invokevirtual 155, 3), none]
set_option maxRecDepth 100000 in
set_option maxHeartbeats 4000000 in
theorem lok_142 : okLw 142 lrow_142 = true := by decide +kernel
def lrow_143 : List CI := [none, some (.iload 6, 2), none, some (.if_icmp .eq 5, 3), none, none, some (.iconst 0, 1), some (.ireturn, 1), some (.iload 6, 2), none, some (.ifCond .ne 15, 3), none, none, some (.aload_n 3, 1), some (.iconst 0, 1), some (.laload, 1)]
set_option maxRecDepth 100000 in
set_option maxHeartbeats 4000000 in
theorem lok_143 : okLw 143 lrow_143 = true := by decide +kernel
def lgrp_8 : List (List CI) := [lrow_128, lrow_129, lrow_130, lrow_131, lrow_132, lrow_133, lrow_134, lrow_135, lrow_136, lrow_137, lrow_138, lrow_139, lrow_140, lrow_141, lrow_142, lrow_143]
theorem lgk_8 : ∀ (j : Nat) (r : List CI), lgrp_8[j]? = some r → okLw (16 * 8 + j) r = true := by
  intro j r h
  match j, h with
  | 0, h => cases h; exact lok_128
  | 1, h => cases h; exact lok_129
  | 2, h => cases h; exact lok_130
  | 3, h => cases h; exact lok_131
  | 4, h => cases h; exact lok_132
  | 5, h => cases h; exact lok_133
  | 6, h => cases h; exact lok_134
  | 7, h => cases h; exact lok_135
  | 8, h => cases h; exact lok_136
  | 9, h => cases h; exact lok_137
  | 10, h => cases h; exact lok_138
  | 11, h => cases h; exact lok_139
  | 12, h => cases h; exact lok_140
  | 13, h => cases h; exact lok_141
  | 14, h => cases h; exact lok_142
  | 15, h => cases h; exact lok_143
  | j + 16, h => exact absurd h (by simp [lgrp_8])
def lrow_144 : List CI := [some (.iload 7, 2), none, some (.i2l, 1), some (.lcmp, 1), some (.ifCond .eq 5, 3), none, none, some (.iconst 0, 1), some (.ireturn, 1), some (.goto 625, 3), none, none, some (.aload_n 1, 1), some (.aload_n 0, 1), some (.iload 5, 2), none]
set_option maxRecDepth 100000 in
set_option maxHeartbeats 4000000 in
theorem lok_144 : okLw 144 lrow_144 = true := by decide +kernel
def lrow_145 : List CI := [some (.iconst 1, 1), some (.iadd, 1), some (.iaload, 1), some (.aload_n 0, 1), some (.iload 5, 2), none, some (.iconst 2, 1), some (.iadd, 1), some (.iaload, 1), some (.aload_n 3, 1), some (.invokestatic 252, 3), none, none, some (.istore 6, 2), none, some (.aload_n 2, 1)]
set_option maxRecDepth 100000 in
set_option maxHeartbeats 4000000 in
theorem lok_145 : okLw 145 lrow_145 = true := by decide +kernel
def lrow_146 : List CI := [some (.aload_n 0, 1), some (.iload 5, 2), none, some (.iconst 1, 1), some (.iadd, 1), some (.iaload, 1), some (.aload_n 0, 1), some (.iload 5, 2), none, some (.iconst 2, 1), some (.iadd, 1), some (.iaload, 1), some (.invokevirtual 254, 3), none, none, some (.istore 7, 2)]
set_option maxRecDepth 100000 in
set_option maxHeartbeats 4000000 in
theorem lok_146 : okLw 146 lrow_146 = true := by decide +kernel
def lrow_147 : List CI := [none, some (.aload_n 2, 1), some (.invokevirtual 155, 3), none, none, some (.iload 6, 2), none, some (.if_icmp .eq 5, 3), none, none, some (.iconst 0, 1), some (.ireturn, 1), some (.iload 6, 2), none, some (.ifCond .ne 15, 3), none]
set_option maxRecDepth 100000 in
set_option maxHeartbeats 4000000 in
theorem lok_147 : okLw 147 lrow_147 = true := by decide +kernel
def lrow_148 : List CI := [none, some (.aload_n 3, 1), some (.iconst 0, 1), some (.laload, 1), some (.iload 7, 2), none, some (.i2l, 1), some (.lcmp, 1), some (.ifCond .eq 5, 3), none, none, some (.iconst 0, 1), some (.ireturn, 1), some (.goto 557, 3), none, none]
set_option maxRecDepth 100000 in
set_option maxHeartbeats 4000000 in
theorem lok_148 : okLw 148 lrow_148 = true := by decide +kernel
def lrow_149 : List CI := [some (.aload_n 1, 1), some (.aload_n 0, 1), some (.iload 5, 2), none, some (.iconst 1, 1), some (.iadd, 1), some (.iaload, 1), some (.aload_n 0, 1), some (.iload 5, 2), none, some (.iconst 2, 1), some (.iadd, 1), some (.iaload, 1), some (.aload_n 3, 1), some (.invokestatic 255, 3), none]
set_option maxRecDepth 100000 in
set_option maxHeartbeats 4000000 in
theorem lok_149 : okLw 149 lrow_149 = true := by decide +kernel
def lrow_150 : List CI := [none, some (.istore 6, 2), none, some (.aload_n 2, 1), some (.aload_n 0, 1), some (.iload 5, 2), none, some (.iconst 1, 1), some (.iadd, 1), some (.iaload, 1), some (.aload_n 0, 1), some (.iload 5, 2), none, some (.iconst 2, 1), some (.iadd, 1), some (.iaload, 1)]
set_option maxRecDepth 100000 in
set_option maxHeartbeats 4000000 in
theorem lok_150 : okLw 150 lrow_150 = true := by decide +kernel
def lrow_151 : List CI := [some (.invokevirtual 257, 3), none, none, some (.istore 7, 2), none, some (.aload_n 2, 1), some (.invokevirtual 155, 3), none, none, some (.iload 6, 2), none, some (.if_icmp .eq 5, 3), none, none, some (.iconst 0, 1), some (.ireturn, 1)]
set_option maxRecDepth 100000 in
set_option maxHeartbeats 4000000 in
theorem lok_151 : okLw 151 lrow_151 = true := by decide +kernel
def lrow_152 : List CI := [some (.iload 6, 2), none, some (.ifCond .ne 15, 3), none, none, some (.aload_n 3, 1), some (.iconst 0, 1), some (.laload, 1), some (.iload 7, 2), none, some (.i2l, 1), some (.lcmp, 1), some (.ifCond .eq 5, 3), none, none, some (.iconst 0, 1)]
set_option maxRecDepth 100000 in
set_option maxHeartbeats 4000000 in
theorem lok_152 : okLw 152 lrow_152 = true := by decide +kernel
def lrow_153 : List CI := [some (.ireturn, 1), some (.goto 489, 3), none, none, some (.aload_n 1, 1), some (.aload_n 0, 1), some (.iload 5, 2), none, some (.iconst 1, 1), some (.iadd, 1), some (.iaload, 1), some (.aload_n 0, 1), some (.iload 5, 2), none, some (.iconst 2, 1), some (.iadd, 1)]
set_option maxRecDepth 100000 in
set_option maxHeartbeats 4000000 in
theorem lok_153 : okLw 153 lrow_153 = true := by decide +kernel
def lrow_154 : List CI := [some (.iaload, 1), some (.aload_n 3, 1), some (.invokestatic 258, 3), none, none, some (.istore 6, 2), none, some (.aload_n 2, 1), some (.aload_n 0, 1), some (.iload 5, 2), none, some (.iconst 1, 1), some (.iadd, 1), some (.iaload, 1), some (.aload_n 0, 1), some (.iload 5, 2)]
set_option maxRecDepth 100000 in
set_option maxHeartbeats 4000000 in
theorem lok_154 : okLw 154 lrow_154 = true := by decide +kernel
def lrow_155 : List CI := [none, some (.iconst 2, 1), some (.iadd, 1), some (.iaload, 1), some (.invokevirtual 260, 3), none, none, some (.istore 7, 2), none, some (.aload_n 2, 1), some (.invokevirtual 155, 3), none, none, some (.iload 6, 2), none, some (.if_icmp .eq 5, 3)]
set_option maxRecDepth 100000 in
set_option maxHeartbeats 4000000 in
theorem lok_155 : okLw 155 lrow_155 = true := by decide +kernel
def lrow_156 : List CI := [none, none, some (.iconst 0, 1), some (.ireturn, 1), some (.iload 6, 2), none, some (.ifCond .ne 15, 3), none, none, some (.aload_n 3, 1), some (.iconst 0, 1), some (.laload, 1), some (.iload 7, 2), none, some (.i2l, 1), some (.lcmp, 1)]
set_option maxRecDepth 100000 in
set_option maxHeartbeats 4000000 in
theorem lok_156 : okLw 156 lrow_156 = true := by decide +kernel
def lrow_157 : List CI := [some (.ifCond .eq 5, 3), none, none, some (.iconst 0, 1), some (.ireturn, 1), some (.goto 421, 3), none, none, some (.aload_n 1, 1), some (.aload_n 0, 1), some (.iload 5, 2), none, some (.iconst 1, 1), some (.iadd, 1), some (.iaload, 1), some (.aload_n 0, 1)]
set_option maxRecDepth 100000 in
set_option maxHeartbeats 4000000 in
theorem lok_157 : okLw 157 lrow_157 = true := by decide +kernel
def lrow_158 : List CI := [some (.iload 5, 2), none, some (.iconst 2, 1), some (.iadd, 1), some (.iaload, 1), some (.aload_n 3, 1), some (.invokestatic 261, 3), none, none, some (.istore 6, 2), none, some (.aload_n 2, 1), some (.aload_n 0, 1), some (.iload 5, 2), none, some (.iconst 1, 1)]
set_option maxRecDepth 100000 in
set_option maxHeartbeats 4000000 in
theorem lok_158 : okLw 158 lrow_158 = true := by decide +kernel
def lrow_159 : List CI := [some (.iadd, 1), some (.iaload, 1), some (.aload_n 0, 1), some (.iload 5, 2), none, some (.iconst 2, 1), some (.iadd, 1), some (.iaload, 1), some (.invokevirtual 263, 3), none, none, some (.istore 7, 2), none, some (.aload_n 2, 1), some (.invokevirtual 155, 3), none]
set_option maxRecDepth 100000 in
set_option maxHeartbeats 4000000 in
theorem lok_159 : okLw 159 lrow_159 = true := by decide +kernel
def lgrp_9 : List (List CI) := [lrow_144, lrow_145, lrow_146, lrow_147, lrow_148, lrow_149, lrow_150, lrow_151, lrow_152, lrow_153, lrow_154, lrow_155, lrow_156, lrow_157, lrow_158, lrow_159]
theorem lgk_9 : ∀ (j : Nat) (r : List CI), lgrp_9[j]? = some r → okLw (16 * 9 + j) r = true := by
  intro j r h
  match j, h with
  | 0, h => cases h; exact lok_144
  | 1, h => cases h; exact lok_145
  | 2, h => cases h; exact lok_146
  | 3, h => cases h; exact lok_147
  | 4, h => cases h; exact lok_148
  | 5, h => cases h; exact lok_149
  | 6, h => cases h; exact lok_150
  | 7, h => cases h; exact lok_151
  | 8, h => cases h; exact lok_152
  | 9, h => cases h; exact lok_153
  | 10, h => cases h; exact lok_154
  | 11, h => cases h; exact lok_155
  | 12, h => cases h; exact lok_156
  | 13, h => cases h; exact lok_157
  | 14, h => cases h; exact lok_158
  | 15, h => cases h; exact lok_159
  | j + 16, h => exact absurd h (by simp [lgrp_9])
def lrow_160 : List CI := [none, some (.iload 6, 2), none, some (.if_icmp .eq 5, 3), none, none, some (.iconst 0, 1), some (.ireturn, 1), some (.iload 6, 2), none, some (.ifCond .ne 15, 3), none, none, some (.aload_n 3, 1), some (.iconst 0, 1), some (.laload, 1)]
set_option maxRecDepth 100000 in
set_option maxHeartbeats 4000000 in
theorem lok_160 : okLw 160 lrow_160 = true := by decide +kernel
def lrow_161 : List CI := [some (.iload 7, 2), none, some (.i2l, 1), some (.lcmp, 1), some (.ifCond .eq 5, 3), none, none, some (.iconst 0, 1), some (.ireturn, 1), some (.goto 353, 3), none, none, some (.aload_n 1, 1), some (.aload_n 0, 1), some (.iload 5, 2), none]
set_option maxRecDepth 100000 in
set_option maxHeartbeats 4000000 in
theorem lok_161 : okLw 161 lrow_161 = true := by decide +kernel
def lrow_162 : List CI := [some (.iconst 1, 1), some (.iadd, 1), some (.iaload, 1), some (.aload_n 3, 1), some (.invokestatic 264, 3), none, none, some (.istore 6, 2), none, some (.aload_n 2, 1), some (.aload_n 0, 1), some (.iload 5, 2), none, some (.iconst 1, 1), some (.iadd, 1), some (.iaload, 1)]
set_option maxRecDepth 100000 in
set_option maxHeartbeats 4000000 in
theorem lok_162 : okLw 162 lrow_162 = true := by decide +kernel
def lrow_163 : List CI := [some (.invokevirtual 266, 3), none, none, some (.istore 7, 2), none, some (.aload_n 2, 1), some (.invokevirtual 155, 3), none, none, some (.iload 6, 2), none, some (.if_icmp .eq 5, 3), none, none, some (.iconst 0, 1), some (.ireturn, 1)]
set_option maxRecDepth 100000 in
set_option maxHeartbeats 4000000 in
theorem lok_163 : okLw 163 lrow_163 = true := by decide +kernel
def lrow_164 : List CI := [some (.iload 6, 2), none, some (.ifCond .ne 15, 3), none, none, some (.aload_n 3, 1), some (.iconst 0, 1), some (.laload, 1), some (.iload 7, 2), none, some (.i2l, 1), some (.lcmp, 1), some (.ifCond .eq 5, 3), none, none, some (.iconst 0, 1)]
set_option maxRecDepth 100000 in
set_option maxHeartbeats 4000000 in
theorem lok_164 : okLw 164 lrow_164 = true := by decide +kernel
def lrow_165 : List CI := [some (.ireturn, 1), some (.goto 297, 3), none, none, some (.aload_n 1, 1), some (.aload_n 0, 1), some (.iload 5, 2), none, some (.iconst 1, 1), some (.iadd, 1), some (.iaload, 1), some (.aload_n 3, 1), some (.invokestatic 267, 3), none, none, some (.istore 6, 2)]
set_option maxRecDepth 100000 in
set_option maxHeartbeats 4000000 in
theorem lok_165 : okLw 165 lrow_165 = true := by decide +kernel
def lrow_166 : List CI := [none, some (.aload_n 2, 1), some (.aload_n 0, 1), some (.iload 5, 2), none, some (.iconst 1, 1), some (.iadd, 1), some (.iaload, 1), some (.invokevirtual 269, 3), none, none, some (.istore 7, 2), none, some (.aload_n 2, 1), some (.invokevirtual 155, 3), none]
set_option maxRecDepth 100000 in
set_option maxHeartbeats 4000000 in
theorem lok_166 : okLw 166 lrow_166 = true := by decide +kernel
def lrow_167 : List CI := [none, some (.iload 6, 2), none, some (.if_icmp .eq 5, 3), none, none, some (.iconst 0, 1), some (.ireturn, 1), some (.iload 6, 2), none, some (.ifCond .ne 15, 3), none, none, some (.aload_n 3, 1), some (.iconst 0, 1), some (.laload, 1)]
set_option maxRecDepth 100000 in
set_option maxHeartbeats 4000000 in
theorem lok_167 : okLw 167 lrow_167 = true := by decide +kernel
def lrow_168 : List CI := [some (.iload 7, 2), none, some (.i2l, 1), some (.lcmp, 1), some (.ifCond .eq 5, 3), none, none, some (.iconst 0, 1), some (.ireturn, 1), some (.goto 241, 3), none, none, some (.aload_n 1, 1), some (.aload_n 0, 1), some (.iload 5, 2), none]
set_option maxRecDepth 100000 in
set_option maxHeartbeats 4000000 in
theorem lok_168 : okLw 168 lrow_168 = true := by decide +kernel
def lrow_169 : List CI := [some (.iconst 1, 1), some (.iadd, 1), some (.iaload, 1), some (.aload_n 3, 1), some (.invokestatic 270, 3), none, none, some (.istore 6, 2), none, some (.aload_n 2, 1), some (.aload_n 0, 1), some (.iload 5, 2), none, some (.iconst 1, 1), some (.iadd, 1), some (.iaload, 1)]
set_option maxRecDepth 100000 in
set_option maxHeartbeats 4000000 in
theorem lok_169 : okLw 169 lrow_169 = true := by decide +kernel
def lrow_170 : List CI := [some (.invokevirtual 272, 3), none, none, some (.istore 7, 2), none, some (.aload_n 2, 1), some (.invokevirtual 155, 3), none, none, some (.iload 6, 2), none, some (.if_icmp .eq 5, 3), none, none, some (.iconst 0, 1), some (.ireturn, 1)]
set_option maxRecDepth 100000 in
set_option maxHeartbeats 4000000 in
theorem lok_170 : okLw 170 lrow_170 = true := by decide +kernel
def lrow_171 : List CI := [some (.iload 6, 2), none, some (.ifCond .ne 15, 3), none, none, some (.aload_n 3, 1), some (.iconst 0, 1), some (.laload, 1), some (.iload 7, 2), none, some (.i2l, 1), some (.lcmp, 1), some (.ifCond .eq 5, 3), none, none, some (.iconst 0, 1)]
set_option maxRecDepth 100000 in
set_option maxHeartbeats 4000000 in
theorem lok_171 : okLw 171 lrow_171 = true := by decide +kernel
def lrow_172 : List CI := [some (.ireturn, 1), some (.goto 185, 3), none, none, some (.aload_n 1, 1), some (.invokevirtual 273, 3), none, none, some (.aload_n 2, 1), some (.invokevirtual 277, 3), none, none, some (.lcmp, 1), some (.ifCond .eq 173, 3), none, none]
set_option maxRecDepth 100000 in
set_option maxHeartbeats 4000000 in
theorem lok_172 : okLw 172 lrow_172 = true := by decide +kernel
def lrow_173 : List CI := [some (.iconst 0, 1), some (.ireturn, 1), some (.aload_n 1, 1), some (.aload_n 0, 1), some (.iload 5, 2), none, some (.iconst 1, 1), some (.iadd, 1), some (.iaload, 1), some (.aload_n 0, 1), some (.iload 5, 2), none, some (.iconst 2, 1), some (.iadd, 1), some (.iaload, 1), some (.aload 4, 2)]
set_option maxRecDepth 100000 in
set_option maxHeartbeats 4000000 in
theorem lok_173 : okLw 173 lrow_173 = true := by decide +kernel
def lrow_174 : List CI := [none, some (.invokestatic 278, 3), none, none, some (.istore 6, 2), none, some (.aload_n 2, 1), some (.aload_n 0, 1), some (.iload 5, 2), none, some (.iconst 1, 1), some (.iadd, 1), some (.iaload, 1), some (.aload_n 0, 1), some (.iload 5, 2), none]
set_option maxRecDepth 100000 in
set_option maxHeartbeats 4000000 in
theorem lok_174 : okLw 174 lrow_174 = true := by decide +kernel
def lrow_175 : List CI := [some (.iconst 2, 1), some (.iadd, 1), some (.iaload, 1), some (.invokevirtual 281, 3), none, none, some (.fstore 7, 2), none, some (.aload_n 2, 1), some (.invokevirtual 155, 3), none, none, some (.iload 6, 2), none, some (.if_icmp .eq 5, 3), none]
set_option maxRecDepth 100000 in
set_option maxHeartbeats 4000000 in
theorem lok_175 : okLw 175 lrow_175 = true := by decide +kernel
def lgrp_10 : List (List CI) := [lrow_160, lrow_161, lrow_162, lrow_163, lrow_164, lrow_165, lrow_166, lrow_167, lrow_168, lrow_169, lrow_170, lrow_171, lrow_172, lrow_173, lrow_174, lrow_175]
theorem lgk_10 : ∀ (j : Nat) (r : List CI), lgrp_10[j]? = some r → okLw (16 * 10 + j) r = true := by
  intro j r h
  match j, h with
  | 0, h => cases h; exact lok_160
  | 1, h => cases h; exact lok_161
  | 2, h => cases h; exact lok_162
  | 3, h => cases h; exact lok_163
  | 4, h => cases h; exact lok_164
  | 5, h => cases h; exact lok_165
  | 6, h => cases h; exact lok_166
  | 7, h => cases h; exact lok_167
  | 8, h => cases h; exact lok_168
  | 9, h => cases h; exact lok_169
  | 10, h => cases h; exact lok_170
  | 11, h => cases h; exact lok_171
  | 12, h => cases h; exact lok_172
  | 13, h => cases h; exact lok_173
  | 14, h => cases h; exact lok_174
  | 15, h => cases h; exact lok_175
  | j + 16, h => exact absurd h (by simp [lgrp_10])
def lrow_176 : List CI := [none, some (.iconst 0, 1), some (.ireturn, 1), some (.iload 6, 2), none, some (.ifCond .ne 36, 3), none, none, some (.aload 4, 2), none, some (.iconst 0, 1), some (.daload, 1), some (.fload 7, 2), none, some (.f2d, 1), some (.dcmp .l, 1)]
set_option maxRecDepth 100000 in
set_option maxHeartbeats 4000000 in
theorem lok_176 : okLw 176 lrow_176 = true := by decide +kernel
def lrow_177 : List CI := [some (.ifCond .eq 25, 3), none, none, some (.aload 4, 2), none, some (.iconst 0, 1), some (.daload, 1), some (.aload 4, 2), none, some (.iconst 0, 1), some (.daload, 1), some (.dcmp .l, 1), some (.ifCond .eq 11, 3), none, none, some (.fload 7, 2)]
set_option maxRecDepth 100000 in
set_option maxHeartbeats 4000000 in
theorem lok_177 : okLw 177 lrow_177 = true := by decide +kernel
def lrow_178 : List CI := [none, some (.fload 7, 2), none, some (.fcmp .l, 1), some (.ifCond .ne 5, 3), none, none, some (.iconst 0, 1), some (.ireturn, 1), some (.goto 81, 3), none, none, some (.aload_n 1, 1), some (.aload 4, 2), none, some (.invokestatic 282, 3)]
set_option maxRecDepth 100000 in
set_option maxHeartbeats 4000000 in
theorem lok_178 : okLw 178 lrow_178 = true := by decide +kernel
def lrow_179 : List CI := [none, none, some (.istore 6, 2), none, some (.aload_n 2, 1), some (.invokevirtual 285, 3), none, none, some (.dstore 7, 2), none, some (.aload_n 2, 1), some (.invokevirtual 155, 3), none, none, some (.iload 6, 2), none]
set_option maxRecDepth 100000 in
set_option maxHeartbeats 4000000 in
theorem lok_179 : okLw 179 lrow_179 = true := by decide +kernel
def lrow_180 : List CI := [some (.if_icmp .eq 5, 3), none, none, some (.iconst 0, 1), some (.ireturn, 1), some (.iload 6, 2), none, some (.ifCond .ne 35, 3), none, none, some (.aload 4, 2), none, some (.iconst 0, 1), some (.daload, 1), some (.dload 7, 2), none]
set_option maxRecDepth 100000 in
set_option maxHeartbeats 4000000 in
theorem lok_180 : okLw 180 lrow_180 = true := by decide +kernel
def lrow_181 : List CI := [some (.dcmp .l, 1), some (.ifCond .eq 25, 3), none, none, some (.aload 4, 2), none, some (.iconst 0, 1), some (.daload, 1), some (.aload 4, 2), none, some (.iconst 0, 1), some (.daload, 1), some (.dcmp .l, 1), some (.ifCond .eq 11, 3), none, none]
set_option maxRecDepth 100000 in
set_option maxHeartbeats 4000000 in
theorem lok_181 : okLw 181 lrow_181 = true := by decide +kernel
def lrow_182 : List CI := [some (.dload 7, 2), none, some (.dload 7, 2), none, some (.dcmp .l, 1), some (.ifCond .ne 5, 3), none, none, some (.iconst 0, 1), some (.ireturn, 1), some (.goto 16, 3), none, none, some (.aload_n 1, 1), some (.invokevirtual 286, 3), none]
set_option maxRecDepth 100000 in
set_option maxHeartbeats 4000000 in
theorem lok_182 : okLw 182 lrow_182 = true := by decide +kernel
def lrow_183 : List CI := [none, some (.aload_n 2, 1), some (.invokevirtual 290, 3), none, none, some (.if_icmp .eq 5, 3), none, none, some (.iconst 0, 1), some (.ireturn, 1), some (.iinc 5 7, 3), none, none, some (.goto (-2913), 3), none, none]
set_option maxRecDepth 100000 in
set_option maxHeartbeats 4000000 in
theorem lok_183 : okLw 183 lrow_183 = true := by decide +kernel
def lrow_184 : List CI := [some (.iconst 1, 1), some (.ireturn, 1)]
set_option maxRecDepth 100000 in
set_option maxHeartbeats 4000000 in
theorem lok_184 : okLw 184 lrow_184 = true := by decide +kernel
def lgrp_11 : List (List CI) := [lrow_176, lrow_177, lrow_178, lrow_179, lrow_180, lrow_181, lrow_182, lrow_183, lrow_184]
theorem lgk_11 : ∀ (j : Nat) (r : List CI), lgrp_11[j]? = some r → okLw (16 * 11 + j) r = true := by
  intro j r h
  match j, h with
  | 0, h => cases h; exact lok_176
  | 1, h => cases h; exact lok_177
  | 2, h => cases h; exact lok_178
  | 3, h => cases h; exact lok_179
  | 4, h => cases h; exact lok_180
  | 5, h => cases h; exact lok_181
  | 6, h => cases h; exact lok_182
  | 7, h => cases h; exact lok_183
  | 8, h => cases h; exact lok_184
  | j + 9, h => exact absurd h (by simp [lgrp_11])
