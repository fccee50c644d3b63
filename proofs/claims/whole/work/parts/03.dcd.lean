theorem d_MD_begin_32 : decode c_MD_begin 32 = .ok (.aload_n 0, 1) := by decide +kernel
theorem d_MD_begin_33 : decode c_MD_begin 33 = .ok (.getfield 32, 3) := by decide +kernel
theorem d_MD_begin_36 : decode c_MD_begin 36 = .ok (.sipush 1024, 3) := by decide +kernel
theorem d_MD_begin_39 : decode c_MD_begin 39 = .ok (.iload_n 1, 1) := by decide +kernel
theorem d_MD_begin_40 : decode c_MD_begin 40 = .ok (.imul, 1) := by decide +kernel
theorem d_MD_begin_41 : decode c_MD_begin 41 = .ok (.iload 4, 2) := by decide +kernel
theorem d_MD_begin_43 : decode c_MD_begin 43 = .ok (.iadd, 1) := by decide +kernel
theorem d_MD_begin_44 : decode c_MD_begin 44 = .ok (.aload_n 0, 1) := by decide +kernel
theorem d_MD_begin_45 : decode c_MD_begin 45 = .ok (.getfield 89, 3) := by decide +kernel
theorem d_MD_begin_48 : decode c_MD_begin 48 = .ok (.iload 4, 2) := by decide +kernel
theorem d_MD_begin_50 : decode c_MD_begin 50 = .ok (.iaload, 1) := by decide +kernel
theorem d_MD_begin_51 : decode c_MD_begin 51 = .ok (.iastore, 1) := by decide +kernel
theorem d_MD_begin_52 : decode c_MD_begin 52 = .ok (.iinc 4 1, 3) := by decide +kernel
theorem d_MD_begin_55 : decode c_MD_begin 55 = .ok (.goto (-31), 3) := by decide +kernel
theorem d_MD_begin_58 : decode c_MD_begin 58 = .ok (.iconst 0, 1) := by decide +kernel
theorem d_MD_begin_59 : decode c_MD_begin 59 = .ok (.istore 4, 2) := by decide +kernel
theorem d_MD_begin_61 : decode c_MD_begin 61 = .ok (.iload 4, 2) := by decide +kernel
theorem d_MD_begin_63 : decode c_MD_begin 63 = .ok (.bipush 8, 2) := by decide +kernel
theorem d_MD_begin_65 : decode c_MD_begin 65 = .ok (.if_icmp .ge 22, 3) := by decide +kernel
theorem d_MD_begin_68 : decode c_MD_begin 68 = .ok (.aload_n 0, 1) := by decide +kernel
theorem d_MD_begin_69 : decode c_MD_begin 69 = .ok (.getfield 35, 3) := by decide +kernel
theorem d_MD_begin_72 : decode c_MD_begin 72 = .ok (.bipush 8, 2) := by decide +kernel
theorem d_MD_begin_74 : decode c_MD_begin 74 = .ok (.iload_n 1, 1) := by decide +kernel
theorem d_MD_begin_75 : decode c_MD_begin 75 = .ok (.imul, 1) := by decide +kernel
theorem d_MD_begin_76 : decode c_MD_begin 76 = .ok (.iload 4, 2) := by decide +kernel
theorem d_MD_begin_78 : decode c_MD_begin 78 = .ok (.iadd, 1) := by decide +kernel
theorem d_MD_begin_79 : decode c_MD_begin 79 = .ok (.iconst 0, 1) := by decide +kernel
theorem d_MD_begin_80 : decode c_MD_begin 80 = .ok (.iastore, 1) := by decide +kernel
theorem d_MD_begin_81 : decode c_MD_begin 81 = .ok (.iinc 4 1, 3) := by decide +kernel
theorem d_MD_begin_84 : decode c_MD_begin 84 = .ok (.goto (-23), 3) := by decide +kernel
theorem d_MD_begin_87 : decode c_MD_begin 87 = .ok (.iconst 0, 1) := by decide +kernel
theorem d_MD_begin_88 : decode c_MD_begin 88 = .ok (.istore 4, 2) := by decide +kernel
theorem d_MD_begin_90 : decode c_MD_begin 90 = .ok (.iload 4, 2) := by decide +kernel
theorem d_MD_begin_92 : decode c_MD_begin 92 = .ok (.sipush 128, 3) := by decide +kernel
theorem d_MD_begin_95 : decode c_MD_begin 95 = .ok (.if_icmp .ge 23, 3) := by decide +kernel
theorem d_MD_begin_98 : decode c_MD_begin 98 = .ok (.aload_n 0, 1) := by decide +kernel
theorem d_MD_begin_99 : decode c_MD_begin 99 = .ok (.getfield 74, 3) := by decide +kernel
theorem d_MD_begin_102 : decode c_MD_begin 102 = .ok (.sipush 128, 3) := by decide +kernel
theorem d_MD_begin_105 : decode c_MD_begin 105 = .ok (.iload_n 1, 1) := by decide +kernel
theorem d_MD_begin_106 : decode c_MD_begin 106 = .ok (.imul, 1) := by decide +kernel
theorem d_MD_begin_107 : decode c_MD_begin 107 = .ok (.iload 4, 2) := by decide +kernel
theorem d_MD_begin_109 : decode c_MD_begin 109 = .ok (.iadd, 1) := by decide +kernel
theorem d_MD_begin_110 : decode c_MD_begin 110 = .ok (.iconst 0, 1) := by decide +kernel
theorem d_MD_begin_111 : decode c_MD_begin 111 = .ok (.iastore, 1) := by decide +kernel
theorem d_MD_begin_112 : decode c_MD_begin 112 = .ok (.iinc 4 1, 3) := by decide +kernel
theorem d_MD_begin_115 : decode c_MD_begin 115 = .ok (.goto (-25), 3) := by decide +kernel
theorem d_MD_begin_118 : decode c_MD_begin 118 = .ok (.aload_n 0, 1) := by decide +kernel
theorem d_MD_begin_119 : decode c_MD_begin 119 = .ok (.getfield 38, 3) := by decide +kernel
theorem d_MD_begin_122 : decode c_MD_begin 122 = .ok (.iload_n 1, 1) := by decide +kernel
theorem d_MD_begin_123 : decode c_MD_begin 123 = .ok (.iconst 0, 1) := by decide +kernel
theorem d_MD_begin_124 : decode c_MD_begin 124 = .ok (.iastore, 1) := by decide +kernel
theorem d_MD_begin_125 : decode c_MD_begin 125 = .ok (.aload_n 0, 1) := by decide +kernel
theorem d_MD_begin_126 : decode c_MD_begin 126 = .ok (.getfield 41, 3) := by decide +kernel
theorem d_MD_begin_129 : decode c_MD_begin 129 = .ok (.iload_n 1, 1) := by decide +kernel
theorem d_MD_begin_130 : decode c_MD_begin 130 = .ok (.bipush 16, 2) := by decide +kernel
theorem d_MD_begin_132 : decode c_MD_begin 132 = .ok (.iastore, 1) := by decide +kernel
theorem d_MD_begin_133 : decode c_MD_begin 133 = .ok (.aload_n 0, 1) := by decide +kernel
theorem d_MD_begin_134 : decode c_MD_begin 134 = .ok (.getfield 44, 3) := by decide +kernel
theorem d_MD_begin_137 : decode c_MD_begin 137 = .ok (.iload_n 1, 1) := by decide +kernel
theorem d_MD_begin_138 : decode c_MD_begin 138 = .ok (.iconst 0, 1) := by decide +kernel
theorem d_MD_begin_139 : decode c_MD_begin 139 = .ok (.iastore, 1) := by decide +kernel
theorem d_MD_begin_140 : decode c_MD_begin 140 = .ok (.aload_n 0, 1) := by decide +kernel
theorem d_MD_begin_141 : decode c_MD_begin 141 = .ok (.getfield 47, 3) := by decide +kernel
theorem d_MD_begin_144 : decode c_MD_begin 144 = .ok (.iload_n 1, 1) := by decide +kernel
theorem d_MD_begin_145 : decode c_MD_begin 145 = .ok (.iload_n 2, 1) := by decide +kernel
theorem d_MD_begin_146 : decode c_MD_begin 146 = .ok (.iastore, 1) := by decide +kernel
theorem d_MD_begin_147 : decode c_MD_begin 147 = .ok (.aload_n 0, 1) := by decide +kernel
theorem d_MD_begin_148 : decode c_MD_begin 148 = .ok (.getfield 50, 3) := by decide +kernel
theorem d_MD_begin_151 : decode c_MD_begin 151 = .ok (.iload_n 1, 1) := by decide +kernel
theorem d_MD_begin_152 : decode c_MD_begin 152 = .ok (.iconst 0, 1) := by decide +kernel
theorem d_MD_begin_153 : decode c_MD_begin 153 = .ok (.iastore, 1) := by decide +kernel
theorem d_MD_begin_154 : decode c_MD_begin 154 = .ok (.aload_n 0, 1) := by decide +kernel
theorem d_MD_begin_155 : decode c_MD_begin 155 = .ok (.getfield 53, 3) := by decide +kernel
theorem d_MD_begin_158 : decode c_MD_begin 158 = .ok (.iload_n 1, 1) := by decide +kernel
theorem d_MD_begin_159 : decode c_MD_begin 159 = .ok (.iconst 0, 1) := by decide +kernel
theorem d_MD_begin_160 : decode c_MD_begin 160 = .ok (.bastore, 1) := by decide +kernel
theorem d_MD_begin_161 : decode c_MD_begin 161 = .ok (.aload_n 0, 1) := by decide +kernel
theorem d_MD_begin_162 : decode c_MD_begin 162 = .ok (.getfield 56, 3) := by decide +kernel
theorem d_MD_begin_165 : decode c_MD_begin 165 = .ok (.iload_n 1, 1) := by decide +kernel
theorem d_MD_begin_166 : decode c_MD_begin 166 = .ok (.iconst 0, 1) := by decide +kernel
theorem d_MD_begin_167 : decode c_MD_begin 167 = .ok (.bastore, 1) := by decide +kernel
theorem d_MD_begin_168 : decode c_MD_begin 168 = .ok (.aload_n 0, 1) := by decide +kernel
theorem d_MD_begin_169 : decode c_MD_begin 169 = .ok (.getfield 59, 3) := by decide +kernel
theorem d_MD_begin_172 : decode c_MD_begin 172 = .ok (.iload_n 1, 1) := by decide +kernel
theorem d_MD_begin_173 : decode c_MD_begin 173 = .ok (.iconst 0, 1) := by decide +kernel
theorem d_MD_begin_174 : decode c_MD_begin 174 = .ok (.iastore, 1) := by decide +kernel
theorem d_MD_begin_175 : decode c_MD_begin 175 = .ok (.aload_n 0, 1) := by decide +kernel
theorem d_MD_begin_176 : decode c_MD_begin 176 = .ok (.getfield 62, 3) := by decide +kernel
theorem d_MD_begin_179 : decode c_MD_begin 179 = .ok (.iload_n 1, 1) := by decide +kernel
theorem d_MD_begin_180 : decode c_MD_begin 180 = .ok (.iconst 0, 1) := by decide +kernel
theorem d_MD_begin_181 : decode c_MD_begin 181 = .ok (.iastore, 1) := by decide +kernel
theorem d_MD_begin_182 : decode c_MD_begin 182 = .ok (.aload_n 0, 1) := by decide +kernel
theorem d_MD_begin_183 : decode c_MD_begin 183 = .ok (.getfield 68, 3) := by decide +kernel
theorem d_MD_begin_186 : decode c_MD_begin 186 = .ok (.iload_n 1, 1) := by decide +kernel
theorem d_MD_begin_187 : decode c_MD_begin 187 = .ok (.iconst 0, 1) := by decide +kernel
theorem d_MD_begin_188 : decode c_MD_begin 188 = .ok (.iastore, 1) := by decide +kernel
theorem d_MD_begin_189 : decode c_MD_begin 189 = .ok (.return_, 1) := by decide +kernel
theorem d_MD_fault_0 : decode c_MD_fault 0 = .ok (.aload_n 0, 1) := by decide +kernel
theorem d_MD_fault_1 : decode c_MD_fault 1 = .ok (.getfield 250, 3) := by decide +kernel
theorem d_MD_fault_4 : decode c_MD_fault 4 = .ok (.ifCond .ne 7, 3) := by decide +kernel
theorem d_MD_fault_7 : decode c_MD_fault 7 = .ok (.iconst (-1), 1) := by decide +kernel
theorem d_MD_fault_8 : decode c_MD_fault 8 = .ok (.goto 27, 3) := by decide +kernel
theorem d_MD_fault_11 : decode c_MD_fault 11 = .ok (.iload_n 1, 1) := by decide +kernel
theorem d_MD_fault_12 : decode c_MD_fault 12 = .ok (.ifCond .ne 10, 3) := by decide +kernel
theorem d_MD_fault_15 : decode c_MD_fault 15 = .ok (.aload_n 0, 1) := by decide +kernel
theorem d_MD_fault_16 : decode c_MD_fault 16 = .ok (.getfield 240, 3) := by decide +kernel
theorem d_MD_fault_19 : decode c_MD_fault 19 = .ok (.goto 16, 3) := by decide +kernel
theorem d_MD_fault_22 : decode c_MD_fault 22 = .ok (.iload_n 1, 1) := by decide +kernel
theorem d_MD_fault_23 : decode c_MD_fault 23 = .ok (.iconst 1, 1) := by decide +kernel
theorem d_MD_fault_24 : decode c_MD_fault 24 = .ok (.if_icmp .ne 10, 3) := by decide +kernel
theorem d_MD_fault_27 : decode c_MD_fault 27 = .ok (.aload_n 0, 1) := by decide +kernel
theorem d_MD_fault_28 : decode c_MD_fault 28 = .ok (.getfield 243, 3) := by decide +kernel
theorem d_MD_fault_31 : decode c_MD_fault 31 = .ok (.goto 4, 3) := by decide +kernel
theorem d_MD_fault_34 : decode c_MD_fault 34 = .ok (.iconst (-1), 1) := by decide +kernel
theorem d_MD_fault_35 : decode c_MD_fault 35 = .ok (.ireturn, 1) := by decide +kernel
theorem d_MD_isGood_0 : decode c_MD_isGood 0 = .ok (.iload_n 1, 1) := by decide +kernel
theorem d_MD_isGood_1 : decode c_MD_isGood 1 = .ok (.aload_n 0, 1) := by decide +kernel
theorem d_MD_isGood_2 : decode c_MD_isGood 2 = .ok (.getfield 47, 3) := by decide +kernel
theorem d_MD_isGood_5 : decode c_MD_isGood 5 = .ok (.aload_n 0, 1) := by decide +kernel
theorem d_MD_isGood_6 : decode c_MD_isGood 6 = .ok (.getfield 261, 3) := by decide +kernel
theorem d_MD_isGood_9 : decode c_MD_isGood 9 = .ok (.iaload, 1) := by decide +kernel
theorem d_MD_isGood_10 : decode c_MD_isGood 10 = .ok (.if_icmp .ge 30, 3) := by decide +kernel
theorem d_MD_isGood_13 : decode c_MD_isGood 13 = .ok (.aload_n 0, 1) := by decide +kernel
theorem d_MD_isGood_14 : decode c_MD_isGood 14 = .ok (.getfield 44, 3) := by decide +kernel
theorem d_MD_isGood_17 : decode c_MD_isGood 17 = .ok (.aload_n 0, 1) := by decide +kernel
theorem d_MD_isGood_18 : decode c_MD_isGood 18 = .ok (.getfield 261, 3) := by decide +kernel
theorem d_MD_isGood_21 : decode c_MD_isGood 21 = .ok (.iaload, 1) := by decide +kernel
theorem d_MD_isGood_22 : decode c_MD_isGood 22 = .ok (.iload_n 1, 1) := by decide +kernel
theorem d_MD_isGood_23 : decode c_MD_isGood 23 = .ok (.iadd, 1) := by decide +kernel
theorem d_MD_isGood_24 : decode c_MD_isGood 24 = .ok (.aload_n 0, 1) := by decide +kernel
theorem d_MD_isGood_25 : decode c_MD_isGood 25 = .ok (.getfield 25, 3) := by decide +kernel
theorem d_MD_isGood_28 : decode c_MD_isGood 28 = .ok (.aload_n 0, 1) := by decide +kernel
theorem d_MD_isGood_29 : decode c_MD_isGood 29 = .ok (.getfield 261, 3) := by decide +kernel
theorem d_MD_isGood_32 : decode c_MD_isGood 32 = .ok (.iaload, 1) := by decide +kernel
theorem d_MD_isGood_33 : decode c_MD_isGood 33 = .ok (.if_icmp .ge 7, 3) := by decide +kernel
theorem d_MD_isGood_36 : decode c_MD_isGood 36 = .ok (.iconst 1, 1) := by decide +kernel
theorem d_MD_isGood_37 : decode c_MD_isGood 37 = .ok (.goto 4, 3) := by decide +kernel
theorem d_MD_isGood_40 : decode c_MD_isGood 40 = .ok (.iconst 0, 1) := by decide +kernel
theorem d_MD_isGood_41 : decode c_MD_isGood 41 = .ok (.ireturn, 1) := by decide +kernel
theorem d_MD_get_0 : decode c_MD_get 0 = .ok (.aload_n 0, 1) := by decide +kernel
theorem d_MD_get_1 : decode c_MD_get 1 = .ok (.getfield 32, 3) := by decide +kernel
theorem d_MD_get_4 : decode c_MD_get 4 = .ok (.sipush 1024, 3) := by decide +kernel
theorem d_MD_get_7 : decode c_MD_get 7 = .ok (.aload_n 0, 1) := by decide +kernel
theorem d_MD_get_8 : decode c_MD_get 8 = .ok (.getfield 261, 3) := by decide +kernel
theorem d_MD_get_11 : decode c_MD_get 11 = .ok (.imul, 1) := by decide +kernel
theorem d_MD_get_12 : decode c_MD_get 12 = .ok (.aload_n 0, 1) := by decide +kernel
theorem d_MD_get_13 : decode c_MD_get 13 = .ok (.getfield 44, 3) := by decide +kernel
theorem d_MD_get_16 : decode c_MD_get 16 = .ok (.aload_n 0, 1) := by decide +kernel
theorem d_MD_get_17 : decode c_MD_get 17 = .ok (.getfield 261, 3) := by decide +kernel
theorem d_MD_get_20 : decode c_MD_get 20 = .ok (.iaload, 1) := by decide +kernel
theorem d_MD_get_21 : decode c_MD_get 21 = .ok (.iadd, 1) := by decide +kernel
theorem d_MD_get_22 : decode c_MD_get 22 = .ok (.iload_n 1, 1) := by decide +kernel
theorem d_MD_get_23 : decode c_MD_get 23 = .ok (.iadd, 1) := by decide +kernel
theorem d_MD_get_24 : decode c_MD_get 24 = .ok (.iaload, 1) := by decide +kernel
theorem d_MD_get_25 : decode c_MD_get 25 = .ok (.ireturn, 1) := by decide +kernel
theorem d_MD_set_0 : decode c_MD_set 0 = .ok (.aload_n 0, 1) := by decide +kernel
theorem d_MD_set_1 : decode c_MD_set 1 = .ok (.getfield 32, 3) := by decide +kernel
theorem d_MD_set_4 : decode c_MD_set 4 = .ok (.sipush 1024, 3) := by decide +kernel
theorem d_MD_set_7 : decode c_MD_set 7 = .ok (.aload_n 0, 1) := by decide +kernel
theorem d_MD_set_8 : decode c_MD_set 8 = .ok (.getfield 261, 3) := by decide +kernel
theorem d_MD_set_11 : decode c_MD_set 11 = .ok (.imul, 1) := by decide +kernel
theorem d_MD_set_12 : decode c_MD_set 12 = .ok (.aload_n 0, 1) := by decide +kernel
theorem d_MD_set_13 : decode c_MD_set 13 = .ok (.getfield 44, 3) := by decide +kernel
theorem d_MD_set_16 : decode c_MD_set 16 = .ok (.aload_n 0, 1) := by decide +kernel
theorem d_MD_set_17 : decode c_MD_set 17 = .ok (.getfield 261, 3) := by decide +kernel
theorem d_MD_set_20 : decode c_MD_set 20 = .ok (.iaload, 1) := by decide +kernel
theorem d_MD_set_21 : decode c_MD_set 21 = .ok (.iadd, 1) := by decide +kernel
theorem d_MD_set_22 : decode c_MD_set 22 = .ok (.iload_n 1, 1) := by decide +kernel
theorem d_MD_set_23 : decode c_MD_set 23 = .ok (.iadd, 1) := by decide +kernel
theorem d_MD_set_24 : decode c_MD_set 24 = .ok (.iload_n 2, 1) := by decide +kernel
theorem d_MD_set_25 : decode c_MD_set 25 = .ok (.iastore, 1) := by decide +kernel
theorem d_MD_set_26 : decode c_MD_set 26 = .ok (.return_, 1) := by decide +kernel
theorem d_MD_trap_0 : decode c_MD_trap 0 = .ok (.sipush 1024, 3) := by decide +kernel
theorem d_MD_trap_3 : decode c_MD_trap 3 = .ok (.aload_n 0, 1) := by decide +kernel
theorem d_MD_trap_4 : decode c_MD_trap 4 = .ok (.getfield 261, 3) := by decide +kernel
theorem d_MD_trap_7 : decode c_MD_trap 7 = .ok (.imul, 1) := by decide +kernel
theorem d_MD_trap_8 : decode c_MD_trap 8 = .ok (.istore 4, 2) := by decide +kernel
theorem d_MD_trap_10 : decode c_MD_trap 10 = .ok (.aload_n 0, 1) := by decide +kernel
theorem d_MD_trap_11 : decode c_MD_trap 11 = .ok (.getfield 32, 3) := by decide +kernel
theorem d_MD_trap_14 : decode c_MD_trap 14 = .ok (.iload 4, 2) := by decide +kernel
theorem d_MD_trap_16 : decode c_MD_trap 16 = .ok (.aload_n 0, 1) := by decide +kernel
theorem d_MD_trap_17 : decode c_MD_trap 17 = .ok (.getfield 38, 3) := by decide +kernel
theorem d_MD_trap_20 : decode c_MD_trap 20 = .ok (.aload_n 0, 1) := by decide +kernel
theorem d_MD_trap_21 : decode c_MD_trap 21 = .ok (.getfield 261, 3) := by decide +kernel
theorem d_MD_trap_24 : decode c_MD_trap 24 = .ok (.iaload, 1) := by decide +kernel
theorem d_MD_trap_25 : decode c_MD_trap 25 = .ok (.iastore, 1) := by decide +kernel
theorem d_MD_trap_26 : decode c_MD_trap 26 = .ok (.aload_n 0, 1) := by decide +kernel
theorem d_MD_trap_27 : decode c_MD_trap 27 = .ok (.getfield 32, 3) := by decide +kernel
theorem d_MD_trap_30 : decode c_MD_trap 30 = .ok (.iload 4, 2) := by decide +kernel
theorem d_MD_trap_32 : decode c_MD_trap 32 = .ok (.iconst 1, 1) := by decide +kernel
theorem d_MD_trap_33 : decode c_MD_trap 33 = .ok (.iadd, 1) := by decide +kernel
theorem d_MD_trap_34 : decode c_MD_trap 34 = .ok (.iload_n 3, 1) := by decide +kernel
theorem d_MD_trap_35 : decode c_MD_trap 35 = .ok (.iastore, 1) := by decide +kernel
theorem d_MD_trap_36 : decode c_MD_trap 36 = .ok (.aload_n 0, 1) := by decide +kernel
theorem d_MD_trap_37 : decode c_MD_trap 37 = .ok (.getfield 32, 3) := by decide +kernel
theorem d_MD_trap_40 : decode c_MD_trap 40 = .ok (.iload 4, 2) := by decide +kernel
theorem d_MD_trap_42 : decode c_MD_trap 42 = .ok (.iconst 2, 1) := by decide +kernel
theorem d_MD_trap_43 : decode c_MD_trap 43 = .ok (.iadd, 1) := by decide +kernel
theorem d_MD_trap_44 : decode c_MD_trap 44 = .ok (.aload_n 0, 1) := by decide +kernel
theorem d_MD_trap_45 : decode c_MD_trap 45 = .ok (.getfield 44, 3) := by decide +kernel
theorem d_MD_trap_48 : decode c_MD_trap 48 = .ok (.aload_n 0, 1) := by decide +kernel
theorem d_MD_trap_49 : decode c_MD_trap 49 = .ok (.getfield 261, 3) := by decide +kernel
theorem d_MD_trap_52 : decode c_MD_trap 52 = .ok (.iaload, 1) := by decide +kernel
theorem d_MD_trap_53 : decode c_MD_trap 53 = .ok (.iastore, 1) := by decide +kernel
theorem d_MD_trap_54 : decode c_MD_trap 54 = .ok (.aload_n 0, 1) := by decide +kernel
theorem d_MD_trap_55 : decode c_MD_trap 55 = .ok (.getfield 32, 3) := by decide +kernel
theorem d_MD_trap_58 : decode c_MD_trap 58 = .ok (.iload 4, 2) := by decide +kernel
theorem d_MD_trap_60 : decode c_MD_trap 60 = .ok (.iconst 3, 1) := by decide +kernel
theorem d_MD_trap_61 : decode c_MD_trap 61 = .ok (.iadd, 1) := by decide +kernel
theorem d_MD_trap_62 : decode c_MD_trap 62 = .ok (.aload_n 0, 1) := by decide +kernel
theorem d_MD_trap_63 : decode c_MD_trap 63 = .ok (.getfield 47, 3) := by decide +kernel
theorem d_MD_trap_66 : decode c_MD_trap 66 = .ok (.aload_n 0, 1) := by decide +kernel
theorem d_MD_trap_67 : decode c_MD_trap 67 = .ok (.getfield 261, 3) := by decide +kernel
theorem d_MD_trap_70 : decode c_MD_trap 70 = .ok (.iaload, 1) := by decide +kernel
theorem d_MD_trap_71 : decode c_MD_trap 71 = .ok (.iastore, 1) := by decide +kernel
theorem d_MD_trap_72 : decode c_MD_trap 72 = .ok (.aload_n 0, 1) := by decide +kernel
theorem d_MD_trap_73 : decode c_MD_trap 73 = .ok (.getfield 32, 3) := by decide +kernel
theorem d_MD_trap_76 : decode c_MD_trap 76 = .ok (.iload 4, 2) := by decide +kernel
theorem d_MD_trap_78 : decode c_MD_trap 78 = .ok (.bipush 8, 2) := by decide +kernel
theorem d_MD_trap_80 : decode c_MD_trap 80 = .ok (.iadd, 1) := by decide +kernel
theorem d_MD_trap_81 : decode c_MD_trap 81 = .ok (.iload_n 1, 1) := by decide +kernel
theorem d_MD_trap_82 : decode c_MD_trap 82 = .ok (.iastore, 1) := by decide +kernel
theorem d_MD_trap_83 : decode c_MD_trap 83 = .ok (.aload_n 0, 1) := by decide +kernel
theorem d_MD_trap_84 : decode c_MD_trap 84 = .ok (.getfield 32, 3) := by decide +kernel
theorem d_MD_trap_87 : decode c_MD_trap 87 = .ok (.iload 4, 2) := by decide +kernel
theorem d_MD_trap_89 : decode c_MD_trap 89 = .ok (.bipush 9, 2) := by decide +kernel
theorem d_MD_trap_91 : decode c_MD_trap 91 = .ok (.iadd, 1) := by decide +kernel
theorem d_MD_trap_92 : decode c_MD_trap 92 = .ok (.iload_n 2, 1) := by decide +kernel
theorem d_MD_trap_93 : decode c_MD_trap 93 = .ok (.iastore, 1) := by decide +kernel
theorem d_MD_trap_94 : decode c_MD_trap 94 = .ok (.aload_n 0, 1) := by decide +kernel
theorem d_MD_trap_95 : decode c_MD_trap 95 = .ok (.getfield 38, 3) := by decide +kernel
theorem d_MD_trap_98 : decode c_MD_trap 98 = .ok (.aload_n 0, 1) := by decide +kernel
theorem d_MD_trap_99 : decode c_MD_trap 99 = .ok (.getfield 261, 3) := by decide +kernel
theorem d_MD_trap_102 : decode c_MD_trap 102 = .ok (.aload_n 0, 1) := by decide +kernel
theorem d_MD_trap_103 : decode c_MD_trap 103 = .ok (.getfield 32, 3) := by decide +kernel
theorem d_MD_trap_106 : decode c_MD_trap 106 = .ok (.iload 4, 2) := by decide +kernel
theorem d_MD_trap_108 : decode c_MD_trap 108 = .ok (.iconst 4, 1) := by decide +kernel
theorem d_MD_trap_109 : decode c_MD_trap 109 = .ok (.iadd, 1) := by decide +kernel
theorem d_MD_trap_110 : decode c_MD_trap 110 = .ok (.iaload, 1) := by decide +kernel
theorem d_MD_trap_111 : decode c_MD_trap 111 = .ok (.ifCond .ne 7, 3) := by decide +kernel
theorem d_MD_trap_114 : decode c_MD_trap 114 = .ok (.iconst 0, 1) := by decide +kernel
theorem d_MD_trap_115 : decode c_MD_trap 115 = .ok (.goto 4, 3) := by decide +kernel
theorem d_MD_trap_118 : decode c_MD_trap 118 = .ok (.iconst 1, 1) := by decide +kernel
theorem d_MD_trap_119 : decode c_MD_trap 119 = .ok (.iastore, 1) := by decide +kernel
theorem d_MD_trap_120 : decode c_MD_trap 120 = .ok (.aload_n 0, 1) := by decide +kernel
theorem d_MD_trap_121 : decode c_MD_trap 121 = .ok (.getfield 41, 3) := by decide +kernel
theorem d_MD_trap_124 : decode c_MD_trap 124 = .ok (.aload_n 0, 1) := by decide +kernel
theorem d_MD_trap_125 : decode c_MD_trap 125 = .ok (.getfield 261, 3) := by decide +kernel
theorem d_MD_trap_128 : decode c_MD_trap 128 = .ok (.aload_n 0, 1) := by decide +kernel
theorem d_MD_trap_129 : decode c_MD_trap 129 = .ok (.getfield 32, 3) := by decide +kernel
theorem d_MD_trap_132 : decode c_MD_trap 132 = .ok (.iload 4, 2) := by decide +kernel
theorem d_MD_trap_134 : decode c_MD_trap 134 = .ok (.iconst 5, 1) := by decide +kernel
theorem d_MD_trap_135 : decode c_MD_trap 135 = .ok (.iadd, 1) := by decide +kernel
theorem d_MD_trap_136 : decode c_MD_trap 136 = .ok (.iaload, 1) := by decide +kernel
theorem d_MD_trap_137 : decode c_MD_trap 137 = .ok (.iastore, 1) := by decide +kernel
theorem d_MD_trap_138 : decode c_MD_trap 138 = .ok (.aload_n 0, 1) := by decide +kernel
theorem d_MD_trap_139 : decode c_MD_trap 139 = .ok (.getfield 44, 3) := by decide +kernel
theorem d_MD_trap_142 : decode c_MD_trap 142 = .ok (.aload_n 0, 1) := by decide +kernel
theorem d_MD_trap_143 : decode c_MD_trap 143 = .ok (.getfield 261, 3) := by decide +kernel
theorem d_MD_trap_146 : decode c_MD_trap 146 = .ok (.aload_n 0, 1) := by decide +kernel
theorem d_MD_trap_147 : decode c_MD_trap 147 = .ok (.getfield 32, 3) := by decide +kernel
theorem d_MD_trap_150 : decode c_MD_trap 150 = .ok (.iload 4, 2) := by decide +kernel
theorem d_MD_trap_152 : decode c_MD_trap 152 = .ok (.bipush 6, 2) := by decide +kernel
theorem d_MD_trap_154 : decode c_MD_trap 154 = .ok (.iadd, 1) := by decide +kernel
theorem d_MD_trap_155 : decode c_MD_trap 155 = .ok (.iaload, 1) := by decide +kernel
theorem d_MD_trap_156 : decode c_MD_trap 156 = .ok (.iastore, 1) := by decide +kernel
theorem d_MD_trap_157 : decode c_MD_trap 157 = .ok (.aload_n 0, 1) := by decide +kernel
theorem d_MD_trap_158 : decode c_MD_trap 158 = .ok (.getfield 47, 3) := by decide +kernel
theorem d_MD_trap_161 : decode c_MD_trap 161 = .ok (.aload_n 0, 1) := by decide +kernel
theorem d_MD_trap_162 : decode c_MD_trap 162 = .ok (.getfield 261, 3) := by decide +kernel
theorem d_MD_trap_165 : decode c_MD_trap 165 = .ok (.aload_n 0, 1) := by decide +kernel
theorem d_MD_trap_166 : decode c_MD_trap 166 = .ok (.getfield 32, 3) := by decide +kernel
theorem d_MD_trap_169 : decode c_MD_trap 169 = .ok (.iload 4, 2) := by decide +kernel
theorem d_MD_trap_171 : decode c_MD_trap 171 = .ok (.bipush 7, 2) := by decide +kernel
theorem d_MD_trap_173 : decode c_MD_trap 173 = .ok (.iadd, 1) := by decide +kernel
theorem d_MD_trap_174 : decode c_MD_trap 174 = .ok (.iaload, 1) := by decide +kernel
theorem d_MD_trap_175 : decode c_MD_trap 175 = .ok (.iastore, 1) := by decide +kernel
theorem d_MD_trap_176 : decode c_MD_trap 176 = .ok (.iload_n 1, 1) := by decide +kernel
theorem d_MD_trap_177 : decode c_MD_trap 177 = .ok (.iconst 4, 1) := by decide +kernel
theorem d_MD_trap_178 : decode c_MD_trap 178 = .ok (.if_icmp .ne 13, 3) := by decide +kernel
theorem d_MD_trap_181 : decode c_MD_trap 181 = .ok (.aload_n 0, 1) := by decide +kernel
theorem d_MD_trap_182 : decode c_MD_trap 182 = .ok (.getfield 53, 3) := by decide +kernel
theorem d_MD_trap_185 : decode c_MD_trap 185 = .ok (.aload_n 0, 1) := by decide +kernel
theorem d_MD_trap_186 : decode c_MD_trap 186 = .ok (.getfield 261, 3) := by decide +kernel
theorem d_MD_trap_189 : decode c_MD_trap 189 = .ok (.iconst 0, 1) := by decide +kernel
theorem d_MD_trap_190 : decode c_MD_trap 190 = .ok (.bastore, 1) := by decide +kernel
theorem d_MD_trap_191 : decode c_MD_trap 191 = .ok (.return_, 1) := by decide +kernel
theorem d_MD_bad_0 : decode c_MD_bad 0 = .ok (.iconst 0, 1) := by decide +kernel
theorem d_MD_bad_1 : decode c_MD_bad 1 = .ok (.istore_n 3, 1) := by decide +kernel
theorem d_MD_bad_2 : decode c_MD_bad 2 = .ok (.iload_n 3, 1) := by decide +kernel
theorem d_MD_bad_3 : decode c_MD_bad 3 = .ok (.iload_n 2, 1) := by decide +kernel
theorem d_MD_bad_4 : decode c_MD_bad 4 = .ok (.if_icmp .ge 29, 3) := by decide +kernel
theorem d_MD_bad_7 : decode c_MD_bad 7 = .ok (.aload_n 0, 1) := by decide +kernel
theorem d_MD_bad_8 : decode c_MD_bad 8 = .ok (.iload_n 1, 1) := by decide +kernel
theorem d_MD_bad_9 : decode c_MD_bad 9 = .ok (.iload_n 3, 1) := by decide +kernel
theorem d_MD_bad_10 : decode c_MD_bad 10 = .ok (.iadd, 1) := by decide +kernel
theorem d_MD_bad_11 : decode c_MD_bad 11 = .ok (.ldc 187, 2) := by decide +kernel
theorem d_MD_bad_13 : decode c_MD_bad 13 = .ok (.irem, 1) := by decide +kernel
theorem d_MD_bad_14 : decode c_MD_bad 14 = .ok (.invokevirtual 264, 3) := by decide +kernel
theorem d_MD_bad_17 : decode c_MD_bad 17 = .ok (.ifCond .ne 10, 3) := by decide +kernel
theorem d_MD_bad_20 : decode c_MD_bad 20 = .ok (.iload_n 1, 1) := by decide +kernel
theorem d_MD_bad_21 : decode c_MD_bad 21 = .ok (.iload_n 3, 1) := by decide +kernel
theorem d_MD_bad_22 : decode c_MD_bad 22 = .ok (.iadd, 1) := by decide +kernel
theorem d_MD_bad_23 : decode c_MD_bad 23 = .ok (.ldc 187, 2) := by decide +kernel
theorem d_MD_bad_25 : decode c_MD_bad 25 = .ok (.irem, 1) := by decide +kernel
theorem d_MD_bad_26 : decode c_MD_bad 26 = .ok (.ireturn, 1) := by decide +kernel
theorem d_MD_bad_27 : decode c_MD_bad 27 = .ok (.iinc 3 1, 3) := by decide +kernel
theorem d_MD_bad_30 : decode c_MD_bad 30 = .ok (.goto (-28), 3) := by decide +kernel
theorem d_MD_bad_33 : decode c_MD_bad 33 = .ok (.iconst (-1), 1) := by decide +kernel
theorem d_MD_bad_34 : decode c_MD_bad 34 = .ok (.ireturn, 1) := by decide +kernel
theorem d_MD_step_0 : decode c_MD_step 0 = .ok (.aload_n 0, 1) := by decide +kernel
theorem d_MD_step_1 : decode c_MD_step 1 = .ok (.getfield 59, 3) := by decide +kernel
theorem d_MD_step_4 : decode c_MD_step 4 = .ok (.aload_n 0, 1) := by decide +kernel
theorem d_MD_step_5 : decode c_MD_step 5 = .ok (.getfield 261, 3) := by decide +kernel
theorem d_MD_step_8 : decode c_MD_step 8 = .ok (.dup2, 1) := by decide +kernel
theorem d_MD_step_9 : decode c_MD_step 9 = .ok (.iaload, 1) := by decide +kernel
theorem d_MD_step_10 : decode c_MD_step 10 = .ok (.iconst 1, 1) := by decide +kernel
theorem d_MD_step_11 : decode c_MD_step 11 = .ok (.iadd, 1) := by decide +kernel
theorem d_MD_step_12 : decode c_MD_step 12 = .ok (.iastore, 1) := by decide +kernel
theorem d_MD_step_13 : decode c_MD_step 13 = .ok (.aload_n 0, 1) := by decide +kernel
theorem d_MD_step_14 : decode c_MD_step 14 = .ok (.getfield 41, 3) := by decide +kernel
theorem d_MD_step_17 : decode c_MD_step 17 = .ok (.aload_n 0, 1) := by decide +kernel
theorem d_MD_step_18 : decode c_MD_step 18 = .ok (.getfield 261, 3) := by decide +kernel
theorem d_MD_step_21 : decode c_MD_step 21 = .ok (.iaload, 1) := by decide +kernel
theorem d_MD_step_22 : decode c_MD_step 22 = .ok (.istore_n 1, 1) := by decide +kernel
theorem d_MD_step_23 : decode c_MD_step 23 = .ok (.aload_n 0, 1) := by decide +kernel
theorem d_MD_step_24 : decode c_MD_step 24 = .ok (.getfield 38, 3) := by decide +kernel
theorem d_MD_step_27 : decode c_MD_step 27 = .ok (.aload_n 0, 1) := by decide +kernel
theorem d_MD_step_28 : decode c_MD_step 28 = .ok (.getfield 261, 3) := by decide +kernel
theorem d_MD_step_31 : decode c_MD_step 31 = .ok (.iaload, 1) := by decide +kernel
theorem d_MD_step_32 : decode c_MD_step 32 = .ok (.iconst 1, 1) := by decide +kernel
theorem d_MD_step_33 : decode c_MD_step 33 = .ok (.if_icmp .ne 23, 3) := by decide +kernel
theorem d_MD_step_36 : decode c_MD_step 36 = .ok (.aload_n 0, 1) := by decide +kernel
theorem d_MD_step_37 : decode c_MD_step 37 = .ok (.getfield 53, 3) := by decide +kernel
theorem d_MD_step_40 : decode c_MD_step 40 = .ok (.aload_n 0, 1) := by decide +kernel
theorem d_MD_step_41 : decode c_MD_step 41 = .ok (.getfield 261, 3) := by decide +kernel
theorem d_MD_step_44 : decode c_MD_step 44 = .ok (.baload, 1) := by decide +kernel
theorem d_MD_step_45 : decode c_MD_step 45 = .ok (.ifCond .eq 11, 3) := by decide +kernel
theorem d_MD_step_48 : decode c_MD_step 48 = .ok (.aload_n 0, 1) := by decide +kernel
theorem d_MD_step_49 : decode c_MD_step 49 = .ok (.iconst 4, 1) := by decide +kernel
theorem d_MD_step_50 : decode c_MD_step 50 = .ok (.iconst 0, 1) := by decide +kernel
theorem d_MD_step_51 : decode c_MD_step 51 = .ok (.iload_n 1, 1) := by decide +kernel
theorem d_MD_step_52 : decode c_MD_step 52 = .ok (.invokevirtual 267, 3) := by decide +kernel
theorem d_MD_step_55 : decode c_MD_step 55 = .ok (.return_, 1) := by decide +kernel
theorem d_MD_step_56 : decode c_MD_step 56 = .ok (.aload_n 0, 1) := by decide +kernel
theorem d_MD_step_57 : decode c_MD_step 57 = .ok (.iload_n 1, 1) := by decide +kernel
theorem d_MD_step_58 : decode c_MD_step 58 = .ok (.iconst 2, 1) := by decide +kernel
theorem d_MD_step_59 : decode c_MD_step 59 = .ok (.invokevirtual 270, 3) := by decide +kernel
theorem d_MD_step_62 : decode c_MD_step 62 = .ok (.istore_n 2, 1) := by decide +kernel
theorem d_MD_step_63 : decode c_MD_step 63 = .ok (.iload_n 2, 1) := by decide +kernel
theorem d_MD_step_64 : decode c_MD_step 64 = .ok (.ifCond .lt 11, 3) := by decide +kernel
theorem d_MD_step_67 : decode c_MD_step 67 = .ok (.aload_n 0, 1) := by decide +kernel
theorem d_MD_step_68 : decode c_MD_step 68 = .ok (.iconst 2, 1) := by decide +kernel
theorem d_MD_step_69 : decode c_MD_step 69 = .ok (.iload_n 2, 1) := by decide +kernel
theorem d_MD_step_70 : decode c_MD_step 70 = .ok (.iload_n 1, 1) := by decide +kernel
theorem d_MD_step_71 : decode c_MD_step 71 = .ok (.invokevirtual 267, 3) := by decide +kernel
theorem d_MD_step_74 : decode c_MD_step 74 = .ok (.return_, 1) := by decide +kernel
theorem d_MD_step_75 : decode c_MD_step 75 = .ok (.aload_n 0, 1) := by decide +kernel
theorem d_MD_step_76 : decode c_MD_step 76 = .ok (.iload_n 1, 1) := by decide +kernel
theorem d_MD_step_77 : decode c_MD_step 77 = .ok (.invokevirtual 273, 3) := by decide +kernel
theorem d_MD_step_80 : decode c_MD_step 80 = .ok (.istore_n 3, 1) := by decide +kernel
theorem d_MD_step_81 : decode c_MD_step 81 = .ok (.aload_n 0, 1) := by decide +kernel
theorem d_MD_step_82 : decode c_MD_step 82 = .ok (.iload_n 1, 1) := by decide +kernel
theorem d_MD_step_83 : decode c_MD_step 83 = .ok (.iconst 1, 1) := by decide +kernel
theorem d_MD_step_84 : decode c_MD_step 84 = .ok (.iadd, 1) := by decide +kernel
theorem d_MD_step_85 : decode c_MD_step 85 = .ok (.ldc 187, 2) := by decide +kernel
theorem d_MD_step_87 : decode c_MD_step 87 = .ok (.irem, 1) := by decide +kernel
theorem d_MD_step_88 : decode c_MD_step 88 = .ok (.invokevirtual 273, 3) := by decide +kernel
theorem d_MD_step_91 : decode c_MD_step 91 = .ok (.istore 4, 2) := by decide +kernel
theorem d_MD_step_93 : decode c_MD_step 93 = .ok (.iload_n 3, 1) := by decide +kernel
theorem d_MD_step_94 : decode c_MD_step 94 = .ok (.bipush 64, 2) := by decide +kernel
theorem d_MD_step_96 : decode c_MD_step 96 = .ok (.idiv, 1) := by decide +kernel
theorem d_MD_step_97 : decode c_MD_step 97 = .ok (.istore 5, 2) := by decide +kernel
theorem d_MD_step_99 : decode c_MD_step 99 = .ok (.iload 5, 2) := by decide +kernel
theorem d_MD_step_101 : decode c_MD_step 101 = .ok (.bipush 24, 2) := by decide +kernel
theorem d_MD_step_103 : decode c_MD_step 103 = .ok (.if_icmp .le 11, 3) := by decide +kernel
theorem d_MD_step_106 : decode c_MD_step 106 = .ok (.aload_n 0, 1) := by decide +kernel
theorem d_MD_step_107 : decode c_MD_step 107 = .ok (.iconst 5, 1) := by decide +kernel
theorem d_MD_step_108 : decode c_MD_step 108 = .ok (.iload_n 3, 1) := by decide +kernel
theorem d_MD_step_109 : decode c_MD_step 109 = .ok (.iload_n 1, 1) := by decide +kernel
theorem d_MD_step_110 : decode c_MD_step 110 = .ok (.invokevirtual 267, 3) := by decide +kernel
theorem d_MD_step_113 : decode c_MD_step 113 = .ok (.return_, 1) := by decide +kernel
theorem d_MD_step_114 : decode c_MD_step 114 = .ok (.aload_n 0, 1) := by decide +kernel
theorem d_MD_step_115 : decode c_MD_step 115 = .ok (.getfield 38, 3) := by decide +kernel
theorem d_MD_step_118 : decode c_MD_step 118 = .ok (.aload_n 0, 1) := by decide +kernel
theorem d_MD_step_119 : decode c_MD_step 119 = .ok (.getfield 261, 3) := by decide +kernel
theorem d_MD_step_122 : decode c_MD_step 122 = .ok (.iaload, 1) := by decide +kernel
theorem d_MD_step_123 : decode c_MD_step 123 = .ok (.iconst 1, 1) := by decide +kernel
theorem d_MD_step_124 : decode c_MD_step 124 = .ok (.if_icmp .ne 23, 3) := by decide +kernel
theorem d_MD_step_127 : decode c_MD_step 127 = .ok (.iload 5, 2) := by decide +kernel
theorem d_MD_step_129 : decode c_MD_step 129 = .ok (.ifCond .eq 10, 3) := by decide +kernel
theorem d_MD_step_132 : decode c_MD_step 132 = .ok (.iload 5, 2) := by decide +kernel
theorem d_MD_step_134 : decode c_MD_step 134 = .ok (.bipush 16, 2) := by decide +kernel
theorem d_MD_step_136 : decode c_MD_step 136 = .ok (.if_icmp .le 11, 3) := by decide +kernel
theorem d_MD_step_139 : decode c_MD_step 139 = .ok (.aload_n 0, 1) := by decide +kernel
theorem d_MD_step_140 : decode c_MD_step 140 = .ok (.iconst 1, 1) := by decide +kernel
theorem d_MD_step_141 : decode c_MD_step 141 = .ok (.iload_n 3, 1) := by decide +kernel
theorem d_MD_step_142 : decode c_MD_step 142 = .ok (.iload_n 1, 1) := by decide +kernel
theorem d_MD_step_143 : decode c_MD_step 143 = .ok (.invokevirtual 267, 3) := by decide +kernel
theorem d_MD_step_146 : decode c_MD_step 146 = .ok (.return_, 1) := by decide +kernel
theorem d_MD_step_147 : decode c_MD_step 147 = .ok (.iload 5, 2) := by decide +kernel
theorem d_MD_step_149 : decode c_MD_step 149 = .ok (.iconst 4, 1) := by decide +kernel
theorem d_MD_step_150 : decode c_MD_step 150 = .ok (.if_icmp .eq 16, 3) := by decide +kernel
theorem d_MD_step_153 : decode c_MD_step 153 = .ok (.iload 5, 2) := by decide +kernel
theorem d_MD_step_155 : decode c_MD_step 155 = .ok (.iconst 5, 1) := by decide +kernel
theorem d_MD_step_156 : decode c_MD_step 156 = .ok (.if_icmp .eq 10, 3) := by decide +kernel
theorem d_MD_step_159 : decode c_MD_step 159 = .ok (.iload 5, 2) := by decide +kernel
theorem d_MD_step_161 : decode c_MD_step 161 = .ok (.bipush 22, 2) := by decide +kernel
theorem d_MD_step_163 : decode c_MD_step 163 = .ok (.if_icmp .le 29, 3) := by decide +kernel
theorem d_MD_step_166 : decode c_MD_step 166 = .ok (.aload_n 0, 1) := by decide +kernel
theorem d_MD_step_167 : decode c_MD_step 167 = .ok (.getfield 35, 3) := by decide +kernel
theorem d_MD_step_170 : decode c_MD_step 170 = .ok (.bipush 8, 2) := by decide +kernel
theorem d_MD_step_172 : decode c_MD_step 172 = .ok (.aload_n 0, 1) := by decide +kernel
theorem d_MD_step_173 : decode c_MD_step 173 = .ok (.getfield 261, 3) := by decide +kernel
theorem d_MD_step_176 : decode c_MD_step 176 = .ok (.imul, 1) := by decide +kernel
theorem d_MD_step_177 : decode c_MD_step 177 = .ok (.iload_n 3, 1) := by decide +kernel
theorem d_MD_step_178 : decode c_MD_step 178 = .ok (.bipush 8, 2) := by decide +kernel
theorem d_MD_step_180 : decode c_MD_step 180 = .ok (.irem, 1) := by decide +kernel
theorem d_MD_step_181 : decode c_MD_step 181 = .ok (.iadd, 1) := by decide +kernel
theorem d_MD_step_182 : decode c_MD_step 182 = .ok (.iaload, 1) := by decide +kernel
theorem d_MD_step_183 : decode c_MD_step 183 = .ok (.iload 4, 2) := by decide +kernel
theorem d_MD_step_185 : decode c_MD_step 185 = .ok (.iadd, 1) := by decide +kernel
theorem d_MD_step_186 : decode c_MD_step 186 = .ok (.ldc 187, 2) := by decide +kernel
theorem d_MD_step_188 : decode c_MD_step 188 = .ok (.irem, 1) := by decide +kernel
theorem d_MD_step_189 : decode c_MD_step 189 = .ok (.goto 5, 3) := by decide +kernel
theorem d_MD_step_192 : decode c_MD_step 192 = .ok (.iload 4, 2) := by decide +kernel
theorem d_MD_step_194 : decode c_MD_step 194 = .ok (.istore 6, 2) := by decide +kernel
theorem d_MD_step_196 : decode c_MD_step 196 = .ok (.iload 5, 2) := by decide +kernel
theorem d_MD_step_198 : decode c_MD_step 198 = .ok (.iconst 1, 1) := by decide +kernel
theorem d_MD_step_199 : decode c_MD_step 199 = .ok (.if_icmp .le 14, 3) := by decide +kernel
theorem d_MD_step_202 : decode c_MD_step 202 = .ok (.iload 5, 2) := by decide +kernel
theorem d_MD_step_204 : decode c_MD_step 204 = .ok (.bipush 6, 2) := by decide +kernel
theorem d_MD_step_206 : decode c_MD_step 206 = .ok (.if_icmp .ge 7, 3) := by decide +kernel
theorem d_MD_step_209 : decode c_MD_step 209 = .ok (.iconst 1, 1) := by decide +kernel
theorem d_MD_step_210 : decode c_MD_step 210 = .ok (.goto 34, 3) := by decide +kernel
theorem d_MD_step_213 : decode c_MD_step 213 = .ok (.iload 5, 2) := by decide +kernel
theorem d_MD_step_215 : decode c_MD_step 215 = .ok (.bipush 17, 2) := by decide +kernel
theorem d_MD_step_217 : decode c_MD_step 217 = .ok (.if_icmp .eq 10, 3) := by decide +kernel
theorem d_MD_step_220 : decode c_MD_step 220 = .ok (.iload 5, 2) := by decide +kernel
theorem d_MD_step_222 : decode c_MD_step 222 = .ok (.bipush 18, 2) := by decide +kernel
theorem d_MD_step_224 : decode c_MD_step 224 = .ok (.if_icmp .ne 7, 3) := by decide +kernel
theorem d_MD_step_227 : decode c_MD_step 227 = .ok (.iconst 4, 1) := by decide +kernel
theorem d_MD_step_228 : decode c_MD_step 228 = .ok (.goto 16, 3) := by decide +kernel
theorem d_MD_step_231 : decode c_MD_step 231 = .ok (.iload 5, 2) := by decide +kernel
theorem d_MD_step_233 : decode c_MD_step 233 = .ok (.bipush 22, 2) := by decide +kernel
theorem d_MD_step_235 : decode c_MD_step 235 = .ok (.if_icmp .le 8, 3) := by decide +kernel
theorem d_MD_step_238 : decode c_MD_step 238 = .ok (.bipush 16, 2) := by decide +kernel
theorem d_MD_step_240 : decode c_MD_step 240 = .ok (.goto 4, 3) := by decide +kernel
theorem d_MD_step_243 : decode c_MD_step 243 = .ok (.iconst 0, 1) := by decide +kernel
theorem d_MD_step_244 : decode c_MD_step 244 = .ok (.istore 7, 2) := by decide +kernel
theorem d_MD_step_246 : decode c_MD_step 246 = .ok (.aload_n 0, 1) := by decide +kernel
theorem d_MD_step_247 : decode c_MD_step 247 = .ok (.iload 6, 2) := by decide +kernel
theorem d_MD_step_249 : decode c_MD_step 249 = .ok (.iload 7, 2) := by decide +kernel
theorem d_MD_step_251 : decode c_MD_step 251 = .ok (.invokevirtual 270, 3) := by decide +kernel
theorem d_MD_step_254 : decode c_MD_step 254 = .ok (.istore_n 2, 1) := by decide +kernel
theorem d_MD_step_255 : decode c_MD_step 255 = .ok (.iload_n 2, 1) := by decide +kernel
theorem d_MD_step_256 : decode c_MD_step 256 = .ok (.ifCond .lt 11, 3) := by decide +kernel
theorem d_MD_step_259 : decode c_MD_step 259 = .ok (.aload_n 0, 1) := by decide +kernel
theorem d_MD_step_260 : decode c_MD_step 260 = .ok (.iconst 2, 1) := by decide +kernel
theorem d_MD_step_261 : decode c_MD_step 261 = .ok (.iload_n 2, 1) := by decide +kernel
theorem d_MD_step_262 : decode c_MD_step 262 = .ok (.iload_n 1, 1) := by decide +kernel
theorem d_MD_step_263 : decode c_MD_step 263 = .ok (.invokevirtual 267, 3) := by decide +kernel
theorem d_MD_step_266 : decode c_MD_step 266 = .ok (.return_, 1) := by decide +kernel
theorem d_MD_step_267 : decode c_MD_step 267 = .ok (.iload 5, 2) := by decide +kernel
theorem d_MD_step_269 : decode c_MD_step 269 = .ok (.bipush 16, 2) := by decide +kernel
theorem d_MD_step_271 : decode c_MD_step 271 = .ok (.if_icmp .ne 17, 3) := by decide +kernel
theorem d_MD_step_274 : decode c_MD_step 274 = .ok (.aload_n 0, 1) := by decide +kernel
theorem d_MD_step_275 : decode c_MD_step 275 = .ok (.iconst 3, 1) := by decide +kernel
theorem d_MD_step_276 : decode c_MD_step 276 = .ok (.iload 4, 2) := by decide +kernel
theorem d_MD_step_278 : decode c_MD_step 278 = .ok (.iload_n 1, 1) := by decide +kernel
theorem d_MD_step_279 : decode c_MD_step 279 = .ok (.iconst 2, 1) := by decide +kernel
theorem d_MD_step_280 : decode c_MD_step 280 = .ok (.iadd, 1) := by decide +kernel
theorem d_MD_step_281 : decode c_MD_step 281 = .ok (.ldc 187, 2) := by decide +kernel
theorem d_MD_step_283 : decode c_MD_step 283 = .ok (.irem, 1) := by decide +kernel
theorem d_MD_step_284 : decode c_MD_step 284 = .ok (.invokevirtual 267, 3) := by decide +kernel
theorem d_MD_step_287 : decode c_MD_step 287 = .ok (.return_, 1) := by decide +kernel
theorem d_MD_step_288 : decode c_MD_step 288 = .ok (.aload_n 0, 1) := by decide +kernel
theorem d_MD_step_289 : decode c_MD_step 289 = .ok (.getfield 38, 3) := by decide +kernel
theorem d_MD_step_292 : decode c_MD_step 292 = .ok (.aload_n 0, 1) := by decide +kernel
theorem d_MD_step_293 : decode c_MD_step 293 = .ok (.getfield 261, 3) := by decide +kernel
theorem d_MD_step_296 : decode c_MD_step 296 = .ok (.iaload, 1) := by decide +kernel
theorem d_MD_step_297 : decode c_MD_step 297 = .ok (.iconst 1, 1) := by decide +kernel
theorem d_MD_step_298 : decode c_MD_step 298 = .ok (.if_icmp .ne 19, 3) := by decide +kernel
theorem d_MD_step_301 : decode c_MD_step 301 = .ok (.aload_n 0, 1) := by decide +kernel
theorem d_MD_step_302 : decode c_MD_step 302 = .ok (.getfield 50, 3) := by decide +kernel
theorem d_MD_step_305 : decode c_MD_step 305 = .ok (.aload_n 0, 1) := by decide +kernel
theorem d_MD_step_306 : decode c_MD_step 306 = .ok (.getfield 261, 3) := by decide +kernel
theorem d_MD_step_309 : decode c_MD_step 309 = .ok (.iaload, 1) := by decide +kernel
theorem d_MD_step_310 : decode c_MD_step 310 = .ok (.ifCond .le 7, 3) := by decide +kernel
theorem d_MD_step_313 : decode c_MD_step 313 = .ok (.iconst 1, 1) := by decide +kernel
theorem d_MD_step_314 : decode c_MD_step 314 = .ok (.goto 4, 3) := by decide +kernel
theorem d_MD_step_317 : decode c_MD_step 317 = .ok (.iconst 0, 1) := by decide +kernel
theorem d_MD_step_318 : decode c_MD_step 318 = .ok (.istore 8, 2) := by decide +kernel
theorem d_MD_step_320 : decode c_MD_step 320 = .ok (.aload_n 0, 1) := by decide +kernel
theorem d_MD_step_321 : decode c_MD_step 321 = .ok (.getfield 41, 3) := by decide +kernel
theorem d_MD_step_324 : decode c_MD_step 324 = .ok (.aload_n 0, 1) := by decide +kernel
theorem d_MD_step_325 : decode c_MD_step 325 = .ok (.getfield 261, 3) := by decide +kernel
theorem d_MD_step_328 : decode c_MD_step 328 = .ok (.iload_n 1, 1) := by decide +kernel
theorem d_MD_step_329 : decode c_MD_step 329 = .ok (.iconst 2, 1) := by decide +kernel
theorem d_MD_step_330 : decode c_MD_step 330 = .ok (.iadd, 1) := by decide +kernel
theorem d_MD_step_331 : decode c_MD_step 331 = .ok (.ldc 187, 2) := by decide +kernel
theorem d_MD_step_333 : decode c_MD_step 333 = .ok (.irem, 1) := by decide +kernel
theorem d_MD_step_334 : decode c_MD_step 334 = .ok (.iastore, 1) := by decide +kernel
theorem d_MD_step_335 : decode c_MD_step 335 = .ok (.aload_n 0, 1) := by decide +kernel
theorem d_MD_step_336 : decode c_MD_step 336 = .ok (.iload 5, 2) := by decide +kernel
theorem d_MD_step_338 : decode c_MD_step 338 = .ok (.iload_n 3, 1) := by decide +kernel
theorem d_MD_step_339 : decode c_MD_step 339 = .ok (.bipush 8, 2) := by decide +kernel
theorem d_MD_step_341 : decode c_MD_step 341 = .ok (.idiv, 1) := by decide +kernel
theorem d_MD_step_342 : decode c_MD_step 342 = .ok (.bipush 8, 2) := by decide +kernel
theorem d_MD_step_344 : decode c_MD_step 344 = .ok (.irem, 1) := by decide +kernel
theorem d_MD_step_345 : decode c_MD_step 345 = .ok (.iload_n 3, 1) := by decide +kernel
theorem d_MD_step_346 : decode c_MD_step 346 = .ok (.bipush 8, 2) := by decide +kernel
theorem d_MD_step_348 : decode c_MD_step 348 = .ok (.irem, 1) := by decide +kernel
theorem d_MD_step_349 : decode c_MD_step 349 = .ok (.iload 4, 2) := by decide +kernel
theorem d_MD_step_351 : decode c_MD_step 351 = .ok (.iload 6, 2) := by decide +kernel
theorem d_MD_step_353 : decode c_MD_step 353 = .ok (.iload_n 1, 1) := by decide +kernel
theorem d_MD_step_354 : decode c_MD_step 354 = .ok (.invokevirtual 276, 3) := by decide +kernel
theorem d_MD_step_357 : decode c_MD_step 357 = .ok (.iload 8, 2) := by decide +kernel
theorem d_MD_step_359 : decode c_MD_step 359 = .ok (.ifCond .ne 4, 3) := by decide +kernel
theorem d_MD_step_362 : decode c_MD_step 362 = .ok (.return_, 1) := by decide +kernel
theorem d_MD_step_363 : decode c_MD_step 363 = .ok (.aload_n 0, 1) := by decide +kernel
theorem d_MD_step_364 : decode c_MD_step 364 = .ok (.getfield 50, 3) := by decide +kernel
theorem d_MD_step_367 : decode c_MD_step 367 = .ok (.aload_n 0, 1) := by decide +kernel
theorem d_MD_step_368 : decode c_MD_step 368 = .ok (.getfield 261, 3) := by decide +kernel
theorem d_MD_step_371 : decode c_MD_step 371 = .ok (.dup2, 1) := by decide +kernel
theorem d_MD_step_372 : decode c_MD_step 372 = .ok (.iaload, 1) := by decide +kernel
theorem d_MD_step_373 : decode c_MD_step 373 = .ok (.iconst 1, 1) := by decide +kernel
theorem d_MD_step_374 : decode c_MD_step 374 = .ok (.isub, 1) := by decide +kernel
theorem d_MD_step_375 : decode c_MD_step 375 = .ok (.iastore, 1) := by decide +kernel
theorem d_MD_step_376 : decode c_MD_step 376 = .ok (.aload_n 0, 1) := by decide +kernel
theorem d_MD_step_377 : decode c_MD_step 377 = .ok (.getfield 53, 3) := by decide +kernel
theorem d_MD_step_380 : decode c_MD_step 380 = .ok (.aload_n 0, 1) := by decide +kernel
theorem d_MD_step_381 : decode c_MD_step 381 = .ok (.getfield 261, 3) := by decide +kernel
theorem d_MD_step_384 : decode c_MD_step 384 = .ok (.aload_n 0, 1) := by decide +kernel
theorem d_MD_step_385 : decode c_MD_step 385 = .ok (.getfield 50, 3) := by decide +kernel
theorem d_MD_step_388 : decode c_MD_step 388 = .ok (.aload_n 0, 1) := by decide +kernel
theorem d_MD_step_389 : decode c_MD_step 389 = .ok (.getfield 261, 3) := by decide +kernel
theorem d_MD_step_392 : decode c_MD_step 392 = .ok (.iaload, 1) := by decide +kernel
theorem d_MD_step_393 : decode c_MD_step 393 = .ok (.ifCond .ne 7, 3) := by decide +kernel
theorem d_MD_step_396 : decode c_MD_step 396 = .ok (.iconst 1, 1) := by decide +kernel
theorem d_MD_step_397 : decode c_MD_step 397 = .ok (.goto 4, 3) := by decide +kernel
theorem d_MD_step_400 : decode c_MD_step 400 = .ok (.iconst 0, 1) := by decide +kernel
theorem d_MD_step_401 : decode c_MD_step 401 = .ok (.bastore, 1) := by decide +kernel
theorem d_MD_step_402 : decode c_MD_step 402 = .ok (.return_, 1) := by decide +kernel
theorem d_MD_does_0 : decode c_MD_does 0 = .ok (.bipush 8, 2) := by decide +kernel
theorem d_MD_does_2 : decode c_MD_does 2 = .ok (.aload_n 0, 1) := by decide +kernel
theorem d_MD_does_3 : decode c_MD_does 3 = .ok (.getfield 261, 3) := by decide +kernel
theorem d_MD_does_6 : decode c_MD_does 6 = .ok (.imul, 1) := by decide +kernel
theorem d_MD_does_7 : decode c_MD_does 7 = .ok (.iload_n 2, 1) := by decide +kernel
theorem d_MD_does_8 : decode c_MD_does 8 = .ok (.iadd, 1) := by decide +kernel
theorem d_MD_does_9 : decode c_MD_does 9 = .ok (.istore 7, 2) := by decide +kernel
theorem d_MD_does_11 : decode c_MD_does 11 = .ok (.aload_n 0, 1) := by decide +kernel
theorem d_MD_does_12 : decode c_MD_does 12 = .ok (.getfield 35, 3) := by decide +kernel
theorem d_MD_does_15 : decode c_MD_does 15 = .ok (.iload 7, 2) := by decide +kernel
theorem d_MD_does_17 : decode c_MD_does 17 = .ok (.iaload, 1) := by decide +kernel
theorem d_MD_does_18 : decode c_MD_does 18 = .ok (.istore 8, 2) := by decide +kernel
theorem d_MD_does_20 : decode c_MD_does 20 = .ok (.aload_n 0, 1) := by decide +kernel
theorem d_MD_does_21 : decode c_MD_does 21 = .ok (.getfield 35, 3) := by decide +kernel
theorem d_MD_does_24 : decode c_MD_does 24 = .ok (.bipush 8, 2) := by decide +kernel
theorem d_MD_does_26 : decode c_MD_does 26 = .ok (.aload_n 0, 1) := by decide +kernel
theorem d_MD_does_27 : decode c_MD_does 27 = .ok (.getfield 261, 3) := by decide +kernel
theorem d_MD_does_30 : decode c_MD_does 30 = .ok (.imul, 1) := by decide +kernel
theorem d_MD_does_31 : decode c_MD_does 31 = .ok (.iload_n 3, 1) := by decide +kernel
theorem d_MD_does_32 : decode c_MD_does 32 = .ok (.iadd, 1) := by decide +kernel
theorem d_MD_does_33 : decode c_MD_does 33 = .ok (.iaload, 1) := by decide +kernel
theorem d_MD_does_34 : decode c_MD_does 34 = .ok (.istore 9, 2) := by decide +kernel
theorem d_MD_does_36 : decode c_MD_does 36 = .ok (.iload_n 1, 1) := by decide +kernel
theorem d_MD_does_37 : decode c_MD_does 37 = .ok (.tableswitch 347 0 15 #[79, 103, 115, 131, 115, 131, 142, 154, 172, 193, 208, 230, 272, 286, 305, 319], 79) := by decide +kernel
theorem d_MD_does_116 : decode c_MD_does 116 = .ok (.aload_n 0, 1) := by decide +kernel
theorem d_MD_does_117 : decode c_MD_does 117 = .ok (.getfield 56, 3) := by decide +kernel
theorem d_MD_does_120 : decode c_MD_does 120 = .ok (.aload_n 0, 1) := by decide +kernel
theorem d_MD_does_121 : decode c_MD_does 121 = .ok (.getfield 261, 3) := by decide +kernel
theorem d_MD_does_124 : decode c_MD_does 124 = .ok (.iconst 1, 1) := by decide +kernel
theorem d_MD_does_125 : decode c_MD_does 125 = .ok (.bastore, 1) := by decide +kernel
theorem d_MD_does_126 : decode c_MD_does 126 = .ok (.aload_n 0, 1) := by decide +kernel
theorem d_MD_does_127 : decode c_MD_does 127 = .ok (.getfield 41, 3) := by decide +kernel
theorem d_MD_does_130 : decode c_MD_does 130 = .ok (.aload_n 0, 1) := by decide +kernel
theorem d_MD_does_131 : decode c_MD_does 131 = .ok (.getfield 261, 3) := by decide +kernel
theorem d_MD_does_134 : decode c_MD_does 134 = .ok (.iload 6, 2) := by decide +kernel
theorem d_MD_does_136 : decode c_MD_does 136 = .ok (.iastore, 1) := by decide +kernel
theorem d_MD_does_137 : decode c_MD_does 137 = .ok (.goto 257, 3) := by decide +kernel
theorem d_MD_does_140 : decode c_MD_does 140 = .ok (.aload_n 0, 1) := by decide +kernel
theorem d_MD_does_141 : decode c_MD_does 141 = .ok (.getfield 35, 3) := by decide +kernel
theorem d_MD_does_144 : decode c_MD_does 144 = .ok (.iload 7, 2) := by decide +kernel
theorem d_MD_does_146 : decode c_MD_does 146 = .ok (.iload 4, 2) := by decide +kernel
theorem d_MD_does_148 : decode c_MD_does 148 = .ok (.iastore, 1) := by decide +kernel
theorem d_MD_does_149 : decode c_MD_does 149 = .ok (.goto 245, 3) := by decide +kernel
theorem d_MD_does_152 : decode c_MD_does 152 = .ok (.aload_n 0, 1) := by decide +kernel
theorem d_MD_does_153 : decode c_MD_does 153 = .ok (.getfield 35, 3) := by decide +kernel
theorem d_MD_does_156 : decode c_MD_does 156 = .ok (.iload 7, 2) := by decide +kernel
theorem d_MD_does_158 : decode c_MD_does 158 = .ok (.aload_n 0, 1) := by decide +kernel
theorem d_MD_does_159 : decode c_MD_does 159 = .ok (.iload 5, 2) := by decide +kernel
theorem d_MD_does_161 : decode c_MD_does 161 = .ok (.invokevirtual 273, 3) := by decide +kernel
theorem d_MD_does_164 : decode c_MD_does 164 = .ok (.iastore, 1) := by decide +kernel
theorem d_MD_does_165 : decode c_MD_does 165 = .ok (.goto 229, 3) := by decide +kernel
theorem d_MD_does_168 : decode c_MD_does 168 = .ok (.aload_n 0, 1) := by decide +kernel
theorem d_MD_does_169 : decode c_MD_does 169 = .ok (.iload 5, 2) := by decide +kernel
theorem d_MD_does_171 : decode c_MD_does 171 = .ok (.iload 8, 2) := by decide +kernel
theorem d_MD_does_173 : decode c_MD_does 173 = .ok (.invokevirtual 280, 3) := by decide +kernel
theorem d_MD_does_176 : decode c_MD_does 176 = .ok (.goto 218, 3) := by decide +kernel
theorem d_MD_does_179 : decode c_MD_does 179 = .ok (.aload_n 0, 1) := by decide +kernel
theorem d_MD_does_180 : decode c_MD_does 180 = .ok (.getfield 35, 3) := by decide +kernel
theorem d_MD_does_183 : decode c_MD_does 183 = .ok (.iload 7, 2) := by decide +kernel
theorem d_MD_does_185 : decode c_MD_does 185 = .ok (.iload 9, 2) := by decide +kernel
theorem d_MD_does_187 : decode c_MD_does 187 = .ok (.iastore, 1) := by decide +kernel
theorem d_MD_does_188 : decode c_MD_does 188 = .ok (.goto 206, 3) := by decide +kernel
theorem d_MD_does_191 : decode c_MD_does 191 = .ok (.aload_n 0, 1) := by decide +kernel
theorem d_MD_does_192 : decode c_MD_does 192 = .ok (.getfield 35, 3) := by decide +kernel
theorem d_MD_does_195 : decode c_MD_does 195 = .ok (.iload 7, 2) := by decide +kernel
theorem d_MD_does_197 : decode c_MD_does 197 = .ok (.iload 8, 2) := by decide +kernel
theorem d_MD_does_199 : decode c_MD_does 199 = .ok (.iload 9, 2) := by decide +kernel
theorem d_MD_does_201 : decode c_MD_does 201 = .ok (.iadd, 1) := by decide +kernel
theorem d_MD_does_202 : decode c_MD_does 202 = .ok (.ldc 187, 2) := by decide +kernel
theorem d_MD_does_204 : decode c_MD_does 204 = .ok (.irem, 1) := by decide +kernel
theorem d_MD_does_205 : decode c_MD_does 205 = .ok (.iastore, 1) := by decide +kernel
theorem d_MD_does_206 : decode c_MD_does 206 = .ok (.goto 188, 3) := by decide +kernel
theorem d_MD_does_209 : decode c_MD_does 209 = .ok (.aload_n 0, 1) := by decide +kernel
theorem d_MD_does_210 : decode c_MD_does 210 = .ok (.getfield 35, 3) := by decide +kernel
theorem d_MD_does_213 : decode c_MD_does 213 = .ok (.iload 7, 2) := by decide +kernel
theorem d_MD_does_215 : decode c_MD_does 215 = .ok (.iload 8, 2) := by decide +kernel
theorem d_MD_does_217 : decode c_MD_does 217 = .ok (.iload 9, 2) := by decide +kernel
theorem d_MD_does_219 : decode c_MD_does 219 = .ok (.isub, 1) := by decide +kernel
theorem d_MD_does_220 : decode c_MD_does 220 = .ok (.ldc 187, 2) := by decide +kernel
theorem d_MD_does_222 : decode c_MD_does 222 = .ok (.iadd, 1) := by decide +kernel
theorem d_MD_does_223 : decode c_MD_does 223 = .ok (.ldc 187, 2) := by decide +kernel
theorem d_MD_does_225 : decode c_MD_does 225 = .ok (.irem, 1) := by decide +kernel
theorem d_MD_does_226 : decode c_MD_does 226 = .ok (.iastore, 1) := by decide +kernel
theorem d_MD_does_227 : decode c_MD_does 227 = .ok (.goto 167, 3) := by decide +kernel
theorem d_MD_does_230 : decode c_MD_does 230 = .ok (.aload_n 0, 1) := by decide +kernel
theorem d_MD_does_231 : decode c_MD_does 231 = .ok (.getfield 35, 3) := by decide +kernel
theorem d_MD_does_234 : decode c_MD_does 234 = .ok (.iload 7, 2) := by decide +kernel
theorem d_MD_does_236 : decode c_MD_does 236 = .ok (.iload 8, 2) := by decide +kernel
theorem d_MD_does_238 : decode c_MD_does 238 = .ok (.iload 9, 2) := by decide +kernel
theorem d_MD_does_240 : decode c_MD_does 240 = .ok (.iand, 1) := by decide +kernel
theorem d_MD_does_241 : decode c_MD_does 241 = .ok (.iastore, 1) := by decide +kernel
theorem d_MD_does_242 : decode c_MD_does 242 = .ok (.goto 152, 3) := by decide +kernel
theorem d_MD_does_245 : decode c_MD_does 245 = .ok (.aload_n 0, 1) := by decide +kernel
theorem d_MD_does_246 : decode c_MD_does 246 = .ok (.getfield 35, 3) := by decide +kernel
theorem d_MD_does_249 : decode c_MD_does 249 = .ok (.iload 7, 2) := by decide +kernel
theorem d_MD_does_251 : decode c_MD_does 251 = .ok (.iload 8, 2) := by decide +kernel
theorem d_MD_does_253 : decode c_MD_does 253 = .ok (.iload 9, 2) := by decide +kernel
theorem d_MD_does_255 : decode c_MD_does 255 = .ok (.if_icmp .ge 7, 3) := by decide +kernel
theorem d_MD_does_258 : decode c_MD_does 258 = .ok (.iconst 1, 1) := by decide +kernel
theorem d_MD_does_259 : decode c_MD_does 259 = .ok (.goto 4, 3) := by decide +kernel
theorem d_MD_does_262 : decode c_MD_does 262 = .ok (.iconst 0, 1) := by decide +kernel
theorem d_MD_does_263 : decode c_MD_does 263 = .ok (.iastore, 1) := by decide +kernel
theorem d_MD_does_264 : decode c_MD_does 264 = .ok (.goto 130, 3) := by decide +kernel
theorem d_MD_does_267 : decode c_MD_does 267 = .ok (.aload_n 0, 1) := by decide +kernel
theorem d_MD_does_268 : decode c_MD_does 268 = .ok (.getfield 35, 3) := by decide +kernel
theorem d_MD_does_271 : decode c_MD_does 271 = .ok (.iload 7, 2) := by decide +kernel
theorem d_MD_does_273 : decode c_MD_does 273 = .ok (.iload 4, 2) := by decide +kernel
theorem d_MD_does_275 : decode c_MD_does 275 = .ok (.bipush 16, 2) := by decide +kernel
theorem d_MD_does_277 : decode c_MD_does 277 = .ok (.idiv, 1) := by decide +kernel
theorem d_MD_does_278 : decode c_MD_does 278 = .ok (.iconst 2, 1) := by decide +kernel
theorem d_MD_does_279 : decode c_MD_does 279 = .ok (.irem, 1) := by decide +kernel
theorem d_MD_does_280 : decode c_MD_does 280 = .ok (.ifCond .ne 17, 3) := by decide +kernel
theorem d_MD_does_283 : decode c_MD_does 283 = .ok (.iload 8, 2) := by decide +kernel
theorem d_MD_does_285 : decode c_MD_does 285 = .ok (.iload 4, 2) := by decide +kernel
theorem d_MD_does_287 : decode c_MD_does 287 = .ok (.bipush 16, 2) := by decide +kernel
theorem d_MD_does_289 : decode c_MD_does 289 = .ok (.irem, 1) := by decide +kernel
theorem d_MD_does_290 : decode c_MD_does 290 = .ok (.ishl, 1) := by decide +kernel
theorem d_MD_does_291 : decode c_MD_does 291 = .ok (.ldc 187, 2) := by decide +kernel
theorem d_MD_does_293 : decode c_MD_does 293 = .ok (.irem, 1) := by decide +kernel
theorem d_MD_does_294 : decode c_MD_does 294 = .ok (.goto 11, 3) := by decide +kernel
theorem d_MD_does_297 : decode c_MD_does 297 = .ok (.iload 8, 2) := by decide +kernel
theorem d_MD_does_299 : decode c_MD_does 299 = .ok (.iload 4, 2) := by decide +kernel
theorem d_MD_does_301 : decode c_MD_does 301 = .ok (.bipush 16, 2) := by decide +kernel
theorem d_MD_does_303 : decode c_MD_does 303 = .ok (.irem, 1) := by decide +kernel
theorem d_MD_does_304 : decode c_MD_does 304 = .ok (.ishr, 1) := by decide +kernel
theorem d_MD_does_305 : decode c_MD_does 305 = .ok (.iastore, 1) := by decide +kernel
theorem d_MD_does_306 : decode c_MD_does 306 = .ok (.goto 88, 3) := by decide +kernel
theorem d_MD_does_309 : decode c_MD_does 309 = .ok (.aload_n 0, 1) := by decide +kernel
theorem d_MD_does_310 : decode c_MD_does 310 = .ok (.getfield 41, 3) := by decide +kernel
theorem d_MD_does_313 : decode c_MD_does 313 = .ok (.aload_n 0, 1) := by decide +kernel
theorem d_MD_does_314 : decode c_MD_does 314 = .ok (.getfield 261, 3) := by decide +kernel
theorem d_MD_does_317 : decode c_MD_does 317 = .ok (.iload 4, 2) := by decide +kernel
theorem d_MD_does_319 : decode c_MD_does 319 = .ok (.iastore, 1) := by decide +kernel
theorem d_MD_does_320 : decode c_MD_does 320 = .ok (.goto 74, 3) := by decide +kernel
theorem d_MD_does_323 : decode c_MD_does 323 = .ok (.iload 8, 2) := by decide +kernel
theorem d_MD_does_325 : decode c_MD_does 325 = .ok (.ifCond .ne 69, 3) := by decide +kernel
theorem d_MD_does_328 : decode c_MD_does 328 = .ok (.aload_n 0, 1) := by decide +kernel
theorem d_MD_does_329 : decode c_MD_does 329 = .ok (.getfield 41, 3) := by decide +kernel
theorem d_MD_does_332 : decode c_MD_does 332 = .ok (.aload_n 0, 1) := by decide +kernel
theorem d_MD_does_333 : decode c_MD_does 333 = .ok (.getfield 261, 3) := by decide +kernel
theorem d_MD_does_336 : decode c_MD_does 336 = .ok (.iload 4, 2) := by decide +kernel
theorem d_MD_does_338 : decode c_MD_does 338 = .ok (.iastore, 1) := by decide +kernel
theorem d_MD_does_339 : decode c_MD_does 339 = .ok (.goto 55, 3) := by decide +kernel
theorem d_MD_does_342 : decode c_MD_does 342 = .ok (.aload_n 0, 1) := by decide +kernel
theorem d_MD_does_343 : decode c_MD_does 343 = .ok (.getfield 41, 3) := by decide +kernel
theorem d_MD_does_346 : decode c_MD_does 346 = .ok (.aload_n 0, 1) := by decide +kernel
theorem d_MD_does_347 : decode c_MD_does 347 = .ok (.getfield 261, 3) := by decide +kernel
theorem d_MD_does_350 : decode c_MD_does 350 = .ok (.iload 8, 2) := by decide +kernel
theorem d_MD_does_352 : decode c_MD_does 352 = .ok (.iastore, 1) := by decide +kernel
theorem d_MD_does_353 : decode c_MD_does 353 = .ok (.goto 41, 3) := by decide +kernel
theorem d_MD_does_356 : decode c_MD_does 356 = .ok (.aload_n 0, 1) := by decide +kernel
theorem d_MD_does_357 : decode c_MD_does 357 = .ok (.getfield 35, 3) := by decide +kernel
theorem d_MD_does_360 : decode c_MD_does 360 = .ok (.iload 7, 2) := by decide +kernel
theorem d_MD_does_362 : decode c_MD_does 362 = .ok (.iload 6, 2) := by decide +kernel
theorem d_MD_does_364 : decode c_MD_does 364 = .ok (.iconst 2, 1) := by decide +kernel
theorem d_MD_does_365 : decode c_MD_does 365 = .ok (.iadd, 1) := by decide +kernel
theorem d_MD_does_366 : decode c_MD_does 366 = .ok (.ldc 187, 2) := by decide +kernel
theorem d_MD_does_368 : decode c_MD_does 368 = .ok (.irem, 1) := by decide +kernel
theorem d_MD_does_369 : decode c_MD_does 369 = .ok (.iastore, 1) := by decide +kernel
theorem d_MD_does_370 : decode c_MD_does 370 = .ok (.aload_n 0, 1) := by decide +kernel
theorem d_MD_does_371 : decode c_MD_does 371 = .ok (.getfield 41, 3) := by decide +kernel
theorem d_MD_does_374 : decode c_MD_does 374 = .ok (.aload_n 0, 1) := by decide +kernel
theorem d_MD_does_375 : decode c_MD_does 375 = .ok (.getfield 261, 3) := by decide +kernel
theorem d_MD_does_378 : decode c_MD_does 378 = .ok (.iload 4, 2) := by decide +kernel
theorem d_MD_does_380 : decode c_MD_does 380 = .ok (.iastore, 1) := by decide +kernel
theorem d_MD_does_381 : decode c_MD_does 381 = .ok (.goto 13, 3) := by decide +kernel
theorem d_MD_does_384 : decode c_MD_does 384 = .ok (.aload_n 0, 1) := by decide +kernel
theorem d_MD_does_385 : decode c_MD_does 385 = .ok (.iload_n 1, 1) := by decide +kernel
theorem d_MD_does_386 : decode c_MD_does 386 = .ok (.iload_n 2, 1) := by decide +kernel
theorem d_MD_does_387 : decode c_MD_does 387 = .ok (.iload 4, 2) := by decide +kernel
theorem d_MD_does_389 : decode c_MD_does 389 = .ok (.iload 5, 2) := by decide +kernel
theorem d_MD_does_391 : decode c_MD_does 391 = .ok (.invokevirtual 284, 3) := by decide +kernel
theorem d_MD_does_394 : decode c_MD_does 394 = .ok (.return_, 1) := by decide +kernel
theorem d_MD_rest_0 : decode c_MD_rest 0 = .ok (.bipush 8, 2) := by decide +kernel
theorem d_MD_rest_2 : decode c_MD_rest 2 = .ok (.aload_n 0, 1) := by decide +kernel
theorem d_MD_rest_3 : decode c_MD_rest 3 = .ok (.getfield 261, 3) := by decide +kernel
theorem d_MD_rest_6 : decode c_MD_rest 6 = .ok (.imul, 1) := by decide +kernel
theorem d_MD_rest_7 : decode c_MD_rest 7 = .ok (.iload_n 2, 1) := by decide +kernel
theorem d_MD_rest_8 : decode c_MD_rest 8 = .ok (.iadd, 1) := by decide +kernel
theorem d_MD_rest_9 : decode c_MD_rest 9 = .ok (.istore 5, 2) := by decide +kernel
theorem d_MD_rest_11 : decode c_MD_rest 11 = .ok (.iload_n 1, 1) := by decide +kernel
theorem d_MD_rest_12 : decode c_MD_rest 12 = .ok (.tableswitch 339 17 22 #[40, 138, 212, 241, 260, 274], 40) := by decide +kernel
theorem d_MD_rest_52 : decode c_MD_rest 52 = .ok (.aload_n 0, 1) := by decide +kernel
theorem d_MD_rest_53 : decode c_MD_rest 53 = .ok (.iload_n 3, 1) := by decide +kernel
theorem d_MD_rest_54 : decode c_MD_rest 54 = .ok (.invokevirtual 273, 3) := by decide +kernel
theorem d_MD_rest_57 : decode c_MD_rest 57 = .ok (.istore 6, 2) := by decide +kernel
theorem d_MD_rest_59 : decode c_MD_rest 59 = .ok (.aload_n 0, 1) := by decide +kernel
theorem d_MD_rest_60 : decode c_MD_rest 60 = .ok (.iload_n 3, 1) := by decide +kernel
theorem d_MD_rest_61 : decode c_MD_rest 61 = .ok (.iconst 1, 1) := by decide +kernel
theorem d_MD_rest_62 : decode c_MD_rest 62 = .ok (.iadd, 1) := by decide +kernel
theorem d_MD_rest_63 : decode c_MD_rest 63 = .ok (.ldc 187, 2) := by decide +kernel
theorem d_MD_rest_65 : decode c_MD_rest 65 = .ok (.irem, 1) := by decide +kernel
theorem d_MD_rest_66 : decode c_MD_rest 66 = .ok (.invokevirtual 273, 3) := by decide +kernel
theorem d_MD_rest_69 : decode c_MD_rest 69 = .ok (.istore 7, 2) := by decide +kernel
theorem d_MD_rest_71 : decode c_MD_rest 71 = .ok (.aload_n 0, 1) := by decide +kernel
theorem d_MD_rest_72 : decode c_MD_rest 72 = .ok (.iload_n 3, 1) := by decide +kernel
theorem d_MD_rest_73 : decode c_MD_rest 73 = .ok (.iconst 2, 1) := by decide +kernel
theorem d_MD_rest_74 : decode c_MD_rest 74 = .ok (.iadd, 1) := by decide +kernel
theorem d_MD_rest_75 : decode c_MD_rest 75 = .ok (.ldc 187, 2) := by decide +kernel
theorem d_MD_rest_77 : decode c_MD_rest 77 = .ok (.irem, 1) := by decide +kernel
theorem d_MD_rest_78 : decode c_MD_rest 78 = .ok (.invokevirtual 273, 3) := by decide +kernel
theorem d_MD_rest_81 : decode c_MD_rest 81 = .ok (.istore 8, 2) := by decide +kernel
theorem d_MD_rest_83 : decode c_MD_rest 83 = .ok (.aload_n 0, 1) := by decide +kernel
theorem d_MD_rest_84 : decode c_MD_rest 84 = .ok (.iload_n 3, 1) := by decide +kernel
theorem d_MD_rest_85 : decode c_MD_rest 85 = .ok (.iconst 3, 1) := by decide +kernel
theorem d_MD_rest_86 : decode c_MD_rest 86 = .ok (.iadd, 1) := by decide +kernel
theorem d_MD_rest_87 : decode c_MD_rest 87 = .ok (.ldc 187, 2) := by decide +kernel
theorem d_MD_rest_89 : decode c_MD_rest 89 = .ok (.irem, 1) := by decide +kernel
theorem d_MD_rest_90 : decode c_MD_rest 90 = .ok (.invokevirtual 273, 3) := by decide +kernel
theorem d_MD_rest_93 : decode c_MD_rest 93 = .ok (.istore 9, 2) := by decide +kernel
theorem d_MD_rest_95 : decode c_MD_rest 95 = .ok (.aload_n 0, 1) := by decide +kernel
theorem d_MD_rest_96 : decode c_MD_rest 96 = .ok (.getfield 38, 3) := by decide +kernel
theorem d_MD_rest_99 : decode c_MD_rest 99 = .ok (.aload_n 0, 1) := by decide +kernel
theorem d_MD_rest_100 : decode c_MD_rest 100 = .ok (.getfield 261, 3) := by decide +kernel
theorem d_MD_rest_103 : decode c_MD_rest 103 = .ok (.iload 6, 2) := by decide +kernel
theorem d_MD_rest_105 : decode c_MD_rest 105 = .ok (.ifCond .ne 7, 3) := by decide +kernel
theorem d_MD_rest_108 : decode c_MD_rest 108 = .ok (.iconst 0, 1) := by decide +kernel
theorem d_MD_rest_109 : decode c_MD_rest 109 = .ok (.goto 4, 3) := by decide +kernel
theorem d_MD_rest_112 : decode c_MD_rest 112 = .ok (.iconst 1, 1) := by decide +kernel
theorem d_MD_rest_113 : decode c_MD_rest 113 = .ok (.iastore, 1) := by decide +kernel
theorem d_MD_rest_114 : decode c_MD_rest 114 = .ok (.aload_n 0, 1) := by decide +kernel
theorem d_MD_rest_115 : decode c_MD_rest 115 = .ok (.getfield 41, 3) := by decide +kernel
theorem d_MD_rest_118 : decode c_MD_rest 118 = .ok (.aload_n 0, 1) := by decide +kernel
theorem d_MD_rest_119 : decode c_MD_rest 119 = .ok (.getfield 261, 3) := by decide +kernel
theorem d_MD_rest_122 : decode c_MD_rest 122 = .ok (.iload 7, 2) := by decide +kernel
theorem d_MD_rest_124 : decode c_MD_rest 124 = .ok (.iastore, 1) := by decide +kernel
theorem d_MD_rest_125 : decode c_MD_rest 125 = .ok (.aload_n 0, 1) := by decide +kernel
theorem d_MD_rest_126 : decode c_MD_rest 126 = .ok (.getfield 44, 3) := by decide +kernel
theorem d_MD_rest_129 : decode c_MD_rest 129 = .ok (.aload_n 0, 1) := by decide +kernel
theorem d_MD_rest_130 : decode c_MD_rest 130 = .ok (.getfield 261, 3) := by decide +kernel
theorem d_MD_rest_133 : decode c_MD_rest 133 = .ok (.iload 8, 2) := by decide +kernel
theorem d_MD_rest_135 : decode c_MD_rest 135 = .ok (.iastore, 1) := by decide +kernel
theorem d_MD_rest_136 : decode c_MD_rest 136 = .ok (.aload_n 0, 1) := by decide +kernel
theorem d_MD_rest_137 : decode c_MD_rest 137 = .ok (.getfield 47, 3) := by decide +kernel
theorem d_MD_rest_140 : decode c_MD_rest 140 = .ok (.aload_n 0, 1) := by decide +kernel
theorem d_MD_rest_141 : decode c_MD_rest 141 = .ok (.getfield 261, 3) := by decide +kernel
theorem d_MD_rest_144 : decode c_MD_rest 144 = .ok (.iload 9, 2) := by decide +kernel
theorem d_MD_rest_146 : decode c_MD_rest 146 = .ok (.iastore, 1) := by decide +kernel
theorem d_MD_rest_147 : decode c_MD_rest 147 = .ok (.goto 297, 3) := by decide +kernel
theorem d_MD_rest_150 : decode c_MD_rest 150 = .ok (.aload_n 0, 1) := by decide +kernel
theorem d_MD_rest_151 : decode c_MD_rest 151 = .ok (.iload_n 3, 1) := by decide +kernel
theorem d_MD_rest_152 : decode c_MD_rest 152 = .ok (.aload_n 0, 1) := by decide +kernel
theorem d_MD_rest_153 : decode c_MD_rest 153 = .ok (.getfield 38, 3) := by decide +kernel
theorem d_MD_rest_156 : decode c_MD_rest 156 = .ok (.aload_n 0, 1) := by decide +kernel
theorem d_MD_rest_157 : decode c_MD_rest 157 = .ok (.getfield 261, 3) := by decide +kernel
theorem d_MD_rest_160 : decode c_MD_rest 160 = .ok (.iaload, 1) := by decide +kernel
theorem d_MD_rest_161 : decode c_MD_rest 161 = .ok (.invokevirtual 280, 3) := by decide +kernel
theorem d_MD_rest_164 : decode c_MD_rest 164 = .ok (.aload_n 0, 1) := by decide +kernel
theorem d_MD_rest_165 : decode c_MD_rest 165 = .ok (.iload_n 3, 1) := by decide +kernel
theorem d_MD_rest_166 : decode c_MD_rest 166 = .ok (.iconst 1, 1) := by decide +kernel
theorem d_MD_rest_167 : decode c_MD_rest 167 = .ok (.iadd, 1) := by decide +kernel
theorem d_MD_rest_168 : decode c_MD_rest 168 = .ok (.ldc 187, 2) := by decide +kernel
theorem d_MD_rest_170 : decode c_MD_rest 170 = .ok (.irem, 1) := by decide +kernel
theorem d_MD_rest_171 : decode c_MD_rest 171 = .ok (.aload_n 0, 1) := by decide +kernel
theorem d_MD_rest_172 : decode c_MD_rest 172 = .ok (.getfield 41, 3) := by decide +kernel
theorem d_MD_rest_175 : decode c_MD_rest 175 = .ok (.aload_n 0, 1) := by decide +kernel
theorem d_MD_rest_176 : decode c_MD_rest 176 = .ok (.getfield 261, 3) := by decide +kernel
theorem d_MD_rest_179 : decode c_MD_rest 179 = .ok (.iaload, 1) := by decide +kernel
theorem d_MD_rest_180 : decode c_MD_rest 180 = .ok (.invokevirtual 280, 3) := by decide +kernel
theorem d_MD_rest_183 : decode c_MD_rest 183 = .ok (.aload_n 0, 1) := by decide +kernel
theorem d_MD_rest_184 : decode c_MD_rest 184 = .ok (.iload_n 3, 1) := by decide +kernel
theorem d_MD_rest_185 : decode c_MD_rest 185 = .ok (.iconst 2, 1) := by decide +kernel
theorem d_MD_rest_186 : decode c_MD_rest 186 = .ok (.iadd, 1) := by decide +kernel
theorem d_MD_rest_187 : decode c_MD_rest 187 = .ok (.ldc 187, 2) := by decide +kernel
theorem d_MD_rest_189 : decode c_MD_rest 189 = .ok (.irem, 1) := by decide +kernel
theorem d_MD_rest_190 : decode c_MD_rest 190 = .ok (.aload_n 0, 1) := by decide +kernel
theorem d_MD_rest_191 : decode c_MD_rest 191 = .ok (.getfield 44, 3) := by decide +kernel
theorem d_MD_rest_194 : decode c_MD_rest 194 = .ok (.aload_n 0, 1) := by decide +kernel
theorem d_MD_rest_195 : decode c_MD_rest 195 = .ok (.getfield 261, 3) := by decide +kernel
theorem d_MD_rest_198 : decode c_MD_rest 198 = .ok (.iaload, 1) := by decide +kernel
theorem d_MD_rest_199 : decode c_MD_rest 199 = .ok (.invokevirtual 280, 3) := by decide +kernel
theorem d_MD_rest_202 : decode c_MD_rest 202 = .ok (.aload_n 0, 1) := by decide +kernel
theorem d_MD_rest_203 : decode c_MD_rest 203 = .ok (.iload_n 3, 1) := by decide +kernel
theorem d_MD_rest_204 : decode c_MD_rest 204 = .ok (.iconst 3, 1) := by decide +kernel
theorem d_MD_rest_205 : decode c_MD_rest 205 = .ok (.iadd, 1) := by decide +kernel
theorem d_MD_rest_206 : decode c_MD_rest 206 = .ok (.ldc 187, 2) := by decide +kernel
theorem d_MD_rest_208 : decode c_MD_rest 208 = .ok (.irem, 1) := by decide +kernel
theorem d_MD_rest_209 : decode c_MD_rest 209 = .ok (.aload_n 0, 1) := by decide +kernel
theorem d_MD_rest_210 : decode c_MD_rest 210 = .ok (.getfield 47, 3) := by decide +kernel
theorem d_MD_rest_213 : decode c_MD_rest 213 = .ok (.aload_n 0, 1) := by decide +kernel
theorem d_MD_rest_214 : decode c_MD_rest 214 = .ok (.getfield 261, 3) := by decide +kernel
theorem d_MD_rest_217 : decode c_MD_rest 217 = .ok (.iaload, 1) := by decide +kernel
theorem d_MD_rest_218 : decode c_MD_rest 218 = .ok (.invokevirtual 280, 3) := by decide +kernel
theorem d_MD_rest_221 : decode c_MD_rest 221 = .ok (.goto 223, 3) := by decide +kernel
theorem d_MD_rest_224 : decode c_MD_rest 224 = .ok (.aload_n 0, 1) := by decide +kernel
theorem d_MD_rest_225 : decode c_MD_rest 225 = .ok (.getfield 50, 3) := by decide +kernel
theorem d_MD_rest_228 : decode c_MD_rest 228 = .ok (.aload_n 0, 1) := by decide +kernel
theorem d_MD_rest_229 : decode c_MD_rest 229 = .ok (.getfield 261, 3) := by decide +kernel
theorem d_MD_rest_232 : decode c_MD_rest 232 = .ok (.aload_n 0, 1) := by decide +kernel
theorem d_MD_rest_233 : decode c_MD_rest 233 = .ok (.getfield 35, 3) := by decide +kernel
theorem d_MD_rest_236 : decode c_MD_rest 236 = .ok (.iload 5, 2) := by decide +kernel
theorem d_MD_rest_238 : decode c_MD_rest 238 = .ok (.iaload, 1) := by decide +kernel
theorem d_MD_rest_239 : decode c_MD_rest 239 = .ok (.iastore, 1) := by decide +kernel
theorem d_MD_rest_240 : decode c_MD_rest 240 = .ok (.aload_n 0, 1) := by decide +kernel
theorem d_MD_rest_241 : decode c_MD_rest 241 = .ok (.getfield 53, 3) := by decide +kernel
theorem d_MD_rest_244 : decode c_MD_rest 244 = .ok (.aload_n 0, 1) := by decide +kernel
theorem d_MD_rest_245 : decode c_MD_rest 245 = .ok (.getfield 261, 3) := by decide +kernel
theorem d_MD_rest_248 : decode c_MD_rest 248 = .ok (.iconst 0, 1) := by decide +kernel
theorem d_MD_rest_249 : decode c_MD_rest 249 = .ok (.bastore, 1) := by decide +kernel
theorem d_MD_rest_250 : decode c_MD_rest 250 = .ok (.goto 194, 3) := by decide +kernel
theorem d_MD_rest_253 : decode c_MD_rest 253 = .ok (.aload_n 0, 1) := by decide +kernel
theorem d_MD_rest_254 : decode c_MD_rest 254 = .ok (.getfield 35, 3) := by decide +kernel
theorem d_MD_rest_257 : decode c_MD_rest 257 = .ok (.iload 5, 2) := by decide +kernel
theorem d_MD_rest_259 : decode c_MD_rest 259 = .ok (.aload_n 0, 1) := by decide +kernel
theorem d_MD_rest_260 : decode c_MD_rest 260 = .ok (.getfield 50, 3) := by decide +kernel
theorem d_MD_rest_263 : decode c_MD_rest 263 = .ok (.aload_n 0, 1) := by decide +kernel
theorem d_MD_rest_264 : decode c_MD_rest 264 = .ok (.getfield 261, 3) := by decide +kernel
theorem d_MD_rest_267 : decode c_MD_rest 267 = .ok (.iaload, 1) := by decide +kernel
theorem d_MD_rest_268 : decode c_MD_rest 268 = .ok (.iastore, 1) := by decide +kernel
theorem d_MD_rest_269 : decode c_MD_rest 269 = .ok (.goto 175, 3) := by decide +kernel
theorem d_MD_rest_272 : decode c_MD_rest 272 = .ok (.aload_n 0, 1) := by decide +kernel
theorem d_MD_rest_273 : decode c_MD_rest 273 = .ok (.getfield 35, 3) := by decide +kernel
theorem d_MD_rest_276 : decode c_MD_rest 276 = .ok (.iload 5, 2) := by decide +kernel
theorem d_MD_rest_278 : decode c_MD_rest 278 = .ok (.aload_n 0, 1) := by decide +kernel
theorem d_MD_rest_279 : decode c_MD_rest 279 = .ok (.invokevirtual 288, 3) := by decide +kernel
theorem d_MD_rest_282 : decode c_MD_rest 282 = .ok (.iastore, 1) := by decide +kernel
theorem d_MD_rest_283 : decode c_MD_rest 283 = .ok (.goto 161, 3) := by decide +kernel
theorem d_MD_rest_286 : decode c_MD_rest 286 = .ok (.aload_n 0, 1) := by decide +kernel
theorem d_MD_rest_287 : decode c_MD_rest 287 = .ok (.getfield 62, 3) := by decide +kernel
theorem d_MD_rest_290 : decode c_MD_rest 290 = .ok (.aload_n 0, 1) := by decide +kernel
theorem d_MD_rest_291 : decode c_MD_rest 291 = .ok (.getfield 261, 3) := by decide +kernel
theorem d_MD_rest_294 : decode c_MD_rest 294 = .ok (.iaload, 1) := by decide +kernel
theorem d_MD_rest_295 : decode c_MD_rest 295 = .ok (.sipush 500, 3) := by decide +kernel
theorem d_MD_rest_298 : decode c_MD_rest 298 = .ok (.if_icmp .ge 37, 3) := by decide +kernel
theorem d_MD_rest_301 : decode c_MD_rest 301 = .ok (.aload_n 0, 1) := by decide +kernel
theorem d_MD_rest_302 : decode c_MD_rest 302 = .ok (.getfield 65, 3) := by decide +kernel
theorem d_MD_rest_305 : decode c_MD_rest 305 = .ok (.sipush 500, 3) := by decide +kernel
theorem d_MD_rest_308 : decode c_MD_rest 308 = .ok (.aload_n 0, 1) := by decide +kernel
theorem d_MD_rest_309 : decode c_MD_rest 309 = .ok (.getfield 261, 3) := by decide +kernel
theorem d_MD_rest_312 : decode c_MD_rest 312 = .ok (.imul, 1) := by decide +kernel
theorem d_MD_rest_313 : decode c_MD_rest 313 = .ok (.aload_n 0, 1) := by decide +kernel
theorem d_MD_rest_314 : decode c_MD_rest 314 = .ok (.getfield 62, 3) := by decide +kernel
theorem d_MD_rest_317 : decode c_MD_rest 317 = .ok (.aload_n 0, 1) := by decide +kernel
theorem d_MD_rest_318 : decode c_MD_rest 318 = .ok (.getfield 261, 3) := by decide +kernel
theorem d_MD_rest_321 : decode c_MD_rest 321 = .ok (.iaload, 1) := by decide +kernel
theorem d_MD_rest_322 : decode c_MD_rest 322 = .ok (.iadd, 1) := by decide +kernel
theorem d_MD_rest_323 : decode c_MD_rest 323 = .ok (.aload_n 0, 1) := by decide +kernel
theorem d_MD_rest_324 : decode c_MD_rest 324 = .ok (.getfield 35, 3) := by decide +kernel
theorem d_MD_rest_327 : decode c_MD_rest 327 = .ok (.iload 5, 2) := by decide +kernel
theorem d_MD_rest_329 : decode c_MD_rest 329 = .ok (.iaload, 1) := by decide +kernel
theorem d_MD_rest_330 : decode c_MD_rest 330 = .ok (.sipush 255, 3) := by decide +kernel
theorem d_MD_rest_333 : decode c_MD_rest 333 = .ok (.iand, 1) := by decide +kernel
theorem d_MD_rest_334 : decode c_MD_rest 334 = .ok (.iastore, 1) := by decide +kernel
theorem d_MD_rest_335 : decode c_MD_rest 335 = .ok (.aload_n 0, 1) := by decide +kernel
theorem d_MD_rest_336 : decode c_MD_rest 336 = .ok (.getfield 62, 3) := by decide +kernel
theorem d_MD_rest_339 : decode c_MD_rest 339 = .ok (.aload_n 0, 1) := by decide +kernel
theorem d_MD_rest_340 : decode c_MD_rest 340 = .ok (.getfield 261, 3) := by decide +kernel
theorem d_MD_rest_343 : decode c_MD_rest 343 = .ok (.dup2, 1) := by decide +kernel
theorem d_MD_rest_344 : decode c_MD_rest 344 = .ok (.iaload, 1) := by decide +kernel
theorem d_MD_rest_345 : decode c_MD_rest 345 = .ok (.iconst 1, 1) := by decide +kernel
theorem d_MD_rest_346 : decode c_MD_rest 346 = .ok (.iadd, 1) := by decide +kernel
theorem d_MD_rest_347 : decode c_MD_rest 347 = .ok (.iastore, 1) := by decide +kernel
theorem d_MD_rest_348 : decode c_MD_rest 348 = .ok (.goto 96, 3) := by decide +kernel
theorem d_MD_rest_351 : decode c_MD_rest 351 = .ok (.sipush 128, 3) := by decide +kernel
theorem d_MD_rest_354 : decode c_MD_rest 354 = .ok (.aload_n 0, 1) := by decide +kernel
theorem d_MD_rest_355 : decode c_MD_rest 355 = .ok (.getfield 261, 3) := by decide +kernel
theorem d_MD_rest_358 : decode c_MD_rest 358 = .ok (.imul, 1) := by decide +kernel
theorem d_MD_rest_359 : decode c_MD_rest 359 = .ok (.bipush 16, 2) := by decide +kernel
theorem d_MD_rest_361 : decode c_MD_rest 361 = .ok (.aload_n 0, 1) := by decide +kernel
theorem d_MD_rest_362 : decode c_MD_rest 362 = .ok (.getfield 35, 3) := by decide +kernel
theorem d_MD_rest_365 : decode c_MD_rest 365 = .ok (.iload 5, 2) := by decide +kernel
theorem d_MD_rest_367 : decode c_MD_rest 367 = .ok (.iaload, 1) := by decide +kernel
theorem d_MD_rest_368 : decode c_MD_rest 368 = .ok (.bipush 8, 2) := by decide +kernel
theorem d_MD_rest_370 : decode c_MD_rest 370 = .ok (.irem, 1) := by decide +kernel
theorem d_MD_rest_371 : decode c_MD_rest 371 = .ok (.imul, 1) := by decide +kernel
theorem d_MD_rest_372 : decode c_MD_rest 372 = .ok (.iadd, 1) := by decide +kernel
theorem d_MD_rest_373 : decode c_MD_rest 373 = .ok (.istore 10, 2) := by decide +kernel
theorem d_MD_rest_375 : decode c_MD_rest 375 = .ok (.iconst 0, 1) := by decide +kernel
theorem d_MD_rest_376 : decode c_MD_rest 376 = .ok (.istore 11, 2) := by decide +kernel
theorem d_MD_rest_378 : decode c_MD_rest 378 = .ok (.iload 11, 2) := by decide +kernel
theorem d_MD_rest_380 : decode c_MD_rest 380 = .ok (.bipush 16, 2) := by decide +kernel
theorem d_MD_rest_382 : decode c_MD_rest 382 = .ok (.if_icmp .ge 62, 3) := by decide +kernel
theorem d_MD_rest_385 : decode c_MD_rest 385 = .ok (.iload_n 1, 1) := by decide +kernel
theorem d_MD_rest_386 : decode c_MD_rest 386 = .ok (.bipush 23, 2) := by decide +kernel
theorem d_MD_rest_388 : decode c_MD_rest 388 = .ok (.if_icmp .ne 28, 3) := by decide +kernel
theorem d_MD_rest_391 : decode c_MD_rest 391 = .ok (.aload_n 0, 1) := by decide +kernel
theorem d_MD_rest_392 : decode c_MD_rest 392 = .ok (.iload 4, 2) := by decide +kernel
theorem d_MD_rest_394 : decode c_MD_rest 394 = .ok (.iload 11, 2) := by decide +kernel
theorem d_MD_rest_396 : decode c_MD_rest 396 = .ok (.iadd, 1) := by decide +kernel
theorem d_MD_rest_397 : decode c_MD_rest 397 = .ok (.ldc 187, 2) := by decide +kernel
theorem d_MD_rest_399 : decode c_MD_rest 399 = .ok (.irem, 1) := by decide +kernel
theorem d_MD_rest_400 : decode c_MD_rest 400 = .ok (.aload_n 0, 1) := by decide +kernel
theorem d_MD_rest_401 : decode c_MD_rest 401 = .ok (.getfield 74, 3) := by decide +kernel
theorem d_MD_rest_404 : decode c_MD_rest 404 = .ok (.iload 10, 2) := by decide +kernel
theorem d_MD_rest_406 : decode c_MD_rest 406 = .ok (.iload 11, 2) := by decide +kernel
theorem d_MD_rest_408 : decode c_MD_rest 408 = .ok (.iadd, 1) := by decide +kernel
theorem d_MD_rest_409 : decode c_MD_rest 409 = .ok (.iaload, 1) := by decide +kernel
theorem d_MD_rest_410 : decode c_MD_rest 410 = .ok (.invokevirtual 280, 3) := by decide +kernel
theorem d_MD_rest_413 : decode c_MD_rest 413 = .ok (.goto 25, 3) := by decide +kernel
theorem d_MD_rest_416 : decode c_MD_rest 416 = .ok (.aload_n 0, 1) := by decide +kernel
theorem d_MD_rest_417 : decode c_MD_rest 417 = .ok (.getfield 74, 3) := by decide +kernel
theorem d_MD_rest_420 : decode c_MD_rest 420 = .ok (.iload 10, 2) := by decide +kernel
theorem d_MD_rest_422 : decode c_MD_rest 422 = .ok (.iload 11, 2) := by decide +kernel
theorem d_MD_rest_424 : decode c_MD_rest 424 = .ok (.iadd, 1) := by decide +kernel
theorem d_MD_rest_425 : decode c_MD_rest 425 = .ok (.aload_n 0, 1) := by decide +kernel
theorem d_MD_rest_426 : decode c_MD_rest 426 = .ok (.iload 4, 2) := by decide +kernel
theorem d_MD_rest_428 : decode c_MD_rest 428 = .ok (.iload 11, 2) := by decide +kernel
theorem d_MD_rest_430 : decode c_MD_rest 430 = .ok (.iadd, 1) := by decide +kernel
theorem d_MD_rest_431 : decode c_MD_rest 431 = .ok (.ldc 187, 2) := by decide +kernel
theorem d_MD_rest_433 : decode c_MD_rest 433 = .ok (.irem, 1) := by decide +kernel
theorem d_MD_rest_434 : decode c_MD_rest 434 = .ok (.invokevirtual 273, 3) := by decide +kernel
theorem d_MD_rest_437 : decode c_MD_rest 437 = .ok (.iastore, 1) := by decide +kernel
theorem d_MD_rest_438 : decode c_MD_rest 438 = .ok (.iinc 11 1, 3) := by decide +kernel
theorem d_MD_rest_441 : decode c_MD_rest 441 = .ok (.goto (-63), 3) := by decide +kernel
theorem d_MD_rest_444 : decode c_MD_rest 444 = .ok (.return_, 1) := by decide +kernel
theorem d_MD_typedNext_0 : decode c_MD_typedNext 0 = .ok (.aload_n 0, 1) := by decide +kernel
theorem d_MD_typedNext_1 : decode c_MD_typedNext 1 = .ok (.getfield 68, 3) := by decide +kernel
theorem d_MD_typedNext_4 : decode c_MD_typedNext 4 = .ok (.aload_n 0, 1) := by decide +kernel
theorem d_MD_typedNext_5 : decode c_MD_typedNext 5 = .ok (.getfield 261, 3) := by decide +kernel
theorem d_MD_typedNext_8 : decode c_MD_typedNext 8 = .ok (.iaload, 1) := by decide +kernel
theorem d_MD_typedNext_9 : decode c_MD_typedNext 9 = .ok (.ifCond .ne 7, 3) := by decide +kernel
theorem d_MD_typedNext_12 : decode c_MD_typedNext 12 = .ok (.ldc_w 291, 3) := by decide +kernel
theorem d_MD_typedNext_15 : decode c_MD_typedNext 15 = .ok (.ireturn, 1) := by decide +kernel
theorem d_MD_typedNext_16 : decode c_MD_typedNext 16 = .ok (.aload_n 0, 1) := by decide +kernel
theorem d_MD_typedNext_17 : decode c_MD_typedNext 17 = .ok (.getfield 71, 3) := by decide +kernel
theorem d_MD_typedNext_20 : decode c_MD_typedNext 20 = .ok (.bipush 100, 2) := by decide +kernel
theorem d_MD_typedNext_22 : decode c_MD_typedNext 22 = .ok (.aload_n 0, 1) := by decide +kernel
theorem d_MD_typedNext_23 : decode c_MD_typedNext 23 = .ok (.getfield 261, 3) := by decide +kernel
theorem d_MD_typedNext_26 : decode c_MD_typedNext 26 = .ok (.imul, 1) := by decide +kernel
theorem d_MD_typedNext_27 : decode c_MD_typedNext 27 = .ok (.iaload, 1) := by decide +kernel
theorem d_MD_typedNext_28 : decode c_MD_typedNext 28 = .ok (.istore_n 1, 1) := by decide +kernel
theorem d_MD_typedNext_29 : decode c_MD_typedNext 29 = .ok (.aload_n 0, 1) := by decide +kernel
theorem d_MD_typedNext_30 : decode c_MD_typedNext 30 = .ok (.getfield 68, 3) := by decide +kernel
theorem d_MD_typedNext_33 : decode c_MD_typedNext 33 = .ok (.aload_n 0, 1) := by decide +kernel
theorem d_MD_typedNext_34 : decode c_MD_typedNext 34 = .ok (.getfield 261, 3) := by decide +kernel
theorem d_MD_typedNext_37 : decode c_MD_typedNext 37 = .ok (.dup2, 1) := by decide +kernel
theorem d_MD_typedNext_38 : decode c_MD_typedNext 38 = .ok (.iaload, 1) := by decide +kernel
theorem d_MD_typedNext_39 : decode c_MD_typedNext 39 = .ok (.iconst 1, 1) := by decide +kernel
theorem d_MD_typedNext_40 : decode c_MD_typedNext 40 = .ok (.isub, 1) := by decide +kernel
theorem d_MD_typedNext_41 : decode c_MD_typedNext 41 = .ok (.iastore, 1) := by decide +kernel
theorem d_MD_typedNext_42 : decode c_MD_typedNext 42 = .ok (.iconst 0, 1) := by decide +kernel
theorem d_MD_typedNext_43 : decode c_MD_typedNext 43 = .ok (.istore_n 2, 1) := by decide +kernel
theorem d_MD_typedNext_44 : decode c_MD_typedNext 44 = .ok (.iload_n 2, 1) := by decide +kernel
theorem d_MD_typedNext_45 : decode c_MD_typedNext 45 = .ok (.aload_n 0, 1) := by decide +kernel
theorem d_MD_typedNext_46 : decode c_MD_typedNext 46 = .ok (.getfield 68, 3) := by decide +kernel
theorem d_MD_typedNext_49 : decode c_MD_typedNext 49 = .ok (.aload_n 0, 1) := by decide +kernel
theorem d_MD_typedNext_50 : decode c_MD_typedNext 50 = .ok (.getfield 261, 3) := by decide +kernel
theorem d_MD_typedNext_53 : decode c_MD_typedNext 53 = .ok (.iaload, 1) := by decide +kernel
theorem d_MD_typedNext_54 : decode c_MD_typedNext 54 = .ok (.if_icmp .ge 39, 3) := by decide +kernel
theorem d_MD_typedNext_57 : decode c_MD_typedNext 57 = .ok (.aload_n 0, 1) := by decide +kernel
theorem d_MD_typedNext_58 : decode c_MD_typedNext 58 = .ok (.getfield 71, 3) := by decide +kernel
theorem d_MD_typedNext_61 : decode c_MD_typedNext 61 = .ok (.bipush 100, 2) := by decide +kernel
theorem d_MD_typedNext_63 : decode c_MD_typedNext 63 = .ok (.aload_n 0, 1) := by decide +kernel
theorem d_MD_typedNext_64 : decode c_MD_typedNext 64 = .ok (.getfield 261, 3) := by decide +kernel
theorem d_MD_typedNext_67 : decode c_MD_typedNext 67 = .ok (.imul, 1) := by decide +kernel
theorem d_MD_typedNext_68 : decode c_MD_typedNext 68 = .ok (.iload_n 2, 1) := by decide +kernel
theorem d_MD_typedNext_69 : decode c_MD_typedNext 69 = .ok (.iadd, 1) := by decide +kernel
theorem d_MD_typedNext_70 : decode c_MD_typedNext 70 = .ok (.aload_n 0, 1) := by decide +kernel
theorem d_MD_typedNext_71 : decode c_MD_typedNext 71 = .ok (.getfield 71, 3) := by decide +kernel
theorem d_MD_typedNext_74 : decode c_MD_typedNext 74 = .ok (.bipush 100, 2) := by decide +kernel
theorem d_MD_typedNext_76 : decode c_MD_typedNext 76 = .ok (.aload_n 0, 1) := by decide +kernel
theorem d_MD_typedNext_77 : decode c_MD_typedNext 77 = .ok (.getfield 261, 3) := by decide +kernel
theorem d_MD_typedNext_80 : decode c_MD_typedNext 80 = .ok (.imul, 1) := by decide +kernel
theorem d_MD_typedNext_81 : decode c_MD_typedNext 81 = .ok (.iload_n 2, 1) := by decide +kernel
theorem d_MD_typedNext_82 : decode c_MD_typedNext 82 = .ok (.iadd, 1) := by decide +kernel
theorem d_MD_typedNext_83 : decode c_MD_typedNext 83 = .ok (.iconst 1, 1) := by decide +kernel
theorem d_MD_typedNext_84 : decode c_MD_typedNext 84 = .ok (.iadd, 1) := by decide +kernel
theorem d_MD_typedNext_85 : decode c_MD_typedNext 85 = .ok (.iaload, 1) := by decide +kernel
theorem d_MD_typedNext_86 : decode c_MD_typedNext 86 = .ok (.iastore, 1) := by decide +kernel
theorem d_MD_typedNext_87 : decode c_MD_typedNext 87 = .ok (.iinc 2 1, 3) := by decide +kernel
theorem d_MD_typedNext_90 : decode c_MD_typedNext 90 = .ok (.goto (-46), 3) := by decide +kernel
theorem d_MD_typedNext_93 : decode c_MD_typedNext 93 = .ok (.iload_n 1, 1) := by decide +kernel
theorem d_MD_typedNext_94 : decode c_MD_typedNext 94 = .ok (.ireturn, 1) := by decide +kernel
theorem d_MD_isGuest_0 : decode c_MD_isGuest 0 = .ok (.iload_n 1, 1) := by decide +kernel
theorem d_MD_isGuest_1 : decode c_MD_isGuest 1 = .ok (.iconst 0, 1) := by decide +kernel
theorem d_MD_isGuest_2 : decode c_MD_isGuest 2 = .ok (.iconst 2, 1) := by decide +kernel
theorem d_MD_isGuest_3 : decode c_MD_isGuest 3 = .ok (.invokestatic 246, 3) := by decide +kernel
theorem d_MD_isGuest_6 : decode c_MD_isGuest 6 = .ok (.ifCond .eq 16, 3) := by decide +kernel
theorem d_MD_isGuest_9 : decode c_MD_isGuest 9 = .ok (.aload_n 0, 1) := by decide +kernel
theorem d_MD_isGuest_10 : decode c_MD_isGuest 10 = .ok (.getfield 21, 3) := by decide +kernel
theorem d_MD_isGuest_13 : decode c_MD_isGuest 13 = .ok (.iload_n 1, 1) := by decide +kernel
theorem d_MD_isGuest_14 : decode c_MD_isGuest 14 = .ok (.baload, 1) := by decide +kernel
theorem d_MD_isGuest_15 : decode c_MD_isGuest 15 = .ok (.ifCond .eq 7, 3) := by decide +kernel
theorem d_MD_isGuest_18 : decode c_MD_isGuest 18 = .ok (.iconst 1, 1) := by decide +kernel
theorem d_MD_isGuest_19 : decode c_MD_isGuest 19 = .ok (.goto 4, 3) := by decide +kernel
theorem d_MD_isGuest_22 : decode c_MD_isGuest 22 = .ok (.iconst 0, 1) := by decide +kernel
theorem d_MD_isGuest_23 : decode c_MD_isGuest 23 = .ok (.ireturn, 1) := by decide +kernel
theorem d_MD_run_0 : decode c_MD_run 0 = .ok (.aload_n 0, 1) := by decide +kernel
theorem d_MD_run_1 : decode c_MD_run 1 = .ok (.iload_n 1, 1) := by decide +kernel
theorem d_MD_run_2 : decode c_MD_run 2 = .ok (.invokevirtual 292, 3) := by decide +kernel
theorem d_MD_run_5 : decode c_MD_run 5 = .ok (.ifCond .eq 14, 3) := by decide +kernel
theorem d_MD_run_8 : decode c_MD_run 8 = .ok (.iload_n 2, 1) := by decide +kernel
theorem d_MD_run_9 : decode c_MD_run 9 = .ok (.iconst 0, 1) := by decide +kernel
theorem d_MD_run_10 : decode c_MD_run 10 = .ok (.sipush 5000, 3) := by decide +kernel
theorem d_MD_run_13 : decode c_MD_run 13 = .ok (.invokestatic 246, 3) := by decide +kernel
theorem d_MD_run_16 : decode c_MD_run 16 = .ok (.ifCond .ne 5, 3) := by decide +kernel
theorem d_MD_run_19 : decode c_MD_run 19 = .ok (.iconst (-1), 1) := by decide +kernel
theorem d_MD_run_20 : decode c_MD_run 20 = .ok (.ireturn, 1) := by decide +kernel
theorem d_MD_run_21 : decode c_MD_run 21 = .ok (.aload_n 0, 1) := by decide +kernel
theorem d_MD_run_22 : decode c_MD_run 22 = .ok (.iload_n 1, 1) := by decide +kernel
theorem d_MD_run_23 : decode c_MD_run 23 = .ok (.putfield 261, 3) := by decide +kernel
theorem d_MD_run_26 : decode c_MD_run 26 = .ok (.iconst 0, 1) := by decide +kernel
theorem d_MD_run_27 : decode c_MD_run 27 = .ok (.istore_n 3, 1) := by decide +kernel
theorem d_MD_run_28 : decode c_MD_run 28 = .ok (.iload_n 3, 1) := by decide +kernel
theorem d_MD_run_29 : decode c_MD_run 29 = .ok (.iload_n 2, 1) := by decide +kernel
theorem d_MD_run_30 : decode c_MD_run 30 = .ok (.if_icmp .ge 22, 3) := by decide +kernel
theorem d_MD_run_33 : decode c_MD_run 33 = .ok (.aload_n 0, 1) := by decide +kernel
theorem d_MD_run_34 : decode c_MD_run 34 = .ok (.getfield 56, 3) := by decide +kernel
theorem d_MD_run_37 : decode c_MD_run 37 = .ok (.iload_n 1, 1) := by decide +kernel
theorem d_MD_run_38 : decode c_MD_run 38 = .ok (.baload, 1) := by decide +kernel
theorem d_MD_run_39 : decode c_MD_run 39 = .ok (.ifCond .ne 13, 3) := by decide +kernel
theorem d_MD_run_42 : decode c_MD_run 42 = .ok (.aload_n 0, 1) := by decide +kernel
theorem d_MD_run_43 : decode c_MD_run 43 = .ok (.invokevirtual 295, 3) := by decide +kernel
theorem d_MD_run_46 : decode c_MD_run 46 = .ok (.iinc 3 1, 3) := by decide +kernel
theorem d_MD_run_49 : decode c_MD_run 49 = .ok (.goto (-21), 3) := by decide +kernel
theorem d_MD_run_52 : decode c_MD_run 52 = .ok (.iload_n 3, 1) := by decide +kernel
theorem d_MD_run_53 : decode c_MD_run 53 = .ok (.ireturn, 1) := by decide +kernel
theorem d_MD_type_0 : decode c_MD_type 0 = .ok (.aload_n 0, 1) := by decide +kernel
theorem d_MD_type_1 : decode c_MD_type 1 = .ok (.iload_n 1, 1) := by decide +kernel
theorem d_MD_type_2 : decode c_MD_type 2 = .ok (.invokevirtual 292, 3) := by decide +kernel
theorem d_MD_type_5 : decode c_MD_type 5 = .ok (.ifCond .eq 25, 3) := by decide +kernel
theorem d_MD_type_8 : decode c_MD_type 8 = .ok (.iload_n 2, 1) := by decide +kernel
theorem d_MD_type_9 : decode c_MD_type 9 = .ok (.iconst 0, 1) := by decide +kernel
theorem d_MD_type_10 : decode c_MD_type 10 = .ok (.sipush 255, 3) := by decide +kernel
theorem d_MD_type_13 : decode c_MD_type 13 = .ok (.invokestatic 246, 3) := by decide +kernel
theorem d_MD_type_16 : decode c_MD_type 16 = .ok (.ifCond .eq 14, 3) := by decide +kernel
theorem d_MD_type_19 : decode c_MD_type 19 = .ok (.aload_n 0, 1) := by decide +kernel
theorem d_MD_type_20 : decode c_MD_type 20 = .ok (.getfield 68, 3) := by decide +kernel
theorem d_MD_type_23 : decode c_MD_type 23 = .ok (.iload_n 1, 1) := by decide +kernel
theorem d_MD_type_24 : decode c_MD_type 24 = .ok (.iaload, 1) := by decide +kernel
theorem d_MD_type_25 : decode c_MD_type 25 = .ok (.bipush 100, 2) := by decide +kernel
theorem d_MD_type_27 : decode c_MD_type 27 = .ok (.if_icmp .ne 5, 3) := by decide +kernel
theorem d_MD_type_30 : decode c_MD_type 30 = .ok (.iconst 0, 1) := by decide +kernel
theorem d_MD_type_31 : decode c_MD_type 31 = .ok (.ireturn, 1) := by decide +kernel
theorem d_MD_type_32 : decode c_MD_type 32 = .ok (.aload_n 0, 1) := by decide +kernel
theorem d_MD_type_33 : decode c_MD_type 33 = .ok (.getfield 71, 3) := by decide +kernel
theorem d_MD_type_36 : decode c_MD_type 36 = .ok (.bipush 100, 2) := by decide +kernel
theorem d_MD_type_38 : decode c_MD_type 38 = .ok (.iload_n 1, 1) := by decide +kernel
theorem d_MD_type_39 : decode c_MD_type 39 = .ok (.imul, 1) := by decide +kernel
theorem d_MD_type_40 : decode c_MD_type 40 = .ok (.aload_n 0, 1) := by decide +kernel
theorem d_MD_type_41 : decode c_MD_type 41 = .ok (.getfield 68, 3) := by decide +kernel
theorem d_MD_type_44 : decode c_MD_type 44 = .ok (.iload_n 1, 1) := by decide +kernel
theorem d_MD_type_45 : decode c_MD_type 45 = .ok (.iaload, 1) := by decide +kernel
theorem d_MD_type_46 : decode c_MD_type 46 = .ok (.iadd, 1) := by decide +kernel
theorem d_MD_type_47 : decode c_MD_type 47 = .ok (.iload_n 2, 1) := by decide +kernel
theorem d_MD_type_48 : decode c_MD_type 48 = .ok (.iastore, 1) := by decide +kernel
theorem d_MD_type_49 : decode c_MD_type 49 = .ok (.aload_n 0, 1) := by decide +kernel
theorem d_MD_type_50 : decode c_MD_type 50 = .ok (.getfield 68, 3) := by decide +kernel
theorem d_MD_type_53 : decode c_MD_type 53 = .ok (.iload_n 1, 1) := by decide +kernel
theorem d_MD_type_54 : decode c_MD_type 54 = .ok (.dup2, 1) := by decide +kernel
theorem d_MD_type_55 : decode c_MD_type 55 = .ok (.iaload, 1) := by decide +kernel
theorem d_MD_type_56 : decode c_MD_type 56 = .ok (.iconst 1, 1) := by decide +kernel
theorem d_MD_type_57 : decode c_MD_type 57 = .ok (.iadd, 1) := by decide +kernel
theorem d_MD_type_58 : decode c_MD_type 58 = .ok (.iastore, 1) := by decide +kernel
theorem d_MD_type_59 : decode c_MD_type 59 = .ok (.iconst 1, 1) := by decide +kernel
theorem d_MD_type_60 : decode c_MD_type 60 = .ok (.ireturn, 1) := by decide +kernel
theorem d_MD_look_0 : decode c_MD_look 0 = .ok (.aload_n 0, 1) := by decide +kernel
theorem d_MD_look_1 : decode c_MD_look 1 = .ok (.iload_n 1, 1) := by decide +kernel
theorem d_MD_look_2 : decode c_MD_look 2 = .ok (.invokevirtual 292, 3) := by decide +kernel
theorem d_MD_look_5 : decode c_MD_look 5 = .ok (.ifCond .ne 5, 3) := by decide +kernel
theorem d_MD_look_8 : decode c_MD_look 8 = .ok (.iconst (-1), 1) := by decide +kernel
theorem d_MD_look_9 : decode c_MD_look 9 = .ok (.ireturn, 1) := by decide +kernel
theorem d_MD_look_10 : decode c_MD_look 10 = .ok (.iload_n 2, 1) := by decide +kernel
theorem d_MD_look_11 : decode c_MD_look 11 = .ok (.tableswitch 161 0 11 #[61, 68, 75, 82, 89, 96, 111, 126, 133, 140, 147, 154], 61) := by decide +kernel
theorem d_MD_look_72 : decode c_MD_look 72 = .ok (.aload_n 0, 1) := by decide +kernel
theorem d_MD_look_73 : decode c_MD_look 73 = .ok (.getfield 38, 3) := by decide +kernel
theorem d_MD_look_76 : decode c_MD_look 76 = .ok (.iload_n 1, 1) := by decide +kernel
theorem d_MD_look_77 : decode c_MD_look 77 = .ok (.iaload, 1) := by decide +kernel
theorem d_MD_look_78 : decode c_MD_look 78 = .ok (.ireturn, 1) := by decide +kernel
theorem d_MD_look_79 : decode c_MD_look 79 = .ok (.aload_n 0, 1) := by decide +kernel
theorem d_MD_look_80 : decode c_MD_look 80 = .ok (.getfield 41, 3) := by decide +kernel
theorem d_MD_look_83 : decode c_MD_look 83 = .ok (.iload_n 1, 1) := by decide +kernel
theorem d_MD_look_84 : decode c_MD_look 84 = .ok (.iaload, 1) := by decide +kernel
theorem d_MD_look_85 : decode c_MD_look 85 = .ok (.ireturn, 1) := by decide +kernel
theorem d_MD_look_86 : decode c_MD_look 86 = .ok (.aload_n 0, 1) := by decide +kernel
theorem d_MD_look_87 : decode c_MD_look 87 = .ok (.getfield 44, 3) := by decide +kernel
theorem d_MD_look_90 : decode c_MD_look 90 = .ok (.iload_n 1, 1) := by decide +kernel
theorem d_MD_look_91 : decode c_MD_look 91 = .ok (.iaload, 1) := by decide +kernel
theorem d_MD_look_92 : decode c_MD_look 92 = .ok (.ireturn, 1) := by decide +kernel
theorem d_MD_look_93 : decode c_MD_look 93 = .ok (.aload_n 0, 1) := by decide +kernel
theorem d_MD_look_94 : decode c_MD_look 94 = .ok (.getfield 47, 3) := by decide +kernel
theorem d_MD_look_97 : decode c_MD_look 97 = .ok (.iload_n 1, 1) := by decide +kernel
theorem d_MD_look_98 : decode c_MD_look 98 = .ok (.iaload, 1) := by decide +kernel
theorem d_MD_look_99 : decode c_MD_look 99 = .ok (.ireturn, 1) := by decide +kernel
theorem d_MD_look_100 : decode c_MD_look 100 = .ok (.aload_n 0, 1) := by decide +kernel
theorem d_MD_look_101 : decode c_MD_look 101 = .ok (.getfield 50, 3) := by decide +kernel
theorem d_MD_look_104 : decode c_MD_look 104 = .ok (.iload_n 1, 1) := by decide +kernel
theorem d_MD_look_105 : decode c_MD_look 105 = .ok (.iaload, 1) := by decide +kernel
theorem d_MD_look_106 : decode c_MD_look 106 = .ok (.ireturn, 1) := by decide +kernel
theorem d_MD_look_107 : decode c_MD_look 107 = .ok (.aload_n 0, 1) := by decide +kernel
theorem d_MD_look_108 : decode c_MD_look 108 = .ok (.getfield 53, 3) := by decide +kernel
theorem d_MD_look_111 : decode c_MD_look 111 = .ok (.iload_n 1, 1) := by decide +kernel
theorem d_MD_look_112 : decode c_MD_look 112 = .ok (.baload, 1) := by decide +kernel
theorem d_MD_look_113 : decode c_MD_look 113 = .ok (.ifCond .eq 7, 3) := by decide +kernel
theorem d_MD_look_116 : decode c_MD_look 116 = .ok (.iconst 1, 1) := by decide +kernel
theorem d_MD_look_117 : decode c_MD_look 117 = .ok (.goto 4, 3) := by decide +kernel
theorem d_MD_look_120 : decode c_MD_look 120 = .ok (.iconst 0, 1) := by decide +kernel
theorem d_MD_look_121 : decode c_MD_look 121 = .ok (.ireturn, 1) := by decide +kernel
theorem d_MD_look_122 : decode c_MD_look 122 = .ok (.aload_n 0, 1) := by decide +kernel
theorem d_MD_look_123 : decode c_MD_look 123 = .ok (.getfield 56, 3) := by decide +kernel
theorem d_MD_look_126 : decode c_MD_look 126 = .ok (.iload_n 1, 1) := by decide +kernel
theorem d_MD_look_127 : decode c_MD_look 127 = .ok (.baload, 1) := by decide +kernel
theorem d_MD_look_128 : decode c_MD_look 128 = .ok (.ifCond .eq 7, 3) := by decide +kernel
theorem d_MD_look_131 : decode c_MD_look 131 = .ok (.iconst 1, 1) := by decide +kernel
theorem d_MD_look_132 : decode c_MD_look 132 = .ok (.goto 4, 3) := by decide +kernel
theorem d_MD_look_135 : decode c_MD_look 135 = .ok (.iconst 0, 1) := by decide +kernel
theorem d_MD_look_136 : decode c_MD_look 136 = .ok (.ireturn, 1) := by decide +kernel
theorem d_MD_look_137 : decode c_MD_look 137 = .ok (.aload_n 0, 1) := by decide +kernel
theorem d_MD_look_138 : decode c_MD_look 138 = .ok (.getfield 59, 3) := by decide +kernel
theorem d_MD_look_141 : decode c_MD_look 141 = .ok (.iload_n 1, 1) := by decide +kernel
theorem d_MD_look_142 : decode c_MD_look 142 = .ok (.iaload, 1) := by decide +kernel
theorem d_MD_look_143 : decode c_MD_look 143 = .ok (.ireturn, 1) := by decide +kernel
theorem d_MD_look_144 : decode c_MD_look 144 = .ok (.aload_n 0, 1) := by decide +kernel
theorem d_MD_look_145 : decode c_MD_look 145 = .ok (.getfield 62, 3) := by decide +kernel
theorem d_MD_look_148 : decode c_MD_look 148 = .ok (.iload_n 1, 1) := by decide +kernel
theorem d_MD_look_149 : decode c_MD_look 149 = .ok (.iaload, 1) := by decide +kernel
theorem d_MD_look_150 : decode c_MD_look 150 = .ok (.ireturn, 1) := by decide +kernel
theorem d_MD_look_151 : decode c_MD_look 151 = .ok (.aload_n 0, 1) := by decide +kernel
theorem d_MD_look_152 : decode c_MD_look 152 = .ok (.getfield 68, 3) := by decide +kernel
theorem d_MD_look_155 : decode c_MD_look 155 = .ok (.iload_n 1, 1) := by decide +kernel
theorem d_MD_look_156 : decode c_MD_look 156 = .ok (.iaload, 1) := by decide +kernel
theorem d_MD_look_157 : decode c_MD_look 157 = .ok (.ireturn, 1) := by decide +kernel
theorem d_MD_look_158 : decode c_MD_look 158 = .ok (.aload_n 0, 1) := by decide +kernel
theorem d_MD_look_159 : decode c_MD_look 159 = .ok (.getfield 25, 3) := by decide +kernel
theorem d_MD_look_162 : decode c_MD_look 162 = .ok (.iload_n 1, 1) := by decide +kernel
theorem d_MD_look_163 : decode c_MD_look 163 = .ok (.iaload, 1) := by decide +kernel
theorem d_MD_look_164 : decode c_MD_look 164 = .ok (.ireturn, 1) := by decide +kernel
theorem d_MD_look_165 : decode c_MD_look 165 = .ok (.aload_n 0, 1) := by decide +kernel
theorem d_MD_look_166 : decode c_MD_look 166 = .ok (.getfield 29, 3) := by decide +kernel
theorem d_MD_look_169 : decode c_MD_look 169 = .ok (.iload_n 1, 1) := by decide +kernel
theorem d_MD_look_170 : decode c_MD_look 170 = .ok (.iaload, 1) := by decide +kernel
theorem d_MD_look_171 : decode c_MD_look 171 = .ok (.ireturn, 1) := by decide +kernel
theorem d_MD_look_172 : decode c_MD_look 172 = .ok (.iload_n 2, 1) := by decide +kernel
theorem d_MD_look_173 : decode c_MD_look 173 = .ok (.bipush 20, 2) := by decide +kernel
theorem d_MD_look_175 : decode c_MD_look 175 = .ok (.bipush 27, 2) := by decide +kernel
theorem d_MD_look_177 : decode c_MD_look 177 = .ok (.invokestatic 246, 3) := by decide +kernel
theorem d_MD_look_180 : decode c_MD_look 180 = .ok (.ifCond .eq 20, 3) := by decide +kernel
theorem d_MD_look_183 : decode c_MD_look 183 = .ok (.aload_n 0, 1) := by decide +kernel
theorem d_MD_look_184 : decode c_MD_look 184 = .ok (.getfield 35, 3) := by decide +kernel
theorem d_MD_look_187 : decode c_MD_look 187 = .ok (.bipush 8, 2) := by decide +kernel
theorem d_MD_look_189 : decode c_MD_look 189 = .ok (.iload_n 1, 1) := by decide +kernel
theorem d_MD_look_190 : decode c_MD_look 190 = .ok (.imul, 1) := by decide +kernel
theorem d_MD_look_191 : decode c_MD_look 191 = .ok (.iload_n 2, 1) := by decide +kernel
theorem d_MD_look_192 : decode c_MD_look 192 = .ok (.iadd, 1) := by decide +kernel
theorem d_MD_look_193 : decode c_MD_look 193 = .ok (.bipush 20, 2) := by decide +kernel
theorem d_MD_look_195 : decode c_MD_look 195 = .ok (.isub, 1) := by decide +kernel
theorem d_MD_look_196 : decode c_MD_look 196 = .ok (.iaload, 1) := by decide +kernel
theorem d_MD_look_197 : decode c_MD_look 197 = .ok (.goto 4, 3) := by decide +kernel
theorem d_MD_look_200 : decode c_MD_look 200 = .ok (.iconst (-1), 1) := by decide +kernel
theorem d_MD_look_201 : decode c_MD_look 201 = .ok (.ireturn, 1) := by decide +kernel
theorem d_MD_word2_0 : decode c_MD_word2 0 = .ok (.aload_n 0, 1) := by decide +kernel
theorem d_MD_word2_1 : decode c_MD_word2 1 = .ok (.iload_n 1, 1) := by decide +kernel
theorem d_MD_word2_2 : decode c_MD_word2 2 = .ok (.invokevirtual 292, 3) := by decide +kernel
theorem d_MD_word2_5 : decode c_MD_word2 5 = .ok (.ifCond .eq 34, 3) := by decide +kernel
theorem d_MD_word2_8 : decode c_MD_word2 8 = .ok (.iload_n 2, 1) := by decide +kernel
theorem d_MD_word2_9 : decode c_MD_word2 9 = .ok (.iconst 0, 1) := by decide +kernel
theorem d_MD_word2_10 : decode c_MD_word2 10 = .ok (.aload_n 0, 1) := by decide +kernel
theorem d_MD_word2_11 : decode c_MD_word2 11 = .ok (.getfield 25, 3) := by decide +kernel
theorem d_MD_word2_14 : decode c_MD_word2 14 = .ok (.iload_n 1, 1) := by decide +kernel
theorem d_MD_word2_15 : decode c_MD_word2 15 = .ok (.iaload, 1) := by decide +kernel
theorem d_MD_word2_16 : decode c_MD_word2 16 = .ok (.iconst 1, 1) := by decide +kernel
theorem d_MD_word2_17 : decode c_MD_word2 17 = .ok (.isub, 1) := by decide +kernel
theorem d_MD_word2_18 : decode c_MD_word2 18 = .ok (.invokestatic 246, 3) := by decide +kernel
theorem d_MD_word2_21 : decode c_MD_word2 21 = .ok (.ifCond .eq 18, 3) := by decide +kernel
theorem d_MD_word2_24 : decode c_MD_word2 24 = .ok (.aload_n 0, 1) := by decide +kernel
theorem d_MD_word2_25 : decode c_MD_word2 25 = .ok (.getfield 32, 3) := by decide +kernel
theorem d_MD_word2_28 : decode c_MD_word2 28 = .ok (.sipush 1024, 3) := by decide +kernel
theorem d_MD_word2_31 : decode c_MD_word2 31 = .ok (.iload_n 1, 1) := by decide +kernel
theorem d_MD_word2_32 : decode c_MD_word2 32 = .ok (.imul, 1) := by decide +kernel
theorem d_MD_word2_33 : decode c_MD_word2 33 = .ok (.iload_n 2, 1) := by decide +kernel
theorem d_MD_word2_34 : decode c_MD_word2 34 = .ok (.iadd, 1) := by decide +kernel
theorem d_MD_word2_35 : decode c_MD_word2 35 = .ok (.iaload, 1) := by decide +kernel
theorem d_MD_word2_36 : decode c_MD_word2 36 = .ok (.goto 4, 3) := by decide +kernel
theorem d_MD_word2_39 : decode c_MD_word2 39 = .ok (.iconst (-1), 1) := by decide +kernel
theorem d_MD_word2_40 : decode c_MD_word2 40 = .ok (.ireturn, 1) := by decide +kernel
theorem d_MD_output_0 : decode c_MD_output 0 = .ok (.aload_n 0, 1) := by decide +kernel
theorem d_MD_output_1 : decode c_MD_output 1 = .ok (.iload_n 1, 1) := by decide +kernel
theorem d_MD_output_2 : decode c_MD_output 2 = .ok (.invokevirtual 292, 3) := by decide +kernel
theorem d_MD_output_5 : decode c_MD_output 5 = .ok (.ifCond .eq 39, 3) := by decide +kernel
theorem d_MD_output_8 : decode c_MD_output 8 = .ok (.iload_n 2, 1) := by decide +kernel
theorem d_MD_output_9 : decode c_MD_output 9 = .ok (.iconst 0, 1) := by decide +kernel
theorem d_MD_output_10 : decode c_MD_output 10 = .ok (.sipush 499, 3) := by decide +kernel
theorem d_MD_output_13 : decode c_MD_output 13 = .ok (.invokestatic 246, 3) := by decide +kernel
theorem d_MD_output_16 : decode c_MD_output 16 = .ok (.ifCond .eq 28, 3) := by decide +kernel
theorem d_MD_output_19 : decode c_MD_output 19 = .ok (.iload_n 2, 1) := by decide +kernel
theorem d_MD_output_20 : decode c_MD_output 20 = .ok (.aload_n 0, 1) := by decide +kernel
theorem d_MD_output_21 : decode c_MD_output 21 = .ok (.getfield 62, 3) := by decide +kernel
theorem d_MD_output_24 : decode c_MD_output 24 = .ok (.iload_n 1, 1) := by decide +kernel
theorem d_MD_output_25 : decode c_MD_output 25 = .ok (.iaload, 1) := by decide +kernel
theorem d_MD_output_26 : decode c_MD_output 26 = .ok (.if_icmp .ge 18, 3) := by decide +kernel
theorem d_MD_output_29 : decode c_MD_output 29 = .ok (.aload_n 0, 1) := by decide +kernel
theorem d_MD_output_30 : decode c_MD_output 30 = .ok (.getfield 65, 3) := by decide +kernel
theorem d_MD_output_33 : decode c_MD_output 33 = .ok (.sipush 500, 3) := by decide +kernel
theorem d_MD_output_36 : decode c_MD_output 36 = .ok (.iload_n 1, 1) := by decide +kernel
theorem d_MD_output_37 : decode c_MD_output 37 = .ok (.imul, 1) := by decide +kernel
theorem d_MD_output_38 : decode c_MD_output 38 = .ok (.iload_n 2, 1) := by decide +kernel
theorem d_MD_output_39 : decode c_MD_output 39 = .ok (.iadd, 1) := by decide +kernel
theorem d_MD_output_40 : decode c_MD_output 40 = .ok (.iaload, 1) := by decide +kernel
theorem d_MD_output_41 : decode c_MD_output 41 = .ok (.goto 4, 3) := by decide +kernel
theorem d_MD_output_44 : decode c_MD_output 44 = .ok (.iconst (-1), 1) := by decide +kernel
theorem d_MD_output_45 : decode c_MD_output 45 = .ok (.ireturn, 1) := by decide +kernel
theorem d_MD_disk_0 : decode c_MD_disk 0 = .ok (.aload_n 0, 1) := by decide +kernel
theorem d_MD_disk_1 : decode c_MD_disk 1 = .ok (.iload_n 1, 1) := by decide +kernel
theorem d_MD_disk_2 : decode c_MD_disk 2 = .ok (.invokevirtual 292, 3) := by decide +kernel
theorem d_MD_disk_5 : decode c_MD_disk 5 = .ok (.ifCond .eq 43, 3) := by decide +kernel
theorem d_MD_disk_8 : decode c_MD_disk 8 = .ok (.iload_n 2, 1) := by decide +kernel
theorem d_MD_disk_9 : decode c_MD_disk 9 = .ok (.iconst 0, 1) := by decide +kernel
theorem d_MD_disk_10 : decode c_MD_disk 10 = .ok (.bipush 7, 2) := by decide +kernel
theorem d_MD_disk_12 : decode c_MD_disk 12 = .ok (.invokestatic 246, 3) := by decide +kernel
theorem d_MD_disk_15 : decode c_MD_disk 15 = .ok (.ifCond .eq 33, 3) := by decide +kernel
theorem d_MD_disk_18 : decode c_MD_disk 18 = .ok (.iload_n 3, 1) := by decide +kernel
theorem d_MD_disk_19 : decode c_MD_disk 19 = .ok (.iconst 0, 1) := by decide +kernel
theorem d_MD_disk_20 : decode c_MD_disk 20 = .ok (.bipush 15, 2) := by decide +kernel
theorem d_MD_disk_22 : decode c_MD_disk 22 = .ok (.invokestatic 246, 3) := by decide +kernel
theorem d_MD_disk_25 : decode c_MD_disk 25 = .ok (.ifCond .eq 23, 3) := by decide +kernel
theorem d_MD_disk_28 : decode c_MD_disk 28 = .ok (.aload_n 0, 1) := by decide +kernel
theorem d_MD_disk_29 : decode c_MD_disk 29 = .ok (.getfield 74, 3) := by decide +kernel
theorem d_MD_disk_32 : decode c_MD_disk 32 = .ok (.sipush 128, 3) := by decide +kernel
theorem d_MD_disk_35 : decode c_MD_disk 35 = .ok (.iload_n 1, 1) := by decide +kernel
theorem d_MD_disk_36 : decode c_MD_disk 36 = .ok (.imul, 1) := by decide +kernel
theorem d_MD_disk_37 : decode c_MD_disk 37 = .ok (.bipush 16, 2) := by decide +kernel
theorem d_MD_disk_39 : decode c_MD_disk 39 = .ok (.iload_n 2, 1) := by decide +kernel
theorem d_MD_disk_40 : decode c_MD_disk 40 = .ok (.imul, 1) := by decide +kernel
theorem d_MD_disk_41 : decode c_MD_disk 41 = .ok (.iadd, 1) := by decide +kernel
theorem d_MD_disk_42 : decode c_MD_disk 42 = .ok (.iload_n 3, 1) := by decide +kernel
theorem d_MD_disk_43 : decode c_MD_disk 43 = .ok (.iadd, 1) := by decide +kernel
theorem d_MD_disk_44 : decode c_MD_disk 44 = .ok (.iaload, 1) := by decide +kernel
theorem d_MD_disk_45 : decode c_MD_disk 45 = .ok (.goto 4, 3) := by decide +kernel
theorem d_MD_disk_48 : decode c_MD_disk 48 = .ok (.iconst (-1), 1) := by decide +kernel
theorem d_MD_disk_49 : decode c_MD_disk 49 = .ok (.ireturn, 1) := by decide +kernel
