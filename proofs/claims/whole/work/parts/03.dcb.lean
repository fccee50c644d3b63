theorem d_AS_init_0 : decode c_AS_init 0 = .ok (.aload_n 0, 1) := by decide +kernel
theorem d_AS_init_1 : decode c_AS_init 1 = .ok (.invokespecial 3, 3) := by decide +kernel
theorem d_AS_init_4 : decode c_AS_init 4 = .ok (.aload_n 0, 1) := by decide +kernel
theorem d_AS_init_5 : decode c_AS_init 5 = .ok (.sipush 1024, 3) := by decide +kernel
theorem d_AS_init_8 : decode c_AS_init 8 = .ok (.newarray .int, 2) := by decide +kernel
theorem d_AS_init_10 : decode c_AS_init 10 = .ok (.putfield 9, 3) := by decide +kernel
theorem d_AS_init_13 : decode c_AS_init 13 = .ok (.aload_n 0, 1) := by decide +kernel
theorem d_AS_init_14 : decode c_AS_init 14 = .ok (.new 15, 3) := by decide +kernel
theorem d_AS_init_17 : decode c_AS_init 17 = .ok (.dup, 1) := by decide +kernel
theorem d_AS_init_18 : decode c_AS_init 18 = .ok (.invokespecial 17, 3) := by decide +kernel
theorem d_AS_init_21 : decode c_AS_init 21 = .ok (.putfield 18, 3) := by decide +kernel
theorem d_AS_init_24 : decode c_AS_init 24 = .ok (.aload_n 0, 1) := by decide +kernel
theorem d_AS_init_25 : decode c_AS_init 25 = .ok (.bipush 100, 2) := by decide +kernel
theorem d_AS_init_27 : decode c_AS_init 27 = .ok (.newarray .long, 2) := by decide +kernel
theorem d_AS_init_29 : decode c_AS_init 29 = .ok (.putfield 22, 3) := by decide +kernel
theorem d_AS_init_32 : decode c_AS_init 32 = .ok (.aload_n 0, 1) := by decide +kernel
theorem d_AS_init_33 : decode c_AS_init 33 = .ok (.bipush 100, 2) := by decide +kernel
theorem d_AS_init_35 : decode c_AS_init 35 = .ok (.newarray .int, 2) := by decide +kernel
theorem d_AS_init_37 : decode c_AS_init 37 = .ok (.putfield 26, 3) := by decide +kernel
theorem d_AS_init_40 : decode c_AS_init 40 = .ok (.aload_n 0, 1) := by decide +kernel
theorem d_AS_init_41 : decode c_AS_init 41 = .ok (.sipush 1024, 3) := by decide +kernel
theorem d_AS_init_44 : decode c_AS_init 44 = .ok (.newarray .long, 2) := by decide +kernel
theorem d_AS_init_46 : decode c_AS_init 46 = .ok (.putfield 29, 3) := by decide +kernel
theorem d_AS_init_49 : decode c_AS_init 49 = .ok (.aload_n 0, 1) := by decide +kernel
theorem d_AS_init_50 : decode c_AS_init 50 = .ok (.sipush 1024, 3) := by decide +kernel
theorem d_AS_init_53 : decode c_AS_init 53 = .ok (.newarray .int, 2) := by decide +kernel
theorem d_AS_init_55 : decode c_AS_init 55 = .ok (.putfield 32, 3) := by decide +kernel
theorem d_AS_init_58 : decode c_AS_init 58 = .ok (.aload_n 0, 1) := by decide +kernel
theorem d_AS_init_59 : decode c_AS_init 59 = .ok (.sipush 1024, 3) := by decide +kernel
theorem d_AS_init_62 : decode c_AS_init 62 = .ok (.newarray .int, 2) := by decide +kernel
theorem d_AS_init_64 : decode c_AS_init 64 = .ok (.putfield 35, 3) := by decide +kernel
theorem d_AS_init_67 : decode c_AS_init 67 = .ok (.return_, 1) := by decide +kernel
theorem d_AS_assemble_0 : decode c_AS_assemble 0 = .ok (.aload_n 0, 1) := by decide +kernel
theorem d_AS_assemble_1 : decode c_AS_assemble 1 = .ok (.iconst 0, 1) := by decide +kernel
theorem d_AS_assemble_2 : decode c_AS_assemble 2 = .ok (.putfield 38, 3) := by decide +kernel
theorem d_AS_assemble_5 : decode c_AS_assemble 5 = .ok (.aload_n 0, 1) := by decide +kernel
theorem d_AS_assemble_6 : decode c_AS_assemble 6 = .ok (.iconst 0, 1) := by decide +kernel
theorem d_AS_assemble_7 : decode c_AS_assemble 7 = .ok (.putfield 42, 3) := by decide +kernel
theorem d_AS_assemble_10 : decode c_AS_assemble 10 = .ok (.aload_n 0, 1) := by decide +kernel
theorem d_AS_assemble_11 : decode c_AS_assemble 11 = .ok (.iconst 0, 1) := by decide +kernel
theorem d_AS_assemble_12 : decode c_AS_assemble 12 = .ok (.putfield 45, 3) := by decide +kernel
theorem d_AS_assemble_15 : decode c_AS_assemble 15 = .ok (.aload_n 0, 1) := by decide +kernel
theorem d_AS_assemble_16 : decode c_AS_assemble 16 = .ok (.iconst 0, 1) := by decide +kernel
theorem d_AS_assemble_17 : decode c_AS_assemble 17 = .ok (.putfield 48, 3) := by decide +kernel
theorem d_AS_assemble_20 : decode c_AS_assemble 20 = .ok (.aload_n 0, 1) := by decide +kernel
theorem d_AS_assemble_21 : decode c_AS_assemble 21 = .ok (.iconst 0, 1) := by decide +kernel
theorem d_AS_assemble_22 : decode c_AS_assemble 22 = .ok (.putfield 51, 3) := by decide +kernel
theorem d_AS_assemble_25 : decode c_AS_assemble 25 = .ok (.iconst 0, 1) := by decide +kernel
theorem d_AS_assemble_26 : decode c_AS_assemble 26 = .ok (.istore 4, 2) := by decide +kernel
theorem d_AS_assemble_28 : decode c_AS_assemble 28 = .ok (.iconst 1, 1) := by decide +kernel
theorem d_AS_assemble_29 : decode c_AS_assemble 29 = .ok (.istore 5, 2) := by decide +kernel
theorem d_AS_assemble_31 : decode c_AS_assemble 31 = .ok (.iload 5, 2) := by decide +kernel
theorem d_AS_assemble_33 : decode c_AS_assemble 33 = .ok (.iload_n 2, 1) := by decide +kernel
theorem d_AS_assemble_34 : decode c_AS_assemble 34 = .ok (.if_icmp .gt 84, 3) := by decide +kernel
theorem d_AS_assemble_37 : decode c_AS_assemble 37 = .ok (.iload 4, 2) := by decide +kernel
theorem d_AS_assemble_39 : decode c_AS_assemble 39 = .ok (.iload_n 2, 1) := by decide +kernel
theorem d_AS_assemble_40 : decode c_AS_assemble 40 = .ok (.if_icmp .ge 78, 3) := by decide +kernel
theorem d_AS_assemble_43 : decode c_AS_assemble 43 = .ok (.aload_n 0, 1) := by decide +kernel
theorem d_AS_assemble_44 : decode c_AS_assemble 44 = .ok (.getfield 42, 3) := by decide +kernel
theorem d_AS_assemble_47 : decode c_AS_assemble 47 = .ok (.ifCond .ne 71, 3) := by decide +kernel
theorem d_AS_assemble_50 : decode c_AS_assemble 50 = .ok (.aload_n 1, 1) := by decide +kernel
theorem d_AS_assemble_51 : decode c_AS_assemble 51 = .ok (.iload 4, 2) := by decide +kernel
theorem d_AS_assemble_53 : decode c_AS_assemble 53 = .ok (.iload_n 2, 1) := by decide +kernel
theorem d_AS_assemble_54 : decode c_AS_assemble 54 = .ok (.invokestatic 54, 3) := by decide +kernel
theorem d_AS_assemble_57 : decode c_AS_assemble 57 = .ok (.istore 6, 2) := by decide +kernel
theorem d_AS_assemble_59 : decode c_AS_assemble 59 = .ok (.aload_n 0, 1) := by decide +kernel
theorem d_AS_assemble_60 : decode c_AS_assemble 60 = .ok (.getfield 18, 3) := by decide +kernel
theorem d_AS_assemble_63 : decode c_AS_assemble 63 = .ok (.aload_n 1, 1) := by decide +kernel
theorem d_AS_assemble_64 : decode c_AS_assemble 64 = .ok (.iload 4, 2) := by decide +kernel
theorem d_AS_assemble_66 : decode c_AS_assemble 66 = .ok (.iload 6, 2) := by decide +kernel
theorem d_AS_assemble_68 : decode c_AS_assemble 68 = .ok (.invokevirtual 58, 3) := by decide +kernel
theorem d_AS_assemble_71 : decode c_AS_assemble 71 = .ok (.istore 7, 2) := by decide +kernel
theorem d_AS_assemble_73 : decode c_AS_assemble 73 = .ok (.aload_n 0, 1) := by decide +kernel
theorem d_AS_assemble_74 : decode c_AS_assemble 74 = .ok (.iload 7, 2) := by decide +kernel
theorem d_AS_assemble_76 : decode c_AS_assemble 76 = .ok (.ifCond .eq 11, 3) := by decide +kernel
theorem d_AS_assemble_79 : decode c_AS_assemble 79 = .ok (.aload_n 0, 1) := by decide +kernel
theorem d_AS_assemble_80 : decode c_AS_assemble 80 = .ok (.iload_n 3, 1) := by decide +kernel
theorem d_AS_assemble_81 : decode c_AS_assemble 81 = .ok (.invokevirtual 62, 3) := by decide +kernel
theorem d_AS_assemble_84 : decode c_AS_assemble 84 = .ok (.goto 4, 3) := by decide +kernel
theorem d_AS_assemble_87 : decode c_AS_assemble 87 = .ok (.iconst 1, 1) := by decide +kernel
theorem d_AS_assemble_88 : decode c_AS_assemble 88 = .ok (.iload 5, 2) := by decide +kernel
theorem d_AS_assemble_90 : decode c_AS_assemble 90 = .ok (.invokevirtual 66, 3) := by decide +kernel
theorem d_AS_assemble_93 : decode c_AS_assemble 93 = .ok (.aload_n 0, 1) := by decide +kernel
theorem d_AS_assemble_94 : decode c_AS_assemble 94 = .ok (.getfield 42, 3) := by decide +kernel
theorem d_AS_assemble_97 : decode c_AS_assemble 97 = .ok (.ifCond .ne 9, 3) := by decide +kernel
theorem d_AS_assemble_100 : decode c_AS_assemble 100 = .ok (.aload_n 0, 1) := by decide +kernel
theorem d_AS_assemble_101 : decode c_AS_assemble 101 = .ok (.iload 5, 2) := by decide +kernel
theorem d_AS_assemble_103 : decode c_AS_assemble 103 = .ok (.invokevirtual 70, 3) := by decide +kernel
theorem d_AS_assemble_106 : decode c_AS_assemble 106 = .ok (.iload 6, 2) := by decide +kernel
theorem d_AS_assemble_108 : decode c_AS_assemble 108 = .ok (.iconst 1, 1) := by decide +kernel
theorem d_AS_assemble_109 : decode c_AS_assemble 109 = .ok (.iadd, 1) := by decide +kernel
theorem d_AS_assemble_110 : decode c_AS_assemble 110 = .ok (.istore 4, 2) := by decide +kernel
theorem d_AS_assemble_112 : decode c_AS_assemble 112 = .ok (.iinc 5 1, 3) := by decide +kernel
theorem d_AS_assemble_115 : decode c_AS_assemble 115 = .ok (.goto (-84), 3) := by decide +kernel
theorem d_AS_assemble_118 : decode c_AS_assemble 118 = .ok (.aload_n 0, 1) := by decide +kernel
theorem d_AS_assemble_119 : decode c_AS_assemble 119 = .ok (.getfield 42, 3) := by decide +kernel
theorem d_AS_assemble_122 : decode c_AS_assemble 122 = .ok (.ifCond .ne 7, 3) := by decide +kernel
theorem d_AS_assemble_125 : decode c_AS_assemble 125 = .ok (.aload_n 0, 1) := by decide +kernel
theorem d_AS_assemble_126 : decode c_AS_assemble 126 = .ok (.invokevirtual 74, 3) := by decide +kernel
theorem d_AS_assemble_129 : decode c_AS_assemble 129 = .ok (.return_, 1) := by decide +kernel
theorem d_AS_lineEnd_0 : decode c_AS_lineEnd 0 = .ok (.iload_n 1, 1) := by decide +kernel
theorem d_AS_lineEnd_1 : decode c_AS_lineEnd 1 = .ok (.istore_n 3, 1) := by decide +kernel
theorem d_AS_lineEnd_2 : decode c_AS_lineEnd 2 = .ok (.iload_n 3, 1) := by decide +kernel
theorem d_AS_lineEnd_3 : decode c_AS_lineEnd 3 = .ok (.iload_n 2, 1) := by decide +kernel
theorem d_AS_lineEnd_4 : decode c_AS_lineEnd 4 = .ok (.if_icmp .ge 17, 3) := by decide +kernel
theorem d_AS_lineEnd_7 : decode c_AS_lineEnd 7 = .ok (.aload_n 0, 1) := by decide +kernel
theorem d_AS_lineEnd_8 : decode c_AS_lineEnd 8 = .ok (.iload_n 3, 1) := by decide +kernel
theorem d_AS_lineEnd_9 : decode c_AS_lineEnd 9 = .ok (.iaload, 1) := by decide +kernel
theorem d_AS_lineEnd_10 : decode c_AS_lineEnd 10 = .ok (.bipush 10, 2) := by decide +kernel
theorem d_AS_lineEnd_12 : decode c_AS_lineEnd 12 = .ok (.if_icmp .eq 9, 3) := by decide +kernel
theorem d_AS_lineEnd_15 : decode c_AS_lineEnd 15 = .ok (.iinc 3 1, 3) := by decide +kernel
theorem d_AS_lineEnd_18 : decode c_AS_lineEnd 18 = .ok (.goto (-16), 3) := by decide +kernel
theorem d_AS_lineEnd_21 : decode c_AS_lineEnd 21 = .ok (.iload_n 3, 1) := by decide +kernel
theorem d_AS_lineEnd_22 : decode c_AS_lineEnd 22 = .ok (.ireturn, 1) := by decide +kernel
theorem d_AS_tellFault_0 : decode c_AS_tellFault 0 = .ok (.iload_n 1, 1) := by decide +kernel
theorem d_AS_tellFault_1 : decode c_AS_tellFault 1 = .ok (.ifCond .eq 13, 3) := by decide +kernel
theorem d_AS_tellFault_4 : decode c_AS_tellFault 4 = .ok (.aload_n 0, 1) := by decide +kernel
theorem d_AS_tellFault_5 : decode c_AS_tellFault 5 = .ok (.iload_n 1, 1) := by decide +kernel
theorem d_AS_tellFault_6 : decode c_AS_tellFault 6 = .ok (.putfield 42, 3) := by decide +kernel
theorem d_AS_tellFault_9 : decode c_AS_tellFault 9 = .ok (.aload_n 0, 1) := by decide +kernel
theorem d_AS_tellFault_10 : decode c_AS_tellFault 10 = .ok (.iload_n 2, 1) := by decide +kernel
theorem d_AS_tellFault_11 : decode c_AS_tellFault 11 = .ok (.putfield 45, 3) := by decide +kernel
theorem d_AS_tellFault_14 : decode c_AS_tellFault 14 = .ok (.return_, 1) := by decide +kernel
theorem d_AS_faultOfLine_0 : decode c_AS_faultOfLine 0 = .ok (.aload_n 0, 1) := by decide +kernel
theorem d_AS_faultOfLine_1 : decode c_AS_faultOfLine 1 = .ok (.getfield 18, 3) := by decide +kernel
theorem d_AS_faultOfLine_4 : decode c_AS_faultOfLine 4 = .ok (.getfield 77, 3) := by decide +kernel
theorem d_AS_faultOfLine_7 : decode c_AS_faultOfLine 7 = .ok (.bipush 27, 2) := by decide +kernel
theorem d_AS_faultOfLine_9 : decode c_AS_faultOfLine 9 = .ok (.if_icmp .ne 19, 3) := by decide +kernel
theorem d_AS_faultOfLine_12 : decode c_AS_faultOfLine 12 = .ok (.aload_n 0, 1) := by decide +kernel
theorem d_AS_faultOfLine_13 : decode c_AS_faultOfLine 13 = .ok (.getfield 18, 3) := by decide +kernel
theorem d_AS_faultOfLine_16 : decode c_AS_faultOfLine 16 = .ok (.getfield 80, 3) := by decide +kernel
theorem d_AS_faultOfLine_19 : decode c_AS_faultOfLine 19 = .ok (.aload_n 0, 1) := by decide +kernel
theorem d_AS_faultOfLine_20 : decode c_AS_faultOfLine 20 = .ok (.getfield 38, 3) := by decide +kernel
theorem d_AS_faultOfLine_23 : decode c_AS_faultOfLine 23 = .ok (.if_icmp .ge 5, 3) := by decide +kernel
theorem d_AS_faultOfLine_26 : decode c_AS_faultOfLine 26 = .ok (.iconst 1, 1) := by decide +kernel
theorem d_AS_faultOfLine_27 : decode c_AS_faultOfLine 27 = .ok (.ireturn, 1) := by decide +kernel
theorem d_AS_faultOfLine_28 : decode c_AS_faultOfLine 28 = .ok (.aload_n 0, 1) := by decide +kernel
theorem d_AS_faultOfLine_29 : decode c_AS_faultOfLine 29 = .ok (.getfield 18, 3) := by decide +kernel
theorem d_AS_faultOfLine_32 : decode c_AS_faultOfLine 32 = .ok (.getfield 83, 3) := by decide +kernel
theorem d_AS_faultOfLine_35 : decode c_AS_faultOfLine 35 = .ok (.lconst 0, 1) := by decide +kernel
theorem d_AS_faultOfLine_36 : decode c_AS_faultOfLine 36 = .ok (.lcmp, 1) := by decide +kernel
theorem d_AS_faultOfLine_37 : decode c_AS_faultOfLine 37 = .ok (.ifCond .eq 31, 3) := by decide +kernel
theorem d_AS_faultOfLine_40 : decode c_AS_faultOfLine 40 = .ok (.aload_n 0, 1) := by decide +kernel
theorem d_AS_faultOfLine_41 : decode c_AS_faultOfLine 41 = .ok (.aload_n 0, 1) := by decide +kernel
theorem d_AS_faultOfLine_42 : decode c_AS_faultOfLine 42 = .ok (.getfield 18, 3) := by decide +kernel
theorem d_AS_faultOfLine_45 : decode c_AS_faultOfLine 45 = .ok (.getfield 83, 3) := by decide +kernel
theorem d_AS_faultOfLine_48 : decode c_AS_faultOfLine 48 = .ok (.invokevirtual 87, 3) := by decide +kernel
theorem d_AS_faultOfLine_51 : decode c_AS_faultOfLine 51 = .ok (.iconst (-1), 1) := by decide +kernel
theorem d_AS_faultOfLine_52 : decode c_AS_faultOfLine 52 = .ok (.if_icmp .eq 5, 3) := by decide +kernel
theorem d_AS_faultOfLine_55 : decode c_AS_faultOfLine 55 = .ok (.iconst 2, 1) := by decide +kernel
theorem d_AS_faultOfLine_56 : decode c_AS_faultOfLine 56 = .ok (.ireturn, 1) := by decide +kernel
theorem d_AS_faultOfLine_57 : decode c_AS_faultOfLine 57 = .ok (.aload_n 0, 1) := by decide +kernel
theorem d_AS_faultOfLine_58 : decode c_AS_faultOfLine 58 = .ok (.getfield 48, 3) := by decide +kernel
theorem d_AS_faultOfLine_61 : decode c_AS_faultOfLine 61 = .ok (.bipush 100, 2) := by decide +kernel
theorem d_AS_faultOfLine_63 : decode c_AS_faultOfLine 63 = .ok (.if_icmp .lt 5, 3) := by decide +kernel
theorem d_AS_faultOfLine_66 : decode c_AS_faultOfLine 66 = .ok (.iconst 3, 1) := by decide +kernel
theorem d_AS_faultOfLine_67 : decode c_AS_faultOfLine 67 = .ok (.ireturn, 1) := by decide +kernel
theorem d_AS_faultOfLine_68 : decode c_AS_faultOfLine 68 = .ok (.aload_n 0, 1) := by decide +kernel
theorem d_AS_faultOfLine_69 : decode c_AS_faultOfLine 69 = .ok (.invokevirtual 91, 3) := by decide +kernel
theorem d_AS_faultOfLine_72 : decode c_AS_faultOfLine 72 = .ok (.iload_n 1, 1) := by decide +kernel
theorem d_AS_faultOfLine_73 : decode c_AS_faultOfLine 73 = .ok (.if_icmp .le 7, 3) := by decide +kernel
theorem d_AS_faultOfLine_76 : decode c_AS_faultOfLine 76 = .ok (.iconst 4, 1) := by decide +kernel
theorem d_AS_faultOfLine_77 : decode c_AS_faultOfLine 77 = .ok (.goto 4, 3) := by decide +kernel
theorem d_AS_faultOfLine_80 : decode c_AS_faultOfLine 80 = .ok (.iconst 0, 1) := by decide +kernel
theorem d_AS_faultOfLine_81 : decode c_AS_faultOfLine 81 = .ok (.ireturn, 1) := by decide +kernel
theorem d_AS_lineBehind_0 : decode c_AS_lineBehind 0 = .ok (.aload_n 0, 1) := by decide +kernel
theorem d_AS_lineBehind_1 : decode c_AS_lineBehind 1 = .ok (.getfield 18, 3) := by decide +kernel
theorem d_AS_lineBehind_4 : decode c_AS_lineBehind 4 = .ok (.getfield 77, 3) := by decide +kernel
theorem d_AS_lineBehind_7 : decode c_AS_lineBehind 7 = .ok (.lookupswitch 74 #[((-1), 41), (25, 46), (26, 53), (27, 66)], 41) := by decide +kernel
theorem d_AS_lineBehind_48 : decode c_AS_lineBehind 48 = .ok (.aload_n 0, 1) := by decide +kernel
theorem d_AS_lineBehind_49 : decode c_AS_lineBehind 49 = .ok (.getfield 38, 3) := by decide +kernel
theorem d_AS_lineBehind_52 : decode c_AS_lineBehind 52 = .ok (.ireturn, 1) := by decide +kernel
theorem d_AS_lineBehind_53 : decode c_AS_lineBehind 53 = .ok (.aload_n 0, 1) := by decide +kernel
theorem d_AS_lineBehind_54 : decode c_AS_lineBehind 54 = .ok (.getfield 38, 3) := by decide +kernel
theorem d_AS_lineBehind_57 : decode c_AS_lineBehind 57 = .ok (.iconst 1, 1) := by decide +kernel
theorem d_AS_lineBehind_58 : decode c_AS_lineBehind 58 = .ok (.iadd, 1) := by decide +kernel
theorem d_AS_lineBehind_59 : decode c_AS_lineBehind 59 = .ok (.ireturn, 1) := by decide +kernel
theorem d_AS_lineBehind_60 : decode c_AS_lineBehind 60 = .ok (.aload_n 0, 1) := by decide +kernel
theorem d_AS_lineBehind_61 : decode c_AS_lineBehind 61 = .ok (.getfield 38, 3) := by decide +kernel
theorem d_AS_lineBehind_64 : decode c_AS_lineBehind 64 = .ok (.aload_n 0, 1) := by decide +kernel
theorem d_AS_lineBehind_65 : decode c_AS_lineBehind 65 = .ok (.getfield 18, 3) := by decide +kernel
theorem d_AS_lineBehind_68 : decode c_AS_lineBehind 68 = .ok (.getfield 80, 3) := by decide +kernel
theorem d_AS_lineBehind_71 : decode c_AS_lineBehind 71 = .ok (.iadd, 1) := by decide +kernel
theorem d_AS_lineBehind_72 : decode c_AS_lineBehind 72 = .ok (.ireturn, 1) := by decide +kernel
theorem d_AS_lineBehind_73 : decode c_AS_lineBehind 73 = .ok (.aload_n 0, 1) := by decide +kernel
theorem d_AS_lineBehind_74 : decode c_AS_lineBehind 74 = .ok (.getfield 18, 3) := by decide +kernel
theorem d_AS_lineBehind_77 : decode c_AS_lineBehind 77 = .ok (.getfield 80, 3) := by decide +kernel
theorem d_AS_lineBehind_80 : decode c_AS_lineBehind 80 = .ok (.ireturn, 1) := by decide +kernel
theorem d_AS_lineBehind_81 : decode c_AS_lineBehind 81 = .ok (.aload_n 0, 1) := by decide +kernel
theorem d_AS_lineBehind_82 : decode c_AS_lineBehind 82 = .ok (.getfield 38, 3) := by decide +kernel
theorem d_AS_lineBehind_85 : decode c_AS_lineBehind 85 = .ok (.iconst 2, 1) := by decide +kernel
theorem d_AS_lineBehind_86 : decode c_AS_lineBehind 86 = .ok (.iadd, 1) := by decide +kernel
theorem d_AS_lineBehind_87 : decode c_AS_lineBehind 87 = .ok (.ireturn, 1) := by decide +kernel
theorem d_AS_placeLine_0 : decode c_AS_placeLine 0 = .ok (.aload_n 0, 1) := by decide +kernel
theorem d_AS_placeLine_1 : decode c_AS_placeLine 1 = .ok (.getfield 18, 3) := by decide +kernel
theorem d_AS_placeLine_4 : decode c_AS_placeLine 4 = .ok (.getfield 83, 3) := by decide +kernel
theorem d_AS_placeLine_7 : decode c_AS_placeLine 7 = .ok (.lconst 0, 1) := by decide +kernel
theorem d_AS_placeLine_8 : decode c_AS_placeLine 8 = .ok (.lcmp, 1) := by decide +kernel
theorem d_AS_placeLine_9 : decode c_AS_placeLine 9 = .ok (.ifCond .eq 42, 3) := by decide +kernel
theorem d_AS_placeLine_12 : decode c_AS_placeLine 12 = .ok (.aload_n 0, 1) := by decide +kernel
theorem d_AS_placeLine_13 : decode c_AS_placeLine 13 = .ok (.getfield 22, 3) := by decide +kernel
theorem d_AS_placeLine_16 : decode c_AS_placeLine 16 = .ok (.aload_n 0, 1) := by decide +kernel
theorem d_AS_placeLine_17 : decode c_AS_placeLine 17 = .ok (.getfield 48, 3) := by decide +kernel
theorem d_AS_placeLine_20 : decode c_AS_placeLine 20 = .ok (.aload_n 0, 1) := by decide +kernel
theorem d_AS_placeLine_21 : decode c_AS_placeLine 21 = .ok (.getfield 18, 3) := by decide +kernel
theorem d_AS_placeLine_24 : decode c_AS_placeLine 24 = .ok (.getfield 83, 3) := by decide +kernel
theorem d_AS_placeLine_27 : decode c_AS_placeLine 27 = .ok (.lastore, 1) := by decide +kernel
theorem d_AS_placeLine_28 : decode c_AS_placeLine 28 = .ok (.aload_n 0, 1) := by decide +kernel
theorem d_AS_placeLine_29 : decode c_AS_placeLine 29 = .ok (.getfield 26, 3) := by decide +kernel
theorem d_AS_placeLine_32 : decode c_AS_placeLine 32 = .ok (.aload_n 0, 1) := by decide +kernel
theorem d_AS_placeLine_33 : decode c_AS_placeLine 33 = .ok (.getfield 48, 3) := by decide +kernel
theorem d_AS_placeLine_36 : decode c_AS_placeLine 36 = .ok (.aload_n 0, 1) := by decide +kernel
theorem d_AS_placeLine_37 : decode c_AS_placeLine 37 = .ok (.getfield 38, 3) := by decide +kernel
theorem d_AS_placeLine_40 : decode c_AS_placeLine 40 = .ok (.iastore, 1) := by decide +kernel
theorem d_AS_placeLine_41 : decode c_AS_placeLine 41 = .ok (.aload_n 0, 1) := by decide +kernel
theorem d_AS_placeLine_42 : decode c_AS_placeLine 42 = .ok (.dup, 1) := by decide +kernel
theorem d_AS_placeLine_43 : decode c_AS_placeLine 43 = .ok (.getfield 48, 3) := by decide +kernel
theorem d_AS_placeLine_46 : decode c_AS_placeLine 46 = .ok (.iconst 1, 1) := by decide +kernel
theorem d_AS_placeLine_47 : decode c_AS_placeLine 47 = .ok (.iadd, 1) := by decide +kernel
theorem d_AS_placeLine_48 : decode c_AS_placeLine 48 = .ok (.putfield 48, 3) := by decide +kernel
theorem d_AS_placeLine_51 : decode c_AS_placeLine 51 = .ok (.aload_n 0, 1) := by decide +kernel
theorem d_AS_placeLine_52 : decode c_AS_placeLine 52 = .ok (.invokevirtual 91, 3) := by decide +kernel
theorem d_AS_placeLine_55 : decode c_AS_placeLine 55 = .ok (.istore_n 2, 1) := by decide +kernel
theorem d_AS_placeLine_56 : decode c_AS_placeLine 56 = .ok (.aload_n 0, 1) := by decide +kernel
theorem d_AS_placeLine_57 : decode c_AS_placeLine 57 = .ok (.getfield 18, 3) := by decide +kernel
theorem d_AS_placeLine_60 : decode c_AS_placeLine 60 = .ok (.invokevirtual 95, 3) := by decide +kernel
theorem d_AS_placeLine_63 : decode c_AS_placeLine 63 = .ok (.ifCond .eq 55, 3) := by decide +kernel
theorem d_AS_placeLine_66 : decode c_AS_placeLine 66 = .ok (.aload_n 0, 1) := by decide +kernel
theorem d_AS_placeLine_67 : decode c_AS_placeLine 67 = .ok (.getfield 9, 3) := by decide +kernel
theorem d_AS_placeLine_70 : decode c_AS_placeLine 70 = .ok (.aload_n 0, 1) := by decide +kernel
theorem d_AS_placeLine_71 : decode c_AS_placeLine 71 = .ok (.getfield 38, 3) := by decide +kernel
theorem d_AS_placeLine_74 : decode c_AS_placeLine 74 = .ok (.aload_n 0, 1) := by decide +kernel
theorem d_AS_placeLine_75 : decode c_AS_placeLine 75 = .ok (.getfield 18, 3) := by decide +kernel
theorem d_AS_placeLine_78 : decode c_AS_placeLine 78 = .ok (.getfield 77, 3) := by decide +kernel
theorem d_AS_placeLine_81 : decode c_AS_placeLine 81 = .ok (.bipush 64, 2) := by decide +kernel
theorem d_AS_placeLine_83 : decode c_AS_placeLine 83 = .ok (.imul, 1) := by decide +kernel
theorem d_AS_placeLine_84 : decode c_AS_placeLine 84 = .ok (.aload_n 0, 1) := by decide +kernel
theorem d_AS_placeLine_85 : decode c_AS_placeLine 85 = .ok (.getfield 18, 3) := by decide +kernel
theorem d_AS_placeLine_88 : decode c_AS_placeLine 88 = .ok (.getfield 99, 3) := by decide +kernel
theorem d_AS_placeLine_91 : decode c_AS_placeLine 91 = .ok (.bipush 8, 2) := by decide +kernel
theorem d_AS_placeLine_93 : decode c_AS_placeLine 93 = .ok (.imul, 1) := by decide +kernel
theorem d_AS_placeLine_94 : decode c_AS_placeLine 94 = .ok (.iadd, 1) := by decide +kernel
theorem d_AS_placeLine_95 : decode c_AS_placeLine 95 = .ok (.aload_n 0, 1) := by decide +kernel
theorem d_AS_placeLine_96 : decode c_AS_placeLine 96 = .ok (.getfield 18, 3) := by decide +kernel
theorem d_AS_placeLine_99 : decode c_AS_placeLine 99 = .ok (.getfield 102, 3) := by decide +kernel
theorem d_AS_placeLine_102 : decode c_AS_placeLine 102 = .ok (.iadd, 1) := by decide +kernel
theorem d_AS_placeLine_103 : decode c_AS_placeLine 103 = .ok (.iastore, 1) := by decide +kernel
theorem d_AS_placeLine_104 : decode c_AS_placeLine 104 = .ok (.aload_n 0, 1) := by decide +kernel
theorem d_AS_placeLine_105 : decode c_AS_placeLine 105 = .ok (.aload_n 0, 1) := by decide +kernel
theorem d_AS_placeLine_106 : decode c_AS_placeLine 106 = .ok (.getfield 38, 3) := by decide +kernel
theorem d_AS_placeLine_109 : decode c_AS_placeLine 109 = .ok (.iconst 1, 1) := by decide +kernel
theorem d_AS_placeLine_110 : decode c_AS_placeLine 110 = .ok (.iadd, 1) := by decide +kernel
theorem d_AS_placeLine_111 : decode c_AS_placeLine 111 = .ok (.iload_n 1, 1) := by decide +kernel
theorem d_AS_placeLine_112 : decode c_AS_placeLine 112 = .ok (.invokevirtual 105, 3) := by decide +kernel
theorem d_AS_placeLine_115 : decode c_AS_placeLine 115 = .ok (.goto 32, 3) := by decide +kernel
theorem d_AS_placeLine_118 : decode c_AS_placeLine 118 = .ok (.aload_n 0, 1) := by decide +kernel
theorem d_AS_placeLine_119 : decode c_AS_placeLine 119 = .ok (.getfield 18, 3) := by decide +kernel
theorem d_AS_placeLine_122 : decode c_AS_placeLine 122 = .ok (.getfield 77, 3) := by decide +kernel
theorem d_AS_placeLine_125 : decode c_AS_placeLine 125 = .ok (.bipush 25, 2) := by decide +kernel
theorem d_AS_placeLine_127 : decode c_AS_placeLine 127 = .ok (.if_icmp .ne 15, 3) := by decide +kernel
theorem d_AS_placeLine_130 : decode c_AS_placeLine 130 = .ok (.aload_n 0, 1) := by decide +kernel
theorem d_AS_placeLine_131 : decode c_AS_placeLine 131 = .ok (.aload_n 0, 1) := by decide +kernel
theorem d_AS_placeLine_132 : decode c_AS_placeLine 132 = .ok (.getfield 38, 3) := by decide +kernel
theorem d_AS_placeLine_135 : decode c_AS_placeLine 135 = .ok (.iload_n 1, 1) := by decide +kernel
theorem d_AS_placeLine_136 : decode c_AS_placeLine 136 = .ok (.invokevirtual 105, 3) := by decide +kernel
theorem d_AS_placeLine_139 : decode c_AS_placeLine 139 = .ok (.goto 8, 3) := by decide +kernel
theorem d_AS_placeLine_142 : decode c_AS_placeLine 142 = .ok (.aload_n 0, 1) := by decide +kernel
theorem d_AS_placeLine_143 : decode c_AS_placeLine 143 = .ok (.iload_n 2, 1) := by decide +kernel
theorem d_AS_placeLine_144 : decode c_AS_placeLine 144 = .ok (.invokevirtual 108, 3) := by decide +kernel
theorem d_AS_placeLine_147 : decode c_AS_placeLine 147 = .ok (.aload_n 0, 1) := by decide +kernel
theorem d_AS_placeLine_148 : decode c_AS_placeLine 148 = .ok (.iload_n 2, 1) := by decide +kernel
theorem d_AS_placeLine_149 : decode c_AS_placeLine 149 = .ok (.putfield 38, 3) := by decide +kernel
theorem d_AS_placeLine_152 : decode c_AS_placeLine 152 = .ok (.return_, 1) := by decide +kernel
theorem d_AS_clearWords_0 : decode c_AS_clearWords 0 = .ok (.aload_n 0, 1) := by decide +kernel
theorem d_AS_clearWords_1 : decode c_AS_clearWords 1 = .ok (.getfield 38, 3) := by decide +kernel
theorem d_AS_clearWords_4 : decode c_AS_clearWords 4 = .ok (.istore_n 2, 1) := by decide +kernel
theorem d_AS_clearWords_5 : decode c_AS_clearWords 5 = .ok (.iload_n 2, 1) := by decide +kernel
theorem d_AS_clearWords_6 : decode c_AS_clearWords 6 = .ok (.iload_n 1, 1) := by decide +kernel
theorem d_AS_clearWords_7 : decode c_AS_clearWords 7 = .ok (.if_icmp .ge 16, 3) := by decide +kernel
theorem d_AS_clearWords_10 : decode c_AS_clearWords 10 = .ok (.aload_n 0, 1) := by decide +kernel
theorem d_AS_clearWords_11 : decode c_AS_clearWords 11 = .ok (.getfield 9, 3) := by decide +kernel
theorem d_AS_clearWords_14 : decode c_AS_clearWords 14 = .ok (.iload_n 2, 1) := by decide +kernel
theorem d_AS_clearWords_15 : decode c_AS_clearWords 15 = .ok (.iconst 0, 1) := by decide +kernel
theorem d_AS_clearWords_16 : decode c_AS_clearWords 16 = .ok (.iastore, 1) := by decide +kernel
theorem d_AS_clearWords_17 : decode c_AS_clearWords 17 = .ok (.iinc 2 1, 3) := by decide +kernel
theorem d_AS_clearWords_20 : decode c_AS_clearWords 20 = .ok (.goto (-15), 3) := by decide +kernel
theorem d_AS_clearWords_23 : decode c_AS_clearWords 23 = .ok (.return_, 1) := by decide +kernel
theorem d_AS_placeNumber_0 : decode c_AS_placeNumber 0 = .ok (.aload_n 0, 1) := by decide +kernel
theorem d_AS_placeNumber_1 : decode c_AS_placeNumber 1 = .ok (.getfield 9, 3) := by decide +kernel
theorem d_AS_placeNumber_4 : decode c_AS_placeNumber 4 = .ok (.iload_n 1, 1) := by decide +kernel
theorem d_AS_placeNumber_5 : decode c_AS_placeNumber 5 = .ok (.aload_n 0, 1) := by decide +kernel
theorem d_AS_placeNumber_6 : decode c_AS_placeNumber 6 = .ok (.getfield 18, 3) := by decide +kernel
theorem d_AS_placeNumber_9 : decode c_AS_placeNumber 9 = .ok (.getfield 80, 3) := by decide +kernel
theorem d_AS_placeNumber_12 : decode c_AS_placeNumber 12 = .ok (.iastore, 1) := by decide +kernel
theorem d_AS_placeNumber_13 : decode c_AS_placeNumber 13 = .ok (.aload_n 0, 1) := by decide +kernel
theorem d_AS_placeNumber_14 : decode c_AS_placeNumber 14 = .ok (.getfield 18, 3) := by decide +kernel
theorem d_AS_placeNumber_17 : decode c_AS_placeNumber 17 = .ok (.getfield 111, 3) := by decide +kernel
theorem d_AS_placeNumber_20 : decode c_AS_placeNumber 20 = .ok (.lconst 0, 1) := by decide +kernel
theorem d_AS_placeNumber_21 : decode c_AS_placeNumber 21 = .ok (.lcmp, 1) := by decide +kernel
theorem d_AS_placeNumber_22 : decode c_AS_placeNumber 22 = .ok (.ifCond .eq 49, 3) := by decide +kernel
theorem d_AS_placeNumber_25 : decode c_AS_placeNumber 25 = .ok (.aload_n 0, 1) := by decide +kernel
theorem d_AS_placeNumber_26 : decode c_AS_placeNumber 26 = .ok (.getfield 29, 3) := by decide +kernel
theorem d_AS_placeNumber_29 : decode c_AS_placeNumber 29 = .ok (.aload_n 0, 1) := by decide +kernel
theorem d_AS_placeNumber_30 : decode c_AS_placeNumber 30 = .ok (.getfield 51, 3) := by decide +kernel
theorem d_AS_placeNumber_33 : decode c_AS_placeNumber 33 = .ok (.aload_n 0, 1) := by decide +kernel
theorem d_AS_placeNumber_34 : decode c_AS_placeNumber 34 = .ok (.getfield 18, 3) := by decide +kernel
theorem d_AS_placeNumber_37 : decode c_AS_placeNumber 37 = .ok (.getfield 111, 3) := by decide +kernel
theorem d_AS_placeNumber_40 : decode c_AS_placeNumber 40 = .ok (.lastore, 1) := by decide +kernel
theorem d_AS_placeNumber_41 : decode c_AS_placeNumber 41 = .ok (.aload_n 0, 1) := by decide +kernel
theorem d_AS_placeNumber_42 : decode c_AS_placeNumber 42 = .ok (.getfield 32, 3) := by decide +kernel
theorem d_AS_placeNumber_45 : decode c_AS_placeNumber 45 = .ok (.aload_n 0, 1) := by decide +kernel
theorem d_AS_placeNumber_46 : decode c_AS_placeNumber 46 = .ok (.getfield 51, 3) := by decide +kernel
theorem d_AS_placeNumber_49 : decode c_AS_placeNumber 49 = .ok (.iload_n 1, 1) := by decide +kernel
theorem d_AS_placeNumber_50 : decode c_AS_placeNumber 50 = .ok (.iastore, 1) := by decide +kernel
theorem d_AS_placeNumber_51 : decode c_AS_placeNumber 51 = .ok (.aload_n 0, 1) := by decide +kernel
theorem d_AS_placeNumber_52 : decode c_AS_placeNumber 52 = .ok (.getfield 35, 3) := by decide +kernel
theorem d_AS_placeNumber_55 : decode c_AS_placeNumber 55 = .ok (.aload_n 0, 1) := by decide +kernel
theorem d_AS_placeNumber_56 : decode c_AS_placeNumber 56 = .ok (.getfield 51, 3) := by decide +kernel
theorem d_AS_placeNumber_59 : decode c_AS_placeNumber 59 = .ok (.iload_n 2, 1) := by decide +kernel
theorem d_AS_placeNumber_60 : decode c_AS_placeNumber 60 = .ok (.iastore, 1) := by decide +kernel
theorem d_AS_placeNumber_61 : decode c_AS_placeNumber 61 = .ok (.aload_n 0, 1) := by decide +kernel
theorem d_AS_placeNumber_62 : decode c_AS_placeNumber 62 = .ok (.dup, 1) := by decide +kernel
theorem d_AS_placeNumber_63 : decode c_AS_placeNumber 63 = .ok (.getfield 51, 3) := by decide +kernel
theorem d_AS_placeNumber_66 : decode c_AS_placeNumber 66 = .ok (.iconst 1, 1) := by decide +kernel
theorem d_AS_placeNumber_67 : decode c_AS_placeNumber 67 = .ok (.iadd, 1) := by decide +kernel
theorem d_AS_placeNumber_68 : decode c_AS_placeNumber 68 = .ok (.putfield 51, 3) := by decide +kernel
theorem d_AS_placeNumber_71 : decode c_AS_placeNumber 71 = .ok (.return_, 1) := by decide +kernel
theorem d_AS_fillUses_0 : decode c_AS_fillUses 0 = .ok (.iconst 0, 1) := by decide +kernel
theorem d_AS_fillUses_1 : decode c_AS_fillUses 1 = .ok (.istore_n 1, 1) := by decide +kernel
theorem d_AS_fillUses_2 : decode c_AS_fillUses 2 = .ok (.iload_n 1, 1) := by decide +kernel
theorem d_AS_fillUses_3 : decode c_AS_fillUses 3 = .ok (.aload_n 0, 1) := by decide +kernel
theorem d_AS_fillUses_4 : decode c_AS_fillUses 4 = .ok (.getfield 51, 3) := by decide +kernel
theorem d_AS_fillUses_7 : decode c_AS_fillUses 7 = .ok (.if_icmp .ge 70, 3) := by decide +kernel
theorem d_AS_fillUses_10 : decode c_AS_fillUses 10 = .ok (.aload_n 0, 1) := by decide +kernel
theorem d_AS_fillUses_11 : decode c_AS_fillUses 11 = .ok (.getfield 42, 3) := by decide +kernel
theorem d_AS_fillUses_14 : decode c_AS_fillUses 14 = .ok (.ifCond .ne 63, 3) := by decide +kernel
theorem d_AS_fillUses_17 : decode c_AS_fillUses 17 = .ok (.aload_n 0, 1) := by decide +kernel
theorem d_AS_fillUses_18 : decode c_AS_fillUses 18 = .ok (.aload_n 0, 1) := by decide +kernel
theorem d_AS_fillUses_19 : decode c_AS_fillUses 19 = .ok (.getfield 29, 3) := by decide +kernel
theorem d_AS_fillUses_22 : decode c_AS_fillUses 22 = .ok (.iload_n 1, 1) := by decide +kernel
theorem d_AS_fillUses_23 : decode c_AS_fillUses 23 = .ok (.laload, 1) := by decide +kernel
theorem d_AS_fillUses_24 : decode c_AS_fillUses 24 = .ok (.invokevirtual 87, 3) := by decide +kernel
theorem d_AS_fillUses_27 : decode c_AS_fillUses 27 = .ok (.istore_n 2, 1) := by decide +kernel
theorem d_AS_fillUses_28 : decode c_AS_fillUses 28 = .ok (.iload_n 2, 1) := by decide +kernel
theorem d_AS_fillUses_29 : decode c_AS_fillUses 29 = .ok (.iconst (-1), 1) := by decide +kernel
theorem d_AS_fillUses_30 : decode c_AS_fillUses 30 = .ok (.if_icmp .ne 17, 3) := by decide +kernel
theorem d_AS_fillUses_33 : decode c_AS_fillUses 33 = .ok (.aload_n 0, 1) := by decide +kernel
theorem d_AS_fillUses_34 : decode c_AS_fillUses 34 = .ok (.iconst 5, 1) := by decide +kernel
theorem d_AS_fillUses_35 : decode c_AS_fillUses 35 = .ok (.aload_n 0, 1) := by decide +kernel
theorem d_AS_fillUses_36 : decode c_AS_fillUses 36 = .ok (.getfield 35, 3) := by decide +kernel
theorem d_AS_fillUses_39 : decode c_AS_fillUses 39 = .ok (.iload_n 1, 1) := by decide +kernel
theorem d_AS_fillUses_40 : decode c_AS_fillUses 40 = .ok (.iaload, 1) := by decide +kernel
theorem d_AS_fillUses_41 : decode c_AS_fillUses 41 = .ok (.invokevirtual 66, 3) := by decide +kernel
theorem d_AS_fillUses_44 : decode c_AS_fillUses 44 = .ok (.goto 27, 3) := by decide +kernel
theorem d_AS_fillUses_47 : decode c_AS_fillUses 47 = .ok (.aload_n 0, 1) := by decide +kernel
theorem d_AS_fillUses_48 : decode c_AS_fillUses 48 = .ok (.getfield 32, 3) := by decide +kernel
theorem d_AS_fillUses_51 : decode c_AS_fillUses 51 = .ok (.iload_n 1, 1) := by decide +kernel
theorem d_AS_fillUses_52 : decode c_AS_fillUses 52 = .ok (.iaload, 1) := by decide +kernel
theorem d_AS_fillUses_53 : decode c_AS_fillUses 53 = .ok (.istore_n 3, 1) := by decide +kernel
theorem d_AS_fillUses_54 : decode c_AS_fillUses 54 = .ok (.aload_n 0, 1) := by decide +kernel
theorem d_AS_fillUses_55 : decode c_AS_fillUses 55 = .ok (.getfield 9, 3) := by decide +kernel
theorem d_AS_fillUses_58 : decode c_AS_fillUses 58 = .ok (.iload_n 3, 1) := by decide +kernel
theorem d_AS_fillUses_59 : decode c_AS_fillUses 59 = .ok (.aload_n 0, 1) := by decide +kernel
theorem d_AS_fillUses_60 : decode c_AS_fillUses 60 = .ok (.getfield 9, 3) := by decide +kernel
theorem d_AS_fillUses_63 : decode c_AS_fillUses 63 = .ok (.iload_n 3, 1) := by decide +kernel
theorem d_AS_fillUses_64 : decode c_AS_fillUses 64 = .ok (.iaload, 1) := by decide +kernel
theorem d_AS_fillUses_65 : decode c_AS_fillUses 65 = .ok (.iload_n 2, 1) := by decide +kernel
theorem d_AS_fillUses_66 : decode c_AS_fillUses 66 = .ok (.iadd, 1) := by decide +kernel
theorem d_AS_fillUses_67 : decode c_AS_fillUses 67 = .ok (.ldc 114, 2) := by decide +kernel
theorem d_AS_fillUses_69 : decode c_AS_fillUses 69 = .ok (.iand, 1) := by decide +kernel
theorem d_AS_fillUses_70 : decode c_AS_fillUses 70 = .ok (.iastore, 1) := by decide +kernel
theorem d_AS_fillUses_71 : decode c_AS_fillUses 71 = .ok (.iinc 1 1, 3) := by decide +kernel
theorem d_AS_fillUses_74 : decode c_AS_fillUses 74 = .ok (.goto (-72), 3) := by decide +kernel
theorem d_AS_fillUses_77 : decode c_AS_fillUses 77 = .ok (.return_, 1) := by decide +kernel
theorem d_AS_addressOf_0 : decode c_AS_addressOf 0 = .ok (.iconst 0, 1) := by decide +kernel
theorem d_AS_addressOf_1 : decode c_AS_addressOf 1 = .ok (.istore_n 3, 1) := by decide +kernel
theorem d_AS_addressOf_2 : decode c_AS_addressOf 2 = .ok (.iload_n 3, 1) := by decide +kernel
theorem d_AS_addressOf_3 : decode c_AS_addressOf 3 = .ok (.aload_n 0, 1) := by decide +kernel
theorem d_AS_addressOf_4 : decode c_AS_addressOf 4 = .ok (.getfield 48, 3) := by decide +kernel
theorem d_AS_addressOf_7 : decode c_AS_addressOf 7 = .ok (.if_icmp .ge 27, 3) := by decide +kernel
theorem d_AS_addressOf_10 : decode c_AS_addressOf 10 = .ok (.aload_n 0, 1) := by decide +kernel
theorem d_AS_addressOf_11 : decode c_AS_addressOf 11 = .ok (.getfield 22, 3) := by decide +kernel
theorem d_AS_addressOf_14 : decode c_AS_addressOf 14 = .ok (.iload_n 3, 1) := by decide +kernel
theorem d_AS_addressOf_15 : decode c_AS_addressOf 15 = .ok (.laload, 1) := by decide +kernel
theorem d_AS_addressOf_16 : decode c_AS_addressOf 16 = .ok (.lload_n 1, 1) := by decide +kernel
theorem d_AS_addressOf_17 : decode c_AS_addressOf 17 = .ok (.lcmp, 1) := by decide +kernel
theorem d_AS_addressOf_18 : decode c_AS_addressOf 18 = .ok (.ifCond .ne 10, 3) := by decide +kernel
theorem d_AS_addressOf_21 : decode c_AS_addressOf 21 = .ok (.aload_n 0, 1) := by decide +kernel
theorem d_AS_addressOf_22 : decode c_AS_addressOf 22 = .ok (.getfield 26, 3) := by decide +kernel
theorem d_AS_addressOf_25 : decode c_AS_addressOf 25 = .ok (.iload_n 3, 1) := by decide +kernel
theorem d_AS_addressOf_26 : decode c_AS_addressOf 26 = .ok (.iaload, 1) := by decide +kernel
theorem d_AS_addressOf_27 : decode c_AS_addressOf 27 = .ok (.ireturn, 1) := by decide +kernel
theorem d_AS_addressOf_28 : decode c_AS_addressOf 28 = .ok (.iinc 3 1, 3) := by decide +kernel
theorem d_AS_addressOf_31 : decode c_AS_addressOf 31 = .ok (.goto (-29), 3) := by decide +kernel
theorem d_AS_addressOf_34 : decode c_AS_addressOf 34 = .ok (.iconst (-1), 1) := by decide +kernel
theorem d_AS_addressOf_35 : decode c_AS_addressOf 35 = .ok (.ireturn, 1) := by decide +kernel
theorem d_LI_init_0 : decode c_LI_init 0 = .ok (.aload_n 0, 1) := by decide +kernel
theorem d_LI_init_1 : decode c_LI_init 1 = .ok (.invokespecial 3, 3) := by decide +kernel
theorem d_LI_init_4 : decode c_LI_init 4 = .ok (.aload_n 0, 1) := by decide +kernel
theorem d_LI_init_5 : decode c_LI_init 5 = .ok (.iconst 0, 1) := by decide +kernel
theorem d_LI_init_6 : decode c_LI_init 6 = .ok (.newarray .int, 2) := by decide +kernel
theorem d_LI_init_8 : decode c_LI_init 8 = .ok (.putfield 9, 3) := by decide +kernel
theorem d_LI_init_11 : decode c_LI_init 11 = .ok (.return_, 1) := by decide +kernel
theorem d_LI_isInstruction_0 : decode c_LI_isInstruction 0 = .ok (.aload_n 0, 1) := by decide +kernel
theorem d_LI_isInstruction_1 : decode c_LI_isInstruction 1 = .ok (.getfield 15, 3) := by decide +kernel
theorem d_LI_isInstruction_4 : decode c_LI_isInstruction 4 = .ok (.ifCond .lt 16, 3) := by decide +kernel
theorem d_LI_isInstruction_7 : decode c_LI_isInstruction 7 = .ok (.aload_n 0, 1) := by decide +kernel
theorem d_LI_isInstruction_8 : decode c_LI_isInstruction 8 = .ok (.getfield 15, 3) := by decide +kernel
theorem d_LI_isInstruction_11 : decode c_LI_isInstruction 11 = .ok (.bipush 25, 2) := by decide +kernel
theorem d_LI_isInstruction_13 : decode c_LI_isInstruction 13 = .ok (.if_icmp .ge 7, 3) := by decide +kernel
theorem d_LI_isInstruction_16 : decode c_LI_isInstruction 16 = .ok (.iconst 1, 1) := by decide +kernel
theorem d_LI_isInstruction_17 : decode c_LI_isInstruction 17 = .ok (.goto 4, 3) := by decide +kernel
theorem d_LI_isInstruction_20 : decode c_LI_isInstruction 20 = .ok (.iconst 0, 1) := by decide +kernel
theorem d_LI_isInstruction_21 : decode c_LI_isInstruction 21 = .ok (.ireturn, 1) := by decide +kernel
theorem d_LI_isReadFrom_0 : decode c_LI_isReadFrom 0 = .ok (.aload_n 0, 1) := by decide +kernel
theorem d_LI_isReadFrom_1 : decode c_LI_isReadFrom 1 = .ok (.aload_n 1, 1) := by decide +kernel
theorem d_LI_isReadFrom_2 : decode c_LI_isReadFrom 2 = .ok (.putfield 9, 3) := by decide +kernel
theorem d_LI_isReadFrom_5 : decode c_LI_isReadFrom 5 = .ok (.aload_n 0, 1) := by decide +kernel
theorem d_LI_isReadFrom_6 : decode c_LI_isReadFrom 6 = .ok (.iload_n 2, 1) := by decide +kernel
theorem d_LI_isReadFrom_7 : decode c_LI_isReadFrom 7 = .ok (.putfield 19, 3) := by decide +kernel
theorem d_LI_isReadFrom_10 : decode c_LI_isReadFrom 10 = .ok (.aload_n 0, 1) := by decide +kernel
theorem d_LI_isReadFrom_11 : decode c_LI_isReadFrom 11 = .ok (.iload_n 3, 1) := by decide +kernel
theorem d_LI_isReadFrom_12 : decode c_LI_isReadFrom 12 = .ok (.putfield 22, 3) := by decide +kernel
theorem d_LI_isReadFrom_15 : decode c_LI_isReadFrom 15 = .ok (.aload_n 0, 1) := by decide +kernel
theorem d_LI_isReadFrom_16 : decode c_LI_isReadFrom 16 = .ok (.lconst 0, 1) := by decide +kernel
theorem d_LI_isReadFrom_17 : decode c_LI_isReadFrom 17 = .ok (.putfield 25, 3) := by decide +kernel
theorem d_LI_isReadFrom_20 : decode c_LI_isReadFrom 20 = .ok (.aload_n 0, 1) := by decide +kernel
theorem d_LI_isReadFrom_21 : decode c_LI_isReadFrom 21 = .ok (.iconst (-1), 1) := by decide +kernel
theorem d_LI_isReadFrom_22 : decode c_LI_isReadFrom 22 = .ok (.putfield 15, 3) := by decide +kernel
theorem d_LI_isReadFrom_25 : decode c_LI_isReadFrom 25 = .ok (.aload_n 0, 1) := by decide +kernel
theorem d_LI_isReadFrom_26 : decode c_LI_isReadFrom 26 = .ok (.iconst 0, 1) := by decide +kernel
theorem d_LI_isReadFrom_27 : decode c_LI_isReadFrom 27 = .ok (.putfield 29, 3) := by decide +kernel
theorem d_LI_isReadFrom_30 : decode c_LI_isReadFrom 30 = .ok (.aload_n 0, 1) := by decide +kernel
theorem d_LI_isReadFrom_31 : decode c_LI_isReadFrom 31 = .ok (.iconst 0, 1) := by decide +kernel
theorem d_LI_isReadFrom_32 : decode c_LI_isReadFrom 32 = .ok (.putfield 32, 3) := by decide +kernel
theorem d_LI_isReadFrom_35 : decode c_LI_isReadFrom 35 = .ok (.aload_n 0, 1) := by decide +kernel
theorem d_LI_isReadFrom_36 : decode c_LI_isReadFrom 36 = .ok (.iconst 0, 1) := by decide +kernel
theorem d_LI_isReadFrom_37 : decode c_LI_isReadFrom 37 = .ok (.putfield 35, 3) := by decide +kernel
theorem d_LI_isReadFrom_40 : decode c_LI_isReadFrom 40 = .ok (.aload_n 0, 1) := by decide +kernel
theorem d_LI_isReadFrom_41 : decode c_LI_isReadFrom 41 = .ok (.lconst 0, 1) := by decide +kernel
theorem d_LI_isReadFrom_42 : decode c_LI_isReadFrom 42 = .ok (.putfield 38, 3) := by decide +kernel
theorem d_LI_isReadFrom_45 : decode c_LI_isReadFrom 45 = .ok (.aload_n 0, 1) := by decide +kernel
theorem d_LI_isReadFrom_46 : decode c_LI_isReadFrom 46 = .ok (.invokevirtual 41, 3) := by decide +kernel
theorem d_LI_isReadFrom_49 : decode c_LI_isReadFrom 49 = .ok (.ifCond .ne 5, 3) := by decide +kernel
theorem d_LI_isReadFrom_52 : decode c_LI_isReadFrom 52 = .ok (.iconst 0, 1) := by decide +kernel
theorem d_LI_isReadFrom_53 : decode c_LI_isReadFrom 53 = .ok (.ireturn, 1) := by decide +kernel
theorem d_LI_isReadFrom_54 : decode c_LI_isReadFrom 54 = .ok (.aload_n 0, 1) := by decide +kernel
theorem d_LI_isReadFrom_55 : decode c_LI_isReadFrom 55 = .ok (.invokevirtual 45, 3) := by decide +kernel
theorem d_LI_isReadFrom_58 : decode c_LI_isReadFrom 58 = .ok (.aload_n 0, 1) := by decide +kernel
theorem d_LI_isReadFrom_59 : decode c_LI_isReadFrom 59 = .ok (.invokevirtual 48, 3) := by decide +kernel
theorem d_LI_isReadFrom_62 : decode c_LI_isReadFrom 62 = .ok (.ifCond .eq 14, 3) := by decide +kernel
theorem d_LI_isReadFrom_65 : decode c_LI_isReadFrom 65 = .ok (.aload_n 0, 1) := by decide +kernel
theorem d_LI_isReadFrom_66 : decode c_LI_isReadFrom 66 = .ok (.invokevirtual 51, 3) := by decide +kernel
theorem d_LI_isReadFrom_69 : decode c_LI_isReadFrom 69 = .ok (.ifCond .eq 7, 3) := by decide +kernel
theorem d_LI_isReadFrom_72 : decode c_LI_isReadFrom 72 = .ok (.iconst 1, 1) := by decide +kernel
theorem d_LI_isReadFrom_73 : decode c_LI_isReadFrom 73 = .ok (.goto 4, 3) := by decide +kernel
theorem d_LI_isReadFrom_76 : decode c_LI_isReadFrom 76 = .ok (.iconst 0, 1) := by decide +kernel
theorem d_LI_isReadFrom_77 : decode c_LI_isReadFrom 77 = .ok (.ireturn, 1) := by decide +kernel
theorem d_LI_hasGoodBytes_0 : decode c_LI_hasGoodBytes 0 = .ok (.aload_n 0, 1) := by decide +kernel
theorem d_LI_hasGoodBytes_1 : decode c_LI_hasGoodBytes 1 = .ok (.getfield 19, 3) := by decide +kernel
theorem d_LI_hasGoodBytes_4 : decode c_LI_hasGoodBytes 4 = .ok (.istore_n 1, 1) := by decide +kernel
theorem d_LI_hasGoodBytes_5 : decode c_LI_hasGoodBytes 5 = .ok (.iload_n 1, 1) := by decide +kernel
theorem d_LI_hasGoodBytes_6 : decode c_LI_hasGoodBytes 6 = .ok (.aload_n 0, 1) := by decide +kernel
theorem d_LI_hasGoodBytes_7 : decode c_LI_hasGoodBytes 7 = .ok (.getfield 22, 3) := by decide +kernel
theorem d_LI_hasGoodBytes_10 : decode c_LI_hasGoodBytes 10 = .ok (.if_icmp .ge 33, 3) := by decide +kernel
theorem d_LI_hasGoodBytes_13 : decode c_LI_hasGoodBytes 13 = .ok (.aload_n 0, 1) := by decide +kernel
theorem d_LI_hasGoodBytes_14 : decode c_LI_hasGoodBytes 14 = .ok (.getfield 9, 3) := by decide +kernel
theorem d_LI_hasGoodBytes_17 : decode c_LI_hasGoodBytes 17 = .ok (.iload_n 1, 1) := by decide +kernel
theorem d_LI_hasGoodBytes_18 : decode c_LI_hasGoodBytes 18 = .ok (.iaload, 1) := by decide +kernel
theorem d_LI_hasGoodBytes_19 : decode c_LI_hasGoodBytes 19 = .ok (.bipush 32, 2) := by decide +kernel
theorem d_LI_hasGoodBytes_21 : decode c_LI_hasGoodBytes 21 = .ok (.if_icmp .lt 14, 3) := by decide +kernel
theorem d_LI_hasGoodBytes_24 : decode c_LI_hasGoodBytes 24 = .ok (.aload_n 0, 1) := by decide +kernel
theorem d_LI_hasGoodBytes_25 : decode c_LI_hasGoodBytes 25 = .ok (.getfield 9, 3) := by decide +kernel
theorem d_LI_hasGoodBytes_28 : decode c_LI_hasGoodBytes 28 = .ok (.iload_n 1, 1) := by decide +kernel
theorem d_LI_hasGoodBytes_29 : decode c_LI_hasGoodBytes 29 = .ok (.iaload, 1) := by decide +kernel
theorem d_LI_hasGoodBytes_30 : decode c_LI_hasGoodBytes 30 = .ok (.bipush 126, 2) := by decide +kernel
theorem d_LI_hasGoodBytes_32 : decode c_LI_hasGoodBytes 32 = .ok (.if_icmp .le 5, 3) := by decide +kernel
theorem d_LI_hasGoodBytes_35 : decode c_LI_hasGoodBytes 35 = .ok (.iconst 0, 1) := by decide +kernel
theorem d_LI_hasGoodBytes_36 : decode c_LI_hasGoodBytes 36 = .ok (.ireturn, 1) := by decide +kernel
theorem d_LI_hasGoodBytes_37 : decode c_LI_hasGoodBytes 37 = .ok (.iinc 1 1, 3) := by decide +kernel
theorem d_LI_hasGoodBytes_40 : decode c_LI_hasGoodBytes 40 = .ok (.goto (-35), 3) := by decide +kernel
theorem d_LI_hasGoodBytes_43 : decode c_LI_hasGoodBytes 43 = .ok (.iconst 1, 1) := by decide +kernel
theorem d_LI_hasGoodBytes_44 : decode c_LI_hasGoodBytes 44 = .ok (.ireturn, 1) := by decide +kernel
theorem d_LI_dropRemark_0 : decode c_LI_dropRemark 0 = .ok (.aload_n 0, 1) := by decide +kernel
theorem d_LI_dropRemark_1 : decode c_LI_dropRemark 1 = .ok (.getfield 19, 3) := by decide +kernel
theorem d_LI_dropRemark_4 : decode c_LI_dropRemark 4 = .ok (.istore_n 1, 1) := by decide +kernel
theorem d_LI_dropRemark_5 : decode c_LI_dropRemark 5 = .ok (.iload_n 1, 1) := by decide +kernel
theorem d_LI_dropRemark_6 : decode c_LI_dropRemark 6 = .ok (.aload_n 0, 1) := by decide +kernel
theorem d_LI_dropRemark_7 : decode c_LI_dropRemark 7 = .ok (.getfield 22, 3) := by decide +kernel
theorem d_LI_dropRemark_10 : decode c_LI_dropRemark 10 = .ok (.if_icmp .ge 26, 3) := by decide +kernel
theorem d_LI_dropRemark_13 : decode c_LI_dropRemark 13 = .ok (.aload_n 0, 1) := by decide +kernel
theorem d_LI_dropRemark_14 : decode c_LI_dropRemark 14 = .ok (.getfield 9, 3) := by decide +kernel
theorem d_LI_dropRemark_17 : decode c_LI_dropRemark 17 = .ok (.iload_n 1, 1) := by decide +kernel
theorem d_LI_dropRemark_18 : decode c_LI_dropRemark 18 = .ok (.iaload, 1) := by decide +kernel
theorem d_LI_dropRemark_19 : decode c_LI_dropRemark 19 = .ok (.bipush 59, 2) := by decide +kernel
theorem d_LI_dropRemark_21 : decode c_LI_dropRemark 21 = .ok (.if_icmp .ne 9, 3) := by decide +kernel
theorem d_LI_dropRemark_24 : decode c_LI_dropRemark 24 = .ok (.aload_n 0, 1) := by decide +kernel
theorem d_LI_dropRemark_25 : decode c_LI_dropRemark 25 = .ok (.iload_n 1, 1) := by decide +kernel
theorem d_LI_dropRemark_26 : decode c_LI_dropRemark 26 = .ok (.putfield 22, 3) := by decide +kernel
theorem d_LI_dropRemark_29 : decode c_LI_dropRemark 29 = .ok (.return_, 1) := by decide +kernel
theorem d_LI_dropRemark_30 : decode c_LI_dropRemark 30 = .ok (.iinc 1 1, 3) := by decide +kernel
theorem d_LI_dropRemark_33 : decode c_LI_dropRemark 33 = .ok (.goto (-28), 3) := by decide +kernel
theorem d_LI_dropRemark_36 : decode c_LI_dropRemark 36 = .ok (.return_, 1) := by decide +kernel
theorem d_LI_isLabelRead_0 : decode c_LI_isLabelRead 0 = .ok (.aload_n 0, 1) := by decide +kernel
theorem d_LI_isLabelRead_1 : decode c_LI_isLabelRead 1 = .ok (.invokevirtual 54, 3) := by decide +kernel
theorem d_LI_isLabelRead_4 : decode c_LI_isLabelRead 4 = .ok (.aload_n 0, 1) := by decide +kernel
theorem d_LI_isLabelRead_5 : decode c_LI_isLabelRead 5 = .ok (.invokevirtual 57, 3) := by decide +kernel
theorem d_LI_isLabelRead_8 : decode c_LI_isLabelRead 8 = .ok (.invokestatic 61, 3) := by decide +kernel
theorem d_LI_isLabelRead_11 : decode c_LI_isLabelRead 11 = .ok (.ifCond .ne 5, 3) := by decide +kernel
theorem d_LI_isLabelRead_14 : decode c_LI_isLabelRead 14 = .ok (.iconst 1, 1) := by decide +kernel
theorem d_LI_isLabelRead_15 : decode c_LI_isLabelRead 15 = .ok (.ireturn, 1) := by decide +kernel
theorem d_LI_isLabelRead_16 : decode c_LI_isLabelRead 16 = .ok (.aload_n 0, 1) := by decide +kernel
theorem d_LI_isLabelRead_17 : decode c_LI_isLabelRead 17 = .ok (.aload_n 0, 1) := by decide +kernel
theorem d_LI_isLabelRead_18 : decode c_LI_isLabelRead 18 = .ok (.invokevirtual 65, 3) := by decide +kernel
theorem d_LI_isLabelRead_21 : decode c_LI_isLabelRead 21 = .ok (.putfield 25, 3) := by decide +kernel
theorem d_LI_isLabelRead_24 : decode c_LI_isLabelRead 24 = .ok (.aload_n 0, 1) := by decide +kernel
theorem d_LI_isLabelRead_25 : decode c_LI_isLabelRead 25 = .ok (.getfield 25, 3) := by decide +kernel
theorem d_LI_isLabelRead_28 : decode c_LI_isLabelRead 28 = .ok (.lconst 0, 1) := by decide +kernel
theorem d_LI_isLabelRead_29 : decode c_LI_isLabelRead 29 = .ok (.lcmp, 1) := by decide +kernel
theorem d_LI_isLabelRead_30 : decode c_LI_isLabelRead 30 = .ok (.ifCond .eq 12, 3) := by decide +kernel
theorem d_LI_isLabelRead_33 : decode c_LI_isLabelRead 33 = .ok (.aload_n 0, 1) := by decide +kernel
theorem d_LI_isLabelRead_34 : decode c_LI_isLabelRead 34 = .ok (.invokevirtual 57, 3) := by decide +kernel
theorem d_LI_isLabelRead_37 : decode c_LI_isLabelRead 37 = .ok (.bipush 58, 2) := by decide +kernel
theorem d_LI_isLabelRead_39 : decode c_LI_isLabelRead 39 = .ok (.if_icmp .eq 5, 3) := by decide +kernel
theorem d_LI_isLabelRead_42 : decode c_LI_isLabelRead 42 = .ok (.iconst 0, 1) := by decide +kernel
theorem d_LI_isLabelRead_43 : decode c_LI_isLabelRead 43 = .ok (.ireturn, 1) := by decide +kernel
theorem d_LI_isLabelRead_44 : decode c_LI_isLabelRead 44 = .ok (.aload_n 0, 1) := by decide +kernel
theorem d_LI_isLabelRead_45 : decode c_LI_isLabelRead 45 = .ok (.dup, 1) := by decide +kernel
theorem d_LI_isLabelRead_46 : decode c_LI_isLabelRead 46 = .ok (.getfield 19, 3) := by decide +kernel
theorem d_LI_isLabelRead_49 : decode c_LI_isLabelRead 49 = .ok (.iconst 1, 1) := by decide +kernel
theorem d_LI_isLabelRead_50 : decode c_LI_isLabelRead 50 = .ok (.iadd, 1) := by decide +kernel
theorem d_LI_isLabelRead_51 : decode c_LI_isLabelRead 51 = .ok (.putfield 19, 3) := by decide +kernel
theorem d_LI_isLabelRead_54 : decode c_LI_isLabelRead 54 = .ok (.iconst 1, 1) := by decide +kernel
theorem d_LI_isLabelRead_55 : decode c_LI_isLabelRead 55 = .ok (.ireturn, 1) := by decide +kernel
theorem d_LI_isOrderRead_0 : decode c_LI_isOrderRead 0 = .ok (.aload_n 0, 1) := by decide +kernel
theorem d_LI_isOrderRead_1 : decode c_LI_isOrderRead 1 = .ok (.invokevirtual 54, 3) := by decide +kernel
theorem d_LI_isOrderRead_4 : decode c_LI_isOrderRead 4 = .ok (.aload_n 0, 1) := by decide +kernel
theorem d_LI_isOrderRead_5 : decode c_LI_isOrderRead 5 = .ok (.getfield 19, 3) := by decide +kernel
theorem d_LI_isOrderRead_8 : decode c_LI_isOrderRead 8 = .ok (.aload_n 0, 1) := by decide +kernel
theorem d_LI_isOrderRead_9 : decode c_LI_isOrderRead 9 = .ok (.getfield 22, 3) := by decide +kernel
theorem d_LI_isOrderRead_12 : decode c_LI_isOrderRead 12 = .ok (.if_icmp .ne 5, 3) := by decide +kernel
theorem d_LI_isOrderRead_15 : decode c_LI_isOrderRead 15 = .ok (.iconst 1, 1) := by decide +kernel
theorem d_LI_isOrderRead_16 : decode c_LI_isOrderRead 16 = .ok (.ireturn, 1) := by decide +kernel
theorem d_LI_isOrderRead_17 : decode c_LI_isOrderRead 17 = .ok (.aload_n 0, 1) := by decide +kernel
theorem d_LI_isOrderRead_18 : decode c_LI_isOrderRead 18 = .ok (.aload_n 0, 1) := by decide +kernel
theorem d_LI_isOrderRead_19 : decode c_LI_isOrderRead 19 = .ok (.invokevirtual 69, 3) := by decide +kernel
theorem d_LI_isOrderRead_22 : decode c_LI_isOrderRead 22 = .ok (.putfield 15, 3) := by decide +kernel
theorem d_LI_isOrderRead_25 : decode c_LI_isOrderRead 25 = .ok (.aload_n 0, 1) := by decide +kernel
theorem d_LI_isOrderRead_26 : decode c_LI_isOrderRead 26 = .ok (.getfield 15, 3) := by decide +kernel
theorem d_LI_isOrderRead_29 : decode c_LI_isOrderRead 29 = .ok (.iconst (-1), 1) := by decide +kernel
theorem d_LI_isOrderRead_30 : decode c_LI_isOrderRead 30 = .ok (.if_icmp .ne 5, 3) := by decide +kernel
theorem d_LI_isOrderRead_33 : decode c_LI_isOrderRead 33 = .ok (.iconst 0, 1) := by decide +kernel
theorem d_LI_isOrderRead_34 : decode c_LI_isOrderRead 34 = .ok (.ireturn, 1) := by decide +kernel
theorem d_LI_isOrderRead_35 : decode c_LI_isOrderRead 35 = .ok (.getstatic 72, 3) := by decide +kernel
theorem d_LI_isOrderRead_38 : decode c_LI_isOrderRead 38 = .ok (.aload_n 0, 1) := by decide +kernel
theorem d_LI_isOrderRead_39 : decode c_LI_isOrderRead 39 = .ok (.getfield 15, 3) := by decide +kernel
theorem d_LI_isOrderRead_42 : decode c_LI_isOrderRead 42 = .ok (.iaload, 1) := by decide +kernel
theorem d_LI_isOrderRead_43 : decode c_LI_isOrderRead 43 = .ok (.istore_n 1, 1) := by decide +kernel
theorem d_LI_isOrderRead_44 : decode c_LI_isOrderRead 44 = .ok (.iload_n 1, 1) := by decide +kernel
theorem d_LI_isOrderRead_45 : decode c_LI_isOrderRead 45 = .ok (.iconst 1, 1) := by decide +kernel
theorem d_LI_isOrderRead_46 : decode c_LI_isOrderRead 46 = .ok (.iand, 1) := by decide +kernel
theorem d_LI_isOrderRead_47 : decode c_LI_isOrderRead 47 = .ok (.ifCond .eq 11, 3) := by decide +kernel
theorem d_LI_isOrderRead_50 : decode c_LI_isOrderRead 50 = .ok (.aload_n 0, 1) := by decide +kernel
theorem d_LI_isOrderRead_51 : decode c_LI_isOrderRead 51 = .ok (.aload_n 0, 1) := by decide +kernel
theorem d_LI_isOrderRead_52 : decode c_LI_isOrderRead 52 = .ok (.invokevirtual 75, 3) := by decide +kernel
theorem d_LI_isOrderRead_55 : decode c_LI_isOrderRead 55 = .ok (.putfield 29, 3) := by decide +kernel
theorem d_LI_isOrderRead_58 : decode c_LI_isOrderRead 58 = .ok (.iload_n 1, 1) := by decide +kernel
theorem d_LI_isOrderRead_59 : decode c_LI_isOrderRead 59 = .ok (.iconst 2, 1) := by decide +kernel
theorem d_LI_isOrderRead_60 : decode c_LI_isOrderRead 60 = .ok (.iand, 1) := by decide +kernel
theorem d_LI_isOrderRead_61 : decode c_LI_isOrderRead 61 = .ok (.ifCond .eq 11, 3) := by decide +kernel
theorem d_LI_isOrderRead_64 : decode c_LI_isOrderRead 64 = .ok (.aload_n 0, 1) := by decide +kernel
theorem d_LI_isOrderRead_65 : decode c_LI_isOrderRead 65 = .ok (.aload_n 0, 1) := by decide +kernel
theorem d_LI_isOrderRead_66 : decode c_LI_isOrderRead 66 = .ok (.invokevirtual 75, 3) := by decide +kernel
theorem d_LI_isOrderRead_69 : decode c_LI_isOrderRead 69 = .ok (.putfield 32, 3) := by decide +kernel
theorem d_LI_isOrderRead_72 : decode c_LI_isOrderRead 72 = .ok (.aload_n 0, 1) := by decide +kernel
theorem d_LI_isOrderRead_73 : decode c_LI_isOrderRead 73 = .ok (.getfield 29, 3) := by decide +kernel
theorem d_LI_isOrderRead_76 : decode c_LI_isOrderRead 76 = .ok (.iconst (-1), 1) := by decide +kernel
theorem d_LI_isOrderRead_77 : decode c_LI_isOrderRead 77 = .ok (.if_icmp .eq 11, 3) := by decide +kernel
theorem d_LI_isOrderRead_80 : decode c_LI_isOrderRead 80 = .ok (.aload_n 0, 1) := by decide +kernel
theorem d_LI_isOrderRead_81 : decode c_LI_isOrderRead 81 = .ok (.getfield 32, 3) := by decide +kernel
theorem d_LI_isOrderRead_84 : decode c_LI_isOrderRead 84 = .ok (.iconst (-1), 1) := by decide +kernel
theorem d_LI_isOrderRead_85 : decode c_LI_isOrderRead 85 = .ok (.if_icmp .ne 5, 3) := by decide +kernel
theorem d_LI_isOrderRead_88 : decode c_LI_isOrderRead 88 = .ok (.iconst 0, 1) := by decide +kernel
theorem d_LI_isOrderRead_89 : decode c_LI_isOrderRead 89 = .ok (.ireturn, 1) := by decide +kernel
theorem d_LI_isOrderRead_90 : decode c_LI_isOrderRead 90 = .ok (.iload_n 1, 1) := by decide +kernel
theorem d_LI_isOrderRead_91 : decode c_LI_isOrderRead 91 = .ok (.iconst 4, 1) := by decide +kernel
theorem d_LI_isOrderRead_92 : decode c_LI_isOrderRead 92 = .ok (.if_icmp .lt 13, 3) := by decide +kernel
theorem d_LI_isOrderRead_95 : decode c_LI_isOrderRead 95 = .ok (.aload_n 0, 1) := by decide +kernel
theorem d_LI_isOrderRead_96 : decode c_LI_isOrderRead 96 = .ok (.iload_n 1, 1) := by decide +kernel
theorem d_LI_isOrderRead_97 : decode c_LI_isOrderRead 97 = .ok (.invokevirtual 78, 3) := by decide +kernel
theorem d_LI_isOrderRead_100 : decode c_LI_isOrderRead 100 = .ok (.ifCond .ne 5, 3) := by decide +kernel
theorem d_LI_isOrderRead_103 : decode c_LI_isOrderRead 103 = .ok (.iconst 0, 1) := by decide +kernel
theorem d_LI_isOrderRead_104 : decode c_LI_isOrderRead 104 = .ok (.ireturn, 1) := by decide +kernel
theorem d_LI_isOrderRead_105 : decode c_LI_isOrderRead 105 = .ok (.aload_n 0, 1) := by decide +kernel
theorem d_LI_isOrderRead_106 : decode c_LI_isOrderRead 106 = .ok (.invokevirtual 54, 3) := by decide +kernel
theorem d_LI_isOrderRead_109 : decode c_LI_isOrderRead 109 = .ok (.aload_n 0, 1) := by decide +kernel
theorem d_LI_isOrderRead_110 : decode c_LI_isOrderRead 110 = .ok (.getfield 19, 3) := by decide +kernel
theorem d_LI_isOrderRead_113 : decode c_LI_isOrderRead 113 = .ok (.aload_n 0, 1) := by decide +kernel
theorem d_LI_isOrderRead_114 : decode c_LI_isOrderRead 114 = .ok (.getfield 22, 3) := by decide +kernel
theorem d_LI_isOrderRead_117 : decode c_LI_isOrderRead 117 = .ok (.if_icmp .ne 7, 3) := by decide +kernel
theorem d_LI_isOrderRead_120 : decode c_LI_isOrderRead 120 = .ok (.iconst 1, 1) := by decide +kernel
theorem d_LI_isOrderRead_121 : decode c_LI_isOrderRead 121 = .ok (.goto 4, 3) := by decide +kernel
theorem d_LI_isOrderRead_124 : decode c_LI_isOrderRead 124 = .ok (.iconst 0, 1) := by decide +kernel
theorem d_LI_isOrderRead_125 : decode c_LI_isOrderRead 125 = .ok (.ireturn, 1) := by decide +kernel
theorem d_LI_takeOrder_0 : decode c_LI_takeOrder 0 = .ok (.aload_n 0, 1) := by decide +kernel
theorem d_LI_takeOrder_1 : decode c_LI_takeOrder 1 = .ok (.getfield 19, 3) := by decide +kernel
theorem d_LI_takeOrder_4 : decode c_LI_takeOrder 4 = .ok (.istore_n 1, 1) := by decide +kernel
theorem d_LI_takeOrder_5 : decode c_LI_takeOrder 5 = .ok (.aload_n 0, 1) := by decide +kernel
theorem d_LI_takeOrder_6 : decode c_LI_takeOrder 6 = .ok (.getfield 19, 3) := by decide +kernel
theorem d_LI_takeOrder_9 : decode c_LI_takeOrder 9 = .ok (.aload_n 0, 1) := by decide +kernel
theorem d_LI_takeOrder_10 : decode c_LI_takeOrder 10 = .ok (.getfield 22, 3) := by decide +kernel
theorem d_LI_takeOrder_13 : decode c_LI_takeOrder 13 = .ok (.if_icmp .ge 44, 3) := by decide +kernel
theorem d_LI_takeOrder_16 : decode c_LI_takeOrder 16 = .ok (.aload_n 0, 1) := by decide +kernel
theorem d_LI_takeOrder_17 : decode c_LI_takeOrder 17 = .ok (.getfield 9, 3) := by decide +kernel
theorem d_LI_takeOrder_20 : decode c_LI_takeOrder 20 = .ok (.aload_n 0, 1) := by decide +kernel
theorem d_LI_takeOrder_21 : decode c_LI_takeOrder 21 = .ok (.getfield 19, 3) := by decide +kernel
theorem d_LI_takeOrder_24 : decode c_LI_takeOrder 24 = .ok (.iaload, 1) := by decide +kernel
theorem d_LI_takeOrder_25 : decode c_LI_takeOrder 25 = .ok (.bipush 65, 2) := by decide +kernel
theorem d_LI_takeOrder_27 : decode c_LI_takeOrder 27 = .ok (.if_icmp .lt 30, 3) := by decide +kernel
theorem d_LI_takeOrder_30 : decode c_LI_takeOrder 30 = .ok (.aload_n 0, 1) := by decide +kernel
theorem d_LI_takeOrder_31 : decode c_LI_takeOrder 31 = .ok (.getfield 9, 3) := by decide +kernel
theorem d_LI_takeOrder_34 : decode c_LI_takeOrder 34 = .ok (.aload_n 0, 1) := by decide +kernel
theorem d_LI_takeOrder_35 : decode c_LI_takeOrder 35 = .ok (.getfield 19, 3) := by decide +kernel
theorem d_LI_takeOrder_38 : decode c_LI_takeOrder 38 = .ok (.iaload, 1) := by decide +kernel
theorem d_LI_takeOrder_39 : decode c_LI_takeOrder 39 = .ok (.bipush 90, 2) := by decide +kernel
theorem d_LI_takeOrder_41 : decode c_LI_takeOrder 41 = .ok (.if_icmp .gt 16, 3) := by decide +kernel
theorem d_LI_takeOrder_44 : decode c_LI_takeOrder 44 = .ok (.aload_n 0, 1) := by decide +kernel
theorem d_LI_takeOrder_45 : decode c_LI_takeOrder 45 = .ok (.dup, 1) := by decide +kernel
theorem d_LI_takeOrder_46 : decode c_LI_takeOrder 46 = .ok (.getfield 19, 3) := by decide +kernel
theorem d_LI_takeOrder_49 : decode c_LI_takeOrder 49 = .ok (.iconst 1, 1) := by decide +kernel
theorem d_LI_takeOrder_50 : decode c_LI_takeOrder 50 = .ok (.iadd, 1) := by decide +kernel
theorem d_LI_takeOrder_51 : decode c_LI_takeOrder 51 = .ok (.putfield 19, 3) := by decide +kernel
theorem d_LI_takeOrder_54 : decode c_LI_takeOrder 54 = .ok (.goto (-49), 3) := by decide +kernel
theorem d_LI_takeOrder_57 : decode c_LI_takeOrder 57 = .ok (.iconst 0, 1) := by decide +kernel
theorem d_LI_takeOrder_58 : decode c_LI_takeOrder 58 = .ok (.istore_n 2, 1) := by decide +kernel
theorem d_LI_takeOrder_59 : decode c_LI_takeOrder 59 = .ok (.iload_n 2, 1) := by decide +kernel
theorem d_LI_takeOrder_60 : decode c_LI_takeOrder 60 = .ok (.bipush 28, 2) := by decide +kernel
theorem d_LI_takeOrder_62 : decode c_LI_takeOrder 62 = .ok (.if_icmp .ge 26, 3) := by decide +kernel
theorem d_LI_takeOrder_65 : decode c_LI_takeOrder 65 = .ok (.aload_n 0, 1) := by decide +kernel
theorem d_LI_takeOrder_66 : decode c_LI_takeOrder 66 = .ok (.iload_n 2, 1) := by decide +kernel
theorem d_LI_takeOrder_67 : decode c_LI_takeOrder 67 = .ok (.iload_n 1, 1) := by decide +kernel
theorem d_LI_takeOrder_68 : decode c_LI_takeOrder 68 = .ok (.aload_n 0, 1) := by decide +kernel
theorem d_LI_takeOrder_69 : decode c_LI_takeOrder 69 = .ok (.getfield 19, 3) := by decide +kernel
theorem d_LI_takeOrder_72 : decode c_LI_takeOrder 72 = .ok (.iload_n 1, 1) := by decide +kernel
theorem d_LI_takeOrder_73 : decode c_LI_takeOrder 73 = .ok (.isub, 1) := by decide +kernel
theorem d_LI_takeOrder_74 : decode c_LI_takeOrder 74 = .ok (.invokevirtual 81, 3) := by decide +kernel
theorem d_LI_takeOrder_77 : decode c_LI_takeOrder 77 = .ok (.ifCond .eq 5, 3) := by decide +kernel
theorem d_LI_takeOrder_80 : decode c_LI_takeOrder 80 = .ok (.iload_n 2, 1) := by decide +kernel
theorem d_LI_takeOrder_81 : decode c_LI_takeOrder 81 = .ok (.ireturn, 1) := by decide +kernel
theorem d_LI_takeOrder_82 : decode c_LI_takeOrder 82 = .ok (.iinc 2 1, 3) := by decide +kernel
theorem d_LI_takeOrder_85 : decode c_LI_takeOrder 85 = .ok (.goto (-26), 3) := by decide +kernel
theorem d_LI_takeOrder_88 : decode c_LI_takeOrder 88 = .ok (.iconst (-1), 1) := by decide +kernel
theorem d_LI_takeOrder_89 : decode c_LI_takeOrder 89 = .ok (.ireturn, 1) := by decide +kernel
theorem d_LI_isNamed_0 : decode c_LI_isNamed 0 = .ok (.iload_n 3, 1) := by decide +kernel
theorem d_LI_isNamed_1 : decode c_LI_isNamed 1 = .ok (.bipush 6, 2) := by decide +kernel
theorem d_LI_isNamed_3 : decode c_LI_isNamed 3 = .ok (.if_icmp .le 5, 3) := by decide +kernel
theorem d_LI_isNamed_6 : decode c_LI_isNamed 6 = .ok (.iconst 0, 1) := by decide +kernel
theorem d_LI_isNamed_7 : decode c_LI_isNamed 7 = .ok (.ireturn, 1) := by decide +kernel
theorem d_LI_isNamed_8 : decode c_LI_isNamed 8 = .ok (.iconst 0, 1) := by decide +kernel
theorem d_LI_isNamed_9 : decode c_LI_isNamed 9 = .ok (.istore 4, 2) := by decide +kernel
theorem d_LI_isNamed_11 : decode c_LI_isNamed 11 = .ok (.iload 4, 2) := by decide +kernel
theorem d_LI_isNamed_13 : decode c_LI_isNamed 13 = .ok (.bipush 6, 2) := by decide +kernel
theorem d_LI_isNamed_15 : decode c_LI_isNamed 15 = .ok (.if_icmp .ge 50, 3) := by decide +kernel
theorem d_LI_isNamed_18 : decode c_LI_isNamed 18 = .ok (.iload 4, 2) := by decide +kernel
theorem d_LI_isNamed_20 : decode c_LI_isNamed 20 = .ok (.iload_n 3, 1) := by decide +kernel
theorem d_LI_isNamed_21 : decode c_LI_isNamed 21 = .ok (.if_icmp .ge 15, 3) := by decide +kernel
theorem d_LI_isNamed_24 : decode c_LI_isNamed 24 = .ok (.aload_n 0, 1) := by decide +kernel
theorem d_LI_isNamed_25 : decode c_LI_isNamed 25 = .ok (.getfield 9, 3) := by decide +kernel
theorem d_LI_isNamed_28 : decode c_LI_isNamed 28 = .ok (.iload_n 2, 1) := by decide +kernel
theorem d_LI_isNamed_29 : decode c_LI_isNamed 29 = .ok (.iload 4, 2) := by decide +kernel
theorem d_LI_isNamed_31 : decode c_LI_isNamed 31 = .ok (.iadd, 1) := by decide +kernel
theorem d_LI_isNamed_32 : decode c_LI_isNamed 32 = .ok (.iaload, 1) := by decide +kernel
theorem d_LI_isNamed_33 : decode c_LI_isNamed 33 = .ok (.goto 5, 3) := by decide +kernel
theorem d_LI_isNamed_36 : decode c_LI_isNamed 36 = .ok (.bipush 32, 2) := by decide +kernel
theorem d_LI_isNamed_38 : decode c_LI_isNamed 38 = .ok (.istore 5, 2) := by decide +kernel
theorem d_LI_isNamed_40 : decode c_LI_isNamed 40 = .ok (.ldc 85, 2) := by decide +kernel
theorem d_LI_isNamed_42 : decode c_LI_isNamed 42 = .ok (.iload_n 1, 1) := by decide +kernel
theorem d_LI_isNamed_43 : decode c_LI_isNamed 43 = .ok (.bipush 6, 2) := by decide +kernel
theorem d_LI_isNamed_45 : decode c_LI_isNamed 45 = .ok (.imul, 1) := by decide +kernel
theorem d_LI_isNamed_46 : decode c_LI_isNamed 46 = .ok (.iload 4, 2) := by decide +kernel
theorem d_LI_isNamed_48 : decode c_LI_isNamed 48 = .ok (.iadd, 1) := by decide +kernel
theorem d_LI_isNamed_49 : decode c_LI_isNamed 49 = .ok (.invokevirtual 87, 3) := by decide +kernel
theorem d_LI_isNamed_52 : decode c_LI_isNamed 52 = .ok (.iload 5, 2) := by decide +kernel
theorem d_LI_isNamed_54 : decode c_LI_isNamed 54 = .ok (.if_icmp .eq 5, 3) := by decide +kernel
theorem d_LI_isNamed_57 : decode c_LI_isNamed 57 = .ok (.iconst 0, 1) := by decide +kernel
theorem d_LI_isNamed_58 : decode c_LI_isNamed 58 = .ok (.ireturn, 1) := by decide +kernel
theorem d_LI_isNamed_59 : decode c_LI_isNamed 59 = .ok (.iinc 4 1, 3) := by decide +kernel
theorem d_LI_isNamed_62 : decode c_LI_isNamed 62 = .ok (.goto (-51), 3) := by decide +kernel
theorem d_LI_isNamed_65 : decode c_LI_isNamed 65 = .ok (.iconst 1, 1) := by decide +kernel
theorem d_LI_isNamed_66 : decode c_LI_isNamed 66 = .ok (.ireturn, 1) := by decide +kernel
theorem d_LI_takeRegister_0 : decode c_LI_takeRegister 0 = .ok (.aload_n 0, 1) := by decide +kernel
theorem d_LI_takeRegister_1 : decode c_LI_takeRegister 1 = .ok (.invokevirtual 57, 3) := by decide +kernel
theorem d_LI_takeRegister_4 : decode c_LI_takeRegister 4 = .ok (.bipush 32, 2) := by decide +kernel
theorem d_LI_takeRegister_6 : decode c_LI_takeRegister 6 = .ok (.if_icmp .eq 5, 3) := by decide +kernel
theorem d_LI_takeRegister_9 : decode c_LI_takeRegister 9 = .ok (.iconst (-1), 1) := by decide +kernel
theorem d_LI_takeRegister_10 : decode c_LI_takeRegister 10 = .ok (.ireturn, 1) := by decide +kernel
theorem d_LI_takeRegister_11 : decode c_LI_takeRegister 11 = .ok (.aload_n 0, 1) := by decide +kernel
theorem d_LI_takeRegister_12 : decode c_LI_takeRegister 12 = .ok (.invokevirtual 54, 3) := by decide +kernel
theorem d_LI_takeRegister_15 : decode c_LI_takeRegister 15 = .ok (.aload_n 0, 1) := by decide +kernel
theorem d_LI_takeRegister_16 : decode c_LI_takeRegister 16 = .ok (.invokevirtual 57, 3) := by decide +kernel
theorem d_LI_takeRegister_19 : decode c_LI_takeRegister 19 = .ok (.bipush 114, 2) := by decide +kernel
theorem d_LI_takeRegister_21 : decode c_LI_takeRegister 21 = .ok (.if_icmp .eq 5, 3) := by decide +kernel
theorem d_LI_takeRegister_24 : decode c_LI_takeRegister 24 = .ok (.iconst (-1), 1) := by decide +kernel
theorem d_LI_takeRegister_25 : decode c_LI_takeRegister 25 = .ok (.ireturn, 1) := by decide +kernel
theorem d_LI_takeRegister_26 : decode c_LI_takeRegister 26 = .ok (.aload_n 0, 1) := by decide +kernel
theorem d_LI_takeRegister_27 : decode c_LI_takeRegister 27 = .ok (.dup, 1) := by decide +kernel
theorem d_LI_takeRegister_28 : decode c_LI_takeRegister 28 = .ok (.getfield 19, 3) := by decide +kernel
theorem d_LI_takeRegister_31 : decode c_LI_takeRegister 31 = .ok (.iconst 1, 1) := by decide +kernel
theorem d_LI_takeRegister_32 : decode c_LI_takeRegister 32 = .ok (.iadd, 1) := by decide +kernel
theorem d_LI_takeRegister_33 : decode c_LI_takeRegister 33 = .ok (.putfield 19, 3) := by decide +kernel
theorem d_LI_takeRegister_36 : decode c_LI_takeRegister 36 = .ok (.aload_n 0, 1) := by decide +kernel
theorem d_LI_takeRegister_37 : decode c_LI_takeRegister 37 = .ok (.invokevirtual 57, 3) := by decide +kernel
theorem d_LI_takeRegister_40 : decode c_LI_takeRegister 40 = .ok (.istore_n 1, 1) := by decide +kernel
theorem d_LI_takeRegister_41 : decode c_LI_takeRegister 41 = .ok (.iload_n 1, 1) := by decide +kernel
theorem d_LI_takeRegister_42 : decode c_LI_takeRegister 42 = .ok (.bipush 48, 2) := by decide +kernel
theorem d_LI_takeRegister_44 : decode c_LI_takeRegister 44 = .ok (.if_icmp .lt 9, 3) := by decide +kernel
theorem d_LI_takeRegister_47 : decode c_LI_takeRegister 47 = .ok (.iload_n 1, 1) := by decide +kernel
theorem d_LI_takeRegister_48 : decode c_LI_takeRegister 48 = .ok (.bipush 55, 2) := by decide +kernel
theorem d_LI_takeRegister_50 : decode c_LI_takeRegister 50 = .ok (.if_icmp .le 5, 3) := by decide +kernel
theorem d_LI_takeRegister_53 : decode c_LI_takeRegister 53 = .ok (.iconst (-1), 1) := by decide +kernel
theorem d_LI_takeRegister_54 : decode c_LI_takeRegister 54 = .ok (.ireturn, 1) := by decide +kernel
theorem d_LI_takeRegister_55 : decode c_LI_takeRegister 55 = .ok (.aload_n 0, 1) := by decide +kernel
theorem d_LI_takeRegister_56 : decode c_LI_takeRegister 56 = .ok (.dup, 1) := by decide +kernel
theorem d_LI_takeRegister_57 : decode c_LI_takeRegister 57 = .ok (.getfield 19, 3) := by decide +kernel
theorem d_LI_takeRegister_60 : decode c_LI_takeRegister 60 = .ok (.iconst 1, 1) := by decide +kernel
theorem d_LI_takeRegister_61 : decode c_LI_takeRegister 61 = .ok (.iadd, 1) := by decide +kernel
theorem d_LI_takeRegister_62 : decode c_LI_takeRegister 62 = .ok (.putfield 19, 3) := by decide +kernel
theorem d_LI_takeRegister_65 : decode c_LI_takeRegister 65 = .ok (.iload_n 1, 1) := by decide +kernel
theorem d_LI_takeRegister_66 : decode c_LI_takeRegister 66 = .ok (.bipush 48, 2) := by decide +kernel
theorem d_LI_takeRegister_68 : decode c_LI_takeRegister 68 = .ok (.isub, 1) := by decide +kernel
theorem d_LI_takeRegister_69 : decode c_LI_takeRegister 69 = .ok (.ireturn, 1) := by decide +kernel
theorem d_LI_isNumberRead_0 : decode c_LI_isNumberRead 0 = .ok (.aload_n 0, 1) := by decide +kernel
theorem d_LI_isNumberRead_1 : decode c_LI_isNumberRead 1 = .ok (.invokevirtual 57, 3) := by decide +kernel
theorem d_LI_isNumberRead_4 : decode c_LI_isNumberRead 4 = .ok (.bipush 32, 2) := by decide +kernel
theorem d_LI_isNumberRead_6 : decode c_LI_isNumberRead 6 = .ok (.if_icmp .eq 5, 3) := by decide +kernel
theorem d_LI_isNumberRead_9 : decode c_LI_isNumberRead 9 = .ok (.iconst 0, 1) := by decide +kernel
theorem d_LI_isNumberRead_10 : decode c_LI_isNumberRead 10 = .ok (.ireturn, 1) := by decide +kernel
theorem d_LI_isNumberRead_11 : decode c_LI_isNumberRead 11 = .ok (.aload_n 0, 1) := by decide +kernel
theorem d_LI_isNumberRead_12 : decode c_LI_isNumberRead 12 = .ok (.invokevirtual 54, 3) := by decide +kernel
theorem d_LI_isNumberRead_15 : decode c_LI_isNumberRead 15 = .ok (.iload_n 1, 1) := by decide +kernel
theorem d_LI_isNumberRead_16 : decode c_LI_isNumberRead 16 = .ok (.bipush 8, 2) := by decide +kernel
theorem d_LI_isNumberRead_18 : decode c_LI_isNumberRead 18 = .ok (.iand, 1) := by decide +kernel
theorem d_LI_isNumberRead_19 : decode c_LI_isNumberRead 19 = .ok (.ifCond .ne 13, 3) := by decide +kernel
theorem d_LI_isNumberRead_22 : decode c_LI_isNumberRead 22 = .ok (.aload_n 0, 1) := by decide +kernel
theorem d_LI_isNumberRead_23 : decode c_LI_isNumberRead 23 = .ok (.invokevirtual 57, 3) := by decide +kernel
theorem d_LI_isNumberRead_26 : decode c_LI_isNumberRead 26 = .ok (.invokestatic 61, 3) := by decide +kernel
theorem d_LI_isNumberRead_29 : decode c_LI_isNumberRead 29 = .ok (.ifCond .ne 7, 3) := by decide +kernel
theorem d_LI_isNumberRead_32 : decode c_LI_isNumberRead 32 = .ok (.iconst 1, 1) := by decide +kernel
theorem d_LI_isNumberRead_33 : decode c_LI_isNumberRead 33 = .ok (.goto 4, 3) := by decide +kernel
theorem d_LI_isNumberRead_36 : decode c_LI_isNumberRead 36 = .ok (.iconst 0, 1) := by decide +kernel
theorem d_LI_isNumberRead_37 : decode c_LI_isNumberRead 37 = .ok (.istore_n 2, 1) := by decide +kernel
theorem d_LI_isNumberRead_38 : decode c_LI_isNumberRead 38 = .ok (.iload_n 2, 1) := by decide +kernel
theorem d_LI_isNumberRead_39 : decode c_LI_isNumberRead 39 = .ok (.ifCond .ne 43, 3) := by decide +kernel
theorem d_LI_isNumberRead_42 : decode c_LI_isNumberRead 42 = .ok (.aload_n 0, 1) := by decide +kernel
theorem d_LI_isNumberRead_43 : decode c_LI_isNumberRead 43 = .ok (.aload_n 0, 1) := by decide +kernel
theorem d_LI_isNumberRead_44 : decode c_LI_isNumberRead 44 = .ok (.invokevirtual 65, 3) := by decide +kernel
theorem d_LI_isNumberRead_47 : decode c_LI_isNumberRead 47 = .ok (.putfield 38, 3) := by decide +kernel
theorem d_LI_isNumberRead_50 : decode c_LI_isNumberRead 50 = .ok (.aload_n 0, 1) := by decide +kernel
theorem d_LI_isNumberRead_51 : decode c_LI_isNumberRead 51 = .ok (.getfield 38, 3) := by decide +kernel
theorem d_LI_isNumberRead_54 : decode c_LI_isNumberRead 54 = .ok (.lconst 0, 1) := by decide +kernel
theorem d_LI_isNumberRead_55 : decode c_LI_isNumberRead 55 = .ok (.lcmp, 1) := by decide +kernel
theorem d_LI_isNumberRead_56 : decode c_LI_isNumberRead 56 = .ok (.ifCond .ne 5, 3) := by decide +kernel
theorem d_LI_isNumberRead_59 : decode c_LI_isNumberRead 59 = .ok (.iconst 0, 1) := by decide +kernel
theorem d_LI_isNumberRead_60 : decode c_LI_isNumberRead 60 = .ok (.ireturn, 1) := by decide +kernel
theorem d_LI_isNumberRead_61 : decode c_LI_isNumberRead 61 = .ok (.aload_n 0, 1) := by decide +kernel
theorem d_LI_isNumberRead_62 : decode c_LI_isNumberRead 62 = .ok (.invokevirtual 57, 3) := by decide +kernel
theorem d_LI_isNumberRead_65 : decode c_LI_isNumberRead 65 = .ok (.bipush 43, 2) := by decide +kernel
theorem d_LI_isNumberRead_67 : decode c_LI_isNumberRead 67 = .ok (.if_icmp .eq 5, 3) := by decide +kernel
theorem d_LI_isNumberRead_70 : decode c_LI_isNumberRead 70 = .ok (.iconst 1, 1) := by decide +kernel
theorem d_LI_isNumberRead_71 : decode c_LI_isNumberRead 71 = .ok (.ireturn, 1) := by decide +kernel
theorem d_LI_isNumberRead_72 : decode c_LI_isNumberRead 72 = .ok (.aload_n 0, 1) := by decide +kernel
theorem d_LI_isNumberRead_73 : decode c_LI_isNumberRead 73 = .ok (.dup, 1) := by decide +kernel
theorem d_LI_isNumberRead_74 : decode c_LI_isNumberRead 74 = .ok (.getfield 19, 3) := by decide +kernel
theorem d_LI_isNumberRead_77 : decode c_LI_isNumberRead 77 = .ok (.iconst 1, 1) := by decide +kernel
theorem d_LI_isNumberRead_78 : decode c_LI_isNumberRead 78 = .ok (.iadd, 1) := by decide +kernel
theorem d_LI_isNumberRead_79 : decode c_LI_isNumberRead 79 = .ok (.putfield 19, 3) := by decide +kernel
theorem d_LI_isNumberRead_82 : decode c_LI_isNumberRead 82 = .ok (.aload_n 0, 1) := by decide +kernel
theorem d_LI_isNumberRead_83 : decode c_LI_isNumberRead 83 = .ok (.aload_n 0, 1) := by decide +kernel
theorem d_LI_isNumberRead_84 : decode c_LI_isNumberRead 84 = .ok (.invokevirtual 93, 3) := by decide +kernel
theorem d_LI_isNumberRead_87 : decode c_LI_isNumberRead 87 = .ok (.putfield 35, 3) := by decide +kernel
theorem d_LI_isNumberRead_90 : decode c_LI_isNumberRead 90 = .ok (.aload_n 0, 1) := by decide +kernel
theorem d_LI_isNumberRead_91 : decode c_LI_isNumberRead 91 = .ok (.getfield 35, 3) := by decide +kernel
theorem d_LI_isNumberRead_94 : decode c_LI_isNumberRead 94 = .ok (.iconst (-1), 1) := by decide +kernel
theorem d_LI_isNumberRead_95 : decode c_LI_isNumberRead 95 = .ok (.if_icmp .eq 7, 3) := by decide +kernel
theorem d_LI_isNumberRead_98 : decode c_LI_isNumberRead 98 = .ok (.iconst 1, 1) := by decide +kernel
theorem d_LI_isNumberRead_99 : decode c_LI_isNumberRead 99 = .ok (.goto 4, 3) := by decide +kernel
theorem d_LI_isNumberRead_102 : decode c_LI_isNumberRead 102 = .ok (.iconst 0, 1) := by decide +kernel
theorem d_LI_isNumberRead_103 : decode c_LI_isNumberRead 103 = .ok (.ireturn, 1) := by decide +kernel
theorem d_LI_takeNumber_0 : decode c_LI_takeNumber 0 = .ok (.iconst 0, 1) := by decide +kernel
theorem d_LI_takeNumber_1 : decode c_LI_takeNumber 1 = .ok (.istore_n 1, 1) := by decide +kernel
theorem d_LI_takeNumber_2 : decode c_LI_takeNumber 2 = .ok (.iconst 0, 1) := by decide +kernel
theorem d_LI_takeNumber_3 : decode c_LI_takeNumber 3 = .ok (.istore_n 2, 1) := by decide +kernel
theorem d_LI_takeNumber_4 : decode c_LI_takeNumber 4 = .ok (.aload_n 0, 1) := by decide +kernel
theorem d_LI_takeNumber_5 : decode c_LI_takeNumber 5 = .ok (.getfield 19, 3) := by decide +kernel
theorem d_LI_takeNumber_8 : decode c_LI_takeNumber 8 = .ok (.aload_n 0, 1) := by decide +kernel
theorem d_LI_takeNumber_9 : decode c_LI_takeNumber 9 = .ok (.getfield 22, 3) := by decide +kernel
theorem d_LI_takeNumber_12 : decode c_LI_takeNumber 12 = .ok (.if_icmp .ge 57, 3) := by decide +kernel
theorem d_LI_takeNumber_15 : decode c_LI_takeNumber 15 = .ok (.aload_n 0, 1) := by decide +kernel
theorem d_LI_takeNumber_16 : decode c_LI_takeNumber 16 = .ok (.getfield 9, 3) := by decide +kernel
theorem d_LI_takeNumber_19 : decode c_LI_takeNumber 19 = .ok (.aload_n 0, 1) := by decide +kernel
theorem d_LI_takeNumber_20 : decode c_LI_takeNumber 20 = .ok (.getfield 19, 3) := by decide +kernel
theorem d_LI_takeNumber_23 : decode c_LI_takeNumber 23 = .ok (.iaload, 1) := by decide +kernel
theorem d_LI_takeNumber_24 : decode c_LI_takeNumber 24 = .ok (.invokestatic 96, 3) := by decide +kernel
theorem d_LI_takeNumber_27 : decode c_LI_takeNumber 27 = .ok (.ifCond .eq 42, 3) := by decide +kernel
theorem d_LI_takeNumber_30 : decode c_LI_takeNumber 30 = .ok (.iload_n 2, 1) := by decide +kernel
theorem d_LI_takeNumber_31 : decode c_LI_takeNumber 31 = .ok (.iconst 5, 1) := by decide +kernel
theorem d_LI_takeNumber_32 : decode c_LI_takeNumber 32 = .ok (.if_icmp .gt 37, 3) := by decide +kernel
theorem d_LI_takeNumber_35 : decode c_LI_takeNumber 35 = .ok (.iload_n 1, 1) := by decide +kernel
theorem d_LI_takeNumber_36 : decode c_LI_takeNumber 36 = .ok (.bipush 10, 2) := by decide +kernel
theorem d_LI_takeNumber_38 : decode c_LI_takeNumber 38 = .ok (.imul, 1) := by decide +kernel
theorem d_LI_takeNumber_39 : decode c_LI_takeNumber 39 = .ok (.aload_n 0, 1) := by decide +kernel
theorem d_LI_takeNumber_40 : decode c_LI_takeNumber 40 = .ok (.getfield 9, 3) := by decide +kernel
theorem d_LI_takeNumber_43 : decode c_LI_takeNumber 43 = .ok (.aload_n 0, 1) := by decide +kernel
theorem d_LI_takeNumber_44 : decode c_LI_takeNumber 44 = .ok (.getfield 19, 3) := by decide +kernel
theorem d_LI_takeNumber_47 : decode c_LI_takeNumber 47 = .ok (.iaload, 1) := by decide +kernel
theorem d_LI_takeNumber_48 : decode c_LI_takeNumber 48 = .ok (.iadd, 1) := by decide +kernel
theorem d_LI_takeNumber_49 : decode c_LI_takeNumber 49 = .ok (.bipush 48, 2) := by decide +kernel
theorem d_LI_takeNumber_51 : decode c_LI_takeNumber 51 = .ok (.isub, 1) := by decide +kernel
theorem d_LI_takeNumber_52 : decode c_LI_takeNumber 52 = .ok (.istore_n 1, 1) := by decide +kernel
theorem d_LI_takeNumber_53 : decode c_LI_takeNumber 53 = .ok (.iinc 2 1, 3) := by decide +kernel
theorem d_LI_takeNumber_56 : decode c_LI_takeNumber 56 = .ok (.aload_n 0, 1) := by decide +kernel
theorem d_LI_takeNumber_57 : decode c_LI_takeNumber 57 = .ok (.dup, 1) := by decide +kernel
theorem d_LI_takeNumber_58 : decode c_LI_takeNumber 58 = .ok (.getfield 19, 3) := by decide +kernel
theorem d_LI_takeNumber_61 : decode c_LI_takeNumber 61 = .ok (.iconst 1, 1) := by decide +kernel
theorem d_LI_takeNumber_62 : decode c_LI_takeNumber 62 = .ok (.iadd, 1) := by decide +kernel
theorem d_LI_takeNumber_63 : decode c_LI_takeNumber 63 = .ok (.putfield 19, 3) := by decide +kernel
theorem d_LI_takeNumber_66 : decode c_LI_takeNumber 66 = .ok (.goto (-62), 3) := by decide +kernel
theorem d_LI_takeNumber_69 : decode c_LI_takeNumber 69 = .ok (.iload_n 2, 1) := by decide +kernel
theorem d_LI_takeNumber_70 : decode c_LI_takeNumber 70 = .ok (.ifCond .eq 14, 3) := by decide +kernel
theorem d_LI_takeNumber_73 : decode c_LI_takeNumber 73 = .ok (.iload_n 2, 1) := by decide +kernel
theorem d_LI_takeNumber_74 : decode c_LI_takeNumber 74 = .ok (.iconst 5, 1) := by decide +kernel
theorem d_LI_takeNumber_75 : decode c_LI_takeNumber 75 = .ok (.if_icmp .gt 9, 3) := by decide +kernel
theorem d_LI_takeNumber_78 : decode c_LI_takeNumber 78 = .ok (.iload_n 1, 1) := by decide +kernel
theorem d_LI_takeNumber_79 : decode c_LI_takeNumber 79 = .ok (.ldc 99, 2) := by decide +kernel
theorem d_LI_takeNumber_81 : decode c_LI_takeNumber 81 = .ok (.if_icmp .le 7, 3) := by decide +kernel
theorem d_LI_takeNumber_84 : decode c_LI_takeNumber 84 = .ok (.iconst (-1), 1) := by decide +kernel
theorem d_LI_takeNumber_85 : decode c_LI_takeNumber 85 = .ok (.goto 4, 3) := by decide +kernel
theorem d_LI_takeNumber_88 : decode c_LI_takeNumber 88 = .ok (.iload_n 1, 1) := by decide +kernel
theorem d_LI_takeNumber_89 : decode c_LI_takeNumber 89 = .ok (.ireturn, 1) := by decide +kernel
theorem d_LI_takeLabel_0 : decode c_LI_takeLabel 0 = .ok (.lconst 0, 1) := by decide +kernel
theorem d_LI_takeLabel_1 : decode c_LI_takeLabel 1 = .ok (.lstore_n 1, 1) := by decide +kernel
theorem d_LI_takeLabel_2 : decode c_LI_takeLabel 2 = .ok (.iconst 0, 1) := by decide +kernel
theorem d_LI_takeLabel_3 : decode c_LI_takeLabel 3 = .ok (.istore_n 3, 1) := by decide +kernel
theorem d_LI_takeLabel_4 : decode c_LI_takeLabel 4 = .ok (.aload_n 0, 1) := by decide +kernel
theorem d_LI_takeLabel_5 : decode c_LI_takeLabel 5 = .ok (.getfield 19, 3) := by decide +kernel
theorem d_LI_takeLabel_8 : decode c_LI_takeLabel 8 = .ok (.aload_n 0, 1) := by decide +kernel
theorem d_LI_takeLabel_9 : decode c_LI_takeLabel 9 = .ok (.getfield 22, 3) := by decide +kernel
theorem d_LI_takeLabel_12 : decode c_LI_takeLabel 12 = .ok (.if_icmp .ge 104, 3) := by decide +kernel
theorem d_LI_takeLabel_15 : decode c_LI_takeLabel 15 = .ok (.aload_n 0, 1) := by decide +kernel
theorem d_LI_takeLabel_16 : decode c_LI_takeLabel 16 = .ok (.getfield 9, 3) := by decide +kernel
theorem d_LI_takeLabel_19 : decode c_LI_takeLabel 19 = .ok (.aload_n 0, 1) := by decide +kernel
theorem d_LI_takeLabel_20 : decode c_LI_takeLabel 20 = .ok (.getfield 19, 3) := by decide +kernel
theorem d_LI_takeLabel_23 : decode c_LI_takeLabel 23 = .ok (.iaload, 1) := by decide +kernel
theorem d_LI_takeLabel_24 : decode c_LI_takeLabel 24 = .ok (.invokestatic 61, 3) := by decide +kernel
theorem d_LI_takeLabel_27 : decode c_LI_takeLabel 27 = .ok (.ifCond .ne 18, 3) := by decide +kernel
theorem d_LI_takeLabel_30 : decode c_LI_takeLabel 30 = .ok (.aload_n 0, 1) := by decide +kernel
theorem d_LI_takeLabel_31 : decode c_LI_takeLabel 31 = .ok (.getfield 9, 3) := by decide +kernel
theorem d_LI_takeLabel_34 : decode c_LI_takeLabel 34 = .ok (.aload_n 0, 1) := by decide +kernel
theorem d_LI_takeLabel_35 : decode c_LI_takeLabel 35 = .ok (.getfield 19, 3) := by decide +kernel
theorem d_LI_takeLabel_38 : decode c_LI_takeLabel 38 = .ok (.iaload, 1) := by decide +kernel
theorem d_LI_takeLabel_39 : decode c_LI_takeLabel 39 = .ok (.invokestatic 96, 3) := by decide +kernel
theorem d_LI_takeLabel_42 : decode c_LI_takeLabel 42 = .ok (.ifCond .eq 74, 3) := by decide +kernel
theorem d_LI_takeLabel_45 : decode c_LI_takeLabel 45 = .ok (.lload_n 1, 1) := by decide +kernel
theorem d_LI_takeLabel_46 : decode c_LI_takeLabel 46 = .ok (.ldc2_w 100, 3) := by decide +kernel
theorem d_LI_takeLabel_49 : decode c_LI_takeLabel 49 = .ok (.lmul, 1) := by decide +kernel
theorem d_LI_takeLabel_50 : decode c_LI_takeLabel 50 = .ok (.aload_n 0, 1) := by decide +kernel
theorem d_LI_takeLabel_51 : decode c_LI_takeLabel 51 = .ok (.getfield 9, 3) := by decide +kernel
theorem d_LI_takeLabel_54 : decode c_LI_takeLabel 54 = .ok (.aload_n 0, 1) := by decide +kernel
theorem d_LI_takeLabel_55 : decode c_LI_takeLabel 55 = .ok (.getfield 19, 3) := by decide +kernel
theorem d_LI_takeLabel_58 : decode c_LI_takeLabel 58 = .ok (.iaload, 1) := by decide +kernel
theorem d_LI_takeLabel_59 : decode c_LI_takeLabel 59 = .ok (.invokestatic 61, 3) := by decide +kernel
theorem d_LI_takeLabel_62 : decode c_LI_takeLabel 62 = .ok (.ifCond .eq 20, 3) := by decide +kernel
theorem d_LI_takeLabel_65 : decode c_LI_takeLabel 65 = .ok (.aload_n 0, 1) := by decide +kernel
theorem d_LI_takeLabel_66 : decode c_LI_takeLabel 66 = .ok (.getfield 9, 3) := by decide +kernel
theorem d_LI_takeLabel_69 : decode c_LI_takeLabel 69 = .ok (.aload_n 0, 1) := by decide +kernel
theorem d_LI_takeLabel_70 : decode c_LI_takeLabel 70 = .ok (.getfield 19, 3) := by decide +kernel
theorem d_LI_takeLabel_73 : decode c_LI_takeLabel 73 = .ok (.iaload, 1) := by decide +kernel
theorem d_LI_takeLabel_74 : decode c_LI_takeLabel 74 = .ok (.bipush 97, 2) := by decide +kernel
theorem d_LI_takeLabel_76 : decode c_LI_takeLabel 76 = .ok (.isub, 1) := by decide +kernel
theorem d_LI_takeLabel_77 : decode c_LI_takeLabel 77 = .ok (.iconst 1, 1) := by decide +kernel
theorem d_LI_takeLabel_78 : decode c_LI_takeLabel 78 = .ok (.iadd, 1) := by decide +kernel
theorem d_LI_takeLabel_79 : decode c_LI_takeLabel 79 = .ok (.goto 18, 3) := by decide +kernel
theorem d_LI_takeLabel_82 : decode c_LI_takeLabel 82 = .ok (.aload_n 0, 1) := by decide +kernel
theorem d_LI_takeLabel_83 : decode c_LI_takeLabel 83 = .ok (.getfield 9, 3) := by decide +kernel
theorem d_LI_takeLabel_86 : decode c_LI_takeLabel 86 = .ok (.aload_n 0, 1) := by decide +kernel
theorem d_LI_takeLabel_87 : decode c_LI_takeLabel 87 = .ok (.getfield 19, 3) := by decide +kernel
theorem d_LI_takeLabel_90 : decode c_LI_takeLabel 90 = .ok (.iaload, 1) := by decide +kernel
theorem d_LI_takeLabel_91 : decode c_LI_takeLabel 91 = .ok (.bipush 48, 2) := by decide +kernel
theorem d_LI_takeLabel_93 : decode c_LI_takeLabel 93 = .ok (.isub, 1) := by decide +kernel
theorem d_LI_takeLabel_94 : decode c_LI_takeLabel 94 = .ok (.bipush 27, 2) := by decide +kernel
theorem d_LI_takeLabel_96 : decode c_LI_takeLabel 96 = .ok (.iadd, 1) := by decide +kernel
theorem d_LI_takeLabel_97 : decode c_LI_takeLabel 97 = .ok (.i2l, 1) := by decide +kernel
theorem d_LI_takeLabel_98 : decode c_LI_takeLabel 98 = .ok (.ladd, 1) := by decide +kernel
theorem d_LI_takeLabel_99 : decode c_LI_takeLabel 99 = .ok (.lstore_n 1, 1) := by decide +kernel
theorem d_LI_takeLabel_100 : decode c_LI_takeLabel 100 = .ok (.iinc 3 1, 3) := by decide +kernel
theorem d_LI_takeLabel_103 : decode c_LI_takeLabel 103 = .ok (.aload_n 0, 1) := by decide +kernel
theorem d_LI_takeLabel_104 : decode c_LI_takeLabel 104 = .ok (.dup, 1) := by decide +kernel
theorem d_LI_takeLabel_105 : decode c_LI_takeLabel 105 = .ok (.getfield 19, 3) := by decide +kernel
theorem d_LI_takeLabel_108 : decode c_LI_takeLabel 108 = .ok (.iconst 1, 1) := by decide +kernel
theorem d_LI_takeLabel_109 : decode c_LI_takeLabel 109 = .ok (.iadd, 1) := by decide +kernel
theorem d_LI_takeLabel_110 : decode c_LI_takeLabel 110 = .ok (.putfield 19, 3) := by decide +kernel
theorem d_LI_takeLabel_113 : decode c_LI_takeLabel 113 = .ok (.goto (-109), 3) := by decide +kernel
theorem d_LI_takeLabel_116 : decode c_LI_takeLabel 116 = .ok (.iload_n 3, 1) := by decide +kernel
theorem d_LI_takeLabel_117 : decode c_LI_takeLabel 117 = .ok (.bipush 8, 2) := by decide +kernel
theorem d_LI_takeLabel_119 : decode c_LI_takeLabel 119 = .ok (.if_icmp .le 7, 3) := by decide +kernel
theorem d_LI_takeLabel_122 : decode c_LI_takeLabel 122 = .ok (.lconst 0, 1) := by decide +kernel
theorem d_LI_takeLabel_123 : decode c_LI_takeLabel 123 = .ok (.goto 4, 3) := by decide +kernel
theorem d_LI_takeLabel_126 : decode c_LI_takeLabel 126 = .ok (.lload_n 1, 1) := by decide +kernel
theorem d_LI_takeLabel_127 : decode c_LI_takeLabel 127 = .ok (.lreturn, 1) := by decide +kernel
theorem d_LI_skipBlanks_0 : decode c_LI_skipBlanks 0 = .ok (.aload_n 0, 1) := by decide +kernel
theorem d_LI_skipBlanks_1 : decode c_LI_skipBlanks 1 = .ok (.getfield 19, 3) := by decide +kernel
theorem d_LI_skipBlanks_4 : decode c_LI_skipBlanks 4 = .ok (.aload_n 0, 1) := by decide +kernel
theorem d_LI_skipBlanks_5 : decode c_LI_skipBlanks 5 = .ok (.getfield 22, 3) := by decide +kernel
theorem d_LI_skipBlanks_8 : decode c_LI_skipBlanks 8 = .ok (.if_icmp .ge 30, 3) := by decide +kernel
theorem d_LI_skipBlanks_11 : decode c_LI_skipBlanks 11 = .ok (.aload_n 0, 1) := by decide +kernel
theorem d_LI_skipBlanks_12 : decode c_LI_skipBlanks 12 = .ok (.getfield 9, 3) := by decide +kernel
theorem d_LI_skipBlanks_15 : decode c_LI_skipBlanks 15 = .ok (.aload_n 0, 1) := by decide +kernel
theorem d_LI_skipBlanks_16 : decode c_LI_skipBlanks 16 = .ok (.getfield 19, 3) := by decide +kernel
theorem d_LI_skipBlanks_19 : decode c_LI_skipBlanks 19 = .ok (.iaload, 1) := by decide +kernel
theorem d_LI_skipBlanks_20 : decode c_LI_skipBlanks 20 = .ok (.bipush 32, 2) := by decide +kernel
theorem d_LI_skipBlanks_22 : decode c_LI_skipBlanks 22 = .ok (.if_icmp .ne 16, 3) := by decide +kernel
theorem d_LI_skipBlanks_25 : decode c_LI_skipBlanks 25 = .ok (.aload_n 0, 1) := by decide +kernel
theorem d_LI_skipBlanks_26 : decode c_LI_skipBlanks 26 = .ok (.dup, 1) := by decide +kernel
theorem d_LI_skipBlanks_27 : decode c_LI_skipBlanks 27 = .ok (.getfield 19, 3) := by decide +kernel
theorem d_LI_skipBlanks_30 : decode c_LI_skipBlanks 30 = .ok (.iconst 1, 1) := by decide +kernel
theorem d_LI_skipBlanks_31 : decode c_LI_skipBlanks 31 = .ok (.iadd, 1) := by decide +kernel
theorem d_LI_skipBlanks_32 : decode c_LI_skipBlanks 32 = .ok (.putfield 19, 3) := by decide +kernel
theorem d_LI_skipBlanks_35 : decode c_LI_skipBlanks 35 = .ok (.goto (-35), 3) := by decide +kernel
theorem d_LI_skipBlanks_38 : decode c_LI_skipBlanks 38 = .ok (.return_, 1) := by decide +kernel
theorem d_LI_here_0 : decode c_LI_here 0 = .ok (.aload_n 0, 1) := by decide +kernel
theorem d_LI_here_1 : decode c_LI_here 1 = .ok (.getfield 19, 3) := by decide +kernel
theorem d_LI_here_4 : decode c_LI_here 4 = .ok (.aload_n 0, 1) := by decide +kernel
theorem d_LI_here_5 : decode c_LI_here 5 = .ok (.getfield 22, 3) := by decide +kernel
theorem d_LI_here_8 : decode c_LI_here 8 = .ok (.if_icmp .ge 15, 3) := by decide +kernel
theorem d_LI_here_11 : decode c_LI_here 11 = .ok (.aload_n 0, 1) := by decide +kernel
theorem d_LI_here_12 : decode c_LI_here 12 = .ok (.getfield 9, 3) := by decide +kernel
theorem d_LI_here_15 : decode c_LI_here 15 = .ok (.aload_n 0, 1) := by decide +kernel
theorem d_LI_here_16 : decode c_LI_here 16 = .ok (.getfield 19, 3) := by decide +kernel
theorem d_LI_here_19 : decode c_LI_here 19 = .ok (.iaload, 1) := by decide +kernel
theorem d_LI_here_20 : decode c_LI_here 20 = .ok (.goto 4, 3) := by decide +kernel
theorem d_LI_here_23 : decode c_LI_here 23 = .ok (.iconst (-1), 1) := by decide +kernel
theorem d_LI_here_24 : decode c_LI_here 24 = .ok (.ireturn, 1) := by decide +kernel
theorem d_LI_isLetter_0 : decode c_LI_isLetter 0 = .ok (.iload_n 0, 1) := by decide +kernel
theorem d_LI_isLetter_1 : decode c_LI_isLetter 1 = .ok (.bipush 97, 2) := by decide +kernel
theorem d_LI_isLetter_3 : decode c_LI_isLetter 3 = .ok (.if_icmp .lt 13, 3) := by decide +kernel
theorem d_LI_isLetter_6 : decode c_LI_isLetter 6 = .ok (.iload_n 0, 1) := by decide +kernel
theorem d_LI_isLetter_7 : decode c_LI_isLetter 7 = .ok (.bipush 122, 2) := by decide +kernel
theorem d_LI_isLetter_9 : decode c_LI_isLetter 9 = .ok (.if_icmp .gt 7, 3) := by decide +kernel
theorem d_LI_isLetter_12 : decode c_LI_isLetter 12 = .ok (.iconst 1, 1) := by decide +kernel
theorem d_LI_isLetter_13 : decode c_LI_isLetter 13 = .ok (.goto 4, 3) := by decide +kernel
theorem d_LI_isLetter_16 : decode c_LI_isLetter 16 = .ok (.iconst 0, 1) := by decide +kernel
theorem d_LI_isLetter_17 : decode c_LI_isLetter 17 = .ok (.ireturn, 1) := by decide +kernel
theorem d_LI_isDigit_0 : decode c_LI_isDigit 0 = .ok (.iload_n 0, 1) := by decide +kernel
theorem d_LI_isDigit_1 : decode c_LI_isDigit 1 = .ok (.bipush 48, 2) := by decide +kernel
theorem d_LI_isDigit_3 : decode c_LI_isDigit 3 = .ok (.if_icmp .lt 13, 3) := by decide +kernel
theorem d_LI_isDigit_6 : decode c_LI_isDigit 6 = .ok (.iload_n 0, 1) := by decide +kernel
theorem d_LI_isDigit_7 : decode c_LI_isDigit 7 = .ok (.bipush 57, 2) := by decide +kernel
theorem d_LI_isDigit_9 : decode c_LI_isDigit 9 = .ok (.if_icmp .gt 7, 3) := by decide +kernel
theorem d_LI_isDigit_12 : decode c_LI_isDigit 12 = .ok (.iconst 1, 1) := by decide +kernel
theorem d_LI_isDigit_13 : decode c_LI_isDigit 13 = .ok (.goto 4, 3) := by decide +kernel
theorem d_LI_isDigit_16 : decode c_LI_isDigit 16 = .ok (.iconst 0, 1) := by decide +kernel
theorem d_LI_isDigit_17 : decode c_LI_isDigit 17 = .ok (.ireturn, 1) := by decide +kernel
