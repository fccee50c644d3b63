theorem d_GT_init_0 : decode c_GT_init 0 = .ok (.aload_n 0, 1) := by decide +kernel
theorem d_GT_init_1 : decode c_GT_init 1 = .ok (.invokespecial 1, 3) := by decide +kernel
theorem d_GT_init_4 : decode c_GT_init 4 = .ok (.aload_n 0, 1) := by decide +kernel
theorem d_GT_init_5 : decode c_GT_init 5 = .ok (.sipush 3000, 3) := by decide +kernel
theorem d_GT_init_8 : decode c_GT_init 8 = .ok (.newarray .int, 2) := by decide +kernel
theorem d_GT_init_10 : decode c_GT_init 10 = .ok (.putfield 9, 3) := by decide +kernel
theorem d_GT_init_13 : decode c_GT_init 13 = .ok (.aload_n 0, 1) := by decide +kernel
theorem d_GT_init_14 : decode c_GT_init 14 = .ok (.iconst 0, 1) := by decide +kernel
theorem d_GT_init_15 : decode c_GT_init 15 = .ok (.putfield 13, 3) := by decide +kernel
theorem d_GT_init_18 : decode c_GT_init 18 = .ok (.aload_n 0, 1) := by decide +kernel
theorem d_GT_init_19 : decode c_GT_init 19 = .ok (.new 17, 3) := by decide +kernel
theorem d_GT_init_22 : decode c_GT_init 22 = .ok (.dup, 1) := by decide +kernel
theorem d_GT_init_23 : decode c_GT_init 23 = .ok (.invokespecial 19, 3) := by decide +kernel
theorem d_GT_init_26 : decode c_GT_init 26 = .ok (.putfield 20, 3) := by decide +kernel
theorem d_GT_init_29 : decode c_GT_init 29 = .ok (.aload_n 0, 1) := by decide +kernel
theorem d_GT_init_30 : decode c_GT_init 30 = .ok (.iconst 3, 1) := by decide +kernel
theorem d_GT_init_31 : decode c_GT_init 31 = .ok (.anewarray 24, 3) := by decide +kernel
theorem d_GT_init_34 : decode c_GT_init 34 = .ok (.putfield 26, 3) := by decide +kernel
theorem d_GT_init_37 : decode c_GT_init 37 = .ok (.aload_n 0, 1) := by decide +kernel
theorem d_GT_init_38 : decode c_GT_init 38 = .ok (.iconst (-1), 1) := by decide +kernel
theorem d_GT_init_39 : decode c_GT_init 39 = .ok (.putfield 30, 3) := by decide +kernel
theorem d_GT_init_42 : decode c_GT_init 42 = .ok (.aload_n 0, 1) := by decide +kernel
theorem d_GT_init_43 : decode c_GT_init 43 = .ok (.iconst (-1), 1) := by decide +kernel
theorem d_GT_init_44 : decode c_GT_init 44 = .ok (.putfield 33, 3) := by decide +kernel
theorem d_GT_init_47 : decode c_GT_init 47 = .ok (.return_, 1) := by decide +kernel
theorem d_GT_feed_0 : decode c_GT_feed 0 = .ok (.aload_n 0, 1) := by decide +kernel
theorem d_GT_feed_1 : decode c_GT_feed 1 = .ok (.getfield 13, 3) := by decide +kernel
theorem d_GT_feed_4 : decode c_GT_feed 4 = .ok (.bipush 20, 2) := by decide +kernel
theorem d_GT_feed_6 : decode c_GT_feed 6 = .ok (.iadd, 1) := by decide +kernel
theorem d_GT_feed_7 : decode c_GT_feed 7 = .ok (.sipush 3000, 3) := by decide +kernel
theorem d_GT_feed_10 : decode c_GT_feed 10 = .ok (.if_icmp .le 5, 3) := by decide +kernel
theorem d_GT_feed_13 : decode c_GT_feed 13 = .ok (.iconst (-1), 1) := by decide +kernel
theorem d_GT_feed_14 : decode c_GT_feed 14 = .ok (.ireturn, 1) := by decide +kernel
theorem d_GT_feed_15 : decode c_GT_feed 15 = .ok (.aload_n 0, 1) := by decide +kernel
theorem d_GT_feed_16 : decode c_GT_feed 16 = .ok (.iload_n 1, 1) := by decide +kernel
theorem d_GT_feed_17 : decode c_GT_feed 17 = .ok (.invokevirtual 36, 3) := by decide +kernel
theorem d_GT_feed_20 : decode c_GT_feed 20 = .ok (.aload_n 0, 1) := by decide +kernel
theorem d_GT_feed_21 : decode c_GT_feed 21 = .ok (.iload_n 2, 1) := by decide +kernel
theorem d_GT_feed_22 : decode c_GT_feed 22 = .ok (.invokevirtual 36, 3) := by decide +kernel
theorem d_GT_feed_25 : decode c_GT_feed 25 = .ok (.aload_n 0, 1) := by decide +kernel
theorem d_GT_feed_26 : decode c_GT_feed 26 = .ok (.iload_n 3, 1) := by decide +kernel
theorem d_GT_feed_27 : decode c_GT_feed 27 = .ok (.invokevirtual 36, 3) := by decide +kernel
theorem d_GT_feed_30 : decode c_GT_feed 30 = .ok (.aload_n 0, 1) := by decide +kernel
theorem d_GT_feed_31 : decode c_GT_feed 31 = .ok (.iload 4, 2) := by decide +kernel
theorem d_GT_feed_33 : decode c_GT_feed 33 = .ok (.invokevirtual 36, 3) := by decide +kernel
theorem d_GT_feed_36 : decode c_GT_feed 36 = .ok (.aload_n 0, 1) := by decide +kernel
theorem d_GT_feed_37 : decode c_GT_feed 37 = .ok (.iload 5, 2) := by decide +kernel
theorem d_GT_feed_39 : decode c_GT_feed 39 = .ok (.invokevirtual 36, 3) := by decide +kernel
theorem d_GT_feed_42 : decode c_GT_feed 42 = .ok (.aload_n 0, 1) := by decide +kernel
theorem d_GT_feed_43 : decode c_GT_feed 43 = .ok (.getfield 13, 3) := by decide +kernel
theorem d_GT_feed_46 : decode c_GT_feed 46 = .ok (.ireturn, 1) := by decide +kernel
theorem d_GT_load_0 : decode c_GT_load 0 = .ok (.iload_n 1, 1) := by decide +kernel
theorem d_GT_load_1 : decode c_GT_load 1 = .ok (.invokestatic 40, 3) := by decide +kernel
theorem d_GT_load_4 : decode c_GT_load 4 = .ok (.ifCond .eq 16, 3) := by decide +kernel
theorem d_GT_load_7 : decode c_GT_load 7 = .ok (.iload_n 2, 1) := by decide +kernel
theorem d_GT_load_8 : decode c_GT_load 8 = .ok (.bipush 64, 2) := by decide +kernel
theorem d_GT_load_10 : decode c_GT_load 10 = .ok (.if_icmp .lt 10, 3) := by decide +kernel
theorem d_GT_load_13 : decode c_GT_load 13 = .ok (.iload_n 2, 1) := by decide +kernel
theorem d_GT_load_14 : decode c_GT_load 14 = .ok (.sipush 1024, 3) := by decide +kernel
theorem d_GT_load_17 : decode c_GT_load 17 = .ok (.if_icmp .le 6, 3) := by decide +kernel
theorem d_GT_load_20 : decode c_GT_load 20 = .ok (.bipush (-2), 2) := by decide +kernel
theorem d_GT_load_22 : decode c_GT_load 22 = .ok (.ireturn, 1) := by decide +kernel
theorem d_GT_load_23 : decode c_GT_load 23 = .ok (.iload_n 3, 1) := by decide +kernel
theorem d_GT_load_24 : decode c_GT_load 24 = .ok (.ifCond .lt 22, 3) := by decide +kernel
theorem d_GT_load_27 : decode c_GT_load 27 = .ok (.iload_n 3, 1) := by decide +kernel
theorem d_GT_load_28 : decode c_GT_load 28 = .ok (.iconst 2, 1) := by decide +kernel
theorem d_GT_load_29 : decode c_GT_load 29 = .ok (.if_icmp .gt 17, 3) := by decide +kernel
theorem d_GT_load_32 : decode c_GT_load 32 = .ok (.iload 4, 2) := by decide +kernel
theorem d_GT_load_34 : decode c_GT_load 34 = .ok (.ifCond .lt 12, 3) := by decide +kernel
theorem d_GT_load_37 : decode c_GT_load 37 = .ok (.iload 4, 2) := by decide +kernel
theorem d_GT_load_39 : decode c_GT_load 39 = .ok (.aload_n 0, 1) := by decide +kernel
theorem d_GT_load_40 : decode c_GT_load 40 = .ok (.getfield 13, 3) := by decide +kernel
theorem d_GT_load_43 : decode c_GT_load 43 = .ok (.if_icmp .le 6, 3) := by decide +kernel
theorem d_GT_load_46 : decode c_GT_load 46 = .ok (.bipush (-2), 2) := by decide +kernel
theorem d_GT_load_48 : decode c_GT_load 48 = .ok (.ireturn, 1) := by decide +kernel
theorem d_GT_load_49 : decode c_GT_load 49 = .ok (.aload_n 0, 1) := by decide +kernel
theorem d_GT_load_50 : decode c_GT_load 50 = .ok (.getfield 20, 3) := by decide +kernel
theorem d_GT_load_53 : decode c_GT_load 53 = .ok (.aload_n 0, 1) := by decide +kernel
theorem d_GT_load_54 : decode c_GT_load 54 = .ok (.getfield 9, 3) := by decide +kernel
theorem d_GT_load_57 : decode c_GT_load 57 = .ok (.iload 4, 2) := by decide +kernel
theorem d_GT_load_59 : decode c_GT_load 59 = .ok (.iload_n 2, 1) := by decide +kernel
theorem d_GT_load_60 : decode c_GT_load 60 = .ok (.invokevirtual 44, 3) := by decide +kernel
theorem d_GT_load_63 : decode c_GT_load 63 = .ok (.aload_n 0, 1) := by decide +kernel
theorem d_GT_load_64 : decode c_GT_load 64 = .ok (.iconst 0, 1) := by decide +kernel
theorem d_GT_load_65 : decode c_GT_load 65 = .ok (.putfield 13, 3) := by decide +kernel
theorem d_GT_load_68 : decode c_GT_load 68 = .ok (.aload_n 0, 1) := by decide +kernel
theorem d_GT_load_69 : decode c_GT_load 69 = .ok (.aload_n 0, 1) := by decide +kernel
theorem d_GT_load_70 : decode c_GT_load 70 = .ok (.getfield 20, 3) := by decide +kernel
theorem d_GT_load_73 : decode c_GT_load 73 = .ok (.getfield 48, 3) := by decide +kernel
theorem d_GT_load_76 : decode c_GT_load 76 = .ok (.putfield 30, 3) := by decide +kernel
theorem d_GT_load_79 : decode c_GT_load 79 = .ok (.aload_n 0, 1) := by decide +kernel
theorem d_GT_load_80 : decode c_GT_load 80 = .ok (.aload_n 0, 1) := by decide +kernel
theorem d_GT_load_81 : decode c_GT_load 81 = .ok (.getfield 20, 3) := by decide +kernel
theorem d_GT_load_84 : decode c_GT_load 84 = .ok (.getfield 51, 3) := by decide +kernel
theorem d_GT_load_87 : decode c_GT_load 87 = .ok (.putfield 33, 3) := by decide +kernel
theorem d_GT_load_90 : decode c_GT_load 90 = .ok (.aload_n 0, 1) := by decide +kernel
theorem d_GT_load_91 : decode c_GT_load 91 = .ok (.getfield 30, 3) := by decide +kernel
theorem d_GT_load_94 : decode c_GT_load 94 = .ok (.ifCond .eq 5, 3) := by decide +kernel
theorem d_GT_load_97 : decode c_GT_load 97 = .ok (.iconst (-1), 1) := by decide +kernel
theorem d_GT_load_98 : decode c_GT_load 98 = .ok (.ireturn, 1) := by decide +kernel
theorem d_GT_load_99 : decode c_GT_load 99 = .ok (.aload_n 0, 1) := by decide +kernel
theorem d_GT_load_100 : decode c_GT_load 100 = .ok (.getfield 26, 3) := by decide +kernel
theorem d_GT_load_103 : decode c_GT_load 103 = .ok (.iload_n 1, 1) := by decide +kernel
theorem d_GT_load_104 : decode c_GT_load 104 = .ok (.aaload, 1) := by decide +kernel
theorem d_GT_load_105 : decode c_GT_load 105 = .ok (.ifnonnull 13, 3) := by decide +kernel
theorem d_GT_load_108 : decode c_GT_load 108 = .ok (.new 24, 3) := by decide +kernel
theorem d_GT_load_111 : decode c_GT_load 111 = .ok (.dup, 1) := by decide +kernel
theorem d_GT_load_112 : decode c_GT_load 112 = .ok (.invokespecial 54, 3) := by decide +kernel
theorem d_GT_load_115 : decode c_GT_load 115 = .ok (.goto 9, 3) := by decide +kernel
theorem d_GT_load_118 : decode c_GT_load 118 = .ok (.aload_n 0, 1) := by decide +kernel
theorem d_GT_load_119 : decode c_GT_load 119 = .ok (.getfield 26, 3) := by decide +kernel
theorem d_GT_load_122 : decode c_GT_load 122 = .ok (.iload_n 1, 1) := by decide +kernel
theorem d_GT_load_123 : decode c_GT_load 123 = .ok (.aaload, 1) := by decide +kernel
theorem d_GT_load_124 : decode c_GT_load 124 = .ok (.astore 5, 2) := by decide +kernel
theorem d_GT_load_126 : decode c_GT_load 126 = .ok (.aload 5, 2) := by decide +kernel
theorem d_GT_load_128 : decode c_GT_load 128 = .ok (.aload_n 0, 1) := by decide +kernel
theorem d_GT_load_129 : decode c_GT_load 129 = .ok (.getfield 20, 3) := by decide +kernel
theorem d_GT_load_132 : decode c_GT_load 132 = .ok (.getfield 55, 3) := by decide +kernel
theorem d_GT_load_135 : decode c_GT_load 135 = .ok (.aload_n 0, 1) := by decide +kernel
theorem d_GT_load_136 : decode c_GT_load 136 = .ok (.getfield 20, 3) := by decide +kernel
theorem d_GT_load_139 : decode c_GT_load 139 = .ok (.getfield 58, 3) := by decide +kernel
theorem d_GT_load_142 : decode c_GT_load 142 = .ok (.iload_n 2, 1) := by decide +kernel
theorem d_GT_load_143 : decode c_GT_load 143 = .ok (.iload_n 3, 1) := by decide +kernel
theorem d_GT_load_144 : decode c_GT_load 144 = .ok (.invokevirtual 61, 3) := by decide +kernel
theorem d_GT_load_147 : decode c_GT_load 147 = .ok (.aload_n 0, 1) := by decide +kernel
theorem d_GT_load_148 : decode c_GT_load 148 = .ok (.getfield 26, 3) := by decide +kernel
theorem d_GT_load_151 : decode c_GT_load 151 = .ok (.iload_n 1, 1) := by decide +kernel
theorem d_GT_load_152 : decode c_GT_load 152 = .ok (.aload 5, 2) := by decide +kernel
theorem d_GT_load_154 : decode c_GT_load 154 = .ok (.aastore, 1) := by decide +kernel
theorem d_GT_load_155 : decode c_GT_load 155 = .ok (.aload_n 0, 1) := by decide +kernel
theorem d_GT_load_156 : decode c_GT_load 156 = .ok (.getfield 20, 3) := by decide +kernel
theorem d_GT_load_159 : decode c_GT_load 159 = .ok (.getfield 58, 3) := by decide +kernel
theorem d_GT_load_162 : decode c_GT_load 162 = .ok (.ireturn, 1) := by decide +kernel
theorem d_GT_fault_0 : decode c_GT_fault 0 = .ok (.iload_n 1, 1) := by decide +kernel
theorem d_GT_fault_1 : decode c_GT_fault 1 = .ok (.lookupswitch 37 #[(0, 27), (1, 32)], 27) := by decide +kernel
theorem d_GT_fault_28 : decode c_GT_fault 28 = .ok (.aload_n 0, 1) := by decide +kernel
theorem d_GT_fault_29 : decode c_GT_fault 29 = .ok (.getfield 30, 3) := by decide +kernel
theorem d_GT_fault_32 : decode c_GT_fault 32 = .ok (.ireturn, 1) := by decide +kernel
theorem d_GT_fault_33 : decode c_GT_fault 33 = .ok (.aload_n 0, 1) := by decide +kernel
theorem d_GT_fault_34 : decode c_GT_fault 34 = .ok (.getfield 33, 3) := by decide +kernel
theorem d_GT_fault_37 : decode c_GT_fault 37 = .ok (.ireturn, 1) := by decide +kernel
theorem d_GT_fault_38 : decode c_GT_fault 38 = .ok (.iconst (-1), 1) := by decide +kernel
theorem d_GT_fault_39 : decode c_GT_fault 39 = .ok (.ireturn, 1) := by decide +kernel
theorem d_GT_run_0 : decode c_GT_run 0 = .ok (.aload_n 0, 1) := by decide +kernel
theorem d_GT_run_1 : decode c_GT_run 1 = .ok (.iload_n 1, 1) := by decide +kernel
theorem d_GT_run_2 : decode c_GT_run 2 = .ok (.invokevirtual 65, 3) := by decide +kernel
theorem d_GT_run_5 : decode c_GT_run 5 = .ok (.astore_n 3, 1) := by decide +kernel
theorem d_GT_run_6 : decode c_GT_run 6 = .ok (.aload_n 3, 1) := by decide +kernel
theorem d_GT_run_7 : decode c_GT_run 7 = .ok (.ifnull 14, 3) := by decide +kernel
theorem d_GT_run_10 : decode c_GT_run 10 = .ok (.iload_n 2, 1) := by decide +kernel
theorem d_GT_run_11 : decode c_GT_run 11 = .ok (.ifCond .lt 10, 3) := by decide +kernel
theorem d_GT_run_14 : decode c_GT_run 14 = .ok (.iload_n 2, 1) := by decide +kernel
theorem d_GT_run_15 : decode c_GT_run 15 = .ok (.sipush 5000, 3) := by decide +kernel
theorem d_GT_run_18 : decode c_GT_run 18 = .ok (.if_icmp .le 5, 3) := by decide +kernel
theorem d_GT_run_21 : decode c_GT_run 21 = .ok (.iconst (-1), 1) := by decide +kernel
theorem d_GT_run_22 : decode c_GT_run 22 = .ok (.ireturn, 1) := by decide +kernel
theorem d_GT_run_23 : decode c_GT_run 23 = .ok (.aload_n 3, 1) := by decide +kernel
theorem d_GT_run_24 : decode c_GT_run 24 = .ok (.iload_n 2, 1) := by decide +kernel
theorem d_GT_run_25 : decode c_GT_run 25 = .ok (.invokevirtual 69, 3) := by decide +kernel
theorem d_GT_run_28 : decode c_GT_run 28 = .ok (.ireturn, 1) := by decide +kernel
theorem d_GT_type_0 : decode c_GT_type 0 = .ok (.aload_n 0, 1) := by decide +kernel
theorem d_GT_type_1 : decode c_GT_type 1 = .ok (.iload_n 1, 1) := by decide +kernel
theorem d_GT_type_2 : decode c_GT_type 2 = .ok (.invokevirtual 65, 3) := by decide +kernel
theorem d_GT_type_5 : decode c_GT_type 5 = .ok (.astore_n 3, 1) := by decide +kernel
theorem d_GT_type_6 : decode c_GT_type 6 = .ok (.aload_n 3, 1) := by decide +kernel
theorem d_GT_type_7 : decode c_GT_type 7 = .ok (.ifnull 14, 3) := by decide +kernel
theorem d_GT_type_10 : decode c_GT_type 10 = .ok (.iload_n 2, 1) := by decide +kernel
theorem d_GT_type_11 : decode c_GT_type 11 = .ok (.ifCond .lt 10, 3) := by decide +kernel
theorem d_GT_type_14 : decode c_GT_type 14 = .ok (.iload_n 2, 1) := by decide +kernel
theorem d_GT_type_15 : decode c_GT_type 15 = .ok (.sipush 255, 3) := by decide +kernel
theorem d_GT_type_18 : decode c_GT_type 18 = .ok (.if_icmp .le 5, 3) := by decide +kernel
theorem d_GT_type_21 : decode c_GT_type 21 = .ok (.iconst 0, 1) := by decide +kernel
theorem d_GT_type_22 : decode c_GT_type 22 = .ok (.ireturn, 1) := by decide +kernel
theorem d_GT_type_23 : decode c_GT_type 23 = .ok (.aload_n 3, 1) := by decide +kernel
theorem d_GT_type_24 : decode c_GT_type 24 = .ok (.getfield 73, 3) := by decide +kernel
theorem d_GT_type_27 : decode c_GT_type 27 = .ok (.getfield 77, 3) := by decide +kernel
theorem d_GT_type_30 : decode c_GT_type 30 = .ok (.iload_n 2, 1) := by decide +kernel
theorem d_GT_type_31 : decode c_GT_type 31 = .ok (.invokevirtual 83, 3) := by decide +kernel
theorem d_GT_type_34 : decode c_GT_type 34 = .ok (.ireturn, 1) := by decide +kernel
theorem d_GT_look_0 : decode c_GT_look 0 = .ok (.aload_n 0, 1) := by decide +kernel
theorem d_GT_look_1 : decode c_GT_look 1 = .ok (.iload_n 1, 1) := by decide +kernel
theorem d_GT_look_2 : decode c_GT_look 2 = .ok (.invokevirtual 65, 3) := by decide +kernel
theorem d_GT_look_5 : decode c_GT_look 5 = .ok (.astore_n 3, 1) := by decide +kernel
theorem d_GT_look_6 : decode c_GT_look 6 = .ok (.aload_n 3, 1) := by decide +kernel
theorem d_GT_look_7 : decode c_GT_look 7 = .ok (.ifnonnull 7, 3) := by decide +kernel
theorem d_GT_look_10 : decode c_GT_look 10 = .ok (.iconst (-1), 1) := by decide +kernel
theorem d_GT_look_11 : decode c_GT_look 11 = .ok (.goto 8, 3) := by decide +kernel
theorem d_GT_look_14 : decode c_GT_look 14 = .ok (.aload_n 3, 1) := by decide +kernel
theorem d_GT_look_15 : decode c_GT_look 15 = .ok (.iload_n 2, 1) := by decide +kernel
theorem d_GT_look_16 : decode c_GT_look 16 = .ok (.invokevirtual 88, 3) := by decide +kernel
theorem d_GT_look_19 : decode c_GT_look 19 = .ok (.ireturn, 1) := by decide +kernel
theorem d_GT_word_0 : decode c_GT_word 0 = .ok (.aload_n 0, 1) := by decide +kernel
theorem d_GT_word_1 : decode c_GT_word 1 = .ok (.iload_n 1, 1) := by decide +kernel
theorem d_GT_word_2 : decode c_GT_word 2 = .ok (.invokevirtual 65, 3) := by decide +kernel
theorem d_GT_word_5 : decode c_GT_word 5 = .ok (.astore_n 3, 1) := by decide +kernel
theorem d_GT_word_6 : decode c_GT_word 6 = .ok (.aload_n 3, 1) := by decide +kernel
theorem d_GT_word_7 : decode c_GT_word 7 = .ok (.ifnonnull 7, 3) := by decide +kernel
theorem d_GT_word_10 : decode c_GT_word 10 = .ok (.iconst (-1), 1) := by decide +kernel
theorem d_GT_word_11 : decode c_GT_word 11 = .ok (.goto 8, 3) := by decide +kernel
theorem d_GT_word_14 : decode c_GT_word 14 = .ok (.aload_n 3, 1) := by decide +kernel
theorem d_GT_word_15 : decode c_GT_word 15 = .ok (.iload_n 2, 1) := by decide +kernel
theorem d_GT_word_16 : decode c_GT_word 16 = .ok (.invokevirtual 91, 3) := by decide +kernel
theorem d_GT_word_19 : decode c_GT_word 19 = .ok (.ireturn, 1) := by decide +kernel
theorem d_GT_output_0 : decode c_GT_output 0 = .ok (.aload_n 0, 1) := by decide +kernel
theorem d_GT_output_1 : decode c_GT_output 1 = .ok (.iload_n 1, 1) := by decide +kernel
theorem d_GT_output_2 : decode c_GT_output 2 = .ok (.invokevirtual 65, 3) := by decide +kernel
theorem d_GT_output_5 : decode c_GT_output 5 = .ok (.astore_n 3, 1) := by decide +kernel
theorem d_GT_output_6 : decode c_GT_output 6 = .ok (.aload_n 3, 1) := by decide +kernel
theorem d_GT_output_7 : decode c_GT_output 7 = .ok (.ifnonnull 7, 3) := by decide +kernel
theorem d_GT_output_10 : decode c_GT_output 10 = .ok (.iconst (-1), 1) := by decide +kernel
theorem d_GT_output_11 : decode c_GT_output 11 = .ok (.goto 14, 3) := by decide +kernel
theorem d_GT_output_14 : decode c_GT_output 14 = .ok (.aload_n 3, 1) := by decide +kernel
theorem d_GT_output_15 : decode c_GT_output 15 = .ok (.getfield 73, 3) := by decide +kernel
theorem d_GT_output_18 : decode c_GT_output 18 = .ok (.getfield 77, 3) := by decide +kernel
theorem d_GT_output_21 : decode c_GT_output 21 = .ok (.iload_n 2, 1) := by decide +kernel
theorem d_GT_output_22 : decode c_GT_output 22 = .ok (.invokevirtual 94, 3) := by decide +kernel
theorem d_GT_output_25 : decode c_GT_output 25 = .ok (.ireturn, 1) := by decide +kernel
theorem d_GT_disk_0 : decode c_GT_disk 0 = .ok (.aload_n 0, 1) := by decide +kernel
theorem d_GT_disk_1 : decode c_GT_disk 1 = .ok (.iload_n 1, 1) := by decide +kernel
theorem d_GT_disk_2 : decode c_GT_disk 2 = .ok (.invokevirtual 65, 3) := by decide +kernel
theorem d_GT_disk_5 : decode c_GT_disk 5 = .ok (.astore 4, 2) := by decide +kernel
theorem d_GT_disk_7 : decode c_GT_disk 7 = .ok (.aload 4, 2) := by decide +kernel
theorem d_GT_disk_9 : decode c_GT_disk 9 = .ok (.ifnonnull 7, 3) := by decide +kernel
theorem d_GT_disk_12 : decode c_GT_disk 12 = .ok (.iconst (-1), 1) := by decide +kernel
theorem d_GT_disk_13 : decode c_GT_disk 13 = .ok (.goto 13, 3) := by decide +kernel
theorem d_GT_disk_16 : decode c_GT_disk 16 = .ok (.aload 4, 2) := by decide +kernel
theorem d_GT_disk_18 : decode c_GT_disk 18 = .ok (.getfield 73, 3) := by decide +kernel
theorem d_GT_disk_21 : decode c_GT_disk 21 = .ok (.iload_n 2, 1) := by decide +kernel
theorem d_GT_disk_22 : decode c_GT_disk 22 = .ok (.iload_n 3, 1) := by decide +kernel
theorem d_GT_disk_23 : decode c_GT_disk 23 = .ok (.invokevirtual 97, 3) := by decide +kernel
theorem d_GT_disk_26 : decode c_GT_disk 26 = .ok (.ireturn, 1) := by decide +kernel
theorem d_GT_putOnTape_0 : decode c_GT_putOnTape 0 = .ok (.bipush 24, 2) := by decide +kernel
theorem d_GT_putOnTape_2 : decode c_GT_putOnTape 2 = .ok (.istore_n 2, 1) := by decide +kernel
theorem d_GT_putOnTape_3 : decode c_GT_putOnTape 3 = .ok (.iload_n 2, 1) := by decide +kernel
theorem d_GT_putOnTape_4 : decode c_GT_putOnTape 4 = .ok (.ifCond .lt 35, 3) := by decide +kernel
theorem d_GT_putOnTape_7 : decode c_GT_putOnTape 7 = .ok (.aload_n 0, 1) := by decide +kernel
theorem d_GT_putOnTape_8 : decode c_GT_putOnTape 8 = .ok (.getfield 9, 3) := by decide +kernel
theorem d_GT_putOnTape_11 : decode c_GT_putOnTape 11 = .ok (.aload_n 0, 1) := by decide +kernel
theorem d_GT_putOnTape_12 : decode c_GT_putOnTape 12 = .ok (.getfield 13, 3) := by decide +kernel
theorem d_GT_putOnTape_15 : decode c_GT_putOnTape 15 = .ok (.iload_n 1, 1) := by decide +kernel
theorem d_GT_putOnTape_16 : decode c_GT_putOnTape 16 = .ok (.iload_n 2, 1) := by decide +kernel
theorem d_GT_putOnTape_17 : decode c_GT_putOnTape 17 = .ok (.iushr, 1) := by decide +kernel
theorem d_GT_putOnTape_18 : decode c_GT_putOnTape 18 = .ok (.sipush 255, 3) := by decide +kernel
theorem d_GT_putOnTape_21 : decode c_GT_putOnTape 21 = .ok (.iand, 1) := by decide +kernel
theorem d_GT_putOnTape_22 : decode c_GT_putOnTape 22 = .ok (.iastore, 1) := by decide +kernel
theorem d_GT_putOnTape_23 : decode c_GT_putOnTape 23 = .ok (.aload_n 0, 1) := by decide +kernel
theorem d_GT_putOnTape_24 : decode c_GT_putOnTape 24 = .ok (.dup, 1) := by decide +kernel
theorem d_GT_putOnTape_25 : decode c_GT_putOnTape 25 = .ok (.getfield 13, 3) := by decide +kernel
theorem d_GT_putOnTape_28 : decode c_GT_putOnTape 28 = .ok (.iconst 1, 1) := by decide +kernel
theorem d_GT_putOnTape_29 : decode c_GT_putOnTape 29 = .ok (.iadd, 1) := by decide +kernel
theorem d_GT_putOnTape_30 : decode c_GT_putOnTape 30 = .ok (.putfield 13, 3) := by decide +kernel
theorem d_GT_putOnTape_33 : decode c_GT_putOnTape 33 = .ok (.iinc 2 (-8), 3) := by decide +kernel
theorem d_GT_putOnTape_36 : decode c_GT_putOnTape 36 = .ok (.goto (-33), 3) := by decide +kernel
theorem d_GT_putOnTape_39 : decode c_GT_putOnTape 39 = .ok (.return_, 1) := by decide +kernel
theorem d_GT_isGuest_0 : decode c_GT_isGuest 0 = .ok (.iload_n 0, 1) := by decide +kernel
theorem d_GT_isGuest_1 : decode c_GT_isGuest 1 = .ok (.ifCond .lt 12, 3) := by decide +kernel
theorem d_GT_isGuest_4 : decode c_GT_isGuest 4 = .ok (.iload_n 0, 1) := by decide +kernel
theorem d_GT_isGuest_5 : decode c_GT_isGuest 5 = .ok (.iconst 3, 1) := by decide +kernel
theorem d_GT_isGuest_6 : decode c_GT_isGuest 6 = .ok (.if_icmp .ge 7, 3) := by decide +kernel
theorem d_GT_isGuest_9 : decode c_GT_isGuest 9 = .ok (.iconst 1, 1) := by decide +kernel
theorem d_GT_isGuest_10 : decode c_GT_isGuest 10 = .ok (.goto 4, 3) := by decide +kernel
theorem d_GT_isGuest_13 : decode c_GT_isGuest 13 = .ok (.iconst 0, 1) := by decide +kernel
theorem d_GT_isGuest_14 : decode c_GT_isGuest 14 = .ok (.ireturn, 1) := by decide +kernel
theorem d_GT_guestAt_0 : decode c_GT_guestAt 0 = .ok (.iload_n 1, 1) := by decide +kernel
theorem d_GT_guestAt_1 : decode c_GT_guestAt 1 = .ok (.invokestatic 40, 3) := by decide +kernel
theorem d_GT_guestAt_4 : decode c_GT_guestAt 4 = .ok (.ifCond .eq 12, 3) := by decide +kernel
theorem d_GT_guestAt_7 : decode c_GT_guestAt 7 = .ok (.aload_n 0, 1) := by decide +kernel
theorem d_GT_guestAt_8 : decode c_GT_guestAt 8 = .ok (.getfield 26, 3) := by decide +kernel
theorem d_GT_guestAt_11 : decode c_GT_guestAt 11 = .ok (.iload_n 1, 1) := by decide +kernel
theorem d_GT_guestAt_12 : decode c_GT_guestAt 12 = .ok (.aaload, 1) := by decide +kernel
theorem d_GT_guestAt_13 : decode c_GT_guestAt 13 = .ok (.goto 4, 3) := by decide +kernel
theorem d_GT_guestAt_16 : decode c_GT_guestAt 16 = .ok (.aconst_null, 1) := by decide +kernel
theorem d_GT_guestAt_17 : decode c_GT_guestAt 17 = .ok (.areturn, 1) := by decide +kernel
theorem d_CO_init_0 : decode c_CO_init 0 = .ok (.aload_n 0, 1) := by decide +kernel
theorem d_CO_init_1 : decode c_CO_init 1 = .ok (.invokespecial 3, 3) := by decide +kernel
theorem d_CO_init_4 : decode c_CO_init 4 = .ok (.aload_n 0, 1) := by decide +kernel
theorem d_CO_init_5 : decode c_CO_init 5 = .ok (.bipush 100, 2) := by decide +kernel
theorem d_CO_init_7 : decode c_CO_init 7 = .ok (.newarray .int, 2) := by decide +kernel
theorem d_CO_init_9 : decode c_CO_init 9 = .ok (.putfield 11, 3) := by decide +kernel
theorem d_CO_init_12 : decode c_CO_init 12 = .ok (.aload_n 0, 1) := by decide +kernel
theorem d_CO_init_13 : decode c_CO_init 13 = .ok (.sipush 500, 3) := by decide +kernel
theorem d_CO_init_16 : decode c_CO_init 16 = .ok (.newarray .int, 2) := by decide +kernel
theorem d_CO_init_18 : decode c_CO_init 18 = .ok (.putfield 15, 3) := by decide +kernel
theorem d_CO_init_21 : decode c_CO_init 21 = .ok (.return_, 1) := by decide +kernel
theorem d_CO_clear_0 : decode c_CO_clear 0 = .ok (.aload_n 0, 1) := by decide +kernel
theorem d_CO_clear_1 : decode c_CO_clear 1 = .ok (.iconst 0, 1) := by decide +kernel
theorem d_CO_clear_2 : decode c_CO_clear 2 = .ok (.putfield 18, 3) := by decide +kernel
theorem d_CO_clear_5 : decode c_CO_clear 5 = .ok (.aload_n 0, 1) := by decide +kernel
theorem d_CO_clear_6 : decode c_CO_clear 6 = .ok (.iconst 0, 1) := by decide +kernel
theorem d_CO_clear_7 : decode c_CO_clear 7 = .ok (.putfield 22, 3) := by decide +kernel
theorem d_CO_clear_10 : decode c_CO_clear 10 = .ok (.aload_n 0, 1) := by decide +kernel
theorem d_CO_clear_11 : decode c_CO_clear 11 = .ok (.iconst 0, 1) := by decide +kernel
theorem d_CO_clear_12 : decode c_CO_clear 12 = .ok (.putfield 25, 3) := by decide +kernel
theorem d_CO_clear_15 : decode c_CO_clear 15 = .ok (.return_, 1) := by decide +kernel
theorem d_CO_isTaken_0 : decode c_CO_isTaken 0 = .ok (.aload_n 0, 1) := by decide +kernel
theorem d_CO_isTaken_1 : decode c_CO_isTaken 1 = .ok (.getfield 22, 3) := by decide +kernel
theorem d_CO_isTaken_4 : decode c_CO_isTaken 4 = .ok (.bipush 100, 2) := by decide +kernel
theorem d_CO_isTaken_6 : decode c_CO_isTaken 6 = .ok (.if_icmp .lt 5, 3) := by decide +kernel
theorem d_CO_isTaken_9 : decode c_CO_isTaken 9 = .ok (.iconst 0, 1) := by decide +kernel
theorem d_CO_isTaken_10 : decode c_CO_isTaken 10 = .ok (.ireturn, 1) := by decide +kernel
theorem d_CO_isTaken_11 : decode c_CO_isTaken 11 = .ok (.aload_n 0, 1) := by decide +kernel
theorem d_CO_isTaken_12 : decode c_CO_isTaken 12 = .ok (.getfield 11, 3) := by decide +kernel
theorem d_CO_isTaken_15 : decode c_CO_isTaken 15 = .ok (.aload_n 0, 1) := by decide +kernel
theorem d_CO_isTaken_16 : decode c_CO_isTaken 16 = .ok (.getfield 18, 3) := by decide +kernel
theorem d_CO_isTaken_19 : decode c_CO_isTaken 19 = .ok (.aload_n 0, 1) := by decide +kernel
theorem d_CO_isTaken_20 : decode c_CO_isTaken 20 = .ok (.getfield 22, 3) := by decide +kernel
theorem d_CO_isTaken_23 : decode c_CO_isTaken 23 = .ok (.iadd, 1) := by decide +kernel
theorem d_CO_isTaken_24 : decode c_CO_isTaken 24 = .ok (.bipush 100, 2) := by decide +kernel
theorem d_CO_isTaken_26 : decode c_CO_isTaken 26 = .ok (.irem, 1) := by decide +kernel
theorem d_CO_isTaken_27 : decode c_CO_isTaken 27 = .ok (.iload_n 1, 1) := by decide +kernel
theorem d_CO_isTaken_28 : decode c_CO_isTaken 28 = .ok (.iastore, 1) := by decide +kernel
theorem d_CO_isTaken_29 : decode c_CO_isTaken 29 = .ok (.aload_n 0, 1) := by decide +kernel
theorem d_CO_isTaken_30 : decode c_CO_isTaken 30 = .ok (.dup, 1) := by decide +kernel
theorem d_CO_isTaken_31 : decode c_CO_isTaken 31 = .ok (.getfield 22, 3) := by decide +kernel
theorem d_CO_isTaken_34 : decode c_CO_isTaken 34 = .ok (.iconst 1, 1) := by decide +kernel
theorem d_CO_isTaken_35 : decode c_CO_isTaken 35 = .ok (.iadd, 1) := by decide +kernel
theorem d_CO_isTaken_36 : decode c_CO_isTaken 36 = .ok (.putfield 22, 3) := by decide +kernel
theorem d_CO_isTaken_39 : decode c_CO_isTaken 39 = .ok (.iconst 1, 1) := by decide +kernel
theorem d_CO_isTaken_40 : decode c_CO_isTaken 40 = .ok (.ireturn, 1) := by decide +kernel
theorem d_CO_nextTyped_0 : decode c_CO_nextTyped 0 = .ok (.aload_n 0, 1) := by decide +kernel
theorem d_CO_nextTyped_1 : decode c_CO_nextTyped 1 = .ok (.getfield 22, 3) := by decide +kernel
theorem d_CO_nextTyped_4 : decode c_CO_nextTyped 4 = .ok (.ifCond .ne 6, 3) := by decide +kernel
theorem d_CO_nextTyped_7 : decode c_CO_nextTyped 7 = .ok (.ldc 28, 2) := by decide +kernel
theorem d_CO_nextTyped_9 : decode c_CO_nextTyped 9 = .ok (.ireturn, 1) := by decide +kernel
theorem d_CO_nextTyped_10 : decode c_CO_nextTyped 10 = .ok (.aload_n 0, 1) := by decide +kernel
theorem d_CO_nextTyped_11 : decode c_CO_nextTyped 11 = .ok (.getfield 11, 3) := by decide +kernel
theorem d_CO_nextTyped_14 : decode c_CO_nextTyped 14 = .ok (.aload_n 0, 1) := by decide +kernel
theorem d_CO_nextTyped_15 : decode c_CO_nextTyped 15 = .ok (.getfield 18, 3) := by decide +kernel
theorem d_CO_nextTyped_18 : decode c_CO_nextTyped 18 = .ok (.iaload, 1) := by decide +kernel
theorem d_CO_nextTyped_19 : decode c_CO_nextTyped 19 = .ok (.istore_n 1, 1) := by decide +kernel
theorem d_CO_nextTyped_20 : decode c_CO_nextTyped 20 = .ok (.aload_n 0, 1) := by decide +kernel
theorem d_CO_nextTyped_21 : decode c_CO_nextTyped 21 = .ok (.aload_n 0, 1) := by decide +kernel
theorem d_CO_nextTyped_22 : decode c_CO_nextTyped 22 = .ok (.getfield 18, 3) := by decide +kernel
theorem d_CO_nextTyped_25 : decode c_CO_nextTyped 25 = .ok (.iconst 1, 1) := by decide +kernel
theorem d_CO_nextTyped_26 : decode c_CO_nextTyped 26 = .ok (.iadd, 1) := by decide +kernel
theorem d_CO_nextTyped_27 : decode c_CO_nextTyped 27 = .ok (.bipush 100, 2) := by decide +kernel
theorem d_CO_nextTyped_29 : decode c_CO_nextTyped 29 = .ok (.irem, 1) := by decide +kernel
theorem d_CO_nextTyped_30 : decode c_CO_nextTyped 30 = .ok (.putfield 18, 3) := by decide +kernel
theorem d_CO_nextTyped_33 : decode c_CO_nextTyped 33 = .ok (.aload_n 0, 1) := by decide +kernel
theorem d_CO_nextTyped_34 : decode c_CO_nextTyped 34 = .ok (.dup, 1) := by decide +kernel
theorem d_CO_nextTyped_35 : decode c_CO_nextTyped 35 = .ok (.getfield 22, 3) := by decide +kernel
theorem d_CO_nextTyped_38 : decode c_CO_nextTyped 38 = .ok (.iconst 1, 1) := by decide +kernel
theorem d_CO_nextTyped_39 : decode c_CO_nextTyped 39 = .ok (.isub, 1) := by decide +kernel
theorem d_CO_nextTyped_40 : decode c_CO_nextTyped 40 = .ok (.putfield 22, 3) := by decide +kernel
theorem d_CO_nextTyped_43 : decode c_CO_nextTyped 43 = .ok (.iload_n 1, 1) := by decide +kernel
theorem d_CO_nextTyped_44 : decode c_CO_nextTyped 44 = .ok (.ireturn, 1) := by decide +kernel
theorem d_CO_send_0 : decode c_CO_send 0 = .ok (.aload_n 0, 1) := by decide +kernel
theorem d_CO_send_1 : decode c_CO_send 1 = .ok (.getfield 25, 3) := by decide +kernel
theorem d_CO_send_4 : decode c_CO_send 4 = .ok (.ifCond .lt 23, 3) := by decide +kernel
theorem d_CO_send_7 : decode c_CO_send 7 = .ok (.aload_n 0, 1) := by decide +kernel
theorem d_CO_send_8 : decode c_CO_send 8 = .ok (.getfield 25, 3) := by decide +kernel
theorem d_CO_send_11 : decode c_CO_send 11 = .ok (.sipush 500, 3) := by decide +kernel
theorem d_CO_send_14 : decode c_CO_send 14 = .ok (.if_icmp .ge 13, 3) := by decide +kernel
theorem d_CO_send_17 : decode c_CO_send 17 = .ok (.aload_n 0, 1) := by decide +kernel
theorem d_CO_send_18 : decode c_CO_send 18 = .ok (.getfield 15, 3) := by decide +kernel
theorem d_CO_send_21 : decode c_CO_send 21 = .ok (.aload_n 0, 1) := by decide +kernel
theorem d_CO_send_22 : decode c_CO_send 22 = .ok (.getfield 25, 3) := by decide +kernel
theorem d_CO_send_25 : decode c_CO_send 25 = .ok (.iload_n 1, 1) := by decide +kernel
theorem d_CO_send_26 : decode c_CO_send 26 = .ok (.iastore, 1) := by decide +kernel
theorem d_CO_send_27 : decode c_CO_send 27 = .ok (.aload_n 0, 1) := by decide +kernel
theorem d_CO_send_28 : decode c_CO_send 28 = .ok (.dup, 1) := by decide +kernel
theorem d_CO_send_29 : decode c_CO_send 29 = .ok (.getfield 25, 3) := by decide +kernel
theorem d_CO_send_32 : decode c_CO_send 32 = .ok (.iconst 1, 1) := by decide +kernel
theorem d_CO_send_33 : decode c_CO_send 33 = .ok (.iadd, 1) := by decide +kernel
theorem d_CO_send_34 : decode c_CO_send 34 = .ok (.putfield 25, 3) := by decide +kernel
theorem d_CO_send_37 : decode c_CO_send 37 = .ok (.return_, 1) := by decide +kernel
theorem d_CO_sentByte_0 : decode c_CO_sentByte 0 = .ok (.iload_n 1, 1) := by decide +kernel
theorem d_CO_sentByte_1 : decode c_CO_sentByte 1 = .ok (.ifCond .lt 18, 3) := by decide +kernel
theorem d_CO_sentByte_4 : decode c_CO_sentByte 4 = .ok (.iload_n 1, 1) := by decide +kernel
theorem d_CO_sentByte_5 : decode c_CO_sentByte 5 = .ok (.aload_n 0, 1) := by decide +kernel
theorem d_CO_sentByte_6 : decode c_CO_sentByte 6 = .ok (.getfield 25, 3) := by decide +kernel
theorem d_CO_sentByte_9 : decode c_CO_sentByte 9 = .ok (.if_icmp .ge 10, 3) := by decide +kernel
theorem d_CO_sentByte_12 : decode c_CO_sentByte 12 = .ok (.iload_n 1, 1) := by decide +kernel
theorem d_CO_sentByte_13 : decode c_CO_sentByte 13 = .ok (.sipush 500, 3) := by decide +kernel
theorem d_CO_sentByte_16 : decode c_CO_sentByte 16 = .ok (.if_icmp .lt 7, 3) := by decide +kernel
theorem d_CO_sentByte_19 : decode c_CO_sentByte 19 = .ok (.iconst (-1), 1) := by decide +kernel
theorem d_CO_sentByte_20 : decode c_CO_sentByte 20 = .ok (.goto 9, 3) := by decide +kernel
theorem d_CO_sentByte_23 : decode c_CO_sentByte 23 = .ok (.aload_n 0, 1) := by decide +kernel
theorem d_CO_sentByte_24 : decode c_CO_sentByte 24 = .ok (.getfield 15, 3) := by decide +kernel
theorem d_CO_sentByte_27 : decode c_CO_sentByte 27 = .ok (.iload_n 1, 1) := by decide +kernel
theorem d_CO_sentByte_28 : decode c_CO_sentByte 28 = .ok (.iaload, 1) := by decide +kernel
theorem d_CO_sentByte_29 : decode c_CO_sentByte 29 = .ok (.ireturn, 1) := by decide +kernel
theorem d_GU_init_0 : decode c_GU_init 0 = .ok (.aload_n 0, 1) := by decide +kernel
theorem d_GU_init_1 : decode c_GU_init 1 = .ok (.invokespecial 3, 3) := by decide +kernel
theorem d_GU_init_4 : decode c_GU_init 4 = .ok (.aload_n 0, 1) := by decide +kernel
theorem d_GU_init_5 : decode c_GU_init 5 = .ok (.new 9, 3) := by decide +kernel
theorem d_GU_init_8 : decode c_GU_init 8 = .ok (.dup, 1) := by decide +kernel
theorem d_GU_init_9 : decode c_GU_init 9 = .ok (.sipush 1844, 3) := by decide +kernel
theorem d_GU_init_12 : decode c_GU_init 12 = .ok (.invokespecial 13, 3) := by decide +kernel
theorem d_GU_init_15 : decode c_GU_init 15 = .ok (.putfield 16, 3) := by decide +kernel
theorem d_GU_init_18 : decode c_GU_init 18 = .ok (.aload_n 0, 1) := by decide +kernel
theorem d_GU_init_19 : decode c_GU_init 19 = .ok (.iconst 0, 1) := by decide +kernel
theorem d_GU_init_20 : decode c_GU_init 20 = .ok (.putfield 22, 3) := by decide +kernel
theorem d_GU_init_23 : decode c_GU_init 23 = .ok (.aload_n 0, 1) := by decide +kernel
theorem d_GU_init_24 : decode c_GU_init 24 = .ok (.iconst 0, 1) := by decide +kernel
theorem d_GU_init_25 : decode c_GU_init 25 = .ok (.putfield 26, 3) := by decide +kernel
theorem d_GU_init_28 : decode c_GU_init 28 = .ok (.aload_n 0, 1) := by decide +kernel
theorem d_GU_init_29 : decode c_GU_init 29 = .ok (.iconst 0, 1) := by decide +kernel
theorem d_GU_init_30 : decode c_GU_init 30 = .ok (.putfield 29, 3) := by decide +kernel
theorem d_GU_init_33 : decode c_GU_init 33 = .ok (.aload_n 0, 1) := by decide +kernel
theorem d_GU_init_34 : decode c_GU_init 34 = .ok (.iconst 0, 1) := by decide +kernel
theorem d_GU_init_35 : decode c_GU_init 35 = .ok (.putfield 32, 3) := by decide +kernel
theorem d_GU_init_38 : decode c_GU_init 38 = .ok (.return_, 1) := by decide +kernel
theorem d_GU_begin_0 : decode c_GU_begin 0 = .ok (.aload_n 0, 1) := by decide +kernel
theorem d_GU_begin_1 : decode c_GU_begin 1 = .ok (.iload_n 3, 1) := by decide +kernel
theorem d_GU_begin_2 : decode c_GU_begin 2 = .ok (.putfield 22, 3) := by decide +kernel
theorem d_GU_begin_5 : decode c_GU_begin 5 = .ok (.aload_n 0, 1) := by decide +kernel
theorem d_GU_begin_6 : decode c_GU_begin 6 = .ok (.iload 4, 2) := by decide +kernel
theorem d_GU_begin_8 : decode c_GU_begin 8 = .ok (.putfield 26, 3) := by decide +kernel
theorem d_GU_begin_11 : decode c_GU_begin 11 = .ok (.aload_n 0, 1) := by decide +kernel
theorem d_GU_begin_12 : decode c_GU_begin 12 = .ok (.iload 4, 2) := by decide +kernel
theorem d_GU_begin_14 : decode c_GU_begin 14 = .ok (.sipush 410, 3) := by decide +kernel
theorem d_GU_begin_17 : decode c_GU_begin 17 = .ok (.imul, 1) := by decide +kernel
theorem d_GU_begin_18 : decode c_GU_begin 18 = .ok (.putfield 29, 3) := by decide +kernel
theorem d_GU_begin_21 : decode c_GU_begin 21 = .ok (.aload_n 0, 1) := by decide +kernel
theorem d_GU_begin_22 : decode c_GU_begin 22 = .ok (.iconst 0, 1) := by decide +kernel
theorem d_GU_begin_23 : decode c_GU_begin 23 = .ok (.putfield 32, 3) := by decide +kernel
theorem d_GU_begin_26 : decode c_GU_begin 26 = .ok (.aload_n 0, 1) := by decide +kernel
theorem d_GU_begin_27 : decode c_GU_begin 27 = .ok (.getfield 16, 3) := by decide +kernel
theorem d_GU_begin_30 : decode c_GU_begin 30 = .ok (.aload_n 0, 1) := by decide +kernel
theorem d_GU_begin_31 : decode c_GU_begin 31 = .ok (.getfield 29, 3) := by decide +kernel
theorem d_GU_begin_34 : decode c_GU_begin 34 = .ok (.iload_n 3, 1) := by decide +kernel
theorem d_GU_begin_35 : decode c_GU_begin 35 = .ok (.iadd, 1) := by decide +kernel
theorem d_GU_begin_36 : decode c_GU_begin 36 = .ok (.invokevirtual 35, 3) := by decide +kernel
theorem d_GU_begin_39 : decode c_GU_begin 39 = .ok (.iconst 0, 1) := by decide +kernel
theorem d_GU_begin_40 : decode c_GU_begin 40 = .ok (.istore 5, 2) := by decide +kernel
theorem d_GU_begin_42 : decode c_GU_begin 42 = .ok (.iload 5, 2) := by decide +kernel
theorem d_GU_begin_44 : decode c_GU_begin 44 = .ok (.iload 4, 2) := by decide +kernel
theorem d_GU_begin_46 : decode c_GU_begin 46 = .ok (.if_icmp .ge 28, 3) := by decide +kernel
theorem d_GU_begin_49 : decode c_GU_begin 49 = .ok (.aload_n 0, 1) := by decide +kernel
theorem d_GU_begin_50 : decode c_GU_begin 50 = .ok (.getfield 16, 3) := by decide +kernel
theorem d_GU_begin_53 : decode c_GU_begin 53 = .ok (.getstatic 38, 3) := by decide +kernel
theorem d_GU_begin_56 : decode c_GU_begin 56 = .ok (.sipush 410, 3) := by decide +kernel
theorem d_GU_begin_59 : decode c_GU_begin 59 = .ok (.iload 5, 2) := by decide +kernel
theorem d_GU_begin_61 : decode c_GU_begin 61 = .ok (.sipush 410, 3) := by decide +kernel
theorem d_GU_begin_64 : decode c_GU_begin 64 = .ok (.imul, 1) := by decide +kernel
theorem d_GU_begin_65 : decode c_GU_begin 65 = .ok (.invokevirtual 42, 3) := by decide +kernel
theorem d_GU_begin_68 : decode c_GU_begin 68 = .ok (.iinc 5 1, 3) := by decide +kernel
theorem d_GU_begin_71 : decode c_GU_begin 71 = .ok (.goto (-29), 3) := by decide +kernel
theorem d_GU_begin_74 : decode c_GU_begin 74 = .ok (.aload_n 0, 1) := by decide +kernel
theorem d_GU_begin_75 : decode c_GU_begin 75 = .ok (.getfield 16, 3) := by decide +kernel
theorem d_GU_begin_78 : decode c_GU_begin 78 = .ok (.aload_n 1, 1) := by decide +kernel
theorem d_GU_begin_79 : decode c_GU_begin 79 = .ok (.iload_n 2, 1) := by decide +kernel
theorem d_GU_begin_80 : decode c_GU_begin 80 = .ok (.aload_n 0, 1) := by decide +kernel
theorem d_GU_begin_81 : decode c_GU_begin 81 = .ok (.getfield 29, 3) := by decide +kernel
theorem d_GU_begin_84 : decode c_GU_begin 84 = .ok (.invokevirtual 42, 3) := by decide +kernel
theorem d_GU_begin_87 : decode c_GU_begin 87 = .ok (.aload_n 0, 1) := by decide +kernel
theorem d_GU_begin_88 : decode c_GU_begin 88 = .ok (.invokevirtual 46, 3) := by decide +kernel
theorem d_GU_begin_91 : decode c_GU_begin 91 = .ok (.return_, 1) := by decide +kernel
theorem d_GU_advance_0 : decode c_GU_advance 0 = .ok (.iconst 0, 1) := by decide +kernel
theorem d_GU_advance_1 : decode c_GU_advance 1 = .ok (.istore_n 2, 1) := by decide +kernel
theorem d_GU_advance_2 : decode c_GU_advance 2 = .ok (.iload_n 2, 1) := by decide +kernel
theorem d_GU_advance_3 : decode c_GU_advance 3 = .ok (.iload_n 1, 1) := by decide +kernel
theorem d_GU_advance_4 : decode c_GU_advance 4 = .ok (.if_icmp .ge 30, 3) := by decide +kernel
theorem d_GU_advance_7 : decode c_GU_advance 7 = .ok (.aload_n 0, 1) := by decide +kernel
theorem d_GU_advance_8 : decode c_GU_advance 8 = .ok (.getfield 16, 3) := by decide +kernel
theorem d_GU_advance_11 : decode c_GU_advance 11 = .ok (.getfield 49, 3) := by decide +kernel
theorem d_GU_advance_14 : decode c_GU_advance 14 = .ok (.ifCond .ne 20, 3) := by decide +kernel
theorem d_GU_advance_17 : decode c_GU_advance 17 = .ok (.aload_n 0, 1) := by decide +kernel
theorem d_GU_advance_18 : decode c_GU_advance 18 = .ok (.getfield 16, 3) := by decide +kernel
theorem d_GU_advance_21 : decode c_GU_advance 21 = .ok (.invokevirtual 53, 3) := by decide +kernel
theorem d_GU_advance_24 : decode c_GU_advance 24 = .ok (.aload_n 0, 1) := by decide +kernel
theorem d_GU_advance_25 : decode c_GU_advance 25 = .ok (.invokevirtual 46, 3) := by decide +kernel
theorem d_GU_advance_28 : decode c_GU_advance 28 = .ok (.iinc 2 1, 3) := by decide +kernel
theorem d_GU_advance_31 : decode c_GU_advance 31 = .ok (.goto (-29), 3) := by decide +kernel
theorem d_GU_advance_34 : decode c_GU_advance 34 = .ok (.aload_n 0, 1) := by decide +kernel
theorem d_GU_advance_35 : decode c_GU_advance 35 = .ok (.dup, 1) := by decide +kernel
theorem d_GU_advance_36 : decode c_GU_advance 36 = .ok (.getfield 32, 3) := by decide +kernel
theorem d_GU_advance_39 : decode c_GU_advance 39 = .ok (.iload_n 2, 1) := by decide +kernel
theorem d_GU_advance_40 : decode c_GU_advance 40 = .ok (.iadd, 1) := by decide +kernel
theorem d_GU_advance_41 : decode c_GU_advance 41 = .ok (.putfield 32, 3) := by decide +kernel
theorem d_GU_advance_44 : decode c_GU_advance 44 = .ok (.iload_n 2, 1) := by decide +kernel
theorem d_GU_advance_45 : decode c_GU_advance 45 = .ok (.ireturn, 1) := by decide +kernel
theorem d_GU_awaitTurn_0 : decode c_GU_awaitTurn 0 = .ok (.iconst 0, 1) := by decide +kernel
theorem d_GU_awaitTurn_1 : decode c_GU_awaitTurn 1 = .ok (.istore_n 1, 1) := by decide +kernel
theorem d_GU_awaitTurn_2 : decode c_GU_awaitTurn 2 = .ok (.iload_n 1, 1) := by decide +kernel
theorem d_GU_awaitTurn_3 : decode c_GU_awaitTurn 3 = .ok (.sipush 10000, 3) := by decide +kernel
theorem d_GU_awaitTurn_6 : decode c_GU_awaitTurn 6 = .ok (.if_icmp .ge 23, 3) := by decide +kernel
theorem d_GU_awaitTurn_9 : decode c_GU_awaitTurn 9 = .ok (.aload_n 0, 1) := by decide +kernel
theorem d_GU_awaitTurn_10 : decode c_GU_awaitTurn 10 = .ok (.invokevirtual 56, 3) := by decide +kernel
theorem d_GU_awaitTurn_13 : decode c_GU_awaitTurn 13 = .ok (.ifCond .ne 16, 3) := by decide +kernel
theorem d_GU_awaitTurn_16 : decode c_GU_awaitTurn 16 = .ok (.aload_n 0, 1) := by decide +kernel
theorem d_GU_awaitTurn_17 : decode c_GU_awaitTurn 17 = .ok (.getfield 16, 3) := by decide +kernel
theorem d_GU_awaitTurn_20 : decode c_GU_awaitTurn 20 = .ok (.invokevirtual 53, 3) := by decide +kernel
theorem d_GU_awaitTurn_23 : decode c_GU_awaitTurn 23 = .ok (.iinc 1 1, 3) := by decide +kernel
theorem d_GU_awaitTurn_26 : decode c_GU_awaitTurn 26 = .ok (.goto (-24), 3) := by decide +kernel
theorem d_GU_awaitTurn_29 : decode c_GU_awaitTurn 29 = .ok (.return_, 1) := by decide +kernel
theorem d_GU_isTurn_0 : decode c_GU_isTurn 0 = .ok (.aload_n 0, 1) := by decide +kernel
theorem d_GU_isTurn_1 : decode c_GU_isTurn 1 = .ok (.getfield 26, 3) := by decide +kernel
theorem d_GU_isTurn_4 : decode c_GU_isTurn 4 = .ok (.ifCond .eq 13, 3) := by decide +kernel
theorem d_GU_isTurn_7 : decode c_GU_isTurn 7 = .ok (.aload_n 0, 1) := by decide +kernel
theorem d_GU_isTurn_8 : decode c_GU_isTurn 8 = .ok (.getfield 16, 3) := by decide +kernel
theorem d_GU_isTurn_11 : decode c_GU_isTurn 11 = .ok (.getfield 49, 3) := by decide +kernel
theorem d_GU_isTurn_14 : decode c_GU_isTurn 14 = .ok (.ifCond .eq 5, 3) := by decide +kernel
theorem d_GU_isTurn_17 : decode c_GU_isTurn 17 = .ok (.iconst 1, 1) := by decide +kernel
theorem d_GU_isTurn_18 : decode c_GU_isTurn 18 = .ok (.ireturn, 1) := by decide +kernel
theorem d_GU_isTurn_19 : decode c_GU_isTurn 19 = .ok (.aload_n 0, 1) := by decide +kernel
theorem d_GU_isTurn_20 : decode c_GU_isTurn 20 = .ok (.getfield 16, 3) := by decide +kernel
theorem d_GU_isTurn_23 : decode c_GU_isTurn 23 = .ok (.getfield 60, 3) := by decide +kernel
theorem d_GU_isTurn_26 : decode c_GU_isTurn 26 = .ok (.iconst 1, 1) := by decide +kernel
theorem d_GU_isTurn_27 : decode c_GU_isTurn 27 = .ok (.if_icmp .eq 5, 3) := by decide +kernel
theorem d_GU_isTurn_30 : decode c_GU_isTurn 30 = .ok (.iconst 0, 1) := by decide +kernel
theorem d_GU_isTurn_31 : decode c_GU_isTurn 31 = .ok (.ireturn, 1) := by decide +kernel
theorem d_GU_isTurn_32 : decode c_GU_isTurn 32 = .ok (.aload_n 0, 1) := by decide +kernel
theorem d_GU_isTurn_33 : decode c_GU_isTurn 33 = .ok (.getfield 26, 3) := by decide +kernel
theorem d_GU_isTurn_36 : decode c_GU_isTurn 36 = .ok (.iconst 1, 1) := by decide +kernel
theorem d_GU_isTurn_37 : decode c_GU_isTurn 37 = .ok (.if_icmp .eq 17, 3) := by decide +kernel
theorem d_GU_isTurn_40 : decode c_GU_isTurn 40 = .ok (.aload_n 0, 1) := by decide +kernel
theorem d_GU_isTurn_41 : decode c_GU_isTurn 41 = .ok (.getfield 16, 3) := by decide +kernel
theorem d_GU_isTurn_44 : decode c_GU_isTurn 44 = .ok (.getfield 63, 3) := by decide +kernel
theorem d_GU_isTurn_47 : decode c_GU_isTurn 47 = .ok (.bipush 10, 2) := by decide +kernel
theorem d_GU_isTurn_49 : decode c_GU_isTurn 49 = .ok (.iaload, 1) := by decide +kernel
theorem d_GU_isTurn_50 : decode c_GU_isTurn 50 = .ok (.iconst 1, 1) := by decide +kernel
theorem d_GU_isTurn_51 : decode c_GU_isTurn 51 = .ok (.if_icmp .ne 7, 3) := by decide +kernel
theorem d_GU_isTurn_54 : decode c_GU_isTurn 54 = .ok (.iconst 1, 1) := by decide +kernel
theorem d_GU_isTurn_55 : decode c_GU_isTurn 55 = .ok (.goto 4, 3) := by decide +kernel
theorem d_GU_isTurn_58 : decode c_GU_isTurn 58 = .ok (.iconst 0, 1) := by decide +kernel
theorem d_GU_isTurn_59 : decode c_GU_isTurn 59 = .ok (.ireturn, 1) := by decide +kernel
theorem d_GU_told_0 : decode c_GU_told 0 = .ok (.iload_n 1, 1) := by decide +kernel
theorem d_GU_told_1 : decode c_GU_told 1 = .ok (.tableswitch 195 0 11 #[63, 68, 73, 97, 121, 126, 142, 158, 163, 174, 185, 190], 63) := by decide +kernel
theorem d_GU_told_64 : decode c_GU_told 64 = .ok (.aload_n 0, 1) := by decide +kernel
theorem d_GU_told_65 : decode c_GU_told 65 = .ok (.invokevirtual 66, 3) := by decide +kernel
theorem d_GU_told_68 : decode c_GU_told 68 = .ok (.ireturn, 1) := by decide +kernel
theorem d_GU_told_69 : decode c_GU_told 69 = .ok (.aload_n 0, 1) := by decide +kernel
theorem d_GU_told_70 : decode c_GU_told 70 = .ok (.invokevirtual 69, 3) := by decide +kernel
theorem d_GU_told_73 : decode c_GU_told 73 = .ok (.ireturn, 1) := by decide +kernel
theorem d_GU_told_74 : decode c_GU_told 74 = .ok (.aload_n 0, 1) := by decide +kernel
theorem d_GU_told_75 : decode c_GU_told 75 = .ok (.getfield 26, 3) := by decide +kernel
theorem d_GU_told_78 : decode c_GU_told 78 = .ok (.ifCond .ne 13, 3) := by decide +kernel
theorem d_GU_told_81 : decode c_GU_told 81 = .ok (.aload_n 0, 1) := by decide +kernel
theorem d_GU_told_82 : decode c_GU_told 82 = .ok (.getfield 16, 3) := by decide +kernel
theorem d_GU_told_85 : decode c_GU_told 85 = .ok (.getfield 72, 3) := by decide +kernel
theorem d_GU_told_88 : decode c_GU_told 88 = .ok (.goto 9, 3) := by decide +kernel
theorem d_GU_told_91 : decode c_GU_told 91 = .ok (.aload_n 0, 1) := by decide +kernel
theorem d_GU_told_92 : decode c_GU_told 92 = .ok (.bipush 11, 2) := by decide +kernel
theorem d_GU_told_94 : decode c_GU_told 94 = .ok (.invokevirtual 75, 3) := by decide +kernel
theorem d_GU_told_97 : decode c_GU_told 97 = .ok (.ireturn, 1) := by decide +kernel
theorem d_GU_told_98 : decode c_GU_told 98 = .ok (.aload_n 0, 1) := by decide +kernel
theorem d_GU_told_99 : decode c_GU_told 99 = .ok (.getfield 26, 3) := by decide +kernel
theorem d_GU_told_102 : decode c_GU_told 102 = .ok (.ifCond .ne 13, 3) := by decide +kernel
theorem d_GU_told_105 : decode c_GU_told 105 = .ok (.aload_n 0, 1) := by decide +kernel
theorem d_GU_told_106 : decode c_GU_told 106 = .ok (.getfield 16, 3) := by decide +kernel
theorem d_GU_told_109 : decode c_GU_told 109 = .ok (.getfield 79, 3) := by decide +kernel
theorem d_GU_told_112 : decode c_GU_told 112 = .ok (.goto 9, 3) := by decide +kernel
theorem d_GU_told_115 : decode c_GU_told 115 = .ok (.aload_n 0, 1) := by decide +kernel
theorem d_GU_told_116 : decode c_GU_told 116 = .ok (.bipush 12, 2) := by decide +kernel
theorem d_GU_told_118 : decode c_GU_told 118 = .ok (.invokevirtual 75, 3) := by decide +kernel
theorem d_GU_told_121 : decode c_GU_told 121 = .ok (.ireturn, 1) := by decide +kernel
theorem d_GU_told_122 : decode c_GU_told 122 = .ok (.aload_n 0, 1) := by decide +kernel
theorem d_GU_told_123 : decode c_GU_told 123 = .ok (.invokevirtual 82, 3) := by decide +kernel
theorem d_GU_told_126 : decode c_GU_told 126 = .ok (.ireturn, 1) := by decide +kernel
theorem d_GU_told_127 : decode c_GU_told 127 = .ok (.aload_n 0, 1) := by decide +kernel
theorem d_GU_told_128 : decode c_GU_told 128 = .ok (.getfield 16, 3) := by decide +kernel
theorem d_GU_told_131 : decode c_GU_told 131 = .ok (.getfield 85, 3) := by decide +kernel
theorem d_GU_told_134 : decode c_GU_told 134 = .ok (.ifCond .eq 7, 3) := by decide +kernel
theorem d_GU_told_137 : decode c_GU_told 137 = .ok (.iconst 1, 1) := by decide +kernel
theorem d_GU_told_138 : decode c_GU_told 138 = .ok (.goto 4, 3) := by decide +kernel
theorem d_GU_told_141 : decode c_GU_told 141 = .ok (.iconst 0, 1) := by decide +kernel
theorem d_GU_told_142 : decode c_GU_told 142 = .ok (.ireturn, 1) := by decide +kernel
theorem d_GU_told_143 : decode c_GU_told 143 = .ok (.aload_n 0, 1) := by decide +kernel
theorem d_GU_told_144 : decode c_GU_told 144 = .ok (.getfield 16, 3) := by decide +kernel
theorem d_GU_told_147 : decode c_GU_told 147 = .ok (.getfield 49, 3) := by decide +kernel
theorem d_GU_told_150 : decode c_GU_told 150 = .ok (.ifCond .eq 7, 3) := by decide +kernel
theorem d_GU_told_153 : decode c_GU_told 153 = .ok (.iconst 1, 1) := by decide +kernel
theorem d_GU_told_154 : decode c_GU_told 154 = .ok (.goto 4, 3) := by decide +kernel
theorem d_GU_told_157 : decode c_GU_told 157 = .ok (.iconst 0, 1) := by decide +kernel
theorem d_GU_told_158 : decode c_GU_told 158 = .ok (.ireturn, 1) := by decide +kernel
theorem d_GU_told_159 : decode c_GU_told 159 = .ok (.aload_n 0, 1) := by decide +kernel
theorem d_GU_told_160 : decode c_GU_told 160 = .ok (.getfield 32, 3) := by decide +kernel
theorem d_GU_told_163 : decode c_GU_told 163 = .ok (.ireturn, 1) := by decide +kernel
theorem d_GU_told_164 : decode c_GU_told 164 = .ok (.aload_n 0, 1) := by decide +kernel
theorem d_GU_told_165 : decode c_GU_told 165 = .ok (.getfield 16, 3) := by decide +kernel
theorem d_GU_told_168 : decode c_GU_told 168 = .ok (.getfield 88, 3) := by decide +kernel
theorem d_GU_told_171 : decode c_GU_told 171 = .ok (.getfield 92, 3) := by decide +kernel
theorem d_GU_told_174 : decode c_GU_told 174 = .ok (.ireturn, 1) := by decide +kernel
theorem d_GU_told_175 : decode c_GU_told 175 = .ok (.aload_n 0, 1) := by decide +kernel
theorem d_GU_told_176 : decode c_GU_told 176 = .ok (.getfield 16, 3) := by decide +kernel
theorem d_GU_told_179 : decode c_GU_told 179 = .ok (.getfield 88, 3) := by decide +kernel
theorem d_GU_told_182 : decode c_GU_told 182 = .ok (.getfield 97, 3) := by decide +kernel
theorem d_GU_told_185 : decode c_GU_told 185 = .ok (.ireturn, 1) := by decide +kernel
theorem d_GU_told_186 : decode c_GU_told 186 = .ok (.aload_n 0, 1) := by decide +kernel
theorem d_GU_told_187 : decode c_GU_told 187 = .ok (.getfield 22, 3) := by decide +kernel
theorem d_GU_told_190 : decode c_GU_told 190 = .ok (.ireturn, 1) := by decide +kernel
theorem d_GU_told_191 : decode c_GU_told 191 = .ok (.aload_n 0, 1) := by decide +kernel
theorem d_GU_told_192 : decode c_GU_told 192 = .ok (.getfield 26, 3) := by decide +kernel
theorem d_GU_told_195 : decode c_GU_told 195 = .ok (.ireturn, 1) := by decide +kernel
theorem d_GU_told_196 : decode c_GU_told 196 = .ok (.aload_n 0, 1) := by decide +kernel
theorem d_GU_told_197 : decode c_GU_told 197 = .ok (.getfield 16, 3) := by decide +kernel
theorem d_GU_told_200 : decode c_GU_told 200 = .ok (.iload_n 1, 1) := by decide +kernel
theorem d_GU_told_201 : decode c_GU_told 201 = .ok (.bipush 20, 2) := by decide +kernel
theorem d_GU_told_203 : decode c_GU_told 203 = .ok (.isub, 1) := by decide +kernel
theorem d_GU_told_204 : decode c_GU_told 204 = .ok (.invokevirtual 100, 3) := by decide +kernel
theorem d_GU_told_207 : decode c_GU_told 207 = .ok (.ireturn, 1) := by decide +kernel
theorem d_GU_mode_0 : decode c_GU_mode 0 = .ok (.aload_n 0, 1) := by decide +kernel
theorem d_GU_mode_1 : decode c_GU_mode 1 = .ok (.getfield 26, 3) := by decide +kernel
theorem d_GU_mode_4 : decode c_GU_mode 4 = .ok (.ifCond .ne 13, 3) := by decide +kernel
theorem d_GU_mode_7 : decode c_GU_mode 7 = .ok (.aload_n 0, 1) := by decide +kernel
theorem d_GU_mode_8 : decode c_GU_mode 8 = .ok (.getfield 16, 3) := by decide +kernel
theorem d_GU_mode_11 : decode c_GU_mode 11 = .ok (.getfield 60, 3) := by decide +kernel
theorem d_GU_mode_14 : decode c_GU_mode 14 = .ok (.goto 9, 3) := by decide +kernel
theorem d_GU_mode_17 : decode c_GU_mode 17 = .ok (.aload_n 0, 1) := by decide +kernel
theorem d_GU_mode_18 : decode c_GU_mode 18 = .ok (.bipush 10, 2) := by decide +kernel
theorem d_GU_mode_20 : decode c_GU_mode 20 = .ok (.invokevirtual 75, 3) := by decide +kernel
theorem d_GU_mode_23 : decode c_GU_mode 23 = .ok (.ireturn, 1) := by decide +kernel
theorem d_GU_pc_0 : decode c_GU_pc 0 = .ok (.aload_n 0, 1) := by decide +kernel
theorem d_GU_pc_1 : decode c_GU_pc 1 = .ok (.getfield 26, 3) := by decide +kernel
theorem d_GU_pc_4 : decode c_GU_pc 4 = .ok (.ifCond .le 21, 3) := by decide +kernel
theorem d_GU_pc_7 : decode c_GU_pc 7 = .ok (.aload_n 0, 1) := by decide +kernel
theorem d_GU_pc_8 : decode c_GU_pc 8 = .ok (.getfield 16, 3) := by decide +kernel
theorem d_GU_pc_11 : decode c_GU_pc 11 = .ok (.getfield 49, 3) := by decide +kernel
theorem d_GU_pc_14 : decode c_GU_pc 14 = .ok (.ifCond .eq 11, 3) := by decide +kernel
theorem d_GU_pc_17 : decode c_GU_pc 17 = .ok (.aload_n 0, 1) := by decide +kernel
theorem d_GU_pc_18 : decode c_GU_pc 18 = .ok (.iconst 1, 1) := by decide +kernel
theorem d_GU_pc_19 : decode c_GU_pc 19 = .ok (.invokevirtual 75, 3) := by decide +kernel
theorem d_GU_pc_22 : decode c_GU_pc 22 = .ok (.goto 10, 3) := by decide +kernel
theorem d_GU_pc_25 : decode c_GU_pc 25 = .ok (.aload_n 0, 1) := by decide +kernel
theorem d_GU_pc_26 : decode c_GU_pc 26 = .ok (.getfield 16, 3) := by decide +kernel
theorem d_GU_pc_29 : decode c_GU_pc 29 = .ok (.getfield 103, 3) := by decide +kernel
theorem d_GU_pc_32 : decode c_GU_pc 32 = .ok (.ireturn, 1) := by decide +kernel
theorem d_GU_timer_0 : decode c_GU_timer 0 = .ok (.aload_n 0, 1) := by decide +kernel
theorem d_GU_timer_1 : decode c_GU_timer 1 = .ok (.getfield 26, 3) := by decide +kernel
theorem d_GU_timer_4 : decode c_GU_timer 4 = .ok (.ifCond .le 19, 3) := by decide +kernel
theorem d_GU_timer_7 : decode c_GU_timer 7 = .ok (.aload_n 0, 1) := by decide +kernel
theorem d_GU_timer_8 : decode c_GU_timer 8 = .ok (.invokevirtual 66, 3) := by decide +kernel
theorem d_GU_timer_11 : decode c_GU_timer 11 = .ok (.ifCond .ne 12, 3) := by decide +kernel
theorem d_GU_timer_14 : decode c_GU_timer 14 = .ok (.aload_n 0, 1) := by decide +kernel
theorem d_GU_timer_15 : decode c_GU_timer 15 = .ok (.bipush 13, 2) := by decide +kernel
theorem d_GU_timer_17 : decode c_GU_timer 17 = .ok (.invokevirtual 75, 3) := by decide +kernel
theorem d_GU_timer_20 : decode c_GU_timer 20 = .ok (.goto 10, 3) := by decide +kernel
theorem d_GU_timer_23 : decode c_GU_timer 23 = .ok (.aload_n 0, 1) := by decide +kernel
theorem d_GU_timer_24 : decode c_GU_timer 24 = .ok (.getfield 16, 3) := by decide +kernel
theorem d_GU_timer_27 : decode c_GU_timer 27 = .ok (.getfield 105, 3) := by decide +kernel
theorem d_GU_timer_30 : decode c_GU_timer 30 = .ok (.ireturn, 1) := by decide +kernel
theorem d_GU_kept_0 : decode c_GU_kept 0 = .ok (.aload_n 0, 1) := by decide +kernel
theorem d_GU_kept_1 : decode c_GU_kept 1 = .ok (.getfield 29, 3) := by decide +kernel
theorem d_GU_kept_4 : decode c_GU_kept 4 = .ok (.sipush 410, 3) := by decide +kernel
theorem d_GU_kept_7 : decode c_GU_kept 7 = .ok (.isub, 1) := by decide +kernel
theorem d_GU_kept_8 : decode c_GU_kept 8 = .ok (.iload_n 1, 1) := by decide +kernel
theorem d_GU_kept_9 : decode c_GU_kept 9 = .ok (.iadd, 1) := by decide +kernel
theorem d_GU_kept_10 : decode c_GU_kept 10 = .ok (.istore_n 2, 1) := by decide +kernel
theorem d_GU_kept_11 : decode c_GU_kept 11 = .ok (.iload_n 2, 1) := by decide +kernel
theorem d_GU_kept_12 : decode c_GU_kept 12 = .ok (.ifCond .ge 7, 3) := by decide +kernel
theorem d_GU_kept_15 : decode c_GU_kept 15 = .ok (.iconst (-1), 1) := by decide +kernel
theorem d_GU_kept_16 : decode c_GU_kept 16 = .ok (.goto 12, 3) := by decide +kernel
theorem d_GU_kept_19 : decode c_GU_kept 19 = .ok (.aload_n 0, 1) := by decide +kernel
theorem d_GU_kept_20 : decode c_GU_kept 20 = .ok (.getfield 16, 3) := by decide +kernel
theorem d_GU_kept_23 : decode c_GU_kept 23 = .ok (.getfield 63, 3) := by decide +kernel
theorem d_GU_kept_26 : decode c_GU_kept 26 = .ok (.iload_n 2, 1) := by decide +kernel
theorem d_GU_kept_27 : decode c_GU_kept 27 = .ok (.iaload, 1) := by decide +kernel
theorem d_GU_kept_28 : decode c_GU_kept 28 = .ok (.ireturn, 1) := by decide +kernel
theorem d_GU_wordAt_0 : decode c_GU_wordAt 0 = .ok (.iload_n 1, 1) := by decide +kernel
theorem d_GU_wordAt_1 : decode c_GU_wordAt 1 = .ok (.ifCond .lt 11, 3) := by decide +kernel
theorem d_GU_wordAt_4 : decode c_GU_wordAt 4 = .ok (.iload_n 1, 1) := by decide +kernel
theorem d_GU_wordAt_5 : decode c_GU_wordAt 5 = .ok (.aload_n 0, 1) := by decide +kernel
theorem d_GU_wordAt_6 : decode c_GU_wordAt 6 = .ok (.getfield 22, 3) := by decide +kernel
theorem d_GU_wordAt_9 : decode c_GU_wordAt 9 = .ok (.if_icmp .lt 7, 3) := by decide +kernel
theorem d_GU_wordAt_12 : decode c_GU_wordAt 12 = .ok (.iconst (-1), 1) := by decide +kernel
theorem d_GU_wordAt_13 : decode c_GU_wordAt 13 = .ok (.goto 17, 3) := by decide +kernel
theorem d_GU_wordAt_16 : decode c_GU_wordAt 16 = .ok (.aload_n 0, 1) := by decide +kernel
theorem d_GU_wordAt_17 : decode c_GU_wordAt 17 = .ok (.getfield 16, 3) := by decide +kernel
theorem d_GU_wordAt_20 : decode c_GU_wordAt 20 = .ok (.getfield 63, 3) := by decide +kernel
theorem d_GU_wordAt_23 : decode c_GU_wordAt 23 = .ok (.aload_n 0, 1) := by decide +kernel
theorem d_GU_wordAt_24 : decode c_GU_wordAt 24 = .ok (.getfield 29, 3) := by decide +kernel
theorem d_GU_wordAt_27 : decode c_GU_wordAt 27 = .ok (.iload_n 1, 1) := by decide +kernel
theorem d_GU_wordAt_28 : decode c_GU_wordAt 28 = .ok (.iadd, 1) := by decide +kernel
theorem d_GU_wordAt_29 : decode c_GU_wordAt 29 = .ok (.iaload, 1) := by decide +kernel
theorem d_GU_wordAt_30 : decode c_GU_wordAt 30 = .ok (.ireturn, 1) := by decide +kernel
theorem d_MA_init_0 : decode c_MA_init 0 = .ok (.aload_n 0, 1) := by decide +kernel
theorem d_MA_init_1 : decode c_MA_init 1 = .ok (.invokespecial 3, 3) := by decide +kernel
theorem d_MA_init_4 : decode c_MA_init 4 = .ok (.aload_n 0, 1) := by decide +kernel
theorem d_MA_init_5 : decode c_MA_init 5 = .ok (.iload_n 1, 1) := by decide +kernel
theorem d_MA_init_6 : decode c_MA_init 6 = .ok (.newarray .int, 2) := by decide +kernel
theorem d_MA_init_8 : decode c_MA_init 8 = .ok (.putfield 9, 3) := by decide +kernel
theorem d_MA_init_11 : decode c_MA_init 11 = .ok (.aload_n 0, 1) := by decide +kernel
theorem d_MA_init_12 : decode c_MA_init 12 = .ok (.bipush 8, 2) := by decide +kernel
theorem d_MA_init_14 : decode c_MA_init 14 = .ok (.newarray .int, 2) := by decide +kernel
theorem d_MA_init_16 : decode c_MA_init 16 = .ok (.putfield 15, 3) := by decide +kernel
theorem d_MA_init_19 : decode c_MA_init 19 = .ok (.aload_n 0, 1) := by decide +kernel
theorem d_MA_init_20 : decode c_MA_init 20 = .ok (.sipush 128, 3) := by decide +kernel
theorem d_MA_init_23 : decode c_MA_init 23 = .ok (.newarray .int, 2) := by decide +kernel
theorem d_MA_init_25 : decode c_MA_init 25 = .ok (.putfield 18, 3) := by decide +kernel
theorem d_MA_init_28 : decode c_MA_init 28 = .ok (.aload_n 0, 1) := by decide +kernel
theorem d_MA_init_29 : decode c_MA_init 29 = .ok (.new 21, 3) := by decide +kernel
theorem d_MA_init_32 : decode c_MA_init 32 = .ok (.dup, 1) := by decide +kernel
theorem d_MA_init_33 : decode c_MA_init 33 = .ok (.invokespecial 23, 3) := by decide +kernel
theorem d_MA_init_36 : decode c_MA_init 36 = .ok (.putfield 24, 3) := by decide +kernel
theorem d_MA_init_39 : decode c_MA_init 39 = .ok (.aload_n 0, 1) := by decide +kernel
theorem d_MA_init_40 : decode c_MA_init 40 = .ok (.iload_n 1, 1) := by decide +kernel
theorem d_MA_init_41 : decode c_MA_init 41 = .ok (.putfield 28, 3) := by decide +kernel
theorem d_MA_init_44 : decode c_MA_init 44 = .ok (.return_, 1) := by decide +kernel
theorem d_MA_clear_0 : decode c_MA_clear 0 = .ok (.aload_n 0, 1) := by decide +kernel
theorem d_MA_clear_1 : decode c_MA_clear 1 = .ok (.getfield 9, 3) := by decide +kernel
theorem d_MA_clear_4 : decode c_MA_clear 4 = .ok (.iconst 0, 1) := by decide +kernel
theorem d_MA_clear_5 : decode c_MA_clear 5 = .ok (.invokestatic 32, 3) := by decide +kernel
theorem d_MA_clear_8 : decode c_MA_clear 8 = .ok (.aload_n 0, 1) := by decide +kernel
theorem d_MA_clear_9 : decode c_MA_clear 9 = .ok (.getfield 15, 3) := by decide +kernel
theorem d_MA_clear_12 : decode c_MA_clear 12 = .ok (.iconst 0, 1) := by decide +kernel
theorem d_MA_clear_13 : decode c_MA_clear 13 = .ok (.invokestatic 32, 3) := by decide +kernel
theorem d_MA_clear_16 : decode c_MA_clear 16 = .ok (.aload_n 0, 1) := by decide +kernel
theorem d_MA_clear_17 : decode c_MA_clear 17 = .ok (.getfield 18, 3) := by decide +kernel
theorem d_MA_clear_20 : decode c_MA_clear 20 = .ok (.iconst 0, 1) := by decide +kernel
theorem d_MA_clear_21 : decode c_MA_clear 21 = .ok (.invokestatic 32, 3) := by decide +kernel
theorem d_MA_clear_24 : decode c_MA_clear 24 = .ok (.aload_n 0, 1) := by decide +kernel
theorem d_MA_clear_25 : decode c_MA_clear 25 = .ok (.getfield 24, 3) := by decide +kernel
theorem d_MA_clear_28 : decode c_MA_clear 28 = .ok (.invokevirtual 38, 3) := by decide +kernel
theorem d_MA_clear_31 : decode c_MA_clear 31 = .ok (.aload_n 0, 1) := by decide +kernel
theorem d_MA_clear_32 : decode c_MA_clear 32 = .ok (.iload_n 1, 1) := by decide +kernel
theorem d_MA_clear_33 : decode c_MA_clear 33 = .ok (.putfield 28, 3) := by decide +kernel
theorem d_MA_clear_36 : decode c_MA_clear 36 = .ok (.aload_n 0, 1) := by decide +kernel
theorem d_MA_clear_37 : decode c_MA_clear 37 = .ok (.iconst 0, 1) := by decide +kernel
theorem d_MA_clear_38 : decode c_MA_clear 38 = .ok (.putfield 41, 3) := by decide +kernel
theorem d_MA_clear_41 : decode c_MA_clear 41 = .ok (.aload_n 0, 1) := by decide +kernel
theorem d_MA_clear_42 : decode c_MA_clear 42 = .ok (.bipush 16, 2) := by decide +kernel
theorem d_MA_clear_44 : decode c_MA_clear 44 = .ok (.putfield 44, 3) := by decide +kernel
theorem d_MA_clear_47 : decode c_MA_clear 47 = .ok (.aload_n 0, 1) := by decide +kernel
theorem d_MA_clear_48 : decode c_MA_clear 48 = .ok (.iconst 0, 1) := by decide +kernel
theorem d_MA_clear_49 : decode c_MA_clear 49 = .ok (.putfield 47, 3) := by decide +kernel
theorem d_MA_clear_52 : decode c_MA_clear 52 = .ok (.aload_n 0, 1) := by decide +kernel
theorem d_MA_clear_53 : decode c_MA_clear 53 = .ok (.iload_n 1, 1) := by decide +kernel
theorem d_MA_clear_54 : decode c_MA_clear 54 = .ok (.putfield 50, 3) := by decide +kernel
theorem d_MA_clear_57 : decode c_MA_clear 57 = .ok (.aload_n 0, 1) := by decide +kernel
theorem d_MA_clear_58 : decode c_MA_clear 58 = .ok (.iload_n 1, 1) := by decide +kernel
theorem d_MA_clear_59 : decode c_MA_clear 59 = .ok (.putfield 53, 3) := by decide +kernel
theorem d_MA_clear_62 : decode c_MA_clear 62 = .ok (.aload_n 0, 1) := by decide +kernel
theorem d_MA_clear_63 : decode c_MA_clear 63 = .ok (.iconst 0, 1) := by decide +kernel
theorem d_MA_clear_64 : decode c_MA_clear 64 = .ok (.putfield 56, 3) := by decide +kernel
theorem d_MA_clear_67 : decode c_MA_clear 67 = .ok (.aload_n 0, 1) := by decide +kernel
theorem d_MA_clear_68 : decode c_MA_clear 68 = .ok (.iconst 0, 1) := by decide +kernel
theorem d_MA_clear_69 : decode c_MA_clear 69 = .ok (.putfield 59, 3) := by decide +kernel
theorem d_MA_clear_72 : decode c_MA_clear 72 = .ok (.aload_n 0, 1) := by decide +kernel
theorem d_MA_clear_73 : decode c_MA_clear 73 = .ok (.iconst 0, 1) := by decide +kernel
theorem d_MA_clear_74 : decode c_MA_clear 74 = .ok (.putfield 63, 3) := by decide +kernel
theorem d_MA_clear_77 : decode c_MA_clear 77 = .ok (.return_, 1) := by decide +kernel
theorem d_MA_copyIn_0 : decode c_MA_copyIn 0 = .ok (.iconst 0, 1) := by decide +kernel
theorem d_MA_copyIn_1 : decode c_MA_copyIn 1 = .ok (.istore 4, 2) := by decide +kernel
theorem d_MA_copyIn_3 : decode c_MA_copyIn 3 = .ok (.iload 4, 2) := by decide +kernel
theorem d_MA_copyIn_5 : decode c_MA_copyIn 5 = .ok (.iload_n 2, 1) := by decide +kernel
theorem d_MA_copyIn_6 : decode c_MA_copyIn 6 = .ok (.if_icmp .ge 40, 3) := by decide +kernel
theorem d_MA_copyIn_9 : decode c_MA_copyIn 9 = .ok (.iload 4, 2) := by decide +kernel
theorem d_MA_copyIn_11 : decode c_MA_copyIn 11 = .ok (.aload_n 1, 1) := by decide +kernel
theorem d_MA_copyIn_12 : decode c_MA_copyIn 12 = .ok (.arraylength, 1) := by decide +kernel
theorem d_MA_copyIn_13 : decode c_MA_copyIn 13 = .ok (.if_icmp .ge 33, 3) := by decide +kernel
theorem d_MA_copyIn_16 : decode c_MA_copyIn 16 = .ok (.iload_n 3, 1) := by decide +kernel
theorem d_MA_copyIn_17 : decode c_MA_copyIn 17 = .ok (.iload 4, 2) := by decide +kernel
theorem d_MA_copyIn_19 : decode c_MA_copyIn 19 = .ok (.iadd, 1) := by decide +kernel
theorem d_MA_copyIn_20 : decode c_MA_copyIn 20 = .ok (.aload_n 0, 1) := by decide +kernel
theorem d_MA_copyIn_21 : decode c_MA_copyIn 21 = .ok (.getfield 28, 3) := by decide +kernel
theorem d_MA_copyIn_24 : decode c_MA_copyIn 24 = .ok (.if_icmp .ge 22, 3) := by decide +kernel
theorem d_MA_copyIn_27 : decode c_MA_copyIn 27 = .ok (.aload_n 0, 1) := by decide +kernel
theorem d_MA_copyIn_28 : decode c_MA_copyIn 28 = .ok (.getfield 9, 3) := by decide +kernel
theorem d_MA_copyIn_31 : decode c_MA_copyIn 31 = .ok (.iload_n 3, 1) := by decide +kernel
theorem d_MA_copyIn_32 : decode c_MA_copyIn 32 = .ok (.iload 4, 2) := by decide +kernel
theorem d_MA_copyIn_34 : decode c_MA_copyIn 34 = .ok (.iadd, 1) := by decide +kernel
theorem d_MA_copyIn_35 : decode c_MA_copyIn 35 = .ok (.aload_n 1, 1) := by decide +kernel
theorem d_MA_copyIn_36 : decode c_MA_copyIn 36 = .ok (.iload 4, 2) := by decide +kernel
theorem d_MA_copyIn_38 : decode c_MA_copyIn 38 = .ok (.iaload, 1) := by decide +kernel
theorem d_MA_copyIn_39 : decode c_MA_copyIn 39 = .ok (.iastore, 1) := by decide +kernel
theorem d_MA_copyIn_40 : decode c_MA_copyIn 40 = .ok (.iinc 4 1, 3) := by decide +kernel
theorem d_MA_copyIn_43 : decode c_MA_copyIn 43 = .ok (.goto (-40), 3) := by decide +kernel
theorem d_MA_copyIn_46 : decode c_MA_copyIn 46 = .ok (.return_, 1) := by decide +kernel
theorem d_MA_register_0 : decode c_MA_register 0 = .ok (.iload_n 1, 1) := by decide +kernel
theorem d_MA_register_1 : decode c_MA_register 1 = .ok (.ifCond .lt 9, 3) := by decide +kernel
theorem d_MA_register_4 : decode c_MA_register 4 = .ok (.iload_n 1, 1) := by decide +kernel
theorem d_MA_register_5 : decode c_MA_register 5 = .ok (.bipush 8, 2) := by decide +kernel
theorem d_MA_register_7 : decode c_MA_register 7 = .ok (.if_icmp .lt 7, 3) := by decide +kernel
theorem d_MA_register_10 : decode c_MA_register 10 = .ok (.iconst (-1), 1) := by decide +kernel
theorem d_MA_register_11 : decode c_MA_register 11 = .ok (.goto 9, 3) := by decide +kernel
theorem d_MA_register_14 : decode c_MA_register 14 = .ok (.aload_n 0, 1) := by decide +kernel
theorem d_MA_register_15 : decode c_MA_register 15 = .ok (.getfield 15, 3) := by decide +kernel
theorem d_MA_register_18 : decode c_MA_register 18 = .ok (.iload_n 1, 1) := by decide +kernel
theorem d_MA_register_19 : decode c_MA_register 19 = .ok (.iaload, 1) := by decide +kernel
theorem d_MA_register_20 : decode c_MA_register 20 = .ok (.ireturn, 1) := by decide +kernel
theorem d_MA_blockWord_0 : decode c_MA_blockWord 0 = .ok (.iload_n 1, 1) := by decide +kernel
theorem d_MA_blockWord_1 : decode c_MA_blockWord 1 = .ok (.ifCond .lt 19, 3) := by decide +kernel
theorem d_MA_blockWord_4 : decode c_MA_blockWord 4 = .ok (.iload_n 1, 1) := by decide +kernel
theorem d_MA_blockWord_5 : decode c_MA_blockWord 5 = .ok (.bipush 8, 2) := by decide +kernel
theorem d_MA_blockWord_7 : decode c_MA_blockWord 7 = .ok (.if_icmp .ge 13, 3) := by decide +kernel
theorem d_MA_blockWord_10 : decode c_MA_blockWord 10 = .ok (.iload_n 2, 1) := by decide +kernel
theorem d_MA_blockWord_11 : decode c_MA_blockWord 11 = .ok (.ifCond .lt 9, 3) := by decide +kernel
theorem d_MA_blockWord_14 : decode c_MA_blockWord 14 = .ok (.iload_n 2, 1) := by decide +kernel
theorem d_MA_blockWord_15 : decode c_MA_blockWord 15 = .ok (.bipush 16, 2) := by decide +kernel
theorem d_MA_blockWord_17 : decode c_MA_blockWord 17 = .ok (.if_icmp .lt 5, 3) := by decide +kernel
theorem d_MA_blockWord_20 : decode c_MA_blockWord 20 = .ok (.iconst (-1), 1) := by decide +kernel
theorem d_MA_blockWord_21 : decode c_MA_blockWord 21 = .ok (.ireturn, 1) := by decide +kernel
theorem d_MA_blockWord_22 : decode c_MA_blockWord 22 = .ok (.aload_n 0, 1) := by decide +kernel
theorem d_MA_blockWord_23 : decode c_MA_blockWord 23 = .ok (.getfield 18, 3) := by decide +kernel
theorem d_MA_blockWord_26 : decode c_MA_blockWord 26 = .ok (.iload_n 1, 1) := by decide +kernel
theorem d_MA_blockWord_27 : decode c_MA_blockWord 27 = .ok (.bipush 16, 2) := by decide +kernel
theorem d_MA_blockWord_29 : decode c_MA_blockWord 29 = .ok (.imul, 1) := by decide +kernel
theorem d_MA_blockWord_30 : decode c_MA_blockWord 30 = .ok (.iload_n 2, 1) := by decide +kernel
theorem d_MA_blockWord_31 : decode c_MA_blockWord 31 = .ok (.iadd, 1) := by decide +kernel
theorem d_MA_blockWord_32 : decode c_MA_blockWord 32 = .ok (.iaload, 1) := by decide +kernel
theorem d_MA_blockWord_33 : decode c_MA_blockWord 33 = .ok (.ireturn, 1) := by decide +kernel
theorem d_MA_step_0 : decode c_MA_step 0 = .ok (.aload_n 0, 1) := by decide +kernel
theorem d_MA_step_1 : decode c_MA_step 1 = .ok (.getfield 41, 3) := by decide +kernel
theorem d_MA_step_4 : decode c_MA_step 4 = .ok (.iconst 1, 1) := by decide +kernel
theorem d_MA_step_5 : decode c_MA_step 5 = .ok (.if_icmp .ne 26, 3) := by decide +kernel
theorem d_MA_step_8 : decode c_MA_step 8 = .ok (.aload_n 0, 1) := by decide +kernel
theorem d_MA_step_9 : decode c_MA_step 9 = .ok (.getfield 59, 3) := by decide +kernel
theorem d_MA_step_12 : decode c_MA_step 12 = .ok (.ifCond .eq 19, 3) := by decide +kernel
theorem d_MA_step_15 : decode c_MA_step 15 = .ok (.aload_n 0, 1) := by decide +kernel
theorem d_MA_step_16 : decode c_MA_step 16 = .ok (.iconst 0, 1) := by decide +kernel
theorem d_MA_step_17 : decode c_MA_step 17 = .ok (.putfield 59, 3) := by decide +kernel
theorem d_MA_step_20 : decode c_MA_step 20 = .ok (.aload_n 0, 1) := by decide +kernel
theorem d_MA_step_21 : decode c_MA_step 21 = .ok (.iconst 4, 1) := by decide +kernel
theorem d_MA_step_22 : decode c_MA_step 22 = .ok (.iconst 0, 1) := by decide +kernel
theorem d_MA_step_23 : decode c_MA_step 23 = .ok (.aload_n 0, 1) := by decide +kernel
theorem d_MA_step_24 : decode c_MA_step 24 = .ok (.getfield 44, 3) := by decide +kernel
theorem d_MA_step_27 : decode c_MA_step 27 = .ok (.invokevirtual 66, 3) := by decide +kernel
theorem d_MA_step_30 : decode c_MA_step 30 = .ok (.return_, 1) := by decide +kernel
theorem d_MA_step_31 : decode c_MA_step 31 = .ok (.aload_n 0, 1) := by decide +kernel
theorem d_MA_step_32 : decode c_MA_step 32 = .ok (.getfield 44, 3) := by decide +kernel
theorem d_MA_step_35 : decode c_MA_step 35 = .ok (.iconst 1, 1) := by decide +kernel
theorem d_MA_step_36 : decode c_MA_step 36 = .ok (.iadd, 1) := by decide +kernel
theorem d_MA_step_37 : decode c_MA_step 37 = .ok (.aload_n 0, 1) := by decide +kernel
theorem d_MA_step_38 : decode c_MA_step 38 = .ok (.getfield 53, 3) := by decide +kernel
theorem d_MA_step_41 : decode c_MA_step 41 = .ok (.if_icmp .lt 37, 3) := by decide +kernel
theorem d_MA_step_44 : decode c_MA_step 44 = .ok (.aload_n 0, 1) := by decide +kernel
theorem d_MA_step_45 : decode c_MA_step 45 = .ok (.iconst 2, 1) := by decide +kernel
theorem d_MA_step_46 : decode c_MA_step 46 = .ok (.aload_n 0, 1) := by decide +kernel
theorem d_MA_step_47 : decode c_MA_step 47 = .ok (.getfield 44, 3) := by decide +kernel
theorem d_MA_step_50 : decode c_MA_step 50 = .ok (.aload_n 0, 1) := by decide +kernel
theorem d_MA_step_51 : decode c_MA_step 51 = .ok (.getfield 53, 3) := by decide +kernel
theorem d_MA_step_54 : decode c_MA_step 54 = .ok (.if_icmp .ge 12, 3) := by decide +kernel
theorem d_MA_step_57 : decode c_MA_step 57 = .ok (.aload_n 0, 1) := by decide +kernel
theorem d_MA_step_58 : decode c_MA_step 58 = .ok (.getfield 44, 3) := by decide +kernel
theorem d_MA_step_61 : decode c_MA_step 61 = .ok (.iconst 1, 1) := by decide +kernel
theorem d_MA_step_62 : decode c_MA_step 62 = .ok (.iadd, 1) := by decide +kernel
theorem d_MA_step_63 : decode c_MA_step 63 = .ok (.goto 7, 3) := by decide +kernel
theorem d_MA_step_66 : decode c_MA_step 66 = .ok (.aload_n 0, 1) := by decide +kernel
theorem d_MA_step_67 : decode c_MA_step 67 = .ok (.getfield 44, 3) := by decide +kernel
theorem d_MA_step_70 : decode c_MA_step 70 = .ok (.aload_n 0, 1) := by decide +kernel
theorem d_MA_step_71 : decode c_MA_step 71 = .ok (.getfield 44, 3) := by decide +kernel
theorem d_MA_step_74 : decode c_MA_step 74 = .ok (.invokevirtual 66, 3) := by decide +kernel
theorem d_MA_step_77 : decode c_MA_step 77 = .ok (.return_, 1) := by decide +kernel
theorem d_MA_step_78 : decode c_MA_step 78 = .ok (.aload_n 0, 1) := by decide +kernel
theorem d_MA_step_79 : decode c_MA_step 79 = .ok (.getfield 9, 3) := by decide +kernel
theorem d_MA_step_82 : decode c_MA_step 82 = .ok (.aload_n 0, 1) := by decide +kernel
theorem d_MA_step_83 : decode c_MA_step 83 = .ok (.getfield 47, 3) := by decide +kernel
theorem d_MA_step_86 : decode c_MA_step 86 = .ok (.aload_n 0, 1) := by decide +kernel
theorem d_MA_step_87 : decode c_MA_step 87 = .ok (.getfield 44, 3) := by decide +kernel
theorem d_MA_step_90 : decode c_MA_step 90 = .ok (.iadd, 1) := by decide +kernel
theorem d_MA_step_91 : decode c_MA_step 91 = .ok (.iaload, 1) := by decide +kernel
theorem d_MA_step_92 : decode c_MA_step 92 = .ok (.istore_n 1, 1) := by decide +kernel
theorem d_MA_step_93 : decode c_MA_step 93 = .ok (.aload_n 0, 1) := by decide +kernel
theorem d_MA_step_94 : decode c_MA_step 94 = .ok (.getfield 9, 3) := by decide +kernel
theorem d_MA_step_97 : decode c_MA_step 97 = .ok (.aload_n 0, 1) := by decide +kernel
theorem d_MA_step_98 : decode c_MA_step 98 = .ok (.getfield 47, 3) := by decide +kernel
theorem d_MA_step_101 : decode c_MA_step 101 = .ok (.aload_n 0, 1) := by decide +kernel
theorem d_MA_step_102 : decode c_MA_step 102 = .ok (.getfield 44, 3) := by decide +kernel
theorem d_MA_step_105 : decode c_MA_step 105 = .ok (.iadd, 1) := by decide +kernel
theorem d_MA_step_106 : decode c_MA_step 106 = .ok (.iconst 1, 1) := by decide +kernel
theorem d_MA_step_107 : decode c_MA_step 107 = .ok (.iadd, 1) := by decide +kernel
theorem d_MA_step_108 : decode c_MA_step 108 = .ok (.iaload, 1) := by decide +kernel
theorem d_MA_step_109 : decode c_MA_step 109 = .ok (.istore_n 2, 1) := by decide +kernel
theorem d_MA_step_110 : decode c_MA_step 110 = .ok (.iload_n 1, 1) := by decide +kernel
theorem d_MA_step_111 : decode c_MA_step 111 = .ok (.bipush 6, 2) := by decide +kernel
theorem d_MA_step_113 : decode c_MA_step 113 = .ok (.ishr, 1) := by decide +kernel
theorem d_MA_step_114 : decode c_MA_step 114 = .ok (.istore_n 3, 1) := by decide +kernel
theorem d_MA_step_115 : decode c_MA_step 115 = .ok (.iload_n 1, 1) := by decide +kernel
theorem d_MA_step_116 : decode c_MA_step 116 = .ok (.iconst 3, 1) := by decide +kernel
theorem d_MA_step_117 : decode c_MA_step 117 = .ok (.ishr, 1) := by decide +kernel
theorem d_MA_step_118 : decode c_MA_step 118 = .ok (.bipush 7, 2) := by decide +kernel
theorem d_MA_step_120 : decode c_MA_step 120 = .ok (.iand, 1) := by decide +kernel
theorem d_MA_step_121 : decode c_MA_step 121 = .ok (.istore 4, 2) := by decide +kernel
theorem d_MA_step_123 : decode c_MA_step 123 = .ok (.iload_n 1, 1) := by decide +kernel
theorem d_MA_step_124 : decode c_MA_step 124 = .ok (.bipush 7, 2) := by decide +kernel
theorem d_MA_step_126 : decode c_MA_step 126 = .ok (.iand, 1) := by decide +kernel
theorem d_MA_step_127 : decode c_MA_step 127 = .ok (.istore 5, 2) := by decide +kernel
theorem d_MA_step_129 : decode c_MA_step 129 = .ok (.iload_n 3, 1) := by decide +kernel
theorem d_MA_step_130 : decode c_MA_step 130 = .ok (.bipush 24, 2) := by decide +kernel
theorem d_MA_step_132 : decode c_MA_step 132 = .ok (.if_icmp .le 16, 3) := by decide +kernel
theorem d_MA_step_135 : decode c_MA_step 135 = .ok (.aload_n 0, 1) := by decide +kernel
theorem d_MA_step_136 : decode c_MA_step 136 = .ok (.iconst 5, 1) := by decide +kernel
theorem d_MA_step_137 : decode c_MA_step 137 = .ok (.iload_n 1, 1) := by decide +kernel
theorem d_MA_step_138 : decode c_MA_step 138 = .ok (.aload_n 0, 1) := by decide +kernel
theorem d_MA_step_139 : decode c_MA_step 139 = .ok (.getfield 44, 3) := by decide +kernel
theorem d_MA_step_142 : decode c_MA_step 142 = .ok (.invokevirtual 66, 3) := by decide +kernel
theorem d_MA_step_145 : decode c_MA_step 145 = .ok (.goto 119, 3) := by decide +kernel
theorem d_MA_step_148 : decode c_MA_step 148 = .ok (.iload_n 3, 1) := by decide +kernel
theorem d_MA_step_149 : decode c_MA_step 149 = .ok (.iconst 2, 1) := by decide +kernel
theorem d_MA_step_150 : decode c_MA_step 150 = .ok (.if_icmp .lt 39, 3) := by decide +kernel
theorem d_MA_step_153 : decode c_MA_step 153 = .ok (.iload_n 3, 1) := by decide +kernel
theorem d_MA_step_154 : decode c_MA_step 154 = .ok (.iconst 5, 1) := by decide +kernel
theorem d_MA_step_155 : decode c_MA_step 155 = .ok (.if_icmp .gt 34, 3) := by decide +kernel
theorem d_MA_step_158 : decode c_MA_step 158 = .ok (.aload_n 0, 1) := by decide +kernel
theorem d_MA_step_159 : decode c_MA_step 159 = .ok (.iload_n 3, 1) := by decide +kernel
theorem d_MA_step_160 : decode c_MA_step 160 = .ok (.iload 4, 2) := by decide +kernel
theorem d_MA_step_162 : decode c_MA_step 162 = .ok (.iload_n 3, 1) := by decide +kernel
theorem d_MA_step_163 : decode c_MA_step 163 = .ok (.iconst 4, 1) := by decide +kernel
theorem d_MA_step_164 : decode c_MA_step 164 = .ok (.if_icmp .ge 7, 3) := by decide +kernel
theorem d_MA_step_167 : decode c_MA_step 167 = .ok (.iload_n 2, 1) := by decide +kernel
theorem d_MA_step_168 : decode c_MA_step 168 = .ok (.goto 15, 3) := by decide +kernel
theorem d_MA_step_171 : decode c_MA_step 171 = .ok (.aload_n 0, 1) := by decide +kernel
theorem d_MA_step_172 : decode c_MA_step 172 = .ok (.getfield 15, 3) := by decide +kernel
theorem d_MA_step_175 : decode c_MA_step 175 = .ok (.iload 5, 2) := by decide +kernel
theorem d_MA_step_177 : decode c_MA_step 177 = .ok (.iaload, 1) := by decide +kernel
theorem d_MA_step_178 : decode c_MA_step 178 = .ok (.iload_n 2, 1) := by decide +kernel
theorem d_MA_step_179 : decode c_MA_step 179 = .ok (.iadd, 1) := by decide +kernel
theorem d_MA_step_180 : decode c_MA_step 180 = .ok (.ldc 70, 2) := by decide +kernel
theorem d_MA_step_182 : decode c_MA_step 182 = .ok (.iand, 1) := by decide +kernel
theorem d_MA_step_183 : decode c_MA_step 183 = .ok (.invokevirtual 71, 3) := by decide +kernel
theorem d_MA_step_186 : decode c_MA_step 186 = .ok (.goto 78, 3) := by decide +kernel
theorem d_MA_step_189 : decode c_MA_step 189 = .ok (.iload_n 3, 1) := by decide +kernel
theorem d_MA_step_190 : decode c_MA_step 190 = .ok (.ifCond .le 22, 3) := by decide +kernel
theorem d_MA_step_193 : decode c_MA_step 193 = .ok (.iload_n 3, 1) := by decide +kernel
theorem d_MA_step_194 : decode c_MA_step 194 = .ok (.bipush 16, 2) := by decide +kernel
theorem d_MA_step_196 : decode c_MA_step 196 = .ok (.if_icmp .ge 16, 3) := by decide +kernel
theorem d_MA_step_199 : decode c_MA_step 199 = .ok (.aload_n 0, 1) := by decide +kernel
theorem d_MA_step_200 : decode c_MA_step 200 = .ok (.iload_n 3, 1) := by decide +kernel
theorem d_MA_step_201 : decode c_MA_step 201 = .ok (.iload 4, 2) := by decide +kernel
theorem d_MA_step_203 : decode c_MA_step 203 = .ok (.iload 5, 2) := by decide +kernel
theorem d_MA_step_205 : decode c_MA_step 205 = .ok (.iload_n 2, 1) := by decide +kernel
theorem d_MA_step_206 : decode c_MA_step 206 = .ok (.invokevirtual 74, 3) := by decide +kernel
theorem d_MA_step_209 : decode c_MA_step 209 = .ok (.goto 55, 3) := by decide +kernel
theorem d_MA_step_212 : decode c_MA_step 212 = .ok (.iload_n 3, 1) := by decide +kernel
theorem d_MA_step_213 : decode c_MA_step 213 = .ok (.bipush 16, 2) := by decide +kernel
theorem d_MA_step_215 : decode c_MA_step 215 = .ok (.if_icmp .ne 18, 3) := by decide +kernel
theorem d_MA_step_218 : decode c_MA_step 218 = .ok (.aload_n 0, 1) := by decide +kernel
theorem d_MA_step_219 : decode c_MA_step 219 = .ok (.iconst 3, 1) := by decide +kernel
theorem d_MA_step_220 : decode c_MA_step 220 = .ok (.iload_n 2, 1) := by decide +kernel
theorem d_MA_step_221 : decode c_MA_step 221 = .ok (.aload_n 0, 1) := by decide +kernel
theorem d_MA_step_222 : decode c_MA_step 222 = .ok (.getfield 44, 3) := by decide +kernel
theorem d_MA_step_225 : decode c_MA_step 225 = .ok (.iconst 2, 1) := by decide +kernel
theorem d_MA_step_226 : decode c_MA_step 226 = .ok (.iadd, 1) := by decide +kernel
theorem d_MA_step_227 : decode c_MA_step 227 = .ok (.invokevirtual 66, 3) := by decide +kernel
theorem d_MA_step_230 : decode c_MA_step 230 = .ok (.goto 34, 3) := by decide +kernel
theorem d_MA_step_233 : decode c_MA_step 233 = .ok (.aload_n 0, 1) := by decide +kernel
theorem d_MA_step_234 : decode c_MA_step 234 = .ok (.getfield 41, 3) := by decide +kernel
theorem d_MA_step_237 : decode c_MA_step 237 = .ok (.iconst 1, 1) := by decide +kernel
theorem d_MA_step_238 : decode c_MA_step 238 = .ok (.if_icmp .ne 16, 3) := by decide +kernel
theorem d_MA_step_241 : decode c_MA_step 241 = .ok (.aload_n 0, 1) := by decide +kernel
theorem d_MA_step_242 : decode c_MA_step 242 = .ok (.iconst 1, 1) := by decide +kernel
theorem d_MA_step_243 : decode c_MA_step 243 = .ok (.iload_n 1, 1) := by decide +kernel
theorem d_MA_step_244 : decode c_MA_step 244 = .ok (.aload_n 0, 1) := by decide +kernel
theorem d_MA_step_245 : decode c_MA_step 245 = .ok (.getfield 44, 3) := by decide +kernel
theorem d_MA_step_248 : decode c_MA_step 248 = .ok (.invokevirtual 66, 3) := by decide +kernel
theorem d_MA_step_251 : decode c_MA_step 251 = .ok (.goto 13, 3) := by decide +kernel
theorem d_MA_step_254 : decode c_MA_step 254 = .ok (.aload_n 0, 1) := by decide +kernel
theorem d_MA_step_255 : decode c_MA_step 255 = .ok (.iload_n 3, 1) := by decide +kernel
theorem d_MA_step_256 : decode c_MA_step 256 = .ok (.iload 4, 2) := by decide +kernel
theorem d_MA_step_258 : decode c_MA_step 258 = .ok (.iload 5, 2) := by decide +kernel
theorem d_MA_step_260 : decode c_MA_step 260 = .ok (.iload_n 2, 1) := by decide +kernel
theorem d_MA_step_261 : decode c_MA_step 261 = .ok (.invokevirtual 78, 3) := by decide +kernel
theorem d_MA_step_264 : decode c_MA_step 264 = .ok (.return_, 1) := by decide +kernel
theorem d_MA_access_0 : decode c_MA_access 0 = .ok (.iload_n 3, 1) := by decide +kernel
theorem d_MA_access_1 : decode c_MA_access 1 = .ok (.aload_n 0, 1) := by decide +kernel
theorem d_MA_access_2 : decode c_MA_access 2 = .ok (.getfield 53, 3) := by decide +kernel
theorem d_MA_access_5 : decode c_MA_access 5 = .ok (.if_icmp .lt 14, 3) := by decide +kernel
theorem d_MA_access_8 : decode c_MA_access 8 = .ok (.aload_n 0, 1) := by decide +kernel
theorem d_MA_access_9 : decode c_MA_access 9 = .ok (.iconst 2, 1) := by decide +kernel
theorem d_MA_access_10 : decode c_MA_access 10 = .ok (.iload_n 3, 1) := by decide +kernel
theorem d_MA_access_11 : decode c_MA_access 11 = .ok (.aload_n 0, 1) := by decide +kernel
theorem d_MA_access_12 : decode c_MA_access 12 = .ok (.getfield 44, 3) := by decide +kernel
theorem d_MA_access_15 : decode c_MA_access 15 = .ok (.invokevirtual 66, 3) := by decide +kernel
theorem d_MA_access_18 : decode c_MA_access 18 = .ok (.return_, 1) := by decide +kernel
theorem d_MA_access_19 : decode c_MA_access 19 = .ok (.iload_n 1, 1) := by decide +kernel
theorem d_MA_access_20 : decode c_MA_access 20 = .ok (.iconst 2, 1) := by decide +kernel
theorem d_MA_access_21 : decode c_MA_access 21 = .ok (.if_icmp .eq 8, 3) := by decide +kernel
theorem d_MA_access_24 : decode c_MA_access 24 = .ok (.iload_n 1, 1) := by decide +kernel
theorem d_MA_access_25 : decode c_MA_access 25 = .ok (.iconst 4, 1) := by decide +kernel
theorem d_MA_access_26 : decode c_MA_access 26 = .ok (.if_icmp .ne 23, 3) := by decide +kernel
theorem d_MA_access_29 : decode c_MA_access 29 = .ok (.aload_n 0, 1) := by decide +kernel
theorem d_MA_access_30 : decode c_MA_access 30 = .ok (.getfield 15, 3) := by decide +kernel
theorem d_MA_access_33 : decode c_MA_access 33 = .ok (.iload_n 2, 1) := by decide +kernel
theorem d_MA_access_34 : decode c_MA_access 34 = .ok (.aload_n 0, 1) := by decide +kernel
theorem d_MA_access_35 : decode c_MA_access 35 = .ok (.getfield 9, 3) := by decide +kernel
theorem d_MA_access_38 : decode c_MA_access 38 = .ok (.aload_n 0, 1) := by decide +kernel
theorem d_MA_access_39 : decode c_MA_access 39 = .ok (.getfield 47, 3) := by decide +kernel
theorem d_MA_access_42 : decode c_MA_access 42 = .ok (.iload_n 3, 1) := by decide +kernel
theorem d_MA_access_43 : decode c_MA_access 43 = .ok (.iadd, 1) := by decide +kernel
theorem d_MA_access_44 : decode c_MA_access 44 = .ok (.iaload, 1) := by decide +kernel
theorem d_MA_access_45 : decode c_MA_access 45 = .ok (.iastore, 1) := by decide +kernel
theorem d_MA_access_46 : decode c_MA_access 46 = .ok (.goto 20, 3) := by decide +kernel
theorem d_MA_access_49 : decode c_MA_access 49 = .ok (.aload_n 0, 1) := by decide +kernel
theorem d_MA_access_50 : decode c_MA_access 50 = .ok (.getfield 9, 3) := by decide +kernel
theorem d_MA_access_53 : decode c_MA_access 53 = .ok (.aload_n 0, 1) := by decide +kernel
theorem d_MA_access_54 : decode c_MA_access 54 = .ok (.getfield 47, 3) := by decide +kernel
theorem d_MA_access_57 : decode c_MA_access 57 = .ok (.iload_n 3, 1) := by decide +kernel
theorem d_MA_access_58 : decode c_MA_access 58 = .ok (.iadd, 1) := by decide +kernel
theorem d_MA_access_59 : decode c_MA_access 59 = .ok (.aload_n 0, 1) := by decide +kernel
theorem d_MA_access_60 : decode c_MA_access 60 = .ok (.getfield 15, 3) := by decide +kernel
theorem d_MA_access_63 : decode c_MA_access 63 = .ok (.iload_n 2, 1) := by decide +kernel
theorem d_MA_access_64 : decode c_MA_access 64 = .ok (.iaload, 1) := by decide +kernel
theorem d_MA_access_65 : decode c_MA_access 65 = .ok (.iastore, 1) := by decide +kernel
theorem d_MA_access_66 : decode c_MA_access 66 = .ok (.aload_n 0, 1) := by decide +kernel
theorem d_MA_access_67 : decode c_MA_access 67 = .ok (.aload_n 0, 1) := by decide +kernel
theorem d_MA_access_68 : decode c_MA_access 68 = .ok (.getfield 44, 3) := by decide +kernel
theorem d_MA_access_71 : decode c_MA_access 71 = .ok (.iconst 2, 1) := by decide +kernel
theorem d_MA_access_72 : decode c_MA_access 72 = .ok (.iadd, 1) := by decide +kernel
theorem d_MA_access_73 : decode c_MA_access 73 = .ok (.invokevirtual 81, 3) := by decide +kernel
theorem d_MA_access_76 : decode c_MA_access 76 = .ok (.return_, 1) := by decide +kernel
theorem d_MA_compute_0 : decode c_MA_compute 0 = .ok (.aload_n 0, 1) := by decide +kernel
theorem d_MA_compute_1 : decode c_MA_compute 1 = .ok (.getfield 44, 3) := by decide +kernel
theorem d_MA_compute_4 : decode c_MA_compute 4 = .ok (.iconst 2, 1) := by decide +kernel
theorem d_MA_compute_5 : decode c_MA_compute 5 = .ok (.iadd, 1) := by decide +kernel
theorem d_MA_compute_6 : decode c_MA_compute 6 = .ok (.istore 5, 2) := by decide +kernel
theorem d_MA_compute_8 : decode c_MA_compute 8 = .ok (.iload_n 1, 1) := by decide +kernel
theorem d_MA_compute_9 : decode c_MA_compute 9 = .ok (.tableswitch 276 1 15 #[75, 276, 276, 276, 276, 86, 101, 126, 151, 173, 202, 222, 229, 250, 261], 75) := by decide +kernel
theorem d_MA_compute_84 : decode c_MA_compute 84 = .ok (.aload_n 0, 1) := by decide +kernel
theorem d_MA_compute_85 : decode c_MA_compute 85 = .ok (.getfield 15, 3) := by decide +kernel
theorem d_MA_compute_88 : decode c_MA_compute 88 = .ok (.iload_n 2, 1) := by decide +kernel
theorem d_MA_compute_89 : decode c_MA_compute 89 = .ok (.iload 4, 2) := by decide +kernel
theorem d_MA_compute_91 : decode c_MA_compute 91 = .ok (.iastore, 1) := by decide +kernel
theorem d_MA_compute_92 : decode c_MA_compute 92 = .ok (.goto 193, 3) := by decide +kernel
theorem d_MA_compute_95 : decode c_MA_compute 95 = .ok (.aload_n 0, 1) := by decide +kernel
theorem d_MA_compute_96 : decode c_MA_compute 96 = .ok (.getfield 15, 3) := by decide +kernel
theorem d_MA_compute_99 : decode c_MA_compute 99 = .ok (.iload_n 2, 1) := by decide +kernel
theorem d_MA_compute_100 : decode c_MA_compute 100 = .ok (.aload_n 0, 1) := by decide +kernel
theorem d_MA_compute_101 : decode c_MA_compute 101 = .ok (.getfield 15, 3) := by decide +kernel
theorem d_MA_compute_104 : decode c_MA_compute 104 = .ok (.iload_n 3, 1) := by decide +kernel
theorem d_MA_compute_105 : decode c_MA_compute 105 = .ok (.iaload, 1) := by decide +kernel
theorem d_MA_compute_106 : decode c_MA_compute 106 = .ok (.iastore, 1) := by decide +kernel
theorem d_MA_compute_107 : decode c_MA_compute 107 = .ok (.goto 178, 3) := by decide +kernel
theorem d_MA_compute_110 : decode c_MA_compute 110 = .ok (.aload_n 0, 1) := by decide +kernel
theorem d_MA_compute_111 : decode c_MA_compute 111 = .ok (.getfield 15, 3) := by decide +kernel
theorem d_MA_compute_114 : decode c_MA_compute 114 = .ok (.iload_n 2, 1) := by decide +kernel
theorem d_MA_compute_115 : decode c_MA_compute 115 = .ok (.aload_n 0, 1) := by decide +kernel
theorem d_MA_compute_116 : decode c_MA_compute 116 = .ok (.getfield 15, 3) := by decide +kernel
theorem d_MA_compute_119 : decode c_MA_compute 119 = .ok (.iload_n 2, 1) := by decide +kernel
theorem d_MA_compute_120 : decode c_MA_compute 120 = .ok (.iaload, 1) := by decide +kernel
theorem d_MA_compute_121 : decode c_MA_compute 121 = .ok (.aload_n 0, 1) := by decide +kernel
theorem d_MA_compute_122 : decode c_MA_compute 122 = .ok (.getfield 15, 3) := by decide +kernel
theorem d_MA_compute_125 : decode c_MA_compute 125 = .ok (.iload_n 3, 1) := by decide +kernel
theorem d_MA_compute_126 : decode c_MA_compute 126 = .ok (.iaload, 1) := by decide +kernel
theorem d_MA_compute_127 : decode c_MA_compute 127 = .ok (.iadd, 1) := by decide +kernel
theorem d_MA_compute_128 : decode c_MA_compute 128 = .ok (.ldc 70, 2) := by decide +kernel
theorem d_MA_compute_130 : decode c_MA_compute 130 = .ok (.iand, 1) := by decide +kernel
theorem d_MA_compute_131 : decode c_MA_compute 131 = .ok (.iastore, 1) := by decide +kernel
theorem d_MA_compute_132 : decode c_MA_compute 132 = .ok (.goto 153, 3) := by decide +kernel
theorem d_MA_compute_135 : decode c_MA_compute 135 = .ok (.aload_n 0, 1) := by decide +kernel
theorem d_MA_compute_136 : decode c_MA_compute 136 = .ok (.getfield 15, 3) := by decide +kernel
theorem d_MA_compute_139 : decode c_MA_compute 139 = .ok (.iload_n 2, 1) := by decide +kernel
theorem d_MA_compute_140 : decode c_MA_compute 140 = .ok (.aload_n 0, 1) := by decide +kernel
theorem d_MA_compute_141 : decode c_MA_compute 141 = .ok (.getfield 15, 3) := by decide +kernel
theorem d_MA_compute_144 : decode c_MA_compute 144 = .ok (.iload_n 2, 1) := by decide +kernel
theorem d_MA_compute_145 : decode c_MA_compute 145 = .ok (.iaload, 1) := by decide +kernel
theorem d_MA_compute_146 : decode c_MA_compute 146 = .ok (.aload_n 0, 1) := by decide +kernel
theorem d_MA_compute_147 : decode c_MA_compute 147 = .ok (.getfield 15, 3) := by decide +kernel
theorem d_MA_compute_150 : decode c_MA_compute 150 = .ok (.iload_n 3, 1) := by decide +kernel
theorem d_MA_compute_151 : decode c_MA_compute 151 = .ok (.iaload, 1) := by decide +kernel
theorem d_MA_compute_152 : decode c_MA_compute 152 = .ok (.isub, 1) := by decide +kernel
theorem d_MA_compute_153 : decode c_MA_compute 153 = .ok (.ldc 70, 2) := by decide +kernel
theorem d_MA_compute_155 : decode c_MA_compute 155 = .ok (.iand, 1) := by decide +kernel
theorem d_MA_compute_156 : decode c_MA_compute 156 = .ok (.iastore, 1) := by decide +kernel
theorem d_MA_compute_157 : decode c_MA_compute 157 = .ok (.goto 128, 3) := by decide +kernel
theorem d_MA_compute_160 : decode c_MA_compute 160 = .ok (.aload_n 0, 1) := by decide +kernel
theorem d_MA_compute_161 : decode c_MA_compute 161 = .ok (.getfield 15, 3) := by decide +kernel
theorem d_MA_compute_164 : decode c_MA_compute 164 = .ok (.iload_n 2, 1) := by decide +kernel
theorem d_MA_compute_165 : decode c_MA_compute 165 = .ok (.aload_n 0, 1) := by decide +kernel
theorem d_MA_compute_166 : decode c_MA_compute 166 = .ok (.getfield 15, 3) := by decide +kernel
theorem d_MA_compute_169 : decode c_MA_compute 169 = .ok (.iload_n 2, 1) := by decide +kernel
theorem d_MA_compute_170 : decode c_MA_compute 170 = .ok (.iaload, 1) := by decide +kernel
theorem d_MA_compute_171 : decode c_MA_compute 171 = .ok (.aload_n 0, 1) := by decide +kernel
theorem d_MA_compute_172 : decode c_MA_compute 172 = .ok (.getfield 15, 3) := by decide +kernel
theorem d_MA_compute_175 : decode c_MA_compute 175 = .ok (.iload_n 3, 1) := by decide +kernel
theorem d_MA_compute_176 : decode c_MA_compute 176 = .ok (.iaload, 1) := by decide +kernel
theorem d_MA_compute_177 : decode c_MA_compute 177 = .ok (.iand, 1) := by decide +kernel
theorem d_MA_compute_178 : decode c_MA_compute 178 = .ok (.iastore, 1) := by decide +kernel
theorem d_MA_compute_179 : decode c_MA_compute 179 = .ok (.goto 106, 3) := by decide +kernel
theorem d_MA_compute_182 : decode c_MA_compute 182 = .ok (.aload_n 0, 1) := by decide +kernel
theorem d_MA_compute_183 : decode c_MA_compute 183 = .ok (.getfield 15, 3) := by decide +kernel
theorem d_MA_compute_186 : decode c_MA_compute 186 = .ok (.iload_n 2, 1) := by decide +kernel
theorem d_MA_compute_187 : decode c_MA_compute 187 = .ok (.aload_n 0, 1) := by decide +kernel
theorem d_MA_compute_188 : decode c_MA_compute 188 = .ok (.getfield 15, 3) := by decide +kernel
theorem d_MA_compute_191 : decode c_MA_compute 191 = .ok (.iload_n 2, 1) := by decide +kernel
theorem d_MA_compute_192 : decode c_MA_compute 192 = .ok (.iaload, 1) := by decide +kernel
theorem d_MA_compute_193 : decode c_MA_compute 193 = .ok (.aload_n 0, 1) := by decide +kernel
theorem d_MA_compute_194 : decode c_MA_compute 194 = .ok (.getfield 15, 3) := by decide +kernel
theorem d_MA_compute_197 : decode c_MA_compute 197 = .ok (.iload_n 3, 1) := by decide +kernel
theorem d_MA_compute_198 : decode c_MA_compute 198 = .ok (.iaload, 1) := by decide +kernel
theorem d_MA_compute_199 : decode c_MA_compute 199 = .ok (.if_icmp .ge 7, 3) := by decide +kernel
theorem d_MA_compute_202 : decode c_MA_compute 202 = .ok (.iconst 1, 1) := by decide +kernel
theorem d_MA_compute_203 : decode c_MA_compute 203 = .ok (.goto 4, 3) := by decide +kernel
theorem d_MA_compute_206 : decode c_MA_compute 206 = .ok (.iconst 0, 1) := by decide +kernel
theorem d_MA_compute_207 : decode c_MA_compute 207 = .ok (.iastore, 1) := by decide +kernel
theorem d_MA_compute_208 : decode c_MA_compute 208 = .ok (.goto 77, 3) := by decide +kernel
theorem d_MA_compute_211 : decode c_MA_compute 211 = .ok (.aload_n 0, 1) := by decide +kernel
theorem d_MA_compute_212 : decode c_MA_compute 212 = .ok (.getfield 15, 3) := by decide +kernel
theorem d_MA_compute_215 : decode c_MA_compute 215 = .ok (.iload_n 2, 1) := by decide +kernel
theorem d_MA_compute_216 : decode c_MA_compute 216 = .ok (.aload_n 0, 1) := by decide +kernel
theorem d_MA_compute_217 : decode c_MA_compute 217 = .ok (.getfield 15, 3) := by decide +kernel
theorem d_MA_compute_220 : decode c_MA_compute 220 = .ok (.iload_n 2, 1) := by decide +kernel
theorem d_MA_compute_221 : decode c_MA_compute 221 = .ok (.iaload, 1) := by decide +kernel
theorem d_MA_compute_222 : decode c_MA_compute 222 = .ok (.iload 4, 2) := by decide +kernel
theorem d_MA_compute_224 : decode c_MA_compute 224 = .ok (.invokestatic 85, 3) := by decide +kernel
theorem d_MA_compute_227 : decode c_MA_compute 227 = .ok (.iastore, 1) := by decide +kernel
theorem d_MA_compute_228 : decode c_MA_compute 228 = .ok (.goto 57, 3) := by decide +kernel
theorem d_MA_compute_231 : decode c_MA_compute 231 = .ok (.iload 4, 2) := by decide +kernel
theorem d_MA_compute_233 : decode c_MA_compute 233 = .ok (.istore 5, 2) := by decide +kernel
theorem d_MA_compute_235 : decode c_MA_compute 235 = .ok (.goto 50, 3) := by decide +kernel
theorem d_MA_compute_238 : decode c_MA_compute 238 = .ok (.aload_n 0, 1) := by decide +kernel
theorem d_MA_compute_239 : decode c_MA_compute 239 = .ok (.getfield 15, 3) := by decide +kernel
theorem d_MA_compute_242 : decode c_MA_compute 242 = .ok (.iload_n 2, 1) := by decide +kernel
theorem d_MA_compute_243 : decode c_MA_compute 243 = .ok (.iaload, 1) := by decide +kernel
theorem d_MA_compute_244 : decode c_MA_compute 244 = .ok (.ifCond .ne 8, 3) := by decide +kernel
theorem d_MA_compute_247 : decode c_MA_compute 247 = .ok (.iload 4, 2) := by decide +kernel
theorem d_MA_compute_249 : decode c_MA_compute 249 = .ok (.goto 5, 3) := by decide +kernel
theorem d_MA_compute_252 : decode c_MA_compute 252 = .ok (.iload 5, 2) := by decide +kernel
theorem d_MA_compute_254 : decode c_MA_compute 254 = .ok (.istore 5, 2) := by decide +kernel
theorem d_MA_compute_256 : decode c_MA_compute 256 = .ok (.goto 29, 3) := by decide +kernel
theorem d_MA_compute_259 : decode c_MA_compute 259 = .ok (.aload_n 0, 1) := by decide +kernel
theorem d_MA_compute_260 : decode c_MA_compute 260 = .ok (.getfield 15, 3) := by decide +kernel
theorem d_MA_compute_263 : decode c_MA_compute 263 = .ok (.iload_n 2, 1) := by decide +kernel
theorem d_MA_compute_264 : decode c_MA_compute 264 = .ok (.iaload, 1) := by decide +kernel
theorem d_MA_compute_265 : decode c_MA_compute 265 = .ok (.istore 5, 2) := by decide +kernel
theorem d_MA_compute_267 : decode c_MA_compute 267 = .ok (.goto 18, 3) := by decide +kernel
theorem d_MA_compute_270 : decode c_MA_compute 270 = .ok (.aload_n 0, 1) := by decide +kernel
theorem d_MA_compute_271 : decode c_MA_compute 271 = .ok (.getfield 15, 3) := by decide +kernel
theorem d_MA_compute_274 : decode c_MA_compute 274 = .ok (.iload_n 2, 1) := by decide +kernel
theorem d_MA_compute_275 : decode c_MA_compute 275 = .ok (.iload 5, 2) := by decide +kernel
theorem d_MA_compute_277 : decode c_MA_compute 277 = .ok (.iastore, 1) := by decide +kernel
theorem d_MA_compute_278 : decode c_MA_compute 278 = .ok (.iload 4, 2) := by decide +kernel
theorem d_MA_compute_280 : decode c_MA_compute 280 = .ok (.istore 5, 2) := by decide +kernel
theorem d_MA_compute_282 : decode c_MA_compute 282 = .ok (.goto 3, 3) := by decide +kernel
theorem d_MA_compute_285 : decode c_MA_compute 285 = .ok (.aload_n 0, 1) := by decide +kernel
theorem d_MA_compute_286 : decode c_MA_compute 286 = .ok (.iload 5, 2) := by decide +kernel
theorem d_MA_compute_288 : decode c_MA_compute 288 = .ok (.invokevirtual 81, 3) := by decide +kernel
theorem d_MA_compute_291 : decode c_MA_compute 291 = .ok (.return_, 1) := by decide +kernel
theorem d_MA_goOn_0 : decode c_MA_goOn 0 = .ok (.aload_n 0, 1) := by decide +kernel
theorem d_MA_goOn_1 : decode c_MA_goOn 1 = .ok (.iload_n 1, 1) := by decide +kernel
theorem d_MA_goOn_2 : decode c_MA_goOn 2 = .ok (.putfield 44, 3) := by decide +kernel
theorem d_MA_goOn_5 : decode c_MA_goOn 5 = .ok (.aload_n 0, 1) := by decide +kernel
theorem d_MA_goOn_6 : decode c_MA_goOn 6 = .ok (.getfield 41, 3) := by decide +kernel
theorem d_MA_goOn_9 : decode c_MA_goOn 9 = .ok (.iconst 1, 1) := by decide +kernel
theorem d_MA_goOn_10 : decode c_MA_goOn 10 = .ok (.if_icmp .ne 36, 3) := by decide +kernel
theorem d_MA_goOn_13 : decode c_MA_goOn 13 = .ok (.aload_n 0, 1) := by decide +kernel
theorem d_MA_goOn_14 : decode c_MA_goOn 14 = .ok (.getfield 56, 3) := by decide +kernel
theorem d_MA_goOn_17 : decode c_MA_goOn 17 = .ok (.ifCond .le 29, 3) := by decide +kernel
theorem d_MA_goOn_20 : decode c_MA_goOn 20 = .ok (.aload_n 0, 1) := by decide +kernel
theorem d_MA_goOn_21 : decode c_MA_goOn 21 = .ok (.dup, 1) := by decide +kernel
theorem d_MA_goOn_22 : decode c_MA_goOn 22 = .ok (.getfield 56, 3) := by decide +kernel
theorem d_MA_goOn_25 : decode c_MA_goOn 25 = .ok (.iconst 1, 1) := by decide +kernel
theorem d_MA_goOn_26 : decode c_MA_goOn 26 = .ok (.isub, 1) := by decide +kernel
theorem d_MA_goOn_27 : decode c_MA_goOn 27 = .ok (.putfield 56, 3) := by decide +kernel
theorem d_MA_goOn_30 : decode c_MA_goOn 30 = .ok (.aload_n 0, 1) := by decide +kernel
theorem d_MA_goOn_31 : decode c_MA_goOn 31 = .ok (.aload_n 0, 1) := by decide +kernel
theorem d_MA_goOn_32 : decode c_MA_goOn 32 = .ok (.getfield 56, 3) := by decide +kernel
theorem d_MA_goOn_35 : decode c_MA_goOn 35 = .ok (.ifCond .ne 7, 3) := by decide +kernel
theorem d_MA_goOn_38 : decode c_MA_goOn 38 = .ok (.iconst 1, 1) := by decide +kernel
theorem d_MA_goOn_39 : decode c_MA_goOn 39 = .ok (.goto 4, 3) := by decide +kernel
theorem d_MA_goOn_42 : decode c_MA_goOn 42 = .ok (.iconst 0, 1) := by decide +kernel
theorem d_MA_goOn_43 : decode c_MA_goOn 43 = .ok (.putfield 59, 3) := by decide +kernel
theorem d_MA_goOn_46 : decode c_MA_goOn 46 = .ok (.return_, 1) := by decide +kernel
theorem d_MA_govern_0 : decode c_MA_govern 0 = .ok (.iload_n 1, 1) := by decide +kernel
theorem d_MA_govern_1 : decode c_MA_govern 1 = .ok (.bipush 23, 2) := by decide +kernel
theorem d_MA_govern_3 : decode c_MA_govern 3 = .ok (.if_icmp .ge 8, 3) := by decide +kernel
theorem d_MA_govern_6 : decode c_MA_govern 6 = .ok (.iload 4, 2) := by decide +kernel
theorem d_MA_govern_8 : decode c_MA_govern 8 = .ok (.goto 15, 3) := by decide +kernel
theorem d_MA_govern_11 : decode c_MA_govern 11 = .ok (.aload_n 0, 1) := by decide +kernel
theorem d_MA_govern_12 : decode c_MA_govern 12 = .ok (.getfield 15, 3) := by decide +kernel
theorem d_MA_govern_15 : decode c_MA_govern 15 = .ok (.iload_n 3, 1) := by decide +kernel
theorem d_MA_govern_16 : decode c_MA_govern 16 = .ok (.iaload, 1) := by decide +kernel
theorem d_MA_govern_17 : decode c_MA_govern 17 = .ok (.iload 4, 2) := by decide +kernel
theorem d_MA_govern_19 : decode c_MA_govern 19 = .ok (.iadd, 1) := by decide +kernel
theorem d_MA_govern_20 : decode c_MA_govern 20 = .ok (.ldc 70, 2) := by decide +kernel
theorem d_MA_govern_22 : decode c_MA_govern 22 = .ok (.iand, 1) := by decide +kernel
theorem d_MA_govern_23 : decode c_MA_govern 23 = .ok (.istore 5, 2) := by decide +kernel
theorem d_MA_govern_25 : decode c_MA_govern 25 = .ok (.aload_n 0, 1) := by decide +kernel
theorem d_MA_govern_26 : decode c_MA_govern 26 = .ok (.iload 5, 2) := by decide +kernel
theorem d_MA_govern_28 : decode c_MA_govern 28 = .ok (.iload_n 1, 1) := by decide +kernel
theorem d_MA_govern_29 : decode c_MA_govern 29 = .ok (.invokestatic 89, 3) := by decide +kernel
theorem d_MA_govern_32 : decode c_MA_govern 32 = .ok (.invokevirtual 93, 3) := by decide +kernel
theorem d_MA_govern_35 : decode c_MA_govern 35 = .ok (.istore 6, 2) := by decide +kernel
theorem d_MA_govern_37 : decode c_MA_govern 37 = .ok (.iload 6, 2) := by decide +kernel
theorem d_MA_govern_39 : decode c_MA_govern 39 = .ok (.iconst (-1), 1) := by decide +kernel
theorem d_MA_govern_40 : decode c_MA_govern 40 = .ok (.if_icmp .eq 15, 3) := by decide +kernel
theorem d_MA_govern_43 : decode c_MA_govern 43 = .ok (.aload_n 0, 1) := by decide +kernel
theorem d_MA_govern_44 : decode c_MA_govern 44 = .ok (.iconst 2, 1) := by decide +kernel
theorem d_MA_govern_45 : decode c_MA_govern 45 = .ok (.iload 6, 2) := by decide +kernel
theorem d_MA_govern_47 : decode c_MA_govern 47 = .ok (.aload_n 0, 1) := by decide +kernel
theorem d_MA_govern_48 : decode c_MA_govern 48 = .ok (.getfield 44, 3) := by decide +kernel
theorem d_MA_govern_51 : decode c_MA_govern 51 = .ok (.invokevirtual 66, 3) := by decide +kernel
theorem d_MA_govern_54 : decode c_MA_govern 54 = .ok (.return_, 1) := by decide +kernel
theorem d_MA_govern_55 : decode c_MA_govern 55 = .ok (.aload_n 0, 1) := by decide +kernel
theorem d_MA_govern_56 : decode c_MA_govern 56 = .ok (.getfield 47, 3) := by decide +kernel
theorem d_MA_govern_59 : decode c_MA_govern 59 = .ok (.iload 5, 2) := by decide +kernel
theorem d_MA_govern_61 : decode c_MA_govern 61 = .ok (.iadd, 1) := by decide +kernel
theorem d_MA_govern_62 : decode c_MA_govern 62 = .ok (.istore 7, 2) := by decide +kernel
theorem d_MA_govern_64 : decode c_MA_govern 64 = .ok (.aload_n 0, 1) := by decide +kernel
theorem d_MA_govern_65 : decode c_MA_govern 65 = .ok (.getfield 15, 3) := by decide +kernel
theorem d_MA_govern_68 : decode c_MA_govern 68 = .ok (.iload_n 2, 1) := by decide +kernel
theorem d_MA_govern_69 : decode c_MA_govern 69 = .ok (.iaload, 1) := by decide +kernel
theorem d_MA_govern_70 : decode c_MA_govern 70 = .ok (.bipush 7, 2) := by decide +kernel
theorem d_MA_govern_72 : decode c_MA_govern 72 = .ok (.iand, 1) := by decide +kernel
theorem d_MA_govern_73 : decode c_MA_govern 73 = .ok (.bipush 16, 2) := by decide +kernel
theorem d_MA_govern_75 : decode c_MA_govern 75 = .ok (.imul, 1) := by decide +kernel
theorem d_MA_govern_76 : decode c_MA_govern 76 = .ok (.istore 8, 2) := by decide +kernel
theorem d_MA_govern_78 : decode c_MA_govern 78 = .ok (.aload_n 0, 1) := by decide +kernel
theorem d_MA_govern_79 : decode c_MA_govern 79 = .ok (.getfield 44, 3) := by decide +kernel
theorem d_MA_govern_82 : decode c_MA_govern 82 = .ok (.iconst 2, 1) := by decide +kernel
theorem d_MA_govern_83 : decode c_MA_govern 83 = .ok (.iadd, 1) := by decide +kernel
theorem d_MA_govern_84 : decode c_MA_govern 84 = .ok (.istore 9, 2) := by decide +kernel
theorem d_MA_govern_86 : decode c_MA_govern 86 = .ok (.iload_n 1, 1) := by decide +kernel
theorem d_MA_govern_87 : decode c_MA_govern 87 = .ok (.tableswitch 244 0 24 #[113, 244, 244, 244, 244, 244, 244, 244, 244, 244, 244, 244, 244, 244, 244, 244, 244, 119, 126, 137, 155, 168, 184, 204, 224], 113) := by decide +kernel
theorem d_MA_govern_200 : decode c_MA_govern 200 = .ok (.aload_n 0, 1) := by decide +kernel
theorem d_MA_govern_201 : decode c_MA_govern 201 = .ok (.iconst 1, 1) := by decide +kernel
theorem d_MA_govern_202 : decode c_MA_govern 202 = .ok (.putfield 63, 3) := by decide +kernel
theorem d_MA_govern_205 : decode c_MA_govern 205 = .ok (.return_, 1) := by decide +kernel
theorem d_MA_govern_206 : decode c_MA_govern 206 = .ok (.aload_n 0, 1) := by decide +kernel
theorem d_MA_govern_207 : decode c_MA_govern 207 = .ok (.iload 7, 2) := by decide +kernel
theorem d_MA_govern_209 : decode c_MA_govern 209 = .ok (.invokevirtual 96, 3) := by decide +kernel
theorem d_MA_govern_212 : decode c_MA_govern 212 = .ok (.return_, 1) := by decide +kernel
theorem d_MA_govern_213 : decode c_MA_govern 213 = .ok (.aload_n 0, 1) := by decide +kernel
theorem d_MA_govern_214 : decode c_MA_govern 214 = .ok (.iload 7, 2) := by decide +kernel
theorem d_MA_govern_216 : decode c_MA_govern 216 = .ok (.iload 9, 2) := by decide +kernel
theorem d_MA_govern_218 : decode c_MA_govern 218 = .ok (.invokevirtual 99, 3) := by decide +kernel
theorem d_MA_govern_221 : decode c_MA_govern 221 = .ok (.goto 110, 3) := by decide +kernel
theorem d_MA_govern_224 : decode c_MA_govern 224 = .ok (.aload_n 0, 1) := by decide +kernel
theorem d_MA_govern_225 : decode c_MA_govern 225 = .ok (.aload_n 0, 1) := by decide +kernel
theorem d_MA_govern_226 : decode c_MA_govern 226 = .ok (.getfield 15, 3) := by decide +kernel
theorem d_MA_govern_229 : decode c_MA_govern 229 = .ok (.iload_n 2, 1) := by decide +kernel
theorem d_MA_govern_230 : decode c_MA_govern 230 = .ok (.iaload, 1) := by decide +kernel
theorem d_MA_govern_231 : decode c_MA_govern 231 = .ok (.putfield 56, 3) := by decide +kernel
theorem d_MA_govern_234 : decode c_MA_govern 234 = .ok (.aload_n 0, 1) := by decide +kernel
theorem d_MA_govern_235 : decode c_MA_govern 235 = .ok (.iconst 0, 1) := by decide +kernel
theorem d_MA_govern_236 : decode c_MA_govern 236 = .ok (.putfield 59, 3) := by decide +kernel
theorem d_MA_govern_239 : decode c_MA_govern 239 = .ok (.goto 92, 3) := by decide +kernel
theorem d_MA_govern_242 : decode c_MA_govern 242 = .ok (.aload_n 0, 1) := by decide +kernel
theorem d_MA_govern_243 : decode c_MA_govern 243 = .ok (.getfield 15, 3) := by decide +kernel
theorem d_MA_govern_246 : decode c_MA_govern 246 = .ok (.iload_n 2, 1) := by decide +kernel
theorem d_MA_govern_247 : decode c_MA_govern 247 = .ok (.aload_n 0, 1) := by decide +kernel
theorem d_MA_govern_248 : decode c_MA_govern 248 = .ok (.getfield 56, 3) := by decide +kernel
theorem d_MA_govern_251 : decode c_MA_govern 251 = .ok (.iastore, 1) := by decide +kernel
theorem d_MA_govern_252 : decode c_MA_govern 252 = .ok (.goto 79, 3) := by decide +kernel
theorem d_MA_govern_255 : decode c_MA_govern 255 = .ok (.aload_n 0, 1) := by decide +kernel
theorem d_MA_govern_256 : decode c_MA_govern 256 = .ok (.getfield 15, 3) := by decide +kernel
theorem d_MA_govern_259 : decode c_MA_govern 259 = .ok (.iload_n 2, 1) := by decide +kernel
theorem d_MA_govern_260 : decode c_MA_govern 260 = .ok (.aload_n 0, 1) := by decide +kernel
theorem d_MA_govern_261 : decode c_MA_govern 261 = .ok (.getfield 24, 3) := by decide +kernel
theorem d_MA_govern_264 : decode c_MA_govern 264 = .ok (.invokevirtual 103, 3) := by decide +kernel
theorem d_MA_govern_267 : decode c_MA_govern 267 = .ok (.iastore, 1) := by decide +kernel
theorem d_MA_govern_268 : decode c_MA_govern 268 = .ok (.goto 63, 3) := by decide +kernel
theorem d_MA_govern_271 : decode c_MA_govern 271 = .ok (.aload_n 0, 1) := by decide +kernel
theorem d_MA_govern_272 : decode c_MA_govern 272 = .ok (.getfield 24, 3) := by decide +kernel
theorem d_MA_govern_275 : decode c_MA_govern 275 = .ok (.aload_n 0, 1) := by decide +kernel
theorem d_MA_govern_276 : decode c_MA_govern 276 = .ok (.getfield 15, 3) := by decide +kernel
theorem d_MA_govern_279 : decode c_MA_govern 279 = .ok (.iload_n 2, 1) := by decide +kernel
theorem d_MA_govern_280 : decode c_MA_govern 280 = .ok (.iaload, 1) := by decide +kernel
theorem d_MA_govern_281 : decode c_MA_govern 281 = .ok (.sipush 255, 3) := by decide +kernel
theorem d_MA_govern_284 : decode c_MA_govern 284 = .ok (.iand, 1) := by decide +kernel
theorem d_MA_govern_285 : decode c_MA_govern 285 = .ok (.invokevirtual 107, 3) := by decide +kernel
theorem d_MA_govern_288 : decode c_MA_govern 288 = .ok (.goto 43, 3) := by decide +kernel
theorem d_MA_govern_291 : decode c_MA_govern 291 = .ok (.aload_n 0, 1) := by decide +kernel
theorem d_MA_govern_292 : decode c_MA_govern 292 = .ok (.getfield 18, 3) := by decide +kernel
theorem d_MA_govern_295 : decode c_MA_govern 295 = .ok (.iload 8, 2) := by decide +kernel
theorem d_MA_govern_297 : decode c_MA_govern 297 = .ok (.aload_n 0, 1) := by decide +kernel
theorem d_MA_govern_298 : decode c_MA_govern 298 = .ok (.getfield 9, 3) := by decide +kernel
theorem d_MA_govern_301 : decode c_MA_govern 301 = .ok (.iload 7, 2) := by decide +kernel
theorem d_MA_govern_303 : decode c_MA_govern 303 = .ok (.bipush 16, 2) := by decide +kernel
theorem d_MA_govern_305 : decode c_MA_govern 305 = .ok (.invokestatic 110, 3) := by decide +kernel
theorem d_MA_govern_308 : decode c_MA_govern 308 = .ok (.goto 23, 3) := by decide +kernel
theorem d_MA_govern_311 : decode c_MA_govern 311 = .ok (.aload_n 0, 1) := by decide +kernel
theorem d_MA_govern_312 : decode c_MA_govern 312 = .ok (.getfield 9, 3) := by decide +kernel
theorem d_MA_govern_315 : decode c_MA_govern 315 = .ok (.iload 7, 2) := by decide +kernel
theorem d_MA_govern_317 : decode c_MA_govern 317 = .ok (.aload_n 0, 1) := by decide +kernel
theorem d_MA_govern_318 : decode c_MA_govern 318 = .ok (.getfield 18, 3) := by decide +kernel
theorem d_MA_govern_321 : decode c_MA_govern 321 = .ok (.iload 8, 2) := by decide +kernel
theorem d_MA_govern_323 : decode c_MA_govern 323 = .ok (.bipush 16, 2) := by decide +kernel
theorem d_MA_govern_325 : decode c_MA_govern 325 = .ok (.invokestatic 110, 3) := by decide +kernel
theorem d_MA_govern_328 : decode c_MA_govern 328 = .ok (.goto 3, 3) := by decide +kernel
theorem d_MA_govern_331 : decode c_MA_govern 331 = .ok (.aload_n 0, 1) := by decide +kernel
theorem d_MA_govern_332 : decode c_MA_govern 332 = .ok (.iload 9, 2) := by decide +kernel
theorem d_MA_govern_334 : decode c_MA_govern 334 = .ok (.putfield 44, 3) := by decide +kernel
theorem d_MA_govern_337 : decode c_MA_govern 337 = .ok (.return_, 1) := by decide +kernel
theorem d_MA_wordsWanted_0 : decode c_MA_wordsWanted 0 = .ok (.iload_n 0, 1) := by decide +kernel
theorem d_MA_wordsWanted_1 : decode c_MA_wordsWanted 1 = .ok (.tableswitch 52 17 24 #[47, 47, 52, 52, 52, 52, 49, 49], 47) := by decide +kernel
theorem d_MA_wordsWanted_48 : decode c_MA_wordsWanted 48 = .ok (.iconst 4, 1) := by decide +kernel
theorem d_MA_wordsWanted_49 : decode c_MA_wordsWanted 49 = .ok (.ireturn, 1) := by decide +kernel
theorem d_MA_wordsWanted_50 : decode c_MA_wordsWanted 50 = .ok (.bipush 16, 2) := by decide +kernel
theorem d_MA_wordsWanted_52 : decode c_MA_wordsWanted 52 = .ok (.ireturn, 1) := by decide +kernel
theorem d_MA_wordsWanted_53 : decode c_MA_wordsWanted 53 = .ok (.iconst 0, 1) := by decide +kernel
theorem d_MA_wordsWanted_54 : decode c_MA_wordsWanted 54 = .ok (.ireturn, 1) := by decide +kernel
theorem d_MA_trap_0 : decode c_MA_trap 0 = .ok (.aload_n 0, 1) := by decide +kernel
theorem d_MA_trap_1 : decode c_MA_trap 1 = .ok (.iconst 0, 1) := by decide +kernel
theorem d_MA_trap_2 : decode c_MA_trap 2 = .ok (.iload_n 3, 1) := by decide +kernel
theorem d_MA_trap_3 : decode c_MA_trap 3 = .ok (.invokevirtual 99, 3) := by decide +kernel
theorem d_MA_trap_6 : decode c_MA_trap 6 = .ok (.aload_n 0, 1) := by decide +kernel
theorem d_MA_trap_7 : decode c_MA_trap 7 = .ok (.getfield 9, 3) := by decide +kernel
theorem d_MA_trap_10 : decode c_MA_trap 10 = .ok (.bipush 8, 2) := by decide +kernel
theorem d_MA_trap_12 : decode c_MA_trap 12 = .ok (.iload_n 1, 1) := by decide +kernel
theorem d_MA_trap_13 : decode c_MA_trap 13 = .ok (.iastore, 1) := by decide +kernel
theorem d_MA_trap_14 : decode c_MA_trap 14 = .ok (.aload_n 0, 1) := by decide +kernel
theorem d_MA_trap_15 : decode c_MA_trap 15 = .ok (.getfield 9, 3) := by decide +kernel
theorem d_MA_trap_18 : decode c_MA_trap 18 = .ok (.bipush 9, 2) := by decide +kernel
theorem d_MA_trap_20 : decode c_MA_trap 20 = .ok (.iload_n 2, 1) := by decide +kernel
theorem d_MA_trap_21 : decode c_MA_trap 21 = .ok (.iastore, 1) := by decide +kernel
theorem d_MA_trap_22 : decode c_MA_trap 22 = .ok (.aload_n 0, 1) := by decide +kernel
theorem d_MA_trap_23 : decode c_MA_trap 23 = .ok (.iconst 4, 1) := by decide +kernel
theorem d_MA_trap_24 : decode c_MA_trap 24 = .ok (.invokevirtual 96, 3) := by decide +kernel
theorem d_MA_trap_27 : decode c_MA_trap 27 = .ok (.return_, 1) := by decide +kernel
theorem d_MA_keepStatus_0 : decode c_MA_keepStatus 0 = .ok (.aload_n 0, 1) := by decide +kernel
theorem d_MA_keepStatus_1 : decode c_MA_keepStatus 1 = .ok (.getfield 9, 3) := by decide +kernel
theorem d_MA_keepStatus_4 : decode c_MA_keepStatus 4 = .ok (.iload_n 1, 1) := by decide +kernel
theorem d_MA_keepStatus_5 : decode c_MA_keepStatus 5 = .ok (.aload_n 0, 1) := by decide +kernel
theorem d_MA_keepStatus_6 : decode c_MA_keepStatus 6 = .ok (.getfield 41, 3) := by decide +kernel
theorem d_MA_keepStatus_9 : decode c_MA_keepStatus 9 = .ok (.iastore, 1) := by decide +kernel
theorem d_MA_keepStatus_10 : decode c_MA_keepStatus 10 = .ok (.aload_n 0, 1) := by decide +kernel
theorem d_MA_keepStatus_11 : decode c_MA_keepStatus 11 = .ok (.getfield 9, 3) := by decide +kernel
theorem d_MA_keepStatus_14 : decode c_MA_keepStatus 14 = .ok (.iload_n 1, 1) := by decide +kernel
theorem d_MA_keepStatus_15 : decode c_MA_keepStatus 15 = .ok (.iconst 1, 1) := by decide +kernel
theorem d_MA_keepStatus_16 : decode c_MA_keepStatus 16 = .ok (.iadd, 1) := by decide +kernel
theorem d_MA_keepStatus_17 : decode c_MA_keepStatus 17 = .ok (.iload_n 2, 1) := by decide +kernel
theorem d_MA_keepStatus_18 : decode c_MA_keepStatus 18 = .ok (.iastore, 1) := by decide +kernel
theorem d_MA_keepStatus_19 : decode c_MA_keepStatus 19 = .ok (.aload_n 0, 1) := by decide +kernel
theorem d_MA_keepStatus_20 : decode c_MA_keepStatus 20 = .ok (.getfield 9, 3) := by decide +kernel
theorem d_MA_keepStatus_23 : decode c_MA_keepStatus 23 = .ok (.iload_n 1, 1) := by decide +kernel
theorem d_MA_keepStatus_24 : decode c_MA_keepStatus 24 = .ok (.iconst 2, 1) := by decide +kernel
theorem d_MA_keepStatus_25 : decode c_MA_keepStatus 25 = .ok (.iadd, 1) := by decide +kernel
theorem d_MA_keepStatus_26 : decode c_MA_keepStatus 26 = .ok (.aload_n 0, 1) := by decide +kernel
theorem d_MA_keepStatus_27 : decode c_MA_keepStatus 27 = .ok (.getfield 47, 3) := by decide +kernel
theorem d_MA_keepStatus_30 : decode c_MA_keepStatus 30 = .ok (.iastore, 1) := by decide +kernel
theorem d_MA_keepStatus_31 : decode c_MA_keepStatus 31 = .ok (.aload_n 0, 1) := by decide +kernel
theorem d_MA_keepStatus_32 : decode c_MA_keepStatus 32 = .ok (.getfield 9, 3) := by decide +kernel
theorem d_MA_keepStatus_35 : decode c_MA_keepStatus 35 = .ok (.iload_n 1, 1) := by decide +kernel
theorem d_MA_keepStatus_36 : decode c_MA_keepStatus 36 = .ok (.iconst 3, 1) := by decide +kernel
theorem d_MA_keepStatus_37 : decode c_MA_keepStatus 37 = .ok (.iadd, 1) := by decide +kernel
theorem d_MA_keepStatus_38 : decode c_MA_keepStatus 38 = .ok (.aload_n 0, 1) := by decide +kernel
theorem d_MA_keepStatus_39 : decode c_MA_keepStatus 39 = .ok (.getfield 50, 3) := by decide +kernel
theorem d_MA_keepStatus_42 : decode c_MA_keepStatus 42 = .ok (.iastore, 1) := by decide +kernel
theorem d_MA_keepStatus_43 : decode c_MA_keepStatus 43 = .ok (.return_, 1) := by decide +kernel
theorem d_MA_takeStatus_0 : decode c_MA_takeStatus 0 = .ok (.aload_n 0, 1) := by decide +kernel
theorem d_MA_takeStatus_1 : decode c_MA_takeStatus 1 = .ok (.aload_n 0, 1) := by decide +kernel
theorem d_MA_takeStatus_2 : decode c_MA_takeStatus 2 = .ok (.getfield 9, 3) := by decide +kernel
theorem d_MA_takeStatus_5 : decode c_MA_takeStatus 5 = .ok (.iload_n 1, 1) := by decide +kernel
theorem d_MA_takeStatus_6 : decode c_MA_takeStatus 6 = .ok (.iaload, 1) := by decide +kernel
theorem d_MA_takeStatus_7 : decode c_MA_takeStatus 7 = .ok (.ifCond .ne 7, 3) := by decide +kernel
theorem d_MA_takeStatus_10 : decode c_MA_takeStatus 10 = .ok (.iconst 0, 1) := by decide +kernel
theorem d_MA_takeStatus_11 : decode c_MA_takeStatus 11 = .ok (.goto 4, 3) := by decide +kernel
theorem d_MA_takeStatus_14 : decode c_MA_takeStatus 14 = .ok (.iconst 1, 1) := by decide +kernel
theorem d_MA_takeStatus_15 : decode c_MA_takeStatus 15 = .ok (.putfield 41, 3) := by decide +kernel
theorem d_MA_takeStatus_18 : decode c_MA_takeStatus 18 = .ok (.aload_n 0, 1) := by decide +kernel
theorem d_MA_takeStatus_19 : decode c_MA_takeStatus 19 = .ok (.aload_n 0, 1) := by decide +kernel
theorem d_MA_takeStatus_20 : decode c_MA_takeStatus 20 = .ok (.getfield 9, 3) := by decide +kernel
theorem d_MA_takeStatus_23 : decode c_MA_takeStatus 23 = .ok (.iload_n 1, 1) := by decide +kernel
theorem d_MA_takeStatus_24 : decode c_MA_takeStatus 24 = .ok (.iconst 1, 1) := by decide +kernel
theorem d_MA_takeStatus_25 : decode c_MA_takeStatus 25 = .ok (.iadd, 1) := by decide +kernel
theorem d_MA_takeStatus_26 : decode c_MA_takeStatus 26 = .ok (.iaload, 1) := by decide +kernel
theorem d_MA_takeStatus_27 : decode c_MA_takeStatus 27 = .ok (.putfield 44, 3) := by decide +kernel
theorem d_MA_takeStatus_30 : decode c_MA_takeStatus 30 = .ok (.aload_n 0, 1) := by decide +kernel
theorem d_MA_takeStatus_31 : decode c_MA_takeStatus 31 = .ok (.aload_n 0, 1) := by decide +kernel
theorem d_MA_takeStatus_32 : decode c_MA_takeStatus 32 = .ok (.getfield 9, 3) := by decide +kernel
theorem d_MA_takeStatus_35 : decode c_MA_takeStatus 35 = .ok (.iload_n 1, 1) := by decide +kernel
theorem d_MA_takeStatus_36 : decode c_MA_takeStatus 36 = .ok (.iconst 2, 1) := by decide +kernel
theorem d_MA_takeStatus_37 : decode c_MA_takeStatus 37 = .ok (.iadd, 1) := by decide +kernel
theorem d_MA_takeStatus_38 : decode c_MA_takeStatus 38 = .ok (.iaload, 1) := by decide +kernel
theorem d_MA_takeStatus_39 : decode c_MA_takeStatus 39 = .ok (.putfield 47, 3) := by decide +kernel
theorem d_MA_takeStatus_42 : decode c_MA_takeStatus 42 = .ok (.aload_n 0, 1) := by decide +kernel
theorem d_MA_takeStatus_43 : decode c_MA_takeStatus 43 = .ok (.aload_n 0, 1) := by decide +kernel
theorem d_MA_takeStatus_44 : decode c_MA_takeStatus 44 = .ok (.getfield 9, 3) := by decide +kernel
theorem d_MA_takeStatus_47 : decode c_MA_takeStatus 47 = .ok (.iload_n 1, 1) := by decide +kernel
theorem d_MA_takeStatus_48 : decode c_MA_takeStatus 48 = .ok (.iconst 3, 1) := by decide +kernel
theorem d_MA_takeStatus_49 : decode c_MA_takeStatus 49 = .ok (.iadd, 1) := by decide +kernel
theorem d_MA_takeStatus_50 : decode c_MA_takeStatus 50 = .ok (.iaload, 1) := by decide +kernel
theorem d_MA_takeStatus_51 : decode c_MA_takeStatus 51 = .ok (.putfield 50, 3) := by decide +kernel
theorem d_MA_takeStatus_54 : decode c_MA_takeStatus 54 = .ok (.aload_n 0, 1) := by decide +kernel
theorem d_MA_takeStatus_55 : decode c_MA_takeStatus 55 = .ok (.aload_n 0, 1) := by decide +kernel
theorem d_MA_takeStatus_56 : decode c_MA_takeStatus 56 = .ok (.getfield 47, 3) := by decide +kernel
theorem d_MA_takeStatus_59 : decode c_MA_takeStatus 59 = .ok (.aload_n 0, 1) := by decide +kernel
theorem d_MA_takeStatus_60 : decode c_MA_takeStatus 60 = .ok (.getfield 50, 3) := by decide +kernel
theorem d_MA_takeStatus_63 : decode c_MA_takeStatus 63 = .ok (.iadd, 1) := by decide +kernel
theorem d_MA_takeStatus_64 : decode c_MA_takeStatus 64 = .ok (.aload_n 0, 1) := by decide +kernel
theorem d_MA_takeStatus_65 : decode c_MA_takeStatus 65 = .ok (.getfield 28, 3) := by decide +kernel
theorem d_MA_takeStatus_68 : decode c_MA_takeStatus 68 = .ok (.if_icmp .ge 10, 3) := by decide +kernel
theorem d_MA_takeStatus_71 : decode c_MA_takeStatus 71 = .ok (.aload_n 0, 1) := by decide +kernel
theorem d_MA_takeStatus_72 : decode c_MA_takeStatus 72 = .ok (.getfield 50, 3) := by decide +kernel
theorem d_MA_takeStatus_75 : decode c_MA_takeStatus 75 = .ok (.goto 12, 3) := by decide +kernel
theorem d_MA_takeStatus_78 : decode c_MA_takeStatus 78 = .ok (.aload_n 0, 1) := by decide +kernel
theorem d_MA_takeStatus_79 : decode c_MA_takeStatus 79 = .ok (.getfield 28, 3) := by decide +kernel
theorem d_MA_takeStatus_82 : decode c_MA_takeStatus 82 = .ok (.aload_n 0, 1) := by decide +kernel
theorem d_MA_takeStatus_83 : decode c_MA_takeStatus 83 = .ok (.getfield 47, 3) := by decide +kernel
theorem d_MA_takeStatus_86 : decode c_MA_takeStatus 86 = .ok (.isub, 1) := by decide +kernel
theorem d_MA_takeStatus_87 : decode c_MA_takeStatus 87 = .ok (.putfield 53, 3) := by decide +kernel
theorem d_MA_takeStatus_90 : decode c_MA_takeStatus 90 = .ok (.return_, 1) := by decide +kernel
theorem d_MA_firstBad_0 : decode c_MA_firstBad 0 = .ok (.iconst 0, 1) := by decide +kernel
theorem d_MA_firstBad_1 : decode c_MA_firstBad 1 = .ok (.istore_n 3, 1) := by decide +kernel
theorem d_MA_firstBad_2 : decode c_MA_firstBad 2 = .ok (.iload_n 3, 1) := by decide +kernel
theorem d_MA_firstBad_3 : decode c_MA_firstBad 3 = .ok (.iload_n 2, 1) := by decide +kernel
theorem d_MA_firstBad_4 : decode c_MA_firstBad 4 = .ok (.if_icmp .ge 29, 3) := by decide +kernel
theorem d_MA_firstBad_7 : decode c_MA_firstBad 7 = .ok (.iload_n 1, 1) := by decide +kernel
theorem d_MA_firstBad_8 : decode c_MA_firstBad 8 = .ok (.iload_n 3, 1) := by decide +kernel
theorem d_MA_firstBad_9 : decode c_MA_firstBad 9 = .ok (.iadd, 1) := by decide +kernel
theorem d_MA_firstBad_10 : decode c_MA_firstBad 10 = .ok (.ldc 70, 2) := by decide +kernel
theorem d_MA_firstBad_12 : decode c_MA_firstBad 12 = .ok (.iand, 1) := by decide +kernel
theorem d_MA_firstBad_13 : decode c_MA_firstBad 13 = .ok (.istore 4, 2) := by decide +kernel
theorem d_MA_firstBad_15 : decode c_MA_firstBad 15 = .ok (.iload 4, 2) := by decide +kernel
theorem d_MA_firstBad_17 : decode c_MA_firstBad 17 = .ok (.aload_n 0, 1) := by decide +kernel
theorem d_MA_firstBad_18 : decode c_MA_firstBad 18 = .ok (.getfield 53, 3) := by decide +kernel
theorem d_MA_firstBad_21 : decode c_MA_firstBad 21 = .ok (.if_icmp .lt 6, 3) := by decide +kernel
theorem d_MA_firstBad_24 : decode c_MA_firstBad 24 = .ok (.iload 4, 2) := by decide +kernel
theorem d_MA_firstBad_26 : decode c_MA_firstBad 26 = .ok (.ireturn, 1) := by decide +kernel
theorem d_MA_firstBad_27 : decode c_MA_firstBad 27 = .ok (.iinc 3 1, 3) := by decide +kernel
theorem d_MA_firstBad_30 : decode c_MA_firstBad 30 = .ok (.goto (-28), 3) := by decide +kernel
theorem d_MA_firstBad_33 : decode c_MA_firstBad 33 = .ok (.iconst (-1), 1) := by decide +kernel
theorem d_MA_firstBad_34 : decode c_MA_firstBad 34 = .ok (.ireturn, 1) := by decide +kernel
theorem d_MA_shifted_0 : decode c_MA_shifted 0 = .ok (.iload_n 1, 1) := by decide +kernel
theorem d_MA_shifted_1 : decode c_MA_shifted 1 = .ok (.bipush 15, 2) := by decide +kernel
theorem d_MA_shifted_3 : decode c_MA_shifted 3 = .ok (.iand, 1) := by decide +kernel
theorem d_MA_shifted_4 : decode c_MA_shifted 4 = .ok (.istore_n 2, 1) := by decide +kernel
theorem d_MA_shifted_5 : decode c_MA_shifted 5 = .ok (.iload_n 1, 1) := by decide +kernel
theorem d_MA_shifted_6 : decode c_MA_shifted 6 = .ok (.bipush 16, 2) := by decide +kernel
theorem d_MA_shifted_8 : decode c_MA_shifted 8 = .ok (.iand, 1) := by decide +kernel
theorem d_MA_shifted_9 : decode c_MA_shifted 9 = .ok (.ifCond .ne 12, 3) := by decide +kernel
theorem d_MA_shifted_12 : decode c_MA_shifted 12 = .ok (.iload_n 0, 1) := by decide +kernel
theorem d_MA_shifted_13 : decode c_MA_shifted 13 = .ok (.iload_n 2, 1) := by decide +kernel
theorem d_MA_shifted_14 : decode c_MA_shifted 14 = .ok (.ishl, 1) := by decide +kernel
theorem d_MA_shifted_15 : decode c_MA_shifted 15 = .ok (.ldc 70, 2) := by decide +kernel
theorem d_MA_shifted_17 : decode c_MA_shifted 17 = .ok (.iand, 1) := by decide +kernel
theorem d_MA_shifted_18 : decode c_MA_shifted 18 = .ok (.goto 6, 3) := by decide +kernel
theorem d_MA_shifted_21 : decode c_MA_shifted 21 = .ok (.iload_n 0, 1) := by decide +kernel
theorem d_MA_shifted_22 : decode c_MA_shifted 22 = .ok (.iload_n 2, 1) := by decide +kernel
theorem d_MA_shifted_23 : decode c_MA_shifted 23 = .ok (.ishr, 1) := by decide +kernel
theorem d_MA_shifted_24 : decode c_MA_shifted 24 = .ok (.ireturn, 1) := by decide +kernel
theorem d_LW_law_0 : decode code 0 = .ok (.new 7, 3) := by decide +kernel
theorem d_LW_law_3 : decode code 3 = .ok (.dup, 1) := by decide +kernel
theorem d_LW_law_4 : decode code 4 = .ok (.invokespecial 9, 3) := by decide +kernel
theorem d_LW_law_7 : decode code 7 = .ok (.astore_n 1, 1) := by decide +kernel
theorem d_LW_law_8 : decode code 8 = .ok (.new 10, 3) := by decide +kernel
theorem d_LW_law_11 : decode code 11 = .ok (.dup, 1) := by decide +kernel
theorem d_LW_law_12 : decode code 12 = .ok (.invokespecial 12, 3) := by decide +kernel
theorem d_LW_law_15 : decode code 15 = .ok (.astore_n 2, 1) := by decide +kernel
theorem d_LW_law_16 : decode code 16 = .ok (.iconst 0, 1) := by decide +kernel
theorem d_LW_law_17 : decode code 17 = .ok (.istore_n 3, 1) := by decide +kernel
theorem d_LW_law_18 : decode code 18 = .ok (.iload_n 3, 1) := by decide +kernel
theorem d_LW_law_19 : decode code 19 = .ok (.aload_n 0, 1) := by decide +kernel
theorem d_LW_law_20 : decode code 20 = .ok (.arraylength, 1) := by decide +kernel
theorem d_LW_law_21 : decode code 21 = .ok (.bipush 6, 2) := by decide +kernel
theorem d_LW_law_23 : decode code 23 = .ok (.isub, 1) := by decide +kernel
theorem d_LW_law_24 : decode code 24 = .ok (.if_icmp .gt 413, 3) := by decide +kernel
theorem d_LW_law_27 : decode code 27 = .ok (.aload_n 0, 1) := by decide +kernel
theorem d_LW_law_28 : decode code 28 = .ok (.iload_n 3, 1) := by decide +kernel
theorem d_LW_law_29 : decode code 29 = .ok (.iaload, 1) := by decide +kernel
theorem d_LW_law_30 : decode code 30 = .ok (.bipush 15, 2) := by decide +kernel
theorem d_LW_law_32 : decode code 32 = .ok (.iand, 1) := by decide +kernel
theorem d_LW_law_33 : decode code 33 = .ok (.tableswitch 398 0 8 #[51, 114, 167, 190, 223, 256, 289, 322, 355], 51) := by decide +kernel
theorem d_LW_law_84 : decode code 84 = .ok (.aload_n 1, 1) := by decide +kernel
theorem d_LW_law_85 : decode code 85 = .ok (.aload_n 0, 1) := by decide +kernel
theorem d_LW_law_86 : decode code 86 = .ok (.iload_n 3, 1) := by decide +kernel
theorem d_LW_law_87 : decode code 87 = .ok (.iconst 1, 1) := by decide +kernel
theorem d_LW_law_88 : decode code 88 = .ok (.iadd, 1) := by decide +kernel
theorem d_LW_law_89 : decode code 89 = .ok (.iaload, 1) := by decide +kernel
theorem d_LW_law_90 : decode code 90 = .ok (.aload_n 0, 1) := by decide +kernel
theorem d_LW_law_91 : decode code 91 = .ok (.iload_n 3, 1) := by decide +kernel
theorem d_LW_law_92 : decode code 92 = .ok (.iconst 2, 1) := by decide +kernel
theorem d_LW_law_93 : decode code 93 = .ok (.iadd, 1) := by decide +kernel
theorem d_LW_law_94 : decode code 94 = .ok (.iaload, 1) := by decide +kernel
theorem d_LW_law_95 : decode code 95 = .ok (.aload_n 0, 1) := by decide +kernel
theorem d_LW_law_96 : decode code 96 = .ok (.iload_n 3, 1) := by decide +kernel
theorem d_LW_law_97 : decode code 97 = .ok (.iconst 3, 1) := by decide +kernel
theorem d_LW_law_98 : decode code 98 = .ok (.iadd, 1) := by decide +kernel
theorem d_LW_law_99 : decode code 99 = .ok (.iaload, 1) := by decide +kernel
theorem d_LW_law_100 : decode code 100 = .ok (.aload_n 0, 1) := by decide +kernel
theorem d_LW_law_101 : decode code 101 = .ok (.iload_n 3, 1) := by decide +kernel
theorem d_LW_law_102 : decode code 102 = .ok (.iconst 4, 1) := by decide +kernel
theorem d_LW_law_103 : decode code 103 = .ok (.iadd, 1) := by decide +kernel
theorem d_LW_law_104 : decode code 104 = .ok (.iaload, 1) := by decide +kernel
theorem d_LW_law_105 : decode code 105 = .ok (.aload_n 0, 1) := by decide +kernel
theorem d_LW_law_106 : decode code 106 = .ok (.iload_n 3, 1) := by decide +kernel
theorem d_LW_law_107 : decode code 107 = .ok (.iconst 5, 1) := by decide +kernel
theorem d_LW_law_108 : decode code 108 = .ok (.iadd, 1) := by decide +kernel
theorem d_LW_law_109 : decode code 109 = .ok (.iaload, 1) := by decide +kernel
theorem d_LW_law_110 : decode code 110 = .ok (.invokevirtual 13, 3) := by decide +kernel
theorem d_LW_law_113 : decode code 113 = .ok (.aload_n 2, 1) := by decide +kernel
theorem d_LW_law_114 : decode code 114 = .ok (.aload_n 0, 1) := by decide +kernel
theorem d_LW_law_115 : decode code 115 = .ok (.iload_n 3, 1) := by decide +kernel
theorem d_LW_law_116 : decode code 116 = .ok (.iconst 1, 1) := by decide +kernel
theorem d_LW_law_117 : decode code 117 = .ok (.iadd, 1) := by decide +kernel
theorem d_LW_law_118 : decode code 118 = .ok (.iaload, 1) := by decide +kernel
theorem d_LW_law_119 : decode code 119 = .ok (.aload_n 0, 1) := by decide +kernel
theorem d_LW_law_120 : decode code 120 = .ok (.iload_n 3, 1) := by decide +kernel
theorem d_LW_law_121 : decode code 121 = .ok (.iconst 2, 1) := by decide +kernel
theorem d_LW_law_122 : decode code 122 = .ok (.iadd, 1) := by decide +kernel
theorem d_LW_law_123 : decode code 123 = .ok (.iaload, 1) := by decide +kernel
theorem d_LW_law_124 : decode code 124 = .ok (.aload_n 0, 1) := by decide +kernel
theorem d_LW_law_125 : decode code 125 = .ok (.iload_n 3, 1) := by decide +kernel
theorem d_LW_law_126 : decode code 126 = .ok (.iconst 3, 1) := by decide +kernel
theorem d_LW_law_127 : decode code 127 = .ok (.iadd, 1) := by decide +kernel
theorem d_LW_law_128 : decode code 128 = .ok (.iaload, 1) := by decide +kernel
theorem d_LW_law_129 : decode code 129 = .ok (.aload_n 0, 1) := by decide +kernel
theorem d_LW_law_130 : decode code 130 = .ok (.iload_n 3, 1) := by decide +kernel
theorem d_LW_law_131 : decode code 131 = .ok (.iconst 4, 1) := by decide +kernel
theorem d_LW_law_132 : decode code 132 = .ok (.iadd, 1) := by decide +kernel
theorem d_LW_law_133 : decode code 133 = .ok (.iaload, 1) := by decide +kernel
theorem d_LW_law_134 : decode code 134 = .ok (.aload_n 0, 1) := by decide +kernel
theorem d_LW_law_135 : decode code 135 = .ok (.iload_n 3, 1) := by decide +kernel
theorem d_LW_law_136 : decode code 136 = .ok (.iconst 5, 1) := by decide +kernel
theorem d_LW_law_137 : decode code 137 = .ok (.iadd, 1) := by decide +kernel
theorem d_LW_law_138 : decode code 138 = .ok (.iaload, 1) := by decide +kernel
theorem d_LW_law_139 : decode code 139 = .ok (.invokevirtual 17, 3) := by decide +kernel
theorem d_LW_law_142 : decode code 142 = .ok (.if_icmp .eq 289, 3) := by decide +kernel
theorem d_LW_law_145 : decode code 145 = .ok (.iconst 0, 1) := by decide +kernel
theorem d_LW_law_146 : decode code 146 = .ok (.ireturn, 1) := by decide +kernel
theorem d_LW_law_147 : decode code 147 = .ok (.aload_n 1, 1) := by decide +kernel
theorem d_LW_law_148 : decode code 148 = .ok (.aload_n 0, 1) := by decide +kernel
theorem d_LW_law_149 : decode code 149 = .ok (.iload_n 3, 1) := by decide +kernel
theorem d_LW_law_150 : decode code 150 = .ok (.iconst 1, 1) := by decide +kernel
theorem d_LW_law_151 : decode code 151 = .ok (.iadd, 1) := by decide +kernel
theorem d_LW_law_152 : decode code 152 = .ok (.iaload, 1) := by decide +kernel
theorem d_LW_law_153 : decode code 153 = .ok (.aload_n 0, 1) := by decide +kernel
theorem d_LW_law_154 : decode code 154 = .ok (.iload_n 3, 1) := by decide +kernel
theorem d_LW_law_155 : decode code 155 = .ok (.iconst 2, 1) := by decide +kernel
theorem d_LW_law_156 : decode code 156 = .ok (.iadd, 1) := by decide +kernel
theorem d_LW_law_157 : decode code 157 = .ok (.iaload, 1) := by decide +kernel
theorem d_LW_law_158 : decode code 158 = .ok (.aload_n 0, 1) := by decide +kernel
theorem d_LW_law_159 : decode code 159 = .ok (.iload_n 3, 1) := by decide +kernel
theorem d_LW_law_160 : decode code 160 = .ok (.iconst 3, 1) := by decide +kernel
theorem d_LW_law_161 : decode code 161 = .ok (.iadd, 1) := by decide +kernel
theorem d_LW_law_162 : decode code 162 = .ok (.iaload, 1) := by decide +kernel
theorem d_LW_law_163 : decode code 163 = .ok (.aload_n 0, 1) := by decide +kernel
theorem d_LW_law_164 : decode code 164 = .ok (.iload_n 3, 1) := by decide +kernel
theorem d_LW_law_165 : decode code 165 = .ok (.iconst 4, 1) := by decide +kernel
theorem d_LW_law_166 : decode code 166 = .ok (.iadd, 1) := by decide +kernel
theorem d_LW_law_167 : decode code 167 = .ok (.iaload, 1) := by decide +kernel
theorem d_LW_law_168 : decode code 168 = .ok (.invokevirtual 18, 3) := by decide +kernel
theorem d_LW_law_171 : decode code 171 = .ok (.aload_n 2, 1) := by decide +kernel
theorem d_LW_law_172 : decode code 172 = .ok (.aload_n 0, 1) := by decide +kernel
theorem d_LW_law_173 : decode code 173 = .ok (.iload_n 3, 1) := by decide +kernel
theorem d_LW_law_174 : decode code 174 = .ok (.iconst 1, 1) := by decide +kernel
theorem d_LW_law_175 : decode code 175 = .ok (.iadd, 1) := by decide +kernel
theorem d_LW_law_176 : decode code 176 = .ok (.iaload, 1) := by decide +kernel
theorem d_LW_law_177 : decode code 177 = .ok (.aload_n 0, 1) := by decide +kernel
theorem d_LW_law_178 : decode code 178 = .ok (.iload_n 3, 1) := by decide +kernel
theorem d_LW_law_179 : decode code 179 = .ok (.iconst 2, 1) := by decide +kernel
theorem d_LW_law_180 : decode code 180 = .ok (.iadd, 1) := by decide +kernel
theorem d_LW_law_181 : decode code 181 = .ok (.iaload, 1) := by decide +kernel
theorem d_LW_law_182 : decode code 182 = .ok (.aload_n 0, 1) := by decide +kernel
theorem d_LW_law_183 : decode code 183 = .ok (.iload_n 3, 1) := by decide +kernel
theorem d_LW_law_184 : decode code 184 = .ok (.iconst 3, 1) := by decide +kernel
theorem d_LW_law_185 : decode code 185 = .ok (.iadd, 1) := by decide +kernel
theorem d_LW_law_186 : decode code 186 = .ok (.iaload, 1) := by decide +kernel
theorem d_LW_law_187 : decode code 187 = .ok (.aload_n 0, 1) := by decide +kernel
theorem d_LW_law_188 : decode code 188 = .ok (.iload_n 3, 1) := by decide +kernel
theorem d_LW_law_189 : decode code 189 = .ok (.iconst 4, 1) := by decide +kernel
theorem d_LW_law_190 : decode code 190 = .ok (.iadd, 1) := by decide +kernel
theorem d_LW_law_191 : decode code 191 = .ok (.iaload, 1) := by decide +kernel
theorem d_LW_law_192 : decode code 192 = .ok (.invokevirtual 22, 3) := by decide +kernel
theorem d_LW_law_195 : decode code 195 = .ok (.if_icmp .eq 236, 3) := by decide +kernel
theorem d_LW_law_198 : decode code 198 = .ok (.iconst 0, 1) := by decide +kernel
theorem d_LW_law_199 : decode code 199 = .ok (.ireturn, 1) := by decide +kernel
theorem d_LW_law_200 : decode code 200 = .ok (.aload_n 1, 1) := by decide +kernel
theorem d_LW_law_201 : decode code 201 = .ok (.aload_n 0, 1) := by decide +kernel
theorem d_LW_law_202 : decode code 202 = .ok (.iload_n 3, 1) := by decide +kernel
theorem d_LW_law_203 : decode code 203 = .ok (.iconst 1, 1) := by decide +kernel
theorem d_LW_law_204 : decode code 204 = .ok (.iadd, 1) := by decide +kernel
theorem d_LW_law_205 : decode code 205 = .ok (.iaload, 1) := by decide +kernel
theorem d_LW_law_206 : decode code 206 = .ok (.invokevirtual 23, 3) := by decide +kernel
theorem d_LW_law_209 : decode code 209 = .ok (.aload_n 2, 1) := by decide +kernel
theorem d_LW_law_210 : decode code 210 = .ok (.aload_n 0, 1) := by decide +kernel
theorem d_LW_law_211 : decode code 211 = .ok (.iload_n 3, 1) := by decide +kernel
theorem d_LW_law_212 : decode code 212 = .ok (.iconst 1, 1) := by decide +kernel
theorem d_LW_law_213 : decode code 213 = .ok (.iadd, 1) := by decide +kernel
theorem d_LW_law_214 : decode code 214 = .ok (.iaload, 1) := by decide +kernel
theorem d_LW_law_215 : decode code 215 = .ok (.invokevirtual 27, 3) := by decide +kernel
theorem d_LW_law_218 : decode code 218 = .ok (.if_icmp .eq 213, 3) := by decide +kernel
theorem d_LW_law_221 : decode code 221 = .ok (.iconst 0, 1) := by decide +kernel
theorem d_LW_law_222 : decode code 222 = .ok (.ireturn, 1) := by decide +kernel
theorem d_LW_law_223 : decode code 223 = .ok (.aload_n 1, 1) := by decide +kernel
theorem d_LW_law_224 : decode code 224 = .ok (.aload_n 0, 1) := by decide +kernel
theorem d_LW_law_225 : decode code 225 = .ok (.iload_n 3, 1) := by decide +kernel
theorem d_LW_law_226 : decode code 226 = .ok (.iconst 1, 1) := by decide +kernel
theorem d_LW_law_227 : decode code 227 = .ok (.iadd, 1) := by decide +kernel
theorem d_LW_law_228 : decode code 228 = .ok (.iaload, 1) := by decide +kernel
theorem d_LW_law_229 : decode code 229 = .ok (.aload_n 0, 1) := by decide +kernel
theorem d_LW_law_230 : decode code 230 = .ok (.iload_n 3, 1) := by decide +kernel
theorem d_LW_law_231 : decode code 231 = .ok (.iconst 2, 1) := by decide +kernel
theorem d_LW_law_232 : decode code 232 = .ok (.iadd, 1) := by decide +kernel
theorem d_LW_law_233 : decode code 233 = .ok (.iaload, 1) := by decide +kernel
theorem d_LW_law_234 : decode code 234 = .ok (.invokevirtual 28, 3) := by decide +kernel
theorem d_LW_law_237 : decode code 237 = .ok (.aload_n 2, 1) := by decide +kernel
theorem d_LW_law_238 : decode code 238 = .ok (.aload_n 0, 1) := by decide +kernel
theorem d_LW_law_239 : decode code 239 = .ok (.iload_n 3, 1) := by decide +kernel
theorem d_LW_law_240 : decode code 240 = .ok (.iconst 1, 1) := by decide +kernel
theorem d_LW_law_241 : decode code 241 = .ok (.iadd, 1) := by decide +kernel
theorem d_LW_law_242 : decode code 242 = .ok (.iaload, 1) := by decide +kernel
theorem d_LW_law_243 : decode code 243 = .ok (.aload_n 0, 1) := by decide +kernel
theorem d_LW_law_244 : decode code 244 = .ok (.iload_n 3, 1) := by decide +kernel
theorem d_LW_law_245 : decode code 245 = .ok (.iconst 2, 1) := by decide +kernel
theorem d_LW_law_246 : decode code 246 = .ok (.iadd, 1) := by decide +kernel
theorem d_LW_law_247 : decode code 247 = .ok (.iaload, 1) := by decide +kernel
theorem d_LW_law_248 : decode code 248 = .ok (.invokevirtual 32, 3) := by decide +kernel
theorem d_LW_law_251 : decode code 251 = .ok (.if_icmp .eq 180, 3) := by decide +kernel
theorem d_LW_law_254 : decode code 254 = .ok (.iconst 0, 1) := by decide +kernel
theorem d_LW_law_255 : decode code 255 = .ok (.ireturn, 1) := by decide +kernel
theorem d_LW_law_256 : decode code 256 = .ok (.aload_n 1, 1) := by decide +kernel
theorem d_LW_law_257 : decode code 257 = .ok (.aload_n 0, 1) := by decide +kernel
theorem d_LW_law_258 : decode code 258 = .ok (.iload_n 3, 1) := by decide +kernel
theorem d_LW_law_259 : decode code 259 = .ok (.iconst 1, 1) := by decide +kernel
theorem d_LW_law_260 : decode code 260 = .ok (.iadd, 1) := by decide +kernel
theorem d_LW_law_261 : decode code 261 = .ok (.iaload, 1) := by decide +kernel
theorem d_LW_law_262 : decode code 262 = .ok (.aload_n 0, 1) := by decide +kernel
theorem d_LW_law_263 : decode code 263 = .ok (.iload_n 3, 1) := by decide +kernel
theorem d_LW_law_264 : decode code 264 = .ok (.iconst 2, 1) := by decide +kernel
theorem d_LW_law_265 : decode code 265 = .ok (.iadd, 1) := by decide +kernel
theorem d_LW_law_266 : decode code 266 = .ok (.iaload, 1) := by decide +kernel
theorem d_LW_law_267 : decode code 267 = .ok (.invokevirtual 33, 3) := by decide +kernel
theorem d_LW_law_270 : decode code 270 = .ok (.aload_n 2, 1) := by decide +kernel
theorem d_LW_law_271 : decode code 271 = .ok (.aload_n 0, 1) := by decide +kernel
theorem d_LW_law_272 : decode code 272 = .ok (.iload_n 3, 1) := by decide +kernel
theorem d_LW_law_273 : decode code 273 = .ok (.iconst 1, 1) := by decide +kernel
theorem d_LW_law_274 : decode code 274 = .ok (.iadd, 1) := by decide +kernel
theorem d_LW_law_275 : decode code 275 = .ok (.iaload, 1) := by decide +kernel
theorem d_LW_law_276 : decode code 276 = .ok (.aload_n 0, 1) := by decide +kernel
theorem d_LW_law_277 : decode code 277 = .ok (.iload_n 3, 1) := by decide +kernel
theorem d_LW_law_278 : decode code 278 = .ok (.iconst 2, 1) := by decide +kernel
theorem d_LW_law_279 : decode code 279 = .ok (.iadd, 1) := by decide +kernel
theorem d_LW_law_280 : decode code 280 = .ok (.iaload, 1) := by decide +kernel
theorem d_LW_law_281 : decode code 281 = .ok (.invokevirtual 37, 3) := by decide +kernel
theorem d_LW_law_284 : decode code 284 = .ok (.if_icmp .eq 147, 3) := by decide +kernel
theorem d_LW_law_287 : decode code 287 = .ok (.iconst 0, 1) := by decide +kernel
theorem d_LW_law_288 : decode code 288 = .ok (.ireturn, 1) := by decide +kernel
theorem d_LW_law_289 : decode code 289 = .ok (.aload_n 1, 1) := by decide +kernel
theorem d_LW_law_290 : decode code 290 = .ok (.aload_n 0, 1) := by decide +kernel
theorem d_LW_law_291 : decode code 291 = .ok (.iload_n 3, 1) := by decide +kernel
theorem d_LW_law_292 : decode code 292 = .ok (.iconst 1, 1) := by decide +kernel
theorem d_LW_law_293 : decode code 293 = .ok (.iadd, 1) := by decide +kernel
theorem d_LW_law_294 : decode code 294 = .ok (.iaload, 1) := by decide +kernel
theorem d_LW_law_295 : decode code 295 = .ok (.aload_n 0, 1) := by decide +kernel
theorem d_LW_law_296 : decode code 296 = .ok (.iload_n 3, 1) := by decide +kernel
theorem d_LW_law_297 : decode code 297 = .ok (.iconst 2, 1) := by decide +kernel
theorem d_LW_law_298 : decode code 298 = .ok (.iadd, 1) := by decide +kernel
theorem d_LW_law_299 : decode code 299 = .ok (.iaload, 1) := by decide +kernel
theorem d_LW_law_300 : decode code 300 = .ok (.invokevirtual 38, 3) := by decide +kernel
theorem d_LW_law_303 : decode code 303 = .ok (.aload_n 2, 1) := by decide +kernel
theorem d_LW_law_304 : decode code 304 = .ok (.aload_n 0, 1) := by decide +kernel
theorem d_LW_law_305 : decode code 305 = .ok (.iload_n 3, 1) := by decide +kernel
theorem d_LW_law_306 : decode code 306 = .ok (.iconst 1, 1) := by decide +kernel
theorem d_LW_law_307 : decode code 307 = .ok (.iadd, 1) := by decide +kernel
theorem d_LW_law_308 : decode code 308 = .ok (.iaload, 1) := by decide +kernel
theorem d_LW_law_309 : decode code 309 = .ok (.aload_n 0, 1) := by decide +kernel
theorem d_LW_law_310 : decode code 310 = .ok (.iload_n 3, 1) := by decide +kernel
theorem d_LW_law_311 : decode code 311 = .ok (.iconst 2, 1) := by decide +kernel
theorem d_LW_law_312 : decode code 312 = .ok (.iadd, 1) := by decide +kernel
theorem d_LW_law_313 : decode code 313 = .ok (.iaload, 1) := by decide +kernel
theorem d_LW_law_314 : decode code 314 = .ok (.invokevirtual 41, 3) := by decide +kernel
theorem d_LW_law_317 : decode code 317 = .ok (.if_icmp .eq 114, 3) := by decide +kernel
theorem d_LW_law_320 : decode code 320 = .ok (.iconst 0, 1) := by decide +kernel
theorem d_LW_law_321 : decode code 321 = .ok (.ireturn, 1) := by decide +kernel
theorem d_LW_law_322 : decode code 322 = .ok (.aload_n 1, 1) := by decide +kernel
theorem d_LW_law_323 : decode code 323 = .ok (.aload_n 0, 1) := by decide +kernel
theorem d_LW_law_324 : decode code 324 = .ok (.iload_n 3, 1) := by decide +kernel
theorem d_LW_law_325 : decode code 325 = .ok (.iconst 1, 1) := by decide +kernel
theorem d_LW_law_326 : decode code 326 = .ok (.iadd, 1) := by decide +kernel
theorem d_LW_law_327 : decode code 327 = .ok (.iaload, 1) := by decide +kernel
theorem d_LW_law_328 : decode code 328 = .ok (.aload_n 0, 1) := by decide +kernel
theorem d_LW_law_329 : decode code 329 = .ok (.iload_n 3, 1) := by decide +kernel
theorem d_LW_law_330 : decode code 330 = .ok (.iconst 2, 1) := by decide +kernel
theorem d_LW_law_331 : decode code 331 = .ok (.iadd, 1) := by decide +kernel
theorem d_LW_law_332 : decode code 332 = .ok (.iaload, 1) := by decide +kernel
theorem d_LW_law_333 : decode code 333 = .ok (.invokevirtual 42, 3) := by decide +kernel
theorem d_LW_law_336 : decode code 336 = .ok (.aload_n 2, 1) := by decide +kernel
theorem d_LW_law_337 : decode code 337 = .ok (.aload_n 0, 1) := by decide +kernel
theorem d_LW_law_338 : decode code 338 = .ok (.iload_n 3, 1) := by decide +kernel
theorem d_LW_law_339 : decode code 339 = .ok (.iconst 1, 1) := by decide +kernel
theorem d_LW_law_340 : decode code 340 = .ok (.iadd, 1) := by decide +kernel
theorem d_LW_law_341 : decode code 341 = .ok (.iaload, 1) := by decide +kernel
theorem d_LW_law_342 : decode code 342 = .ok (.aload_n 0, 1) := by decide +kernel
theorem d_LW_law_343 : decode code 343 = .ok (.iload_n 3, 1) := by decide +kernel
theorem d_LW_law_344 : decode code 344 = .ok (.iconst 2, 1) := by decide +kernel
theorem d_LW_law_345 : decode code 345 = .ok (.iadd, 1) := by decide +kernel
theorem d_LW_law_346 : decode code 346 = .ok (.iaload, 1) := by decide +kernel
theorem d_LW_law_347 : decode code 347 = .ok (.invokevirtual 45, 3) := by decide +kernel
theorem d_LW_law_350 : decode code 350 = .ok (.if_icmp .eq 81, 3) := by decide +kernel
theorem d_LW_law_353 : decode code 353 = .ok (.iconst 0, 1) := by decide +kernel
theorem d_LW_law_354 : decode code 354 = .ok (.ireturn, 1) := by decide +kernel
theorem d_LW_law_355 : decode code 355 = .ok (.aload_n 1, 1) := by decide +kernel
theorem d_LW_law_356 : decode code 356 = .ok (.aload_n 0, 1) := by decide +kernel
theorem d_LW_law_357 : decode code 357 = .ok (.iload_n 3, 1) := by decide +kernel
theorem d_LW_law_358 : decode code 358 = .ok (.iconst 1, 1) := by decide +kernel
theorem d_LW_law_359 : decode code 359 = .ok (.iadd, 1) := by decide +kernel
theorem d_LW_law_360 : decode code 360 = .ok (.iaload, 1) := by decide +kernel
theorem d_LW_law_361 : decode code 361 = .ok (.aload_n 0, 1) := by decide +kernel
theorem d_LW_law_362 : decode code 362 = .ok (.iload_n 3, 1) := by decide +kernel
theorem d_LW_law_363 : decode code 363 = .ok (.iconst 2, 1) := by decide +kernel
theorem d_LW_law_364 : decode code 364 = .ok (.iadd, 1) := by decide +kernel
theorem d_LW_law_365 : decode code 365 = .ok (.iaload, 1) := by decide +kernel
theorem d_LW_law_366 : decode code 366 = .ok (.invokevirtual 46, 3) := by decide +kernel
theorem d_LW_law_369 : decode code 369 = .ok (.aload_n 2, 1) := by decide +kernel
theorem d_LW_law_370 : decode code 370 = .ok (.aload_n 0, 1) := by decide +kernel
theorem d_LW_law_371 : decode code 371 = .ok (.iload_n 3, 1) := by decide +kernel
theorem d_LW_law_372 : decode code 372 = .ok (.iconst 1, 1) := by decide +kernel
theorem d_LW_law_373 : decode code 373 = .ok (.iadd, 1) := by decide +kernel
theorem d_LW_law_374 : decode code 374 = .ok (.iaload, 1) := by decide +kernel
theorem d_LW_law_375 : decode code 375 = .ok (.aload_n 0, 1) := by decide +kernel
theorem d_LW_law_376 : decode code 376 = .ok (.iload_n 3, 1) := by decide +kernel
theorem d_LW_law_377 : decode code 377 = .ok (.iconst 2, 1) := by decide +kernel
theorem d_LW_law_378 : decode code 378 = .ok (.iadd, 1) := by decide +kernel
theorem d_LW_law_379 : decode code 379 = .ok (.iaload, 1) := by decide +kernel
theorem d_LW_law_380 : decode code 380 = .ok (.invokevirtual 49, 3) := by decide +kernel
theorem d_LW_law_383 : decode code 383 = .ok (.if_icmp .eq 48, 3) := by decide +kernel
theorem d_LW_law_386 : decode code 386 = .ok (.iconst 0, 1) := by decide +kernel
theorem d_LW_law_387 : decode code 387 = .ok (.ireturn, 1) := by decide +kernel
theorem d_LW_law_388 : decode code 388 = .ok (.aload_n 1, 1) := by decide +kernel
theorem d_LW_law_389 : decode code 389 = .ok (.aload_n 0, 1) := by decide +kernel
theorem d_LW_law_390 : decode code 390 = .ok (.iload_n 3, 1) := by decide +kernel
theorem d_LW_law_391 : decode code 391 = .ok (.iconst 1, 1) := by decide +kernel
theorem d_LW_law_392 : decode code 392 = .ok (.iadd, 1) := by decide +kernel
theorem d_LW_law_393 : decode code 393 = .ok (.iaload, 1) := by decide +kernel
theorem d_LW_law_394 : decode code 394 = .ok (.aload_n 0, 1) := by decide +kernel
theorem d_LW_law_395 : decode code 395 = .ok (.iload_n 3, 1) := by decide +kernel
theorem d_LW_law_396 : decode code 396 = .ok (.iconst 2, 1) := by decide +kernel
theorem d_LW_law_397 : decode code 397 = .ok (.iadd, 1) := by decide +kernel
theorem d_LW_law_398 : decode code 398 = .ok (.iaload, 1) := by decide +kernel
theorem d_LW_law_399 : decode code 399 = .ok (.aload_n 0, 1) := by decide +kernel
theorem d_LW_law_400 : decode code 400 = .ok (.iload_n 3, 1) := by decide +kernel
theorem d_LW_law_401 : decode code 401 = .ok (.iconst 3, 1) := by decide +kernel
theorem d_LW_law_402 : decode code 402 = .ok (.iadd, 1) := by decide +kernel
theorem d_LW_law_403 : decode code 403 = .ok (.iaload, 1) := by decide +kernel
theorem d_LW_law_404 : decode code 404 = .ok (.invokevirtual 50, 3) := by decide +kernel
theorem d_LW_law_407 : decode code 407 = .ok (.aload_n 2, 1) := by decide +kernel
theorem d_LW_law_408 : decode code 408 = .ok (.aload_n 0, 1) := by decide +kernel
theorem d_LW_law_409 : decode code 409 = .ok (.iload_n 3, 1) := by decide +kernel
theorem d_LW_law_410 : decode code 410 = .ok (.iconst 1, 1) := by decide +kernel
theorem d_LW_law_411 : decode code 411 = .ok (.iadd, 1) := by decide +kernel
theorem d_LW_law_412 : decode code 412 = .ok (.iaload, 1) := by decide +kernel
theorem d_LW_law_413 : decode code 413 = .ok (.aload_n 0, 1) := by decide +kernel
theorem d_LW_law_414 : decode code 414 = .ok (.iload_n 3, 1) := by decide +kernel
theorem d_LW_law_415 : decode code 415 = .ok (.iconst 2, 1) := by decide +kernel
theorem d_LW_law_416 : decode code 416 = .ok (.iadd, 1) := by decide +kernel
theorem d_LW_law_417 : decode code 417 = .ok (.iaload, 1) := by decide +kernel
theorem d_LW_law_418 : decode code 418 = .ok (.aload_n 0, 1) := by decide +kernel
theorem d_LW_law_419 : decode code 419 = .ok (.iload_n 3, 1) := by decide +kernel
theorem d_LW_law_420 : decode code 420 = .ok (.iconst 3, 1) := by decide +kernel
theorem d_LW_law_421 : decode code 421 = .ok (.iadd, 1) := by decide +kernel
theorem d_LW_law_422 : decode code 422 = .ok (.iaload, 1) := by decide +kernel
theorem d_LW_law_423 : decode code 423 = .ok (.invokevirtual 54, 3) := by decide +kernel
theorem d_LW_law_426 : decode code 426 = .ok (.if_icmp .eq 5, 3) := by decide +kernel
theorem d_LW_law_429 : decode code 429 = .ok (.iconst 0, 1) := by decide +kernel
theorem d_LW_law_430 : decode code 430 = .ok (.ireturn, 1) := by decide +kernel
theorem d_LW_law_431 : decode code 431 = .ok (.iinc 3 6, 3) := by decide +kernel
theorem d_LW_law_434 : decode code 434 = .ok (.goto (-416), 3) := by decide +kernel
theorem d_LW_law_437 : decode code 437 = .ok (.iconst 1, 1) := by decide +kernel
theorem d_LW_law_438 : decode code 438 = .ok (.ireturn, 1) := by decide +kernel
