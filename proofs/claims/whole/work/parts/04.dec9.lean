theorem dX9_init_0 : decode cX9_init 0 = .ok (.aload_n 0, 1) := by decide +kernel
theorem dX9_init_1 : decode cX9_init 1 = .ok (.invokespecial 1, 3) := by decide +kernel
theorem dX9_init_4 : decode cX9_init 4 = .ok (.aload_n 0, 1) := by decide +kernel
theorem dX9_init_5 : decode cX9_init 5 = .ok (.sipush 458, 3) := by decide +kernel
theorem dX9_init_8 : decode cX9_init 8 = .ok (.newarray .int, 2) := by decide +kernel
theorem dX9_init_10 : decode cX9_init 10 = .ok (.putfield 7, 3) := by decide +kernel
theorem dX9_init_13 : decode cX9_init 13 = .ok (.aload_n 0, 1) := by decide +kernel
theorem dX9_init_14 : decode cX9_init 14 = .ok (.sipush 458, 3) := by decide +kernel
theorem dX9_init_17 : decode cX9_init 17 = .ok (.newarray .int, 2) := by decide +kernel
theorem dX9_init_19 : decode cX9_init 19 = .ok (.putfield 13, 3) := by decide +kernel
theorem dX9_init_22 : decode cX9_init 22 = .ok (.aload_n 0, 1) := by decide +kernel
theorem dX9_init_23 : decode cX9_init 23 = .ok (.sipush 458, 3) := by decide +kernel
theorem dX9_init_26 : decode cX9_init 26 = .ok (.newarray .int, 2) := by decide +kernel
theorem dX9_init_28 : decode cX9_init 28 = .ok (.putfield 16, 3) := by decide +kernel
theorem dX9_init_31 : decode cX9_init 31 = .ok (.aload_n 0, 1) := by decide +kernel
theorem dX9_init_32 : decode cX9_init 32 = .ok (.sipush 992, 3) := by decide +kernel
theorem dX9_init_35 : decode cX9_init 35 = .ok (.newarray .int, 2) := by decide +kernel
theorem dX9_init_37 : decode cX9_init 37 = .ok (.putfield 19, 3) := by decide +kernel
theorem dX9_init_40 : decode cX9_init 40 = .ok (.aload_n 0, 1) := by decide +kernel
theorem dX9_init_41 : decode cX9_init 41 = .ok (.bipush 7, 2) := by decide +kernel
theorem dX9_init_43 : decode cX9_init 43 = .ok (.newarray .int, 2) := by decide +kernel
theorem dX9_init_45 : decode cX9_init 45 = .ok (.putfield 22, 3) := by decide +kernel
theorem dX9_init_48 : decode cX9_init 48 = .ok (.aload_n 0, 1) := by decide +kernel
theorem dX9_init_49 : decode cX9_init 49 = .ok (.bipush 124, 2) := by decide +kernel
theorem dX9_init_51 : decode cX9_init 51 = .ok (.newarray .int, 2) := by decide +kernel
theorem dX9_init_53 : decode cX9_init 53 = .ok (.putfield 25, 3) := by decide +kernel
theorem dX9_init_56 : decode cX9_init 56 = .ok (.aload_n 0, 1) := by decide +kernel
theorem dX9_init_57 : decode cX9_init 57 = .ok (.sipush 128, 3) := by decide +kernel
theorem dX9_init_60 : decode cX9_init 60 = .ok (.newarray .int, 2) := by decide +kernel
theorem dX9_init_62 : decode cX9_init 62 = .ok (.putfield 28, 3) := by decide +kernel
theorem dX9_init_65 : decode cX9_init 65 = .ok (.aload_n 0, 1) := by decide +kernel
theorem dX9_init_66 : decode cX9_init 66 = .ok (.bipush 64, 2) := by decide +kernel
theorem dX9_init_68 : decode cX9_init 68 = .ok (.newarray .int, 2) := by decide +kernel
theorem dX9_init_70 : decode cX9_init 70 = .ok (.putfield 31, 3) := by decide +kernel
theorem dX9_init_73 : decode cX9_init 73 = .ok (.aload_n 0, 1) := by decide +kernel
theorem dX9_init_74 : decode cX9_init 74 = .ok (.bipush 8, 2) := by decide +kernel
theorem dX9_init_76 : decode cX9_init 76 = .ok (.newarray .int, 2) := by decide +kernel
theorem dX9_init_78 : decode cX9_init 78 = .ok (.putfield 34, 3) := by decide +kernel
theorem dX9_init_81 : decode cX9_init 81 = .ok (.aload_n 0, 1) := by decide +kernel
theorem dX9_init_82 : decode cX9_init 82 = .ok (.bipush 6, 2) := by decide +kernel
theorem dX9_init_84 : decode cX9_init 84 = .ok (.newarray .int, 2) := by decide +kernel
theorem dX9_init_86 : decode cX9_init 86 = .ok (.putfield 37, 3) := by decide +kernel
theorem dX9_init_89 : decode cX9_init 89 = .ok (.aload_n 0, 1) := by decide +kernel
theorem dX9_init_90 : decode cX9_init 90 = .ok (.bipush 6, 2) := by decide +kernel
theorem dX9_init_92 : decode cX9_init 92 = .ok (.newarray .int, 2) := by decide +kernel
theorem dX9_init_94 : decode cX9_init 94 = .ok (.putfield 40, 3) := by decide +kernel
theorem dX9_init_97 : decode cX9_init 97 = .ok (.aload_n 0, 1) := by decide +kernel
theorem dX9_init_98 : decode cX9_init 98 = .ok (.bipush 30, 2) := by decide +kernel
theorem dX9_init_100 : decode cX9_init 100 = .ok (.newarray .int, 2) := by decide +kernel
theorem dX9_init_102 : decode cX9_init 102 = .ok (.putfield 43, 3) := by decide +kernel
theorem dX9_init_105 : decode cX9_init 105 = .ok (.aload_n 0, 1) := by decide +kernel
theorem dX9_init_106 : decode cX9_init 106 = .ok (.iconst 4, 1) := by decide +kernel
theorem dX9_init_107 : decode cX9_init 107 = .ok (.newarray .int, 2) := by decide +kernel
theorem dX9_init_109 : decode cX9_init 109 = .ok (.putfield 46, 3) := by decide +kernel
theorem dX9_init_112 : decode cX9_init 112 = .ok (.aload_n 0, 1) := by decide +kernel
theorem dX9_init_113 : decode cX9_init 113 = .ok (.iconst 4, 1) := by decide +kernel
theorem dX9_init_114 : decode cX9_init 114 = .ok (.newarray .int, 2) := by decide +kernel
theorem dX9_init_116 : decode cX9_init 116 = .ok (.putfield 49, 3) := by decide +kernel
theorem dX9_init_119 : decode cX9_init 119 = .ok (.aload_n 0, 1) := by decide +kernel
theorem dX9_init_120 : decode cX9_init 120 = .ok (.bipush 96, 2) := by decide +kernel
theorem dX9_init_122 : decode cX9_init 122 = .ok (.newarray .int, 2) := by decide +kernel
theorem dX9_init_124 : decode cX9_init 124 = .ok (.putfield 52, 3) := by decide +kernel
theorem dX9_init_127 : decode cX9_init 127 = .ok (.aload_n 0, 1) := by decide +kernel
theorem dX9_init_128 : decode cX9_init 128 = .ok (.bipush 24, 2) := by decide +kernel
theorem dX9_init_130 : decode cX9_init 130 = .ok (.newarray .int, 2) := by decide +kernel
theorem dX9_init_132 : decode cX9_init 132 = .ok (.putfield 55, 3) := by decide +kernel
theorem dX9_init_135 : decode cX9_init 135 = .ok (.aload_n 0, 1) := by decide +kernel
theorem dX9_init_136 : decode cX9_init 136 = .ok (.getfield 7, 3) := by decide +kernel
theorem dX9_init_139 : decode cX9_init 139 = .ok (.bipush 7, 2) := by decide +kernel
theorem dX9_init_141 : decode cX9_init 141 = .ok (.iconst 1, 1) := by decide +kernel
theorem dX9_init_142 : decode cX9_init 142 = .ok (.iastore, 1) := by decide +kernel
theorem dX9_init_143 : decode cX9_init 143 = .ok (.return_, 1) := by decide +kernel
theorem dX9_error_0 : decode cX9_error 0 = .ok (.aload_n 0, 1) := by decide +kernel
theorem dX9_error_1 : decode cX9_error 1 = .ok (.getfield 22, 3) := by decide +kernel
theorem dX9_error_4 : decode cX9_error 4 = .ok (.iload_n 1, 1) := by decide +kernel
theorem dX9_error_5 : decode cX9_error 5 = .ok (.dup2, 1) := by decide +kernel
theorem dX9_error_6 : decode cX9_error 6 = .ok (.iaload, 1) := by decide +kernel
theorem dX9_error_7 : decode cX9_error 7 = .ok (.iconst 1, 1) := by decide +kernel
theorem dX9_error_8 : decode cX9_error 8 = .ok (.iadd, 1) := by decide +kernel
theorem dX9_error_9 : decode cX9_error 9 = .ok (.iastore, 1) := by decide +kernel
theorem dX9_error_10 : decode cX9_error 10 = .ok (.ldc 58, 2) := by decide +kernel
theorem dX9_error_12 : decode cX9_error 12 = .ok (.iload_n 1, 1) := by decide +kernel
theorem dX9_error_13 : decode cX9_error 13 = .ok (.isub, 1) := by decide +kernel
theorem dX9_error_14 : decode cX9_error 14 = .ok (.ireturn, 1) := by decide +kernel
theorem dX9_in_0 : decode cX9_in 0 = .ok (.iload_n 0, 1) := by decide +kernel
theorem dX9_in_1 : decode cX9_in 1 = .ok (.iload_n 1, 1) := by decide +kernel
theorem dX9_in_2 : decode cX9_in 2 = .ok (.if_icmp .lt 12, 3) := by decide +kernel
theorem dX9_in_5 : decode cX9_in 5 = .ok (.iload_n 0, 1) := by decide +kernel
theorem dX9_in_6 : decode cX9_in 6 = .ok (.iload_n 2, 1) := by decide +kernel
theorem dX9_in_7 : decode cX9_in 7 = .ok (.if_icmp .gt 7, 3) := by decide +kernel
theorem dX9_in_10 : decode cX9_in 10 = .ok (.iconst 1, 1) := by decide +kernel
theorem dX9_in_11 : decode cX9_in 11 = .ok (.goto 4, 3) := by decide +kernel
theorem dX9_in_14 : decode cX9_in 14 = .ok (.iconst 0, 1) := by decide +kernel
theorem dX9_in_15 : decode cX9_in 15 = .ok (.ireturn, 1) := by decide +kernel
theorem dX9_held_0 : decode cX9_held 0 = .ok (.iload_n 0, 1) := by decide +kernel
theorem dX9_held_1 : decode cX9_held 1 = .ok (.iload_n 1, 1) := by decide +kernel
theorem dX9_held_2 : decode cX9_held 2 = .ok (.if_icmp .ge 7, 3) := by decide +kernel
theorem dX9_held_5 : decode cX9_held 5 = .ok (.iload_n 1, 1) := by decide +kernel
theorem dX9_held_6 : decode cX9_held 6 = .ok (.goto 13, 3) := by decide +kernel
theorem dX9_held_9 : decode cX9_held 9 = .ok (.iload_n 0, 1) := by decide +kernel
theorem dX9_held_10 : decode cX9_held 10 = .ok (.iload_n 2, 1) := by decide +kernel
theorem dX9_held_11 : decode cX9_held 11 = .ok (.if_icmp .le 7, 3) := by decide +kernel
theorem dX9_held_14 : decode cX9_held 14 = .ok (.iload_n 2, 1) := by decide +kernel
theorem dX9_held_15 : decode cX9_held 15 = .ok (.goto 4, 3) := by decide +kernel
theorem dX9_held_18 : decode cX9_held 18 = .ok (.iload_n 0, 1) := by decide +kernel
theorem dX9_held_19 : decode cX9_held 19 = .ok (.ireturn, 1) := by decide +kernel
theorem dX9_carry_0 : decode cX9_carry 0 = .ok (.iconst 0, 1) := by decide +kernel
theorem dX9_carry_1 : decode cX9_carry 1 = .ok (.istore_n 2, 1) := by decide +kernel
theorem dX9_carry_2 : decode cX9_carry 2 = .ok (.iload_n 2, 1) := by decide +kernel
theorem dX9_carry_3 : decode cX9_carry 3 = .ok (.sipush 458, 3) := by decide +kernel
theorem dX9_carry_6 : decode cX9_carry 6 = .ok (.if_icmp .ge 15, 3) := by decide +kernel
theorem dX9_carry_9 : decode cX9_carry 9 = .ok (.aload_n 1, 1) := by decide +kernel
theorem dX9_carry_10 : decode cX9_carry 10 = .ok (.iload_n 2, 1) := by decide +kernel
theorem dX9_carry_11 : decode cX9_carry 11 = .ok (.aload_n 0, 1) := by decide +kernel
theorem dX9_carry_12 : decode cX9_carry 12 = .ok (.iload_n 2, 1) := by decide +kernel
theorem dX9_carry_13 : decode cX9_carry 13 = .ok (.iaload, 1) := by decide +kernel
theorem dX9_carry_14 : decode cX9_carry 14 = .ok (.iastore, 1) := by decide +kernel
theorem dX9_carry_15 : decode cX9_carry 15 = .ok (.iinc 2 1, 3) := by decide +kernel
theorem dX9_carry_18 : decode cX9_carry 18 = .ok (.goto (-16), 3) := by decide +kernel
theorem dX9_carry_21 : decode cX9_carry 21 = .ok (.return_, 1) := by decide +kernel
theorem dX9_layDown_0 : decode cX9_layDown 0 = .ok (.iconst 0, 1) := by decide +kernel
theorem dX9_layDown_1 : decode cX9_layDown 1 = .ok (.istore_n 2, 1) := by decide +kernel
theorem dX9_layDown_2 : decode cX9_layDown 2 = .ok (.iload_n 2, 1) := by decide +kernel
theorem dX9_layDown_3 : decode cX9_layDown 3 = .ok (.bipush 124, 2) := by decide +kernel
theorem dX9_layDown_5 : decode cX9_layDown 5 = .ok (.if_icmp .ge 26, 3) := by decide +kernel
theorem dX9_layDown_8 : decode cX9_layDown 8 = .ok (.aload_n 0, 1) := by decide +kernel
theorem dX9_layDown_9 : decode cX9_layDown 9 = .ok (.getfield 19, 3) := by decide +kernel
theorem dX9_layDown_12 : decode cX9_layDown 12 = .ok (.bipush 124, 2) := by decide +kernel
theorem dX9_layDown_14 : decode cX9_layDown 14 = .ok (.iload_n 1, 1) := by decide +kernel
theorem dX9_layDown_15 : decode cX9_layDown 15 = .ok (.imul, 1) := by decide +kernel
theorem dX9_layDown_16 : decode cX9_layDown 16 = .ok (.iload_n 2, 1) := by decide +kernel
theorem dX9_layDown_17 : decode cX9_layDown 17 = .ok (.iadd, 1) := by decide +kernel
theorem dX9_layDown_18 : decode cX9_layDown 18 = .ok (.aload_n 0, 1) := by decide +kernel
theorem dX9_layDown_19 : decode cX9_layDown 19 = .ok (.getfield 7, 3) := by decide +kernel
theorem dX9_layDown_22 : decode cX9_layDown 22 = .ok (.iload_n 2, 1) := by decide +kernel
theorem dX9_layDown_23 : decode cX9_layDown 23 = .ok (.iaload, 1) := by decide +kernel
theorem dX9_layDown_24 : decode cX9_layDown 24 = .ok (.iastore, 1) := by decide +kernel
theorem dX9_layDown_25 : decode cX9_layDown 25 = .ok (.iinc 2 1, 3) := by decide +kernel
theorem dX9_layDown_28 : decode cX9_layDown 28 = .ok (.goto (-26), 3) := by decide +kernel
theorem dX9_layDown_31 : decode cX9_layDown 31 = .ok (.return_, 1) := by decide +kernel
theorem dX9_layBack_0 : decode cX9_layBack 0 = .ok (.iconst 0, 1) := by decide +kernel
theorem dX9_layBack_1 : decode cX9_layBack 1 = .ok (.istore_n 2, 1) := by decide +kernel
theorem dX9_layBack_2 : decode cX9_layBack 2 = .ok (.iload_n 2, 1) := by decide +kernel
theorem dX9_layBack_3 : decode cX9_layBack 3 = .ok (.bipush 124, 2) := by decide +kernel
theorem dX9_layBack_5 : decode cX9_layBack 5 = .ok (.if_icmp .ge 26, 3) := by decide +kernel
theorem dX9_layBack_8 : decode cX9_layBack 8 = .ok (.aload_n 0, 1) := by decide +kernel
theorem dX9_layBack_9 : decode cX9_layBack 9 = .ok (.getfield 7, 3) := by decide +kernel
theorem dX9_layBack_12 : decode cX9_layBack 12 = .ok (.iload_n 2, 1) := by decide +kernel
theorem dX9_layBack_13 : decode cX9_layBack 13 = .ok (.aload_n 0, 1) := by decide +kernel
theorem dX9_layBack_14 : decode cX9_layBack 14 = .ok (.getfield 19, 3) := by decide +kernel
theorem dX9_layBack_17 : decode cX9_layBack 17 = .ok (.bipush 124, 2) := by decide +kernel
theorem dX9_layBack_19 : decode cX9_layBack 19 = .ok (.iload_n 1, 1) := by decide +kernel
theorem dX9_layBack_20 : decode cX9_layBack 20 = .ok (.imul, 1) := by decide +kernel
theorem dX9_layBack_21 : decode cX9_layBack 21 = .ok (.iload_n 2, 1) := by decide +kernel
theorem dX9_layBack_22 : decode cX9_layBack 22 = .ok (.iadd, 1) := by decide +kernel
theorem dX9_layBack_23 : decode cX9_layBack 23 = .ok (.iaload, 1) := by decide +kernel
theorem dX9_layBack_24 : decode cX9_layBack 24 = .ok (.iastore, 1) := by decide +kernel
theorem dX9_layBack_25 : decode cX9_layBack 25 = .ok (.iinc 2 1, 3) := by decide +kernel
theorem dX9_layBack_28 : decode cX9_layBack 28 = .ok (.goto (-26), 3) := by decide +kernel
theorem dX9_layBack_31 : decode cX9_layBack 31 = .ok (.return_, 1) := by decide +kernel
theorem dX9_isPerson_0 : decode cX9_isPerson 0 = .ok (.iload_n 1, 1) := by decide +kernel
theorem dX9_isPerson_1 : decode cX9_isPerson 1 = .ok (.iconst 0, 1) := by decide +kernel
theorem dX9_isPerson_2 : decode cX9_isPerson 2 = .ok (.aload_n 0, 1) := by decide +kernel
theorem dX9_isPerson_3 : decode cX9_isPerson 3 = .ok (.getfield 7, 3) := by decide +kernel
theorem dX9_isPerson_6 : decode cX9_isPerson 6 = .ok (.iconst 0, 1) := by decide +kernel
theorem dX9_isPerson_7 : decode cX9_isPerson 7 = .ok (.iaload, 1) := by decide +kernel
theorem dX9_isPerson_8 : decode cX9_isPerson 8 = .ok (.iconst 1, 1) := by decide +kernel
theorem dX9_isPerson_9 : decode cX9_isPerson 9 = .ok (.isub, 1) := by decide +kernel
theorem dX9_isPerson_10 : decode cX9_isPerson 10 = .ok (.invokestatic 59, 3) := by decide +kernel
theorem dX9_isPerson_13 : decode cX9_isPerson 13 = .ok (.ireturn, 1) := by decide +kernel
theorem dX9_isMan_0 : decode cX9_isMan 0 = .ok (.iload_n 1, 1) := by decide +kernel
theorem dX9_isMan_1 : decode cX9_isMan 1 = .ok (.iconst 0, 1) := by decide +kernel
theorem dX9_isMan_2 : decode cX9_isMan 2 = .ok (.aload_n 0, 1) := by decide +kernel
theorem dX9_isMan_3 : decode cX9_isMan 3 = .ok (.getfield 7, 3) := by decide +kernel
theorem dX9_isMan_6 : decode cX9_isMan 6 = .ok (.iconst 1, 1) := by decide +kernel
theorem dX9_isMan_7 : decode cX9_isMan 7 = .ok (.iaload, 1) := by decide +kernel
theorem dX9_isMan_8 : decode cX9_isMan 8 = .ok (.iconst 1, 1) := by decide +kernel
theorem dX9_isMan_9 : decode cX9_isMan 9 = .ok (.isub, 1) := by decide +kernel
theorem dX9_isMan_10 : decode cX9_isMan 10 = .ok (.invokestatic 59, 3) := by decide +kernel
theorem dX9_isMan_13 : decode cX9_isMan 13 = .ok (.ireturn, 1) := by decide +kernel
theorem dX9_of_0 : decode cX9_of 0 = .ok (.aload_n 0, 1) := by decide +kernel
theorem dX9_of_1 : decode cX9_of 1 = .ok (.getfield 7, 3) := by decide +kernel
theorem dX9_of_4 : decode cX9_of 4 = .ok (.bipush 8, 2) := by decide +kernel
theorem dX9_of_6 : decode cX9_of 6 = .ok (.iconst 2, 1) := by decide +kernel
theorem dX9_of_7 : decode cX9_of 7 = .ok (.iload_n 1, 1) := by decide +kernel
theorem dX9_of_8 : decode cX9_of 8 = .ok (.imul, 1) := by decide +kernel
theorem dX9_of_9 : decode cX9_of 9 = .ok (.iadd, 1) := by decide +kernel
theorem dX9_of_10 : decode cX9_of 10 = .ok (.iload_n 2, 1) := by decide +kernel
theorem dX9_of_11 : decode cX9_of 11 = .ok (.iadd, 1) := by decide +kernel
theorem dX9_of_12 : decode cX9_of 12 = .ok (.iaload, 1) := by decide +kernel
theorem dX9_of_13 : decode cX9_of 13 = .ok (.ireturn, 1) := by decide +kernel
theorem dX9_its_0 : decode cX9_its 0 = .ok (.aload_n 0, 1) := by decide +kernel
theorem dX9_its_1 : decode cX9_its 1 = .ok (.getfield 7, 3) := by decide +kernel
theorem dX9_its_4 : decode cX9_its 4 = .ok (.bipush 24, 2) := by decide +kernel
theorem dX9_its_6 : decode cX9_its 6 = .ok (.bipush 13, 2) := by decide +kernel
theorem dX9_its_8 : decode cX9_its 8 = .ok (.iload_n 1, 1) := by decide +kernel
theorem dX9_its_9 : decode cX9_its 9 = .ok (.imul, 1) := by decide +kernel
theorem dX9_its_10 : decode cX9_its 10 = .ok (.iadd, 1) := by decide +kernel
theorem dX9_its_11 : decode cX9_its 11 = .ok (.iload_n 2, 1) := by decide +kernel
theorem dX9_its_12 : decode cX9_its 12 = .ok (.iadd, 1) := by decide +kernel
theorem dX9_its_13 : decode cX9_its 13 = .ok (.iaload, 1) := by decide +kernel
theorem dX9_its_14 : decode cX9_its 14 = .ok (.ireturn, 1) := by decide +kernel
theorem dX9_lays1_0 : decode cX9_lays1 0 = .ok (.aload_n 0, 1) := by decide +kernel
theorem dX9_lays1_1 : decode cX9_lays1 1 = .ok (.getfield 7, 3) := by decide +kernel
theorem dX9_lays1_4 : decode cX9_lays1 4 = .ok (.bipush 24, 2) := by decide +kernel
theorem dX9_lays1_6 : decode cX9_lays1 6 = .ok (.bipush 13, 2) := by decide +kernel
theorem dX9_lays1_8 : decode cX9_lays1 8 = .ok (.iload_n 1, 1) := by decide +kernel
theorem dX9_lays1_9 : decode cX9_lays1 9 = .ok (.imul, 1) := by decide +kernel
theorem dX9_lays1_10 : decode cX9_lays1 10 = .ok (.iadd, 1) := by decide +kernel
theorem dX9_lays1_11 : decode cX9_lays1 11 = .ok (.iload_n 2, 1) := by decide +kernel
theorem dX9_lays1_12 : decode cX9_lays1 12 = .ok (.iadd, 1) := by decide +kernel
theorem dX9_lays1_13 : decode cX9_lays1 13 = .ok (.iload_n 3, 1) := by decide +kernel
theorem dX9_lays1_14 : decode cX9_lays1 14 = .ok (.iastore, 1) := by decide +kernel
theorem dX9_lays1_15 : decode cX9_lays1 15 = .ok (.return_, 1) := by decide +kernel
theorem dX9_feed_0 : decode cX9_feed 0 = .ok (.iload_n 3, 1) := by decide +kernel
theorem dX9_feed_1 : decode cX9_feed 1 = .ok (.iconst 1, 1) := by decide +kernel
theorem dX9_feed_2 : decode cX9_feed 2 = .ok (.bipush 8, 2) := by decide +kernel
theorem dX9_feed_4 : decode cX9_feed 4 = .ok (.invokestatic 59, 3) := by decide +kernel
theorem dX9_feed_7 : decode cX9_feed 7 = .ok (.ifCond .ne 9, 3) := by decide +kernel
theorem dX9_feed_10 : decode cX9_feed 10 = .ok (.aload_n 0, 1) := by decide +kernel
theorem dX9_feed_11 : decode cX9_feed 11 = .ok (.iconst 1, 1) := by decide +kernel
theorem dX9_feed_12 : decode cX9_feed 12 = .ok (.invokevirtual 63, 3) := by decide +kernel
theorem dX9_feed_15 : decode cX9_feed 15 = .ok (.ireturn, 1) := by decide +kernel
theorem dX9_feed_16 : decode cX9_feed 16 = .ok (.aload_n 0, 1) := by decide +kernel
theorem dX9_feed_17 : decode cX9_feed 17 = .ok (.getfield 7, 3) := by decide +kernel
theorem dX9_feed_20 : decode cX9_feed 20 = .ok (.iconst 5, 1) := by decide +kernel
theorem dX9_feed_21 : decode cX9_feed 21 = .ok (.iaload, 1) := by decide +kernel
theorem dX9_feed_22 : decode cX9_feed 22 = .ok (.iload_n 3, 1) := by decide +kernel
theorem dX9_feed_23 : decode cX9_feed 23 = .ok (.iadd, 1) := by decide +kernel
theorem dX9_feed_24 : decode cX9_feed 24 = .ok (.bipush 60, 2) := by decide +kernel
theorem dX9_feed_26 : decode cX9_feed 26 = .ok (.if_icmp .le 9, 3) := by decide +kernel
theorem dX9_feed_29 : decode cX9_feed 29 = .ok (.aload_n 0, 1) := by decide +kernel
theorem dX9_feed_30 : decode cX9_feed 30 = .ok (.iconst 4, 1) := by decide +kernel
theorem dX9_feed_31 : decode cX9_feed 31 = .ok (.invokevirtual 63, 3) := by decide +kernel
theorem dX9_feed_34 : decode cX9_feed 34 = .ok (.ireturn, 1) := by decide +kernel
theorem dX9_feed_35 : decode cX9_feed 35 = .ok (.iconst 0, 1) := by decide +kernel
theorem dX9_feed_36 : decode cX9_feed 36 = .ok (.istore 4, 2) := by decide +kernel
theorem dX9_feed_38 : decode cX9_feed 38 = .ok (.iload 4, 2) := by decide +kernel
theorem dX9_feed_40 : decode cX9_feed 40 = .ok (.iload_n 3, 1) := by decide +kernel
theorem dX9_feed_41 : decode cX9_feed 41 = .ok (.if_icmp .ge 46, 3) := by decide +kernel
theorem dX9_feed_44 : decode cX9_feed 44 = .ok (.aload_n 0, 1) := by decide +kernel
theorem dX9_feed_45 : decode cX9_feed 45 = .ok (.getfield 7, 3) := by decide +kernel
theorem dX9_feed_48 : decode cX9_feed 48 = .ok (.sipush 374, 3) := by decide +kernel
theorem dX9_feed_51 : decode cX9_feed 51 = .ok (.aload_n 0, 1) := by decide +kernel
theorem dX9_feed_52 : decode cX9_feed 52 = .ok (.getfield 7, 3) := by decide +kernel
theorem dX9_feed_55 : decode cX9_feed 55 = .ok (.iconst 5, 1) := by decide +kernel
theorem dX9_feed_56 : decode cX9_feed 56 = .ok (.iaload, 1) := by decide +kernel
theorem dX9_feed_57 : decode cX9_feed 57 = .ok (.iadd, 1) := by decide +kernel
theorem dX9_feed_58 : decode cX9_feed 58 = .ok (.lload_n 1, 1) := by decide +kernel
theorem dX9_feed_59 : decode cX9_feed 59 = .ok (.bipush 8, 2) := by decide +kernel
theorem dX9_feed_61 : decode cX9_feed 61 = .ok (.iload 4, 2) := by decide +kernel
theorem dX9_feed_63 : decode cX9_feed 63 = .ok (.imul, 1) := by decide +kernel
theorem dX9_feed_64 : decode cX9_feed 64 = .ok (.lshr, 1) := by decide +kernel
theorem dX9_feed_65 : decode cX9_feed 65 = .ok (.ldc2_w 67, 3) := by decide +kernel
theorem dX9_feed_68 : decode cX9_feed 68 = .ok (.land, 1) := by decide +kernel
theorem dX9_feed_69 : decode cX9_feed 69 = .ok (.l2i, 1) := by decide +kernel
theorem dX9_feed_70 : decode cX9_feed 70 = .ok (.iastore, 1) := by decide +kernel
theorem dX9_feed_71 : decode cX9_feed 71 = .ok (.aload_n 0, 1) := by decide +kernel
theorem dX9_feed_72 : decode cX9_feed 72 = .ok (.getfield 7, 3) := by decide +kernel
theorem dX9_feed_75 : decode cX9_feed 75 = .ok (.iconst 5, 1) := by decide +kernel
theorem dX9_feed_76 : decode cX9_feed 76 = .ok (.dup2, 1) := by decide +kernel
theorem dX9_feed_77 : decode cX9_feed 77 = .ok (.iaload, 1) := by decide +kernel
theorem dX9_feed_78 : decode cX9_feed 78 = .ok (.iconst 1, 1) := by decide +kernel
theorem dX9_feed_79 : decode cX9_feed 79 = .ok (.iadd, 1) := by decide +kernel
theorem dX9_feed_80 : decode cX9_feed 80 = .ok (.iastore, 1) := by decide +kernel
theorem dX9_feed_81 : decode cX9_feed 81 = .ok (.iinc 4 1, 3) := by decide +kernel
theorem dX9_feed_84 : decode cX9_feed 84 = .ok (.goto (-46), 3) := by decide +kernel
theorem dX9_feed_87 : decode cX9_feed 87 = .ok (.aload_n 0, 1) := by decide +kernel
theorem dX9_feed_88 : decode cX9_feed 88 = .ok (.getfield 7, 3) := by decide +kernel
theorem dX9_feed_91 : decode cX9_feed 91 = .ok (.iconst 5, 1) := by decide +kernel
theorem dX9_feed_92 : decode cX9_feed 92 = .ok (.iaload, 1) := by decide +kernel
theorem dX9_feed_93 : decode cX9_feed 93 = .ok (.ireturn, 1) := by decide +kernel
theorem dX9_look_0 : decode cX9_look 0 = .ok (.aload_n 0, 1) := by decide +kernel
theorem dX9_look_1 : decode cX9_look 1 = .ok (.getfield 69, 3) := by decide +kernel
theorem dX9_look_4 : decode cX9_look 4 = .ok (.aload_n 0, 1) := by decide +kernel
theorem dX9_look_5 : decode cX9_look 5 = .ok (.getfield 7, 3) := by decide +kernel
theorem dX9_look_8 : decode cX9_look 8 = .ok (.iconst 5, 1) := by decide +kernel
theorem dX9_look_9 : decode cX9_look 9 = .ok (.iaload, 1) := by decide +kernel
theorem dX9_look_10 : decode cX9_look 10 = .ok (.if_icmp .ge 19, 3) := by decide +kernel
theorem dX9_look_13 : decode cX9_look 13 = .ok (.aload_n 0, 1) := by decide +kernel
theorem dX9_look_14 : decode cX9_look 14 = .ok (.getfield 7, 3) := by decide +kernel
theorem dX9_look_17 : decode cX9_look 17 = .ok (.sipush 374, 3) := by decide +kernel
theorem dX9_look_20 : decode cX9_look 20 = .ok (.aload_n 0, 1) := by decide +kernel
theorem dX9_look_21 : decode cX9_look 21 = .ok (.getfield 69, 3) := by decide +kernel
theorem dX9_look_24 : decode cX9_look 24 = .ok (.iadd, 1) := by decide +kernel
theorem dX9_look_25 : decode cX9_look 25 = .ok (.iaload, 1) := by decide +kernel
theorem dX9_look_26 : decode cX9_look 26 = .ok (.goto 4, 3) := by decide +kernel
theorem dX9_look_29 : decode cX9_look 29 = .ok (.iconst (-1), 1) := by decide +kernel
theorem dX9_look_30 : decode cX9_look 30 = .ok (.ireturn, 1) := by decide +kernel
theorem dX9_isName_0 : decode cX9_isName 0 = .ok (.iload_n 1, 1) := by decide +kernel
theorem dX9_isName_1 : decode cX9_isName 1 = .ok (.bipush 109, 2) := by decide +kernel
theorem dX9_isName_3 : decode cX9_isName 3 = .ok (.if_icmp .ne 5, 3) := by decide +kernel
theorem dX9_isName_6 : decode cX9_isName 6 = .ok (.iconst 1, 1) := by decide +kernel
theorem dX9_isName_7 : decode cX9_isName 7 = .ok (.ireturn, 1) := by decide +kernel
theorem dX9_isName_8 : decode cX9_isName 8 = .ok (.aload_n 0, 1) := by decide +kernel
theorem dX9_isName_9 : decode cX9_isName 9 = .ok (.getfield 73, 3) := by decide +kernel
theorem dX9_isName_12 : decode cX9_isName 12 = .ok (.ifCond .ne 23, 3) := by decide +kernel
theorem dX9_isName_15 : decode cX9_isName 15 = .ok (.iload_n 1, 1) := by decide +kernel
theorem dX9_isName_16 : decode cX9_isName 16 = .ok (.bipush 116, 2) := by decide +kernel
theorem dX9_isName_18 : decode cX9_isName 18 = .ok (.if_icmp .eq 9, 3) := by decide +kernel
theorem dX9_isName_21 : decode cX9_isName 21 = .ok (.iload_n 1, 1) := by decide +kernel
theorem dX9_isName_22 : decode cX9_isName 22 = .ok (.bipush 112, 2) := by decide +kernel
theorem dX9_isName_24 : decode cX9_isName 24 = .ok (.if_icmp .ne 7, 3) := by decide +kernel
theorem dX9_isName_27 : decode cX9_isName 27 = .ok (.iconst 1, 1) := by decide +kernel
theorem dX9_isName_28 : decode cX9_isName 28 = .ok (.goto 24, 3) := by decide +kernel
theorem dX9_isName_31 : decode cX9_isName 31 = .ok (.iconst 0, 1) := by decide +kernel
theorem dX9_isName_32 : decode cX9_isName 32 = .ok (.goto 20, 3) := by decide +kernel
theorem dX9_isName_35 : decode cX9_isName 35 = .ok (.iload_n 1, 1) := by decide +kernel
theorem dX9_isName_36 : decode cX9_isName 36 = .ok (.bipush 107, 2) := by decide +kernel
theorem dX9_isName_38 : decode cX9_isName 38 = .ok (.if_icmp .eq 9, 3) := by decide +kernel
theorem dX9_isName_41 : decode cX9_isName 41 = .ok (.iload_n 1, 1) := by decide +kernel
theorem dX9_isName_42 : decode cX9_isName 42 = .ok (.bipush 98, 2) := by decide +kernel
theorem dX9_isName_44 : decode cX9_isName 44 = .ok (.if_icmp .ne 7, 3) := by decide +kernel
theorem dX9_isName_47 : decode cX9_isName 47 = .ok (.iconst 1, 1) := by decide +kernel
theorem dX9_isName_48 : decode cX9_isName 48 = .ok (.goto 4, 3) := by decide +kernel
theorem dX9_isName_51 : decode cX9_isName 51 = .ok (.iconst 0, 1) := by decide +kernel
theorem dX9_isName_52 : decode cX9_isName 52 = .ok (.ireturn, 1) := by decide +kernel
theorem dX9_lays_0 : decode cX9_lays 0 = .ok (.aload_n 0, 1) := by decide +kernel
theorem dX9_lays_1 : decode cX9_lays 1 = .ok (.getfield 25, 3) := by decide +kernel
theorem dX9_lays_4 : decode cX9_lays 4 = .ok (.iconst 2, 1) := by decide +kernel
theorem dX9_lays_5 : decode cX9_lays 5 = .ok (.aload_n 0, 1) := by decide +kernel
theorem dX9_lays_6 : decode cX9_lays 6 = .ok (.getfield 76, 3) := by decide +kernel
theorem dX9_lays_9 : decode cX9_lays 9 = .ok (.imul, 1) := by decide +kernel
theorem dX9_lays_10 : decode cX9_lays 10 = .ok (.iload_n 1, 1) := by decide +kernel
theorem dX9_lays_11 : decode cX9_lays 11 = .ok (.iastore, 1) := by decide +kernel
theorem dX9_lays_12 : decode cX9_lays 12 = .ok (.aload_n 0, 1) := by decide +kernel
theorem dX9_lays_13 : decode cX9_lays 13 = .ok (.getfield 25, 3) := by decide +kernel
theorem dX9_lays_16 : decode cX9_lays 16 = .ok (.iconst 2, 1) := by decide +kernel
theorem dX9_lays_17 : decode cX9_lays 17 = .ok (.aload_n 0, 1) := by decide +kernel
theorem dX9_lays_18 : decode cX9_lays 18 = .ok (.getfield 76, 3) := by decide +kernel
theorem dX9_lays_21 : decode cX9_lays 21 = .ok (.imul, 1) := by decide +kernel
theorem dX9_lays_22 : decode cX9_lays 22 = .ok (.iconst 1, 1) := by decide +kernel
theorem dX9_lays_23 : decode cX9_lays 23 = .ok (.iadd, 1) := by decide +kernel
theorem dX9_lays_24 : decode cX9_lays 24 = .ok (.iload_n 2, 1) := by decide +kernel
theorem dX9_lays_25 : decode cX9_lays 25 = .ok (.iastore, 1) := by decide +kernel
theorem dX9_lays_26 : decode cX9_lays 26 = .ok (.aload_n 0, 1) := by decide +kernel
theorem dX9_lays_27 : decode cX9_lays 27 = .ok (.dup, 1) := by decide +kernel
theorem dX9_lays_28 : decode cX9_lays 28 = .ok (.getfield 76, 3) := by decide +kernel
theorem dX9_lays_31 : decode cX9_lays 31 = .ok (.iconst 1, 1) := by decide +kernel
theorem dX9_lays_32 : decode cX9_lays 32 = .ok (.iadd, 1) := by decide +kernel
theorem dX9_lays_33 : decode cX9_lays 33 = .ok (.putfield 76, 3) := by decide +kernel
theorem dX9_lays_36 : decode cX9_lays 36 = .ok (.return_, 1) := by decide +kernel
theorem dX9_whole_0 : decode cX9_whole 0 = .ok (.aload_n 0, 1) := by decide +kernel
theorem dX9_whole_1 : decode cX9_whole 1 = .ok (.invokevirtual 79, 3) := by decide +kernel
theorem dX9_whole_4 : decode cX9_whole 4 = .ok (.ifCond .ne 5, 3) := by decide +kernel
theorem dX9_whole_7 : decode cX9_whole 7 = .ok (.iconst 0, 1) := by decide +kernel
theorem dX9_whole_8 : decode cX9_whole 8 = .ok (.ireturn, 1) := by decide +kernel
theorem dX9_whole_9 : decode cX9_whole 9 = .ok (.aload_n 0, 1) := by decide +kernel
theorem dX9_whole_10 : decode cX9_whole 10 = .ok (.invokevirtual 83, 3) := by decide +kernel
theorem dX9_whole_13 : decode cX9_whole 13 = .ok (.bipush 124, 2) := by decide +kernel
theorem dX9_whole_15 : decode cX9_whole 15 = .ok (.if_icmp .ne 32, 3) := by decide +kernel
theorem dX9_whole_18 : decode cX9_whole 18 = .ok (.aload_n 0, 1) := by decide +kernel
theorem dX9_whole_19 : decode cX9_whole 19 = .ok (.dup, 1) := by decide +kernel
theorem dX9_whole_20 : decode cX9_whole 20 = .ok (.getfield 69, 3) := by decide +kernel
theorem dX9_whole_23 : decode cX9_whole 23 = .ok (.iconst 1, 1) := by decide +kernel
theorem dX9_whole_24 : decode cX9_whole 24 = .ok (.iadd, 1) := by decide +kernel
theorem dX9_whole_25 : decode cX9_whole 25 = .ok (.putfield 69, 3) := by decide +kernel
theorem dX9_whole_28 : decode cX9_whole 28 = .ok (.aload_n 0, 1) := by decide +kernel
theorem dX9_whole_29 : decode cX9_whole 29 = .ok (.invokevirtual 79, 3) := by decide +kernel
theorem dX9_whole_32 : decode cX9_whole 32 = .ok (.ifCond .ne 5, 3) := by decide +kernel
theorem dX9_whole_35 : decode cX9_whole 35 = .ok (.iconst 0, 1) := by decide +kernel
theorem dX9_whole_36 : decode cX9_whole 36 = .ok (.ireturn, 1) := by decide +kernel
theorem dX9_whole_37 : decode cX9_whole 37 = .ok (.aload_n 0, 1) := by decide +kernel
theorem dX9_whole_38 : decode cX9_whole 38 = .ok (.iconst 3, 1) := by decide +kernel
theorem dX9_whole_39 : decode cX9_whole 39 = .ok (.bipush 124, 2) := by decide +kernel
theorem dX9_whole_41 : decode cX9_whole 41 = .ok (.invokevirtual 87, 3) := by decide +kernel
theorem dX9_whole_44 : decode cX9_whole 44 = .ok (.goto (-35), 3) := by decide +kernel
theorem dX9_whole_47 : decode cX9_whole 47 = .ok (.iconst 1, 1) := by decide +kernel
theorem dX9_whole_48 : decode cX9_whole 48 = .ok (.ireturn, 1) := by decide +kernel
theorem dX9_both_0 : decode cX9_both 0 = .ok (.aload_n 0, 1) := by decide +kernel
theorem dX9_both_1 : decode cX9_both 1 = .ok (.invokevirtual 91, 3) := by decide +kernel
theorem dX9_both_4 : decode cX9_both 4 = .ok (.ifCond .ne 5, 3) := by decide +kernel
theorem dX9_both_7 : decode cX9_both 7 = .ok (.iconst 0, 1) := by decide +kernel
theorem dX9_both_8 : decode cX9_both 8 = .ok (.ireturn, 1) := by decide +kernel
theorem dX9_both_9 : decode cX9_both 9 = .ok (.aload_n 0, 1) := by decide +kernel
theorem dX9_both_10 : decode cX9_both 10 = .ok (.invokevirtual 83, 3) := by decide +kernel
theorem dX9_both_13 : decode cX9_both 13 = .ok (.bipush 38, 2) := by decide +kernel
theorem dX9_both_15 : decode cX9_both 15 = .ok (.if_icmp .ne 32, 3) := by decide +kernel
theorem dX9_both_18 : decode cX9_both 18 = .ok (.aload_n 0, 1) := by decide +kernel
theorem dX9_both_19 : decode cX9_both 19 = .ok (.dup, 1) := by decide +kernel
theorem dX9_both_20 : decode cX9_both 20 = .ok (.getfield 69, 3) := by decide +kernel
theorem dX9_both_23 : decode cX9_both 23 = .ok (.iconst 1, 1) := by decide +kernel
theorem dX9_both_24 : decode cX9_both 24 = .ok (.iadd, 1) := by decide +kernel
theorem dX9_both_25 : decode cX9_both 25 = .ok (.putfield 69, 3) := by decide +kernel
theorem dX9_both_28 : decode cX9_both 28 = .ok (.aload_n 0, 1) := by decide +kernel
theorem dX9_both_29 : decode cX9_both 29 = .ok (.invokevirtual 91, 3) := by decide +kernel
theorem dX9_both_32 : decode cX9_both 32 = .ok (.ifCond .ne 5, 3) := by decide +kernel
theorem dX9_both_35 : decode cX9_both 35 = .ok (.iconst 0, 1) := by decide +kernel
theorem dX9_both_36 : decode cX9_both 36 = .ok (.ireturn, 1) := by decide +kernel
theorem dX9_both_37 : decode cX9_both 37 = .ok (.aload_n 0, 1) := by decide +kernel
theorem dX9_both_38 : decode cX9_both 38 = .ok (.iconst 3, 1) := by decide +kernel
theorem dX9_both_39 : decode cX9_both 39 = .ok (.bipush 38, 2) := by decide +kernel
theorem dX9_both_41 : decode cX9_both 41 = .ok (.invokevirtual 87, 3) := by decide +kernel
theorem dX9_both_44 : decode cX9_both 44 = .ok (.goto (-35), 3) := by decide +kernel
theorem dX9_both_47 : decode cX9_both 47 = .ok (.iconst 1, 1) := by decide +kernel
theorem dX9_both_48 : decode cX9_both 48 = .ok (.ireturn, 1) := by decide +kernel
theorem dX9_compared_0 : decode cX9_compared 0 = .ok (.aload_n 0, 1) := by decide +kernel
theorem dX9_compared_1 : decode cX9_compared 1 = .ok (.invokevirtual 94, 3) := by decide +kernel
theorem dX9_compared_4 : decode cX9_compared 4 = .ok (.ifCond .ne 5, 3) := by decide +kernel
theorem dX9_compared_7 : decode cX9_compared 7 = .ok (.iconst 0, 1) := by decide +kernel
theorem dX9_compared_8 : decode cX9_compared 8 = .ok (.ireturn, 1) := by decide +kernel
theorem dX9_compared_9 : decode cX9_compared 9 = .ok (.aload_n 0, 1) := by decide +kernel
theorem dX9_compared_10 : decode cX9_compared 10 = .ok (.invokevirtual 83, 3) := by decide +kernel
theorem dX9_compared_13 : decode cX9_compared 13 = .ok (.istore_n 1, 1) := by decide +kernel
theorem dX9_compared_14 : decode cX9_compared 14 = .ok (.iload_n 1, 1) := by decide +kernel
theorem dX9_compared_15 : decode cX9_compared 15 = .ok (.bipush 60, 2) := by decide +kernel
theorem dX9_compared_17 : decode cX9_compared 17 = .ok (.if_icmp .eq 17, 3) := by decide +kernel
theorem dX9_compared_20 : decode cX9_compared 20 = .ok (.iload_n 1, 1) := by decide +kernel
theorem dX9_compared_21 : decode cX9_compared 21 = .ok (.bipush 61, 2) := by decide +kernel
theorem dX9_compared_23 : decode cX9_compared 23 = .ok (.if_icmp .eq 11, 3) := by decide +kernel
theorem dX9_compared_26 : decode cX9_compared 26 = .ok (.iload_n 1, 1) := by decide +kernel
theorem dX9_compared_27 : decode cX9_compared 27 = .ok (.bipush 62, 2) := by decide +kernel
theorem dX9_compared_29 : decode cX9_compared 29 = .ok (.if_icmp .eq 5, 3) := by decide +kernel
theorem dX9_compared_32 : decode cX9_compared 32 = .ok (.iconst 1, 1) := by decide +kernel
theorem dX9_compared_33 : decode cX9_compared 33 = .ok (.ireturn, 1) := by decide +kernel
theorem dX9_compared_34 : decode cX9_compared 34 = .ok (.aload_n 0, 1) := by decide +kernel
theorem dX9_compared_35 : decode cX9_compared 35 = .ok (.dup, 1) := by decide +kernel
theorem dX9_compared_36 : decode cX9_compared 36 = .ok (.getfield 69, 3) := by decide +kernel
theorem dX9_compared_39 : decode cX9_compared 39 = .ok (.iconst 1, 1) := by decide +kernel
theorem dX9_compared_40 : decode cX9_compared 40 = .ok (.iadd, 1) := by decide +kernel
theorem dX9_compared_41 : decode cX9_compared 41 = .ok (.putfield 69, 3) := by decide +kernel
theorem dX9_compared_44 : decode cX9_compared 44 = .ok (.aload_n 0, 1) := by decide +kernel
theorem dX9_compared_45 : decode cX9_compared 45 = .ok (.invokevirtual 94, 3) := by decide +kernel
theorem dX9_compared_48 : decode cX9_compared 48 = .ok (.ifCond .ne 5, 3) := by decide +kernel
theorem dX9_compared_51 : decode cX9_compared 51 = .ok (.iconst 0, 1) := by decide +kernel
theorem dX9_compared_52 : decode cX9_compared 52 = .ok (.ireturn, 1) := by decide +kernel
theorem dX9_compared_53 : decode cX9_compared 53 = .ok (.aload_n 0, 1) := by decide +kernel
theorem dX9_compared_54 : decode cX9_compared 54 = .ok (.iconst 3, 1) := by decide +kernel
theorem dX9_compared_55 : decode cX9_compared 55 = .ok (.iload_n 1, 1) := by decide +kernel
theorem dX9_compared_56 : decode cX9_compared 56 = .ok (.invokevirtual 87, 3) := by decide +kernel
theorem dX9_compared_59 : decode cX9_compared 59 = .ok (.iconst 1, 1) := by decide +kernel
theorem dX9_compared_60 : decode cX9_compared 60 = .ok (.ireturn, 1) := by decide +kernel
theorem dX9_sum_0 : decode cX9_sum 0 = .ok (.aload_n 0, 1) := by decide +kernel
theorem dX9_sum_1 : decode cX9_sum 1 = .ok (.invokevirtual 97, 3) := by decide +kernel
theorem dX9_sum_4 : decode cX9_sum 4 = .ok (.ifCond .ne 5, 3) := by decide +kernel
theorem dX9_sum_7 : decode cX9_sum 7 = .ok (.iconst 0, 1) := by decide +kernel
theorem dX9_sum_8 : decode cX9_sum 8 = .ok (.ireturn, 1) := by decide +kernel
theorem dX9_sum_9 : decode cX9_sum 9 = .ok (.aload_n 0, 1) := by decide +kernel
theorem dX9_sum_10 : decode cX9_sum 10 = .ok (.invokevirtual 83, 3) := by decide +kernel
theorem dX9_sum_13 : decode cX9_sum 13 = .ok (.bipush 43, 2) := by decide +kernel
theorem dX9_sum_15 : decode cX9_sum 15 = .ok (.if_icmp .eq 12, 3) := by decide +kernel
theorem dX9_sum_18 : decode cX9_sum 18 = .ok (.aload_n 0, 1) := by decide +kernel
theorem dX9_sum_19 : decode cX9_sum 19 = .ok (.invokevirtual 83, 3) := by decide +kernel
theorem dX9_sum_22 : decode cX9_sum 22 = .ok (.bipush 45, 2) := by decide +kernel
theorem dX9_sum_24 : decode cX9_sum 24 = .ok (.if_icmp .ne 36, 3) := by decide +kernel
theorem dX9_sum_27 : decode cX9_sum 27 = .ok (.aload_n 0, 1) := by decide +kernel
theorem dX9_sum_28 : decode cX9_sum 28 = .ok (.invokevirtual 83, 3) := by decide +kernel
theorem dX9_sum_31 : decode cX9_sum 31 = .ok (.istore_n 1, 1) := by decide +kernel
theorem dX9_sum_32 : decode cX9_sum 32 = .ok (.aload_n 0, 1) := by decide +kernel
theorem dX9_sum_33 : decode cX9_sum 33 = .ok (.dup, 1) := by decide +kernel
theorem dX9_sum_34 : decode cX9_sum 34 = .ok (.getfield 69, 3) := by decide +kernel
theorem dX9_sum_37 : decode cX9_sum 37 = .ok (.iconst 1, 1) := by decide +kernel
theorem dX9_sum_38 : decode cX9_sum 38 = .ok (.iadd, 1) := by decide +kernel
theorem dX9_sum_39 : decode cX9_sum 39 = .ok (.putfield 69, 3) := by decide +kernel
theorem dX9_sum_42 : decode cX9_sum 42 = .ok (.aload_n 0, 1) := by decide +kernel
theorem dX9_sum_43 : decode cX9_sum 43 = .ok (.invokevirtual 97, 3) := by decide +kernel
theorem dX9_sum_46 : decode cX9_sum 46 = .ok (.ifCond .ne 5, 3) := by decide +kernel
theorem dX9_sum_49 : decode cX9_sum 49 = .ok (.iconst 0, 1) := by decide +kernel
theorem dX9_sum_50 : decode cX9_sum 50 = .ok (.ireturn, 1) := by decide +kernel
theorem dX9_sum_51 : decode cX9_sum 51 = .ok (.aload_n 0, 1) := by decide +kernel
theorem dX9_sum_52 : decode cX9_sum 52 = .ok (.iconst 3, 1) := by decide +kernel
theorem dX9_sum_53 : decode cX9_sum 53 = .ok (.iload_n 1, 1) := by decide +kernel
theorem dX9_sum_54 : decode cX9_sum 54 = .ok (.invokevirtual 87, 3) := by decide +kernel
theorem dX9_sum_57 : decode cX9_sum 57 = .ok (.goto (-48), 3) := by decide +kernel
theorem dX9_sum_60 : decode cX9_sum 60 = .ok (.iconst 1, 1) := by decide +kernel
theorem dX9_sum_61 : decode cX9_sum 61 = .ok (.ireturn, 1) := by decide +kernel
theorem dX9_product_0 : decode cX9_product 0 = .ok (.aload_n 0, 1) := by decide +kernel
theorem dX9_product_1 : decode cX9_product 1 = .ok (.invokevirtual 100, 3) := by decide +kernel
theorem dX9_product_4 : decode cX9_product 4 = .ok (.ifCond .ne 5, 3) := by decide +kernel
theorem dX9_product_7 : decode cX9_product 7 = .ok (.iconst 0, 1) := by decide +kernel
theorem dX9_product_8 : decode cX9_product 8 = .ok (.ireturn, 1) := by decide +kernel
theorem dX9_product_9 : decode cX9_product 9 = .ok (.aload_n 0, 1) := by decide +kernel
theorem dX9_product_10 : decode cX9_product 10 = .ok (.invokevirtual 83, 3) := by decide +kernel
theorem dX9_product_13 : decode cX9_product 13 = .ok (.bipush 42, 2) := by decide +kernel
theorem dX9_product_15 : decode cX9_product 15 = .ok (.if_icmp .eq 21, 3) := by decide +kernel
theorem dX9_product_18 : decode cX9_product 18 = .ok (.aload_n 0, 1) := by decide +kernel
theorem dX9_product_19 : decode cX9_product 19 = .ok (.invokevirtual 83, 3) := by decide +kernel
theorem dX9_product_22 : decode cX9_product 22 = .ok (.bipush 47, 2) := by decide +kernel
theorem dX9_product_24 : decode cX9_product 24 = .ok (.if_icmp .eq 12, 3) := by decide +kernel
theorem dX9_product_27 : decode cX9_product 27 = .ok (.aload_n 0, 1) := by decide +kernel
theorem dX9_product_28 : decode cX9_product 28 = .ok (.invokevirtual 83, 3) := by decide +kernel
theorem dX9_product_31 : decode cX9_product 31 = .ok (.bipush 37, 2) := by decide +kernel
theorem dX9_product_33 : decode cX9_product 33 = .ok (.if_icmp .ne 36, 3) := by decide +kernel
theorem dX9_product_36 : decode cX9_product 36 = .ok (.aload_n 0, 1) := by decide +kernel
theorem dX9_product_37 : decode cX9_product 37 = .ok (.invokevirtual 83, 3) := by decide +kernel
theorem dX9_product_40 : decode cX9_product 40 = .ok (.istore_n 1, 1) := by decide +kernel
theorem dX9_product_41 : decode cX9_product 41 = .ok (.aload_n 0, 1) := by decide +kernel
theorem dX9_product_42 : decode cX9_product 42 = .ok (.dup, 1) := by decide +kernel
theorem dX9_product_43 : decode cX9_product 43 = .ok (.getfield 69, 3) := by decide +kernel
theorem dX9_product_46 : decode cX9_product 46 = .ok (.iconst 1, 1) := by decide +kernel
theorem dX9_product_47 : decode cX9_product 47 = .ok (.iadd, 1) := by decide +kernel
theorem dX9_product_48 : decode cX9_product 48 = .ok (.putfield 69, 3) := by decide +kernel
theorem dX9_product_51 : decode cX9_product 51 = .ok (.aload_n 0, 1) := by decide +kernel
theorem dX9_product_52 : decode cX9_product 52 = .ok (.invokevirtual 100, 3) := by decide +kernel
theorem dX9_product_55 : decode cX9_product 55 = .ok (.ifCond .ne 5, 3) := by decide +kernel
theorem dX9_product_58 : decode cX9_product 58 = .ok (.iconst 0, 1) := by decide +kernel
theorem dX9_product_59 : decode cX9_product 59 = .ok (.ireturn, 1) := by decide +kernel
theorem dX9_product_60 : decode cX9_product 60 = .ok (.aload_n 0, 1) := by decide +kernel
theorem dX9_product_61 : decode cX9_product 61 = .ok (.iconst 3, 1) := by decide +kernel
theorem dX9_product_62 : decode cX9_product 62 = .ok (.iload_n 1, 1) := by decide +kernel
theorem dX9_product_63 : decode cX9_product 63 = .ok (.invokevirtual 87, 3) := by decide +kernel
theorem dX9_product_66 : decode cX9_product 66 = .ok (.goto (-57), 3) := by decide +kernel
theorem dX9_product_69 : decode cX9_product 69 = .ok (.iconst 1, 1) := by decide +kernel
theorem dX9_product_70 : decode cX9_product 70 = .ok (.ireturn, 1) := by decide +kernel
theorem dX9_opens_0 : decode cX9_opens 0 = .ok (.aload_n 0, 1) := by decide +kernel
theorem dX9_opens_1 : decode cX9_opens 1 = .ok (.getfield 103, 3) := by decide +kernel
theorem dX9_opens_4 : decode cX9_opens 4 = .ok (.iconst 5, 1) := by decide +kernel
theorem dX9_opens_5 : decode cX9_opens 5 = .ok (.if_icmp .ne 5, 3) := by decide +kernel
theorem dX9_opens_8 : decode cX9_opens 8 = .ok (.iconst 0, 1) := by decide +kernel
theorem dX9_opens_9 : decode cX9_opens 9 = .ok (.ireturn, 1) := by decide +kernel
theorem dX9_opens_10 : decode cX9_opens 10 = .ok (.aload_n 0, 1) := by decide +kernel
theorem dX9_opens_11 : decode cX9_opens 11 = .ok (.dup, 1) := by decide +kernel
theorem dX9_opens_12 : decode cX9_opens 12 = .ok (.getfield 103, 3) := by decide +kernel
theorem dX9_opens_15 : decode cX9_opens 15 = .ok (.iconst 1, 1) := by decide +kernel
theorem dX9_opens_16 : decode cX9_opens 16 = .ok (.iadd, 1) := by decide +kernel
theorem dX9_opens_17 : decode cX9_opens 17 = .ok (.putfield 103, 3) := by decide +kernel
theorem dX9_opens_20 : decode cX9_opens 20 = .ok (.aload_n 0, 1) := by decide +kernel
theorem dX9_opens_21 : decode cX9_opens 21 = .ok (.dup, 1) := by decide +kernel
theorem dX9_opens_22 : decode cX9_opens 22 = .ok (.getfield 69, 3) := by decide +kernel
theorem dX9_opens_25 : decode cX9_opens 25 = .ok (.iconst 1, 1) := by decide +kernel
theorem dX9_opens_26 : decode cX9_opens 26 = .ok (.iadd, 1) := by decide +kernel
theorem dX9_opens_27 : decode cX9_opens 27 = .ok (.putfield 69, 3) := by decide +kernel
theorem dX9_opens_30 : decode cX9_opens 30 = .ok (.iconst 1, 1) := by decide +kernel
theorem dX9_opens_31 : decode cX9_opens 31 = .ok (.ireturn, 1) := by decide +kernel
theorem dX9_one_0 : decode cX9_one 0 = .ok (.aload_n 0, 1) := by decide +kernel
theorem dX9_one_1 : decode cX9_one 1 = .ok (.invokevirtual 83, 3) := by decide +kernel
theorem dX9_one_4 : decode cX9_one 4 = .ok (.istore_n 1, 1) := by decide +kernel
theorem dX9_one_5 : decode cX9_one 5 = .ok (.aload_n 0, 1) := by decide +kernel
theorem dX9_one_6 : decode cX9_one 6 = .ok (.iload_n 1, 1) := by decide +kernel
theorem dX9_one_7 : decode cX9_one 7 = .ok (.invokevirtual 106, 3) := by decide +kernel
theorem dX9_one_10 : decode cX9_one 10 = .ok (.ifCond .eq 21, 3) := by decide +kernel
theorem dX9_one_13 : decode cX9_one 13 = .ok (.aload_n 0, 1) := by decide +kernel
theorem dX9_one_14 : decode cX9_one 14 = .ok (.dup, 1) := by decide +kernel
theorem dX9_one_15 : decode cX9_one 15 = .ok (.getfield 69, 3) := by decide +kernel
theorem dX9_one_18 : decode cX9_one 18 = .ok (.iconst 1, 1) := by decide +kernel
theorem dX9_one_19 : decode cX9_one 19 = .ok (.iadd, 1) := by decide +kernel
theorem dX9_one_20 : decode cX9_one 20 = .ok (.putfield 69, 3) := by decide +kernel
theorem dX9_one_23 : decode cX9_one 23 = .ok (.aload_n 0, 1) := by decide +kernel
theorem dX9_one_24 : decode cX9_one 24 = .ok (.iconst 1, 1) := by decide +kernel
theorem dX9_one_25 : decode cX9_one 25 = .ok (.iload_n 1, 1) := by decide +kernel
theorem dX9_one_26 : decode cX9_one 26 = .ok (.invokevirtual 87, 3) := by decide +kernel
theorem dX9_one_29 : decode cX9_one 29 = .ok (.iconst 1, 1) := by decide +kernel
theorem dX9_one_30 : decode cX9_one 30 = .ok (.ireturn, 1) := by decide +kernel
theorem dX9_one_31 : decode cX9_one 31 = .ok (.iload_n 1, 1) := by decide +kernel
theorem dX9_one_32 : decode cX9_one 32 = .ok (.bipush 48, 2) := by decide +kernel
theorem dX9_one_34 : decode cX9_one 34 = .ok (.bipush 57, 2) := by decide +kernel
theorem dX9_one_36 : decode cX9_one 36 = .ok (.invokestatic 59, 3) := by decide +kernel
theorem dX9_one_39 : decode cX9_one 39 = .ok (.ifCond .eq 63, 3) := by decide +kernel
theorem dX9_one_42 : decode cX9_one 42 = .ok (.iconst 0, 1) := by decide +kernel
theorem dX9_one_43 : decode cX9_one 43 = .ok (.istore_n 2, 1) := by decide +kernel
theorem dX9_one_44 : decode cX9_one 44 = .ok (.iconst 0, 1) := by decide +kernel
theorem dX9_one_45 : decode cX9_one 45 = .ok (.istore_n 3, 1) := by decide +kernel
theorem dX9_one_46 : decode cX9_one 46 = .ok (.iload_n 3, 1) := by decide +kernel
theorem dX9_one_47 : decode cX9_one 47 = .ok (.iconst 4, 1) := by decide +kernel
theorem dX9_one_48 : decode cX9_one 48 = .ok (.if_icmp .ge 46, 3) := by decide +kernel
theorem dX9_one_51 : decode cX9_one 51 = .ok (.aload_n 0, 1) := by decide +kernel
theorem dX9_one_52 : decode cX9_one 52 = .ok (.invokevirtual 83, 3) := by decide +kernel
theorem dX9_one_55 : decode cX9_one 55 = .ok (.bipush 48, 2) := by decide +kernel
theorem dX9_one_57 : decode cX9_one 57 = .ok (.bipush 57, 2) := by decide +kernel
theorem dX9_one_59 : decode cX9_one 59 = .ok (.invokestatic 59, 3) := by decide +kernel
theorem dX9_one_62 : decode cX9_one 62 = .ok (.ifCond .eq 32, 3) := by decide +kernel
theorem dX9_one_65 : decode cX9_one 65 = .ok (.bipush 10, 2) := by decide +kernel
theorem dX9_one_67 : decode cX9_one 67 = .ok (.iload_n 2, 1) := by decide +kernel
theorem dX9_one_68 : decode cX9_one 68 = .ok (.imul, 1) := by decide +kernel
theorem dX9_one_69 : decode cX9_one 69 = .ok (.aload_n 0, 1) := by decide +kernel
theorem dX9_one_70 : decode cX9_one 70 = .ok (.invokevirtual 83, 3) := by decide +kernel
theorem dX9_one_73 : decode cX9_one 73 = .ok (.iadd, 1) := by decide +kernel
theorem dX9_one_74 : decode cX9_one 74 = .ok (.bipush 48, 2) := by decide +kernel
theorem dX9_one_76 : decode cX9_one 76 = .ok (.isub, 1) := by decide +kernel
theorem dX9_one_77 : decode cX9_one 77 = .ok (.istore_n 2, 1) := by decide +kernel
theorem dX9_one_78 : decode cX9_one 78 = .ok (.aload_n 0, 1) := by decide +kernel
theorem dX9_one_79 : decode cX9_one 79 = .ok (.dup, 1) := by decide +kernel
theorem dX9_one_80 : decode cX9_one 80 = .ok (.getfield 69, 3) := by decide +kernel
theorem dX9_one_83 : decode cX9_one 83 = .ok (.iconst 1, 1) := by decide +kernel
theorem dX9_one_84 : decode cX9_one 84 = .ok (.iadd, 1) := by decide +kernel
theorem dX9_one_85 : decode cX9_one 85 = .ok (.putfield 69, 3) := by decide +kernel
theorem dX9_one_88 : decode cX9_one 88 = .ok (.iinc 3 1, 3) := by decide +kernel
theorem dX9_one_91 : decode cX9_one 91 = .ok (.goto (-45), 3) := by decide +kernel
theorem dX9_one_94 : decode cX9_one 94 = .ok (.aload_n 0, 1) := by decide +kernel
theorem dX9_one_95 : decode cX9_one 95 = .ok (.iconst 0, 1) := by decide +kernel
theorem dX9_one_96 : decode cX9_one 96 = .ok (.iload_n 2, 1) := by decide +kernel
theorem dX9_one_97 : decode cX9_one 97 = .ok (.invokevirtual 87, 3) := by decide +kernel
theorem dX9_one_100 : decode cX9_one 100 = .ok (.iconst 1, 1) := by decide +kernel
theorem dX9_one_101 : decode cX9_one 101 = .ok (.ireturn, 1) := by decide +kernel
theorem dX9_one_102 : decode cX9_one 102 = .ok (.iload_n 1, 1) := by decide +kernel
theorem dX9_one_103 : decode cX9_one 103 = .ok (.bipush 33, 2) := by decide +kernel
theorem dX9_one_105 : decode cX9_one 105 = .ok (.if_icmp .ne 37, 3) := by decide +kernel
theorem dX9_one_108 : decode cX9_one 108 = .ok (.aload_n 0, 1) := by decide +kernel
theorem dX9_one_109 : decode cX9_one 109 = .ok (.invokevirtual 110, 3) := by decide +kernel
theorem dX9_one_112 : decode cX9_one 112 = .ok (.ifCond .eq 10, 3) := by decide +kernel
theorem dX9_one_115 : decode cX9_one 115 = .ok (.aload_n 0, 1) := by decide +kernel
theorem dX9_one_116 : decode cX9_one 116 = .ok (.invokevirtual 100, 3) := by decide +kernel
theorem dX9_one_119 : decode cX9_one 119 = .ok (.ifCond .ne 5, 3) := by decide +kernel
theorem dX9_one_122 : decode cX9_one 122 = .ok (.iconst 0, 1) := by decide +kernel
theorem dX9_one_123 : decode cX9_one 123 = .ok (.ireturn, 1) := by decide +kernel
theorem dX9_one_124 : decode cX9_one 124 = .ok (.aload_n 0, 1) := by decide +kernel
theorem dX9_one_125 : decode cX9_one 125 = .ok (.dup, 1) := by decide +kernel
theorem dX9_one_126 : decode cX9_one 126 = .ok (.getfield 103, 3) := by decide +kernel
theorem dX9_one_129 : decode cX9_one 129 = .ok (.iconst 1, 1) := by decide +kernel
theorem dX9_one_130 : decode cX9_one 130 = .ok (.isub, 1) := by decide +kernel
theorem dX9_one_131 : decode cX9_one 131 = .ok (.putfield 103, 3) := by decide +kernel
theorem dX9_one_134 : decode cX9_one 134 = .ok (.aload_n 0, 1) := by decide +kernel
theorem dX9_one_135 : decode cX9_one 135 = .ok (.iconst 2, 1) := by decide +kernel
theorem dX9_one_136 : decode cX9_one 136 = .ok (.iconst 0, 1) := by decide +kernel
theorem dX9_one_137 : decode cX9_one 137 = .ok (.invokevirtual 87, 3) := by decide +kernel
theorem dX9_one_140 : decode cX9_one 140 = .ok (.iconst 1, 1) := by decide +kernel
theorem dX9_one_141 : decode cX9_one 141 = .ok (.ireturn, 1) := by decide +kernel
theorem dX9_one_142 : decode cX9_one 142 = .ok (.iload_n 1, 1) := by decide +kernel
theorem dX9_one_143 : decode cX9_one 143 = .ok (.bipush 40, 2) := by decide +kernel
theorem dX9_one_145 : decode cX9_one 145 = .ok (.if_icmp .ne 26, 3) := by decide +kernel
theorem dX9_one_148 : decode cX9_one 148 = .ok (.aload_n 0, 1) := by decide +kernel
theorem dX9_one_149 : decode cX9_one 149 = .ok (.invokevirtual 110, 3) := by decide +kernel
theorem dX9_one_152 : decode cX9_one 152 = .ok (.ifCond .eq 19, 3) := by decide +kernel
theorem dX9_one_155 : decode cX9_one 155 = .ok (.aload_n 0, 1) := by decide +kernel
theorem dX9_one_156 : decode cX9_one 156 = .ok (.invokevirtual 113, 3) := by decide +kernel
theorem dX9_one_159 : decode cX9_one 159 = .ok (.ifCond .eq 12, 3) := by decide +kernel
theorem dX9_one_162 : decode cX9_one 162 = .ok (.aload_n 0, 1) := by decide +kernel
theorem dX9_one_163 : decode cX9_one 163 = .ok (.invokevirtual 83, 3) := by decide +kernel
theorem dX9_one_166 : decode cX9_one 166 = .ok (.bipush 41, 2) := by decide +kernel
theorem dX9_one_168 : decode cX9_one 168 = .ok (.if_icmp .eq 5, 3) := by decide +kernel
theorem dX9_one_171 : decode cX9_one 171 = .ok (.iconst 0, 1) := by decide +kernel
theorem dX9_one_172 : decode cX9_one 172 = .ok (.ireturn, 1) := by decide +kernel
theorem dX9_one_173 : decode cX9_one 173 = .ok (.aload_n 0, 1) := by decide +kernel
theorem dX9_one_174 : decode cX9_one 174 = .ok (.dup, 1) := by decide +kernel
theorem dX9_one_175 : decode cX9_one 175 = .ok (.getfield 69, 3) := by decide +kernel
theorem dX9_one_178 : decode cX9_one 178 = .ok (.iconst 1, 1) := by decide +kernel
theorem dX9_one_179 : decode cX9_one 179 = .ok (.iadd, 1) := by decide +kernel
theorem dX9_one_180 : decode cX9_one 180 = .ok (.putfield 69, 3) := by decide +kernel
theorem dX9_one_183 : decode cX9_one 183 = .ok (.aload_n 0, 1) := by decide +kernel
theorem dX9_one_184 : decode cX9_one 184 = .ok (.dup, 1) := by decide +kernel
theorem dX9_one_185 : decode cX9_one 185 = .ok (.getfield 103, 3) := by decide +kernel
theorem dX9_one_188 : decode cX9_one 188 = .ok (.iconst 1, 1) := by decide +kernel
theorem dX9_one_189 : decode cX9_one 189 = .ok (.isub, 1) := by decide +kernel
theorem dX9_one_190 : decode cX9_one 190 = .ok (.putfield 103, 3) := by decide +kernel
theorem dX9_one_193 : decode cX9_one 193 = .ok (.iconst 1, 1) := by decide +kernel
theorem dX9_one_194 : decode cX9_one 194 = .ok (.ireturn, 1) := by decide +kernel
theorem dX9_hasText_0 : decode cX9_hasText 0 = .ok (.aload_n 0, 1) := by decide +kernel
theorem dX9_hasText_1 : decode cX9_hasText 1 = .ok (.getfield 7, 3) := by decide +kernel
theorem dX9_hasText_4 : decode cX9_hasText 4 = .ok (.bipush 124, 2) := by decide +kernel
theorem dX9_hasText_6 : decode cX9_hasText 6 = .ok (.bipush 125, 2) := by decide +kernel
theorem dX9_hasText_8 : decode cX9_hasText 8 = .ok (.iload_n 1, 1) := by decide +kernel
theorem dX9_hasText_9 : decode cX9_hasText 9 = .ok (.imul, 1) := by decide +kernel
theorem dX9_hasText_10 : decode cX9_hasText 10 = .ok (.iadd, 1) := by decide +kernel
theorem dX9_hasText_11 : decode cX9_hasText 11 = .ok (.iaload, 1) := by decide +kernel
theorem dX9_hasText_12 : decode cX9_hasText 12 = .ok (.ifCond .le 7, 3) := by decide +kernel
theorem dX9_hasText_15 : decode cX9_hasText 15 = .ok (.iconst 1, 1) := by decide +kernel
theorem dX9_hasText_16 : decode cX9_hasText 16 = .ok (.goto 4, 3) := by decide +kernel
theorem dX9_hasText_19 : decode cX9_hasText 19 = .ok (.iconst 0, 1) := by decide +kernel
theorem dX9_hasText_20 : decode cX9_hasText 20 = .ok (.ireturn, 1) := by decide +kernel
theorem dX9_text_0 : decode cX9_text 0 = .ok (.iload_n 1, 1) := by decide +kernel
theorem dX9_text_1 : decode cX9_text 1 = .ok (.iconst 0, 1) := by decide +kernel
theorem dX9_text_2 : decode cX9_text 2 = .ok (.iconst 1, 1) := by decide +kernel
theorem dX9_text_3 : decode cX9_text 3 = .ok (.invokestatic 59, 3) := by decide +kernel
theorem dX9_text_6 : decode cX9_text 6 = .ok (.ifCond .ne 9, 3) := by decide +kernel
theorem dX9_text_9 : decode cX9_text 9 = .ok (.aload_n 0, 1) := by decide +kernel
theorem dX9_text_10 : decode cX9_text 10 = .ok (.iconst 1, 1) := by decide +kernel
theorem dX9_text_11 : decode cX9_text 11 = .ok (.invokevirtual 63, 3) := by decide +kernel
theorem dX9_text_14 : decode cX9_text 14 = .ok (.ireturn, 1) := by decide +kernel
theorem dX9_text_15 : decode cX9_text 15 = .ok (.aload_n 0, 1) := by decide +kernel
theorem dX9_text_16 : decode cX9_text 16 = .ok (.iload_n 1, 1) := by decide +kernel
theorem dX9_text_17 : decode cX9_text 17 = .ok (.putfield 73, 3) := by decide +kernel
theorem dX9_text_20 : decode cX9_text 20 = .ok (.aload_n 0, 1) := by decide +kernel
theorem dX9_text_21 : decode cX9_text 21 = .ok (.iconst 0, 1) := by decide +kernel
theorem dX9_text_22 : decode cX9_text 22 = .ok (.putfield 69, 3) := by decide +kernel
theorem dX9_text_25 : decode cX9_text 25 = .ok (.aload_n 0, 1) := by decide +kernel
theorem dX9_text_26 : decode cX9_text 26 = .ok (.iconst 0, 1) := by decide +kernel
theorem dX9_text_27 : decode cX9_text 27 = .ok (.putfield 103, 3) := by decide +kernel
theorem dX9_text_30 : decode cX9_text 30 = .ok (.aload_n 0, 1) := by decide +kernel
theorem dX9_text_31 : decode cX9_text 31 = .ok (.iconst 0, 1) := by decide +kernel
theorem dX9_text_32 : decode cX9_text 32 = .ok (.putfield 76, 3) := by decide +kernel
theorem dX9_text_35 : decode cX9_text 35 = .ok (.aload_n 0, 1) := by decide +kernel
theorem dX9_text_36 : decode cX9_text 36 = .ok (.invokevirtual 113, 3) := by decide +kernel
theorem dX9_text_39 : decode cX9_text 39 = .ok (.ifCond .eq 20, 3) := by decide +kernel
theorem dX9_text_42 : decode cX9_text 42 = .ok (.aload_n 0, 1) := by decide +kernel
theorem dX9_text_43 : decode cX9_text 43 = .ok (.getfield 69, 3) := by decide +kernel
theorem dX9_text_46 : decode cX9_text 46 = .ok (.aload_n 0, 1) := by decide +kernel
theorem dX9_text_47 : decode cX9_text 47 = .ok (.getfield 7, 3) := by decide +kernel
theorem dX9_text_50 : decode cX9_text 50 = .ok (.iconst 5, 1) := by decide +kernel
theorem dX9_text_51 : decode cX9_text 51 = .ok (.iaload, 1) := by decide +kernel
theorem dX9_text_52 : decode cX9_text 52 = .ok (.if_icmp .ne 7, 3) := by decide +kernel
theorem dX9_text_55 : decode cX9_text 55 = .ok (.iconst 1, 1) := by decide +kernel
theorem dX9_text_56 : decode cX9_text 56 = .ok (.goto 4, 3) := by decide +kernel
theorem dX9_text_59 : decode cX9_text 59 = .ok (.iconst 0, 1) := by decide +kernel
theorem dX9_text_60 : decode cX9_text 60 = .ok (.istore_n 2, 1) := by decide +kernel
theorem dX9_text_61 : decode cX9_text 61 = .ok (.aload_n 0, 1) := by decide +kernel
theorem dX9_text_62 : decode cX9_text 62 = .ok (.getfield 7, 3) := by decide +kernel
theorem dX9_text_65 : decode cX9_text 65 = .ok (.iconst 5, 1) := by decide +kernel
theorem dX9_text_66 : decode cX9_text 66 = .ok (.iconst 0, 1) := by decide +kernel
theorem dX9_text_67 : decode cX9_text 67 = .ok (.iastore, 1) := by decide +kernel
theorem dX9_text_68 : decode cX9_text 68 = .ok (.iload_n 2, 1) := by decide +kernel
theorem dX9_text_69 : decode cX9_text 69 = .ok (.ifCond .ne 11, 3) := by decide +kernel
theorem dX9_text_72 : decode cX9_text 72 = .ok (.bipush (-10), 2) := by decide +kernel
theorem dX9_text_74 : decode cX9_text 74 = .ok (.aload_n 0, 1) := by decide +kernel
theorem dX9_text_75 : decode cX9_text 75 = .ok (.getfield 69, 3) := by decide +kernel
theorem dX9_text_78 : decode cX9_text 78 = .ok (.isub, 1) := by decide +kernel
theorem dX9_text_79 : decode cX9_text 79 = .ok (.ireturn, 1) := by decide +kernel
theorem dX9_text_80 : decode cX9_text 80 = .ok (.bipush 124, 2) := by decide +kernel
theorem dX9_text_82 : decode cX9_text 82 = .ok (.bipush 125, 2) := by decide +kernel
theorem dX9_text_84 : decode cX9_text 84 = .ok (.iload_n 1, 1) := by decide +kernel
theorem dX9_text_85 : decode cX9_text 85 = .ok (.imul, 1) := by decide +kernel
theorem dX9_text_86 : decode cX9_text 86 = .ok (.iadd, 1) := by decide +kernel
theorem dX9_text_87 : decode cX9_text 87 = .ok (.istore_n 3, 1) := by decide +kernel
theorem dX9_text_88 : decode cX9_text 88 = .ok (.aload_n 0, 1) := by decide +kernel
theorem dX9_text_89 : decode cX9_text 89 = .ok (.getfield 7, 3) := by decide +kernel
theorem dX9_text_92 : decode cX9_text 92 = .ok (.iload_n 3, 1) := by decide +kernel
theorem dX9_text_93 : decode cX9_text 93 = .ok (.aload_n 0, 1) := by decide +kernel
theorem dX9_text_94 : decode cX9_text 94 = .ok (.getfield 76, 3) := by decide +kernel
theorem dX9_text_97 : decode cX9_text 97 = .ok (.iastore, 1) := by decide +kernel
theorem dX9_text_98 : decode cX9_text 98 = .ok (.iconst 0, 1) := by decide +kernel
theorem dX9_text_99 : decode cX9_text 99 = .ok (.istore 4, 2) := by decide +kernel
theorem dX9_text_101 : decode cX9_text 101 = .ok (.iload 4, 2) := by decide +kernel
theorem dX9_text_103 : decode cX9_text 103 = .ok (.iconst 2, 1) := by decide +kernel
theorem dX9_text_104 : decode cX9_text 104 = .ok (.aload_n 0, 1) := by decide +kernel
theorem dX9_text_105 : decode cX9_text 105 = .ok (.getfield 76, 3) := by decide +kernel
theorem dX9_text_108 : decode cX9_text 108 = .ok (.imul, 1) := by decide +kernel
theorem dX9_text_109 : decode cX9_text 109 = .ok (.if_icmp .ge 27, 3) := by decide +kernel
theorem dX9_text_112 : decode cX9_text 112 = .ok (.aload_n 0, 1) := by decide +kernel
theorem dX9_text_113 : decode cX9_text 113 = .ok (.getfield 7, 3) := by decide +kernel
theorem dX9_text_116 : decode cX9_text 116 = .ok (.iload_n 3, 1) := by decide +kernel
theorem dX9_text_117 : decode cX9_text 117 = .ok (.iconst 1, 1) := by decide +kernel
theorem dX9_text_118 : decode cX9_text 118 = .ok (.iadd, 1) := by decide +kernel
theorem dX9_text_119 : decode cX9_text 119 = .ok (.iload 4, 2) := by decide +kernel
theorem dX9_text_121 : decode cX9_text 121 = .ok (.iadd, 1) := by decide +kernel
theorem dX9_text_122 : decode cX9_text 122 = .ok (.aload_n 0, 1) := by decide +kernel
theorem dX9_text_123 : decode cX9_text 123 = .ok (.getfield 25, 3) := by decide +kernel
theorem dX9_text_126 : decode cX9_text 126 = .ok (.iload 4, 2) := by decide +kernel
theorem dX9_text_128 : decode cX9_text 128 = .ok (.iaload, 1) := by decide +kernel
theorem dX9_text_129 : decode cX9_text 129 = .ok (.iastore, 1) := by decide +kernel
theorem dX9_text_130 : decode cX9_text 130 = .ok (.iinc 4 1, 3) := by decide +kernel
theorem dX9_text_133 : decode cX9_text 133 = .ok (.goto (-32), 3) := by decide +kernel
theorem dX9_text_136 : decode cX9_text 136 = .ok (.iconst 1, 1) := by decide +kernel
theorem dX9_text_137 : decode cX9_text 137 = .ok (.ireturn, 1) := by decide +kernel
theorem dX9_untell_0 : decode cX9_untell 0 = .ok (.iload_n 1, 1) := by decide +kernel
theorem dX9_untell_1 : decode cX9_untell 1 = .ok (.iconst 0, 1) := by decide +kernel
theorem dX9_untell_2 : decode cX9_untell 2 = .ok (.iconst 1, 1) := by decide +kernel
theorem dX9_untell_3 : decode cX9_untell 3 = .ok (.invokestatic 59, 3) := by decide +kernel
theorem dX9_untell_6 : decode cX9_untell 6 = .ok (.ifCond .ne 9, 3) := by decide +kernel
theorem dX9_untell_9 : decode cX9_untell 9 = .ok (.aload_n 0, 1) := by decide +kernel
theorem dX9_untell_10 : decode cX9_untell 10 = .ok (.iconst 1, 1) := by decide +kernel
theorem dX9_untell_11 : decode cX9_untell 11 = .ok (.invokevirtual 63, 3) := by decide +kernel
theorem dX9_untell_14 : decode cX9_untell 14 = .ok (.ireturn, 1) := by decide +kernel
theorem dX9_untell_15 : decode cX9_untell 15 = .ok (.aload_n 0, 1) := by decide +kernel
theorem dX9_untell_16 : decode cX9_untell 16 = .ok (.iload_n 1, 1) := by decide +kernel
theorem dX9_untell_17 : decode cX9_untell 17 = .ok (.invokevirtual 116, 3) := by decide +kernel
theorem dX9_untell_20 : decode cX9_untell 20 = .ok (.ifCond .eq 7, 3) := by decide +kernel
theorem dX9_untell_23 : decode cX9_untell 23 = .ok (.iconst 1, 1) := by decide +kernel
theorem dX9_untell_24 : decode cX9_untell 24 = .ok (.goto 4, 3) := by decide +kernel
theorem dX9_untell_27 : decode cX9_untell 27 = .ok (.iconst 0, 1) := by decide +kernel
theorem dX9_untell_28 : decode cX9_untell 28 = .ok (.istore_n 2, 1) := by decide +kernel
theorem dX9_untell_29 : decode cX9_untell 29 = .ok (.aload_n 0, 1) := by decide +kernel
theorem dX9_untell_30 : decode cX9_untell 30 = .ok (.getfield 7, 3) := by decide +kernel
theorem dX9_untell_33 : decode cX9_untell 33 = .ok (.bipush 124, 2) := by decide +kernel
theorem dX9_untell_35 : decode cX9_untell 35 = .ok (.bipush 125, 2) := by decide +kernel
theorem dX9_untell_37 : decode cX9_untell 37 = .ok (.iload_n 1, 1) := by decide +kernel
theorem dX9_untell_38 : decode cX9_untell 38 = .ok (.imul, 1) := by decide +kernel
theorem dX9_untell_39 : decode cX9_untell 39 = .ok (.iadd, 1) := by decide +kernel
theorem dX9_untell_40 : decode cX9_untell 40 = .ok (.iconst 0, 1) := by decide +kernel
theorem dX9_untell_41 : decode cX9_untell 41 = .ok (.iastore, 1) := by decide +kernel
theorem dX9_untell_42 : decode cX9_untell 42 = .ok (.iload_n 2, 1) := by decide +kernel
theorem dX9_untell_43 : decode cX9_untell 43 = .ok (.ireturn, 1) := by decide +kernel
theorem dX9_joined_0 : decode cX9_joined 0 = .ok (.iload_n 0, 1) := by decide +kernel
theorem dX9_joined_1 : decode cX9_joined 1 = .ok (.tableswitch 217 37 62 #[153, 203, 217, 217, 217, 127, 119, 217, 123, 217, 131, 217, 217, 217, 217, 217, 217, 217, 217, 217, 217, 217, 217, 170, 192, 181], 119) := by decide +kernel
theorem dX9_joined_120 : decode cX9_joined 120 = .ok (.iload_n 1, 1) := by decide +kernel
theorem dX9_joined_121 : decode cX9_joined 121 = .ok (.iload_n 2, 1) := by decide +kernel
theorem dX9_joined_122 : decode cX9_joined 122 = .ok (.iadd, 1) := by decide +kernel
theorem dX9_joined_123 : decode cX9_joined 123 = .ok (.ireturn, 1) := by decide +kernel
theorem dX9_joined_124 : decode cX9_joined 124 = .ok (.iload_n 1, 1) := by decide +kernel
theorem dX9_joined_125 : decode cX9_joined 125 = .ok (.iload_n 2, 1) := by decide +kernel
theorem dX9_joined_126 : decode cX9_joined 126 = .ok (.isub, 1) := by decide +kernel
theorem dX9_joined_127 : decode cX9_joined 127 = .ok (.ireturn, 1) := by decide +kernel
theorem dX9_joined_128 : decode cX9_joined 128 = .ok (.iload_n 1, 1) := by decide +kernel
theorem dX9_joined_129 : decode cX9_joined 129 = .ok (.iload_n 2, 1) := by decide +kernel
theorem dX9_joined_130 : decode cX9_joined 130 = .ok (.imul, 1) := by decide +kernel
theorem dX9_joined_131 : decode cX9_joined 131 = .ok (.ireturn, 1) := by decide +kernel
theorem dX9_joined_132 : decode cX9_joined 132 = .ok (.iload_n 2, 1) := by decide +kernel
theorem dX9_joined_133 : decode cX9_joined 133 = .ok (.ifCond .ne 7, 3) := by decide +kernel
theorem dX9_joined_136 : decode cX9_joined 136 = .ok (.iconst 0, 1) := by decide +kernel
theorem dX9_joined_137 : decode cX9_joined 137 = .ok (.goto 16, 3) := by decide +kernel
theorem dX9_joined_140 : decode cX9_joined 140 = .ok (.iload_n 2, 1) := by decide +kernel
theorem dX9_joined_141 : decode cX9_joined 141 = .ok (.iconst (-1), 1) := by decide +kernel
theorem dX9_joined_142 : decode cX9_joined 142 = .ok (.if_icmp .ne 8, 3) := by decide +kernel
theorem dX9_joined_145 : decode cX9_joined 145 = .ok (.iload_n 1, 1) := by decide +kernel
theorem dX9_joined_146 : decode cX9_joined 146 = .ok (.ineg, 1) := by decide +kernel
theorem dX9_joined_147 : decode cX9_joined 147 = .ok (.goto 6, 3) := by decide +kernel
theorem dX9_joined_150 : decode cX9_joined 150 = .ok (.iload_n 1, 1) := by decide +kernel
theorem dX9_joined_151 : decode cX9_joined 151 = .ok (.iload_n 2, 1) := by decide +kernel
theorem dX9_joined_152 : decode cX9_joined 152 = .ok (.idiv, 1) := by decide +kernel
theorem dX9_joined_153 : decode cX9_joined 153 = .ok (.ireturn, 1) := by decide +kernel
theorem dX9_joined_154 : decode cX9_joined 154 = .ok (.iload_n 2, 1) := by decide +kernel
theorem dX9_joined_155 : decode cX9_joined 155 = .ok (.ifCond .eq 8, 3) := by decide +kernel
theorem dX9_joined_158 : decode cX9_joined 158 = .ok (.iload_n 2, 1) := by decide +kernel
theorem dX9_joined_159 : decode cX9_joined 159 = .ok (.iconst (-1), 1) := by decide +kernel
theorem dX9_joined_160 : decode cX9_joined 160 = .ok (.if_icmp .ne 7, 3) := by decide +kernel
theorem dX9_joined_163 : decode cX9_joined 163 = .ok (.iconst 0, 1) := by decide +kernel
theorem dX9_joined_164 : decode cX9_joined 164 = .ok (.goto 6, 3) := by decide +kernel
theorem dX9_joined_167 : decode cX9_joined 167 = .ok (.iload_n 1, 1) := by decide +kernel
theorem dX9_joined_168 : decode cX9_joined 168 = .ok (.iload_n 2, 1) := by decide +kernel
theorem dX9_joined_169 : decode cX9_joined 169 = .ok (.irem, 1) := by decide +kernel
theorem dX9_joined_170 : decode cX9_joined 170 = .ok (.ireturn, 1) := by decide +kernel
theorem dX9_joined_171 : decode cX9_joined 171 = .ok (.iload_n 1, 1) := by decide +kernel
theorem dX9_joined_172 : decode cX9_joined 172 = .ok (.iload_n 2, 1) := by decide +kernel
theorem dX9_joined_173 : decode cX9_joined 173 = .ok (.if_icmp .ge 7, 3) := by decide +kernel
theorem dX9_joined_176 : decode cX9_joined 176 = .ok (.iconst 1, 1) := by decide +kernel
theorem dX9_joined_177 : decode cX9_joined 177 = .ok (.goto 4, 3) := by decide +kernel
theorem dX9_joined_180 : decode cX9_joined 180 = .ok (.iconst 0, 1) := by decide +kernel
theorem dX9_joined_181 : decode cX9_joined 181 = .ok (.ireturn, 1) := by decide +kernel
theorem dX9_joined_182 : decode cX9_joined 182 = .ok (.iload_n 1, 1) := by decide +kernel
theorem dX9_joined_183 : decode cX9_joined 183 = .ok (.iload_n 2, 1) := by decide +kernel
theorem dX9_joined_184 : decode cX9_joined 184 = .ok (.if_icmp .le 7, 3) := by decide +kernel
theorem dX9_joined_187 : decode cX9_joined 187 = .ok (.iconst 1, 1) := by decide +kernel
theorem dX9_joined_188 : decode cX9_joined 188 = .ok (.goto 4, 3) := by decide +kernel
theorem dX9_joined_191 : decode cX9_joined 191 = .ok (.iconst 0, 1) := by decide +kernel
theorem dX9_joined_192 : decode cX9_joined 192 = .ok (.ireturn, 1) := by decide +kernel
theorem dX9_joined_193 : decode cX9_joined 193 = .ok (.iload_n 1, 1) := by decide +kernel
theorem dX9_joined_194 : decode cX9_joined 194 = .ok (.iload_n 2, 1) := by decide +kernel
theorem dX9_joined_195 : decode cX9_joined 195 = .ok (.if_icmp .ne 7, 3) := by decide +kernel
theorem dX9_joined_198 : decode cX9_joined 198 = .ok (.iconst 1, 1) := by decide +kernel
theorem dX9_joined_199 : decode cX9_joined 199 = .ok (.goto 4, 3) := by decide +kernel
theorem dX9_joined_202 : decode cX9_joined 202 = .ok (.iconst 0, 1) := by decide +kernel
theorem dX9_joined_203 : decode cX9_joined 203 = .ok (.ireturn, 1) := by decide +kernel
theorem dX9_joined_204 : decode cX9_joined 204 = .ok (.iload_n 1, 1) := by decide +kernel
theorem dX9_joined_205 : decode cX9_joined 205 = .ok (.ifCond .eq 11, 3) := by decide +kernel
theorem dX9_joined_208 : decode cX9_joined 208 = .ok (.iload_n 2, 1) := by decide +kernel
theorem dX9_joined_209 : decode cX9_joined 209 = .ok (.ifCond .eq 7, 3) := by decide +kernel
theorem dX9_joined_212 : decode cX9_joined 212 = .ok (.iconst 1, 1) := by decide +kernel
theorem dX9_joined_213 : decode cX9_joined 213 = .ok (.goto 4, 3) := by decide +kernel
theorem dX9_joined_216 : decode cX9_joined 216 = .ok (.iconst 0, 1) := by decide +kernel
theorem dX9_joined_217 : decode cX9_joined 217 = .ok (.ireturn, 1) := by decide +kernel
theorem dX9_joined_218 : decode cX9_joined 218 = .ok (.iload_n 1, 1) := by decide +kernel
theorem dX9_joined_219 : decode cX9_joined 219 = .ok (.ifCond .ne 7, 3) := by decide +kernel
theorem dX9_joined_222 : decode cX9_joined 222 = .ok (.iload_n 2, 1) := by decide +kernel
theorem dX9_joined_223 : decode cX9_joined 223 = .ok (.ifCond .eq 7, 3) := by decide +kernel
theorem dX9_joined_226 : decode cX9_joined 226 = .ok (.iconst 1, 1) := by decide +kernel
theorem dX9_joined_227 : decode cX9_joined 227 = .ok (.goto 4, 3) := by decide +kernel
theorem dX9_joined_230 : decode cX9_joined 230 = .ok (.iconst 0, 1) := by decide +kernel
theorem dX9_joined_231 : decode cX9_joined 231 = .ok (.ireturn, 1) := by decide +kernel
theorem dX9_worked_0 : decode cX9_worked 0 = .ok (.bipush 124, 2) := by decide +kernel
theorem dX9_worked_2 : decode cX9_worked 2 = .ok (.bipush 125, 2) := by decide +kernel
theorem dX9_worked_4 : decode cX9_worked 4 = .ok (.iload_n 1, 1) := by decide +kernel
theorem dX9_worked_5 : decode cX9_worked 5 = .ok (.imul, 1) := by decide +kernel
theorem dX9_worked_6 : decode cX9_worked 6 = .ok (.iadd, 1) := by decide +kernel
theorem dX9_worked_7 : decode cX9_worked 7 = .ok (.istore_n 2, 1) := by decide +kernel
theorem dX9_worked_8 : decode cX9_worked 8 = .ok (.iconst 0, 1) := by decide +kernel
theorem dX9_worked_9 : decode cX9_worked 9 = .ok (.istore_n 3, 1) := by decide +kernel
theorem dX9_worked_10 : decode cX9_worked 10 = .ok (.iconst 0, 1) := by decide +kernel
theorem dX9_worked_11 : decode cX9_worked 11 = .ok (.istore 4, 2) := by decide +kernel
theorem dX9_worked_13 : decode cX9_worked 13 = .ok (.iload 4, 2) := by decide +kernel
theorem dX9_worked_15 : decode cX9_worked 15 = .ok (.aload_n 0, 1) := by decide +kernel
theorem dX9_worked_16 : decode cX9_worked 16 = .ok (.getfield 7, 3) := by decide +kernel
theorem dX9_worked_19 : decode cX9_worked 19 = .ok (.iload_n 2, 1) := by decide +kernel
theorem dX9_worked_20 : decode cX9_worked 20 = .ok (.iaload, 1) := by decide +kernel
theorem dX9_worked_21 : decode cX9_worked 21 = .ok (.if_icmp .ge 142, 3) := by decide +kernel
theorem dX9_worked_24 : decode cX9_worked 24 = .ok (.aload_n 0, 1) := by decide +kernel
theorem dX9_worked_25 : decode cX9_worked 25 = .ok (.getfield 7, 3) := by decide +kernel
theorem dX9_worked_28 : decode cX9_worked 28 = .ok (.iload_n 2, 1) := by decide +kernel
theorem dX9_worked_29 : decode cX9_worked 29 = .ok (.iconst 1, 1) := by decide +kernel
theorem dX9_worked_30 : decode cX9_worked 30 = .ok (.iadd, 1) := by decide +kernel
theorem dX9_worked_31 : decode cX9_worked 31 = .ok (.iconst 2, 1) := by decide +kernel
theorem dX9_worked_32 : decode cX9_worked 32 = .ok (.iload 4, 2) := by decide +kernel
theorem dX9_worked_34 : decode cX9_worked 34 = .ok (.imul, 1) := by decide +kernel
theorem dX9_worked_35 : decode cX9_worked 35 = .ok (.iadd, 1) := by decide +kernel
theorem dX9_worked_36 : decode cX9_worked 36 = .ok (.iaload, 1) := by decide +kernel
theorem dX9_worked_37 : decode cX9_worked 37 = .ok (.istore 5, 2) := by decide +kernel
theorem dX9_worked_39 : decode cX9_worked 39 = .ok (.aload_n 0, 1) := by decide +kernel
theorem dX9_worked_40 : decode cX9_worked 40 = .ok (.getfield 7, 3) := by decide +kernel
theorem dX9_worked_43 : decode cX9_worked 43 = .ok (.iload_n 2, 1) := by decide +kernel
theorem dX9_worked_44 : decode cX9_worked 44 = .ok (.iconst 2, 1) := by decide +kernel
theorem dX9_worked_45 : decode cX9_worked 45 = .ok (.iadd, 1) := by decide +kernel
theorem dX9_worked_46 : decode cX9_worked 46 = .ok (.iconst 2, 1) := by decide +kernel
theorem dX9_worked_47 : decode cX9_worked 47 = .ok (.iload 4, 2) := by decide +kernel
theorem dX9_worked_49 : decode cX9_worked 49 = .ok (.imul, 1) := by decide +kernel
theorem dX9_worked_50 : decode cX9_worked 50 = .ok (.iadd, 1) := by decide +kernel
theorem dX9_worked_51 : decode cX9_worked 51 = .ok (.iaload, 1) := by decide +kernel
theorem dX9_worked_52 : decode cX9_worked 52 = .ok (.istore 6, 2) := by decide +kernel
theorem dX9_worked_54 : decode cX9_worked 54 = .ok (.iload 5, 2) := by decide +kernel
theorem dX9_worked_56 : decode cX9_worked 56 = .ok (.ifCond .eq 9, 3) := by decide +kernel
theorem dX9_worked_59 : decode cX9_worked 59 = .ok (.iload 5, 2) := by decide +kernel
theorem dX9_worked_61 : decode cX9_worked 61 = .ok (.iconst 1, 1) := by decide +kernel
theorem dX9_worked_62 : decode cX9_worked 62 = .ok (.if_icmp .ne 32, 3) := by decide +kernel
theorem dX9_worked_65 : decode cX9_worked 65 = .ok (.aload_n 0, 1) := by decide +kernel
theorem dX9_worked_66 : decode cX9_worked 66 = .ok (.getfield 31, 3) := by decide +kernel
theorem dX9_worked_69 : decode cX9_worked 69 = .ok (.iload_n 3, 1) := by decide +kernel
theorem dX9_worked_70 : decode cX9_worked 70 = .ok (.iload 5, 2) := by decide +kernel
theorem dX9_worked_72 : decode cX9_worked 72 = .ok (.ifCond .ne 8, 3) := by decide +kernel
theorem dX9_worked_75 : decode cX9_worked 75 = .ok (.iload 6, 2) := by decide +kernel
theorem dX9_worked_77 : decode cX9_worked 77 = .ok (.goto 10, 3) := by decide +kernel
theorem dX9_worked_80 : decode cX9_worked 80 = .ok (.aload_n 0, 1) := by decide +kernel
theorem dX9_worked_81 : decode cX9_worked 81 = .ok (.getfield 28, 3) := by decide +kernel
theorem dX9_worked_84 : decode cX9_worked 84 = .ok (.iload 6, 2) := by decide +kernel
theorem dX9_worked_86 : decode cX9_worked 86 = .ok (.iaload, 1) := by decide +kernel
theorem dX9_worked_87 : decode cX9_worked 87 = .ok (.iastore, 1) := by decide +kernel
theorem dX9_worked_88 : decode cX9_worked 88 = .ok (.iinc 3 1, 3) := by decide +kernel
theorem dX9_worked_91 : decode cX9_worked 91 = .ok (.goto 66, 3) := by decide +kernel
theorem dX9_worked_94 : decode cX9_worked 94 = .ok (.iload 5, 2) := by decide +kernel
theorem dX9_worked_96 : decode cX9_worked 96 = .ok (.iconst 2, 1) := by decide +kernel
theorem dX9_worked_97 : decode cX9_worked 97 = .ok (.if_icmp .ne 30, 3) := by decide +kernel
theorem dX9_worked_100 : decode cX9_worked 100 = .ok (.aload_n 0, 1) := by decide +kernel
theorem dX9_worked_101 : decode cX9_worked 101 = .ok (.getfield 31, 3) := by decide +kernel
theorem dX9_worked_104 : decode cX9_worked 104 = .ok (.iload_n 3, 1) := by decide +kernel
theorem dX9_worked_105 : decode cX9_worked 105 = .ok (.iconst 1, 1) := by decide +kernel
theorem dX9_worked_106 : decode cX9_worked 106 = .ok (.isub, 1) := by decide +kernel
theorem dX9_worked_107 : decode cX9_worked 107 = .ok (.aload_n 0, 1) := by decide +kernel
theorem dX9_worked_108 : decode cX9_worked 108 = .ok (.getfield 31, 3) := by decide +kernel
theorem dX9_worked_111 : decode cX9_worked 111 = .ok (.iload_n 3, 1) := by decide +kernel
theorem dX9_worked_112 : decode cX9_worked 112 = .ok (.iconst 1, 1) := by decide +kernel
theorem dX9_worked_113 : decode cX9_worked 113 = .ok (.isub, 1) := by decide +kernel
theorem dX9_worked_114 : decode cX9_worked 114 = .ok (.iaload, 1) := by decide +kernel
theorem dX9_worked_115 : decode cX9_worked 115 = .ok (.ifCond .ne 7, 3) := by decide +kernel
theorem dX9_worked_118 : decode cX9_worked 118 = .ok (.iconst 1, 1) := by decide +kernel
theorem dX9_worked_119 : decode cX9_worked 119 = .ok (.goto 4, 3) := by decide +kernel
theorem dX9_worked_122 : decode cX9_worked 122 = .ok (.iconst 0, 1) := by decide +kernel
theorem dX9_worked_123 : decode cX9_worked 123 = .ok (.iastore, 1) := by decide +kernel
theorem dX9_worked_124 : decode cX9_worked 124 = .ok (.goto 33, 3) := by decide +kernel
theorem dX9_worked_127 : decode cX9_worked 127 = .ok (.iinc 3 (-1), 3) := by decide +kernel
theorem dX9_worked_130 : decode cX9_worked 130 = .ok (.aload_n 0, 1) := by decide +kernel
theorem dX9_worked_131 : decode cX9_worked 131 = .ok (.getfield 31, 3) := by decide +kernel
theorem dX9_worked_134 : decode cX9_worked 134 = .ok (.iload_n 3, 1) := by decide +kernel
theorem dX9_worked_135 : decode cX9_worked 135 = .ok (.iconst 1, 1) := by decide +kernel
theorem dX9_worked_136 : decode cX9_worked 136 = .ok (.isub, 1) := by decide +kernel
theorem dX9_worked_137 : decode cX9_worked 137 = .ok (.iload 6, 2) := by decide +kernel
theorem dX9_worked_139 : decode cX9_worked 139 = .ok (.aload_n 0, 1) := by decide +kernel
theorem dX9_worked_140 : decode cX9_worked 140 = .ok (.getfield 31, 3) := by decide +kernel
theorem dX9_worked_143 : decode cX9_worked 143 = .ok (.iload_n 3, 1) := by decide +kernel
theorem dX9_worked_144 : decode cX9_worked 144 = .ok (.iconst 1, 1) := by decide +kernel
theorem dX9_worked_145 : decode cX9_worked 145 = .ok (.isub, 1) := by decide +kernel
theorem dX9_worked_146 : decode cX9_worked 146 = .ok (.iaload, 1) := by decide +kernel
theorem dX9_worked_147 : decode cX9_worked 147 = .ok (.aload_n 0, 1) := by decide +kernel
theorem dX9_worked_148 : decode cX9_worked 148 = .ok (.getfield 31, 3) := by decide +kernel
theorem dX9_worked_151 : decode cX9_worked 151 = .ok (.iload_n 3, 1) := by decide +kernel
theorem dX9_worked_152 : decode cX9_worked 152 = .ok (.iaload, 1) := by decide +kernel
theorem dX9_worked_153 : decode cX9_worked 153 = .ok (.invokestatic 119, 3) := by decide +kernel
theorem dX9_worked_156 : decode cX9_worked 156 = .ok (.iastore, 1) := by decide +kernel
theorem dX9_worked_157 : decode cX9_worked 157 = .ok (.iinc 4 1, 3) := by decide +kernel
theorem dX9_worked_160 : decode cX9_worked 160 = .ok (.goto (-147), 3) := by decide +kernel
theorem dX9_worked_163 : decode cX9_worked 163 = .ok (.aload_n 0, 1) := by decide +kernel
theorem dX9_worked_164 : decode cX9_worked 164 = .ok (.getfield 31, 3) := by decide +kernel
theorem dX9_worked_167 : decode cX9_worked 167 = .ok (.iconst 0, 1) := by decide +kernel
theorem dX9_worked_168 : decode cX9_worked 168 = .ok (.iaload, 1) := by decide +kernel
theorem dX9_worked_169 : decode cX9_worked 169 = .ok (.ireturn, 1) := by decide +kernel
theorem dX9_keepsTold_0 : decode cX9_keepsTold 0 = .ok (.aload_n 0, 1) := by decide +kernel
theorem dX9_keepsTold_1 : decode cX9_keepsTold 1 = .ok (.iconst 0, 1) := by decide +kernel
theorem dX9_keepsTold_2 : decode cX9_keepsTold 2 = .ok (.invokevirtual 116, 3) := by decide +kernel
theorem dX9_keepsTold_5 : decode cX9_keepsTold 5 = .ok (.ifCond .ne 10, 3) := by decide +kernel
theorem dX9_keepsTold_8 : decode cX9_keepsTold 8 = .ok (.aload_n 0, 1) := by decide +kernel
theorem dX9_keepsTold_9 : decode cX9_keepsTold 9 = .ok (.iload_n 1, 1) := by decide +kernel
theorem dX9_keepsTold_10 : decode cX9_keepsTold 10 = .ok (.iconst 1, 1) := by decide +kernel
theorem dX9_keepsTold_11 : decode cX9_keepsTold 11 = .ok (.invokevirtual 123, 3) := by decide +kernel
theorem dX9_keepsTold_14 : decode cX9_keepsTold 14 = .ok (.ireturn, 1) := by decide +kernel
theorem dX9_keepsTold_15 : decode cX9_keepsTold 15 = .ok (.aload_n 0, 1) := by decide +kernel
theorem dX9_keepsTold_16 : decode cX9_keepsTold 16 = .ok (.getfield 28, 3) := by decide +kernel
theorem dX9_keepsTold_19 : decode cX9_keepsTold 19 = .ok (.bipush 109, 2) := by decide +kernel
theorem dX9_keepsTold_21 : decode cX9_keepsTold 21 = .ok (.aload_n 0, 1) := by decide +kernel
theorem dX9_keepsTold_22 : decode cX9_keepsTold 22 = .ok (.iload_n 1, 1) := by decide +kernel
theorem dX9_keepsTold_23 : decode cX9_keepsTold 23 = .ok (.iconst 1, 1) := by decide +kernel
theorem dX9_keepsTold_24 : decode cX9_keepsTold 24 = .ok (.invokevirtual 123, 3) := by decide +kernel
theorem dX9_keepsTold_27 : decode cX9_keepsTold 27 = .ok (.iastore, 1) := by decide +kernel
theorem dX9_keepsTold_28 : decode cX9_keepsTold 28 = .ok (.aload_n 0, 1) := by decide +kernel
theorem dX9_keepsTold_29 : decode cX9_keepsTold 29 = .ok (.getfield 28, 3) := by decide +kernel
theorem dX9_keepsTold_32 : decode cX9_keepsTold 32 = .ok (.bipush 116, 2) := by decide +kernel
theorem dX9_keepsTold_34 : decode cX9_keepsTold 34 = .ok (.aload_n 0, 1) := by decide +kernel
theorem dX9_keepsTold_35 : decode cX9_keepsTold 35 = .ok (.getfield 7, 3) := by decide +kernel
theorem dX9_keepsTold_38 : decode cX9_keepsTold 38 = .ok (.iconst 2, 1) := by decide +kernel
theorem dX9_keepsTold_39 : decode cX9_keepsTold 39 = .ok (.iaload, 1) := by decide +kernel
theorem dX9_keepsTold_40 : decode cX9_keepsTold 40 = .ok (.iastore, 1) := by decide +kernel
theorem dX9_keepsTold_41 : decode cX9_keepsTold 41 = .ok (.aload_n 0, 1) := by decide +kernel
theorem dX9_keepsTold_42 : decode cX9_keepsTold 42 = .ok (.getfield 28, 3) := by decide +kernel
theorem dX9_keepsTold_45 : decode cX9_keepsTold 45 = .ok (.bipush 112, 2) := by decide +kernel
theorem dX9_keepsTold_47 : decode cX9_keepsTold 47 = .ok (.aload_n 0, 1) := by decide +kernel
theorem dX9_keepsTold_48 : decode cX9_keepsTold 48 = .ok (.getfield 7, 3) := by decide +kernel
theorem dX9_keepsTold_51 : decode cX9_keepsTold 51 = .ok (.iconst 0, 1) := by decide +kernel
theorem dX9_keepsTold_52 : decode cX9_keepsTold 52 = .ok (.iaload, 1) := by decide +kernel
theorem dX9_keepsTold_53 : decode cX9_keepsTold 53 = .ok (.iastore, 1) := by decide +kernel
theorem dX9_keepsTold_54 : decode cX9_keepsTold 54 = .ok (.aload_n 0, 1) := by decide +kernel
theorem dX9_keepsTold_55 : decode cX9_keepsTold 55 = .ok (.iconst 0, 1) := by decide +kernel
theorem dX9_keepsTold_56 : decode cX9_keepsTold 56 = .ok (.invokevirtual 127, 3) := by decide +kernel
theorem dX9_keepsTold_59 : decode cX9_keepsTold 59 = .ok (.ireturn, 1) := by decide +kernel
theorem dX9_keeps_0 : decode cX9_keeps 0 = .ok (.iconst 3, 1) := by decide +kernel
theorem dX9_keeps_1 : decode cX9_keeps 1 = .ok (.istore_n 2, 1) := by decide +kernel
theorem dX9_keeps_2 : decode cX9_keeps 2 = .ok (.aload_n 0, 1) := by decide +kernel
theorem dX9_keeps_3 : decode cX9_keeps 3 = .ok (.iload_n 1, 1) := by decide +kernel
theorem dX9_keeps_4 : decode cX9_keeps 4 = .ok (.iconst 0, 1) := by decide +kernel
theorem dX9_keeps_5 : decode cX9_keeps 5 = .ok (.invokevirtual 123, 3) := by decide +kernel
theorem dX9_keeps_8 : decode cX9_keeps 8 = .ok (.tableswitch 78 1 6 #[40, 78, 52, 57, 78, 69], 40) := by decide +kernel
theorem dX9_keeps_48 : decode cX9_keeps 48 = .ok (.iconst 3, 1) := by decide +kernel
theorem dX9_keeps_49 : decode cX9_keeps 49 = .ok (.aload_n 0, 1) := by decide +kernel
theorem dX9_keeps_50 : decode cX9_keeps 50 = .ok (.iload_n 1, 1) := by decide +kernel
theorem dX9_keeps_51 : decode cX9_keeps 51 = .ok (.iconst 1, 1) := by decide +kernel
theorem dX9_keeps_52 : decode cX9_keeps 52 = .ok (.invokevirtual 123, 3) := by decide +kernel
theorem dX9_keeps_55 : decode cX9_keeps 55 = .ok (.iadd, 1) := by decide +kernel
theorem dX9_keeps_56 : decode cX9_keeps 56 = .ok (.istore_n 2, 1) := by decide +kernel
theorem dX9_keeps_57 : decode cX9_keeps 57 = .ok (.goto 29, 3) := by decide +kernel
theorem dX9_keeps_60 : decode cX9_keeps 60 = .ok (.iconst 0, 1) := by decide +kernel
theorem dX9_keeps_61 : decode cX9_keeps 61 = .ok (.istore_n 2, 1) := by decide +kernel
theorem dX9_keeps_62 : decode cX9_keeps 62 = .ok (.goto 24, 3) := by decide +kernel
theorem dX9_keeps_65 : decode cX9_keeps 65 = .ok (.iconst 2, 1) := by decide +kernel
theorem dX9_keeps_66 : decode cX9_keeps 66 = .ok (.aload_n 0, 1) := by decide +kernel
theorem dX9_keeps_67 : decode cX9_keeps 67 = .ok (.iload_n 1, 1) := by decide +kernel
theorem dX9_keeps_68 : decode cX9_keeps 68 = .ok (.iconst 1, 1) := by decide +kernel
theorem dX9_keeps_69 : decode cX9_keeps 69 = .ok (.invokevirtual 123, 3) := by decide +kernel
theorem dX9_keeps_72 : decode cX9_keeps 72 = .ok (.iadd, 1) := by decide +kernel
theorem dX9_keeps_73 : decode cX9_keeps 73 = .ok (.istore_n 2, 1) := by decide +kernel
theorem dX9_keeps_74 : decode cX9_keeps 74 = .ok (.goto 12, 3) := by decide +kernel
theorem dX9_keeps_77 : decode cX9_keeps 77 = .ok (.aload_n 0, 1) := by decide +kernel
theorem dX9_keeps_78 : decode cX9_keeps 78 = .ok (.iload_n 1, 1) := by decide +kernel
theorem dX9_keeps_79 : decode cX9_keeps 79 = .ok (.invokevirtual 130, 3) := by decide +kernel
theorem dX9_keeps_82 : decode cX9_keeps 82 = .ok (.istore_n 2, 1) := by decide +kernel
theorem dX9_keeps_83 : decode cX9_keeps 83 = .ok (.goto 3, 3) := by decide +kernel
theorem dX9_keeps_86 : decode cX9_keeps 86 = .ok (.iload_n 2, 1) := by decide +kernel
theorem dX9_keeps_87 : decode cX9_keeps 87 = .ok (.iconst 0, 1) := by decide +kernel
theorem dX9_keeps_88 : decode cX9_keeps 88 = .ok (.bipush 8, 2) := by decide +kernel
theorem dX9_keeps_90 : decode cX9_keeps 90 = .ok (.invokestatic 133, 3) := by decide +kernel
theorem dX9_keeps_93 : decode cX9_keeps 93 = .ok (.ireturn, 1) := by decide +kernel
theorem dX9_fareTold_0 : decode cX9_fareTold 0 = .ok (.aload_n 0, 1) := by decide +kernel
theorem dX9_fareTold_1 : decode cX9_fareTold 1 = .ok (.iconst 1, 1) := by decide +kernel
theorem dX9_fareTold_2 : decode cX9_fareTold 2 = .ok (.invokevirtual 116, 3) := by decide +kernel
theorem dX9_fareTold_5 : decode cX9_fareTold 5 = .ok (.ifCond .ne 17, 3) := by decide +kernel
theorem dX9_fareTold_8 : decode cX9_fareTold 8 = .ok (.aload_n 0, 1) := by decide +kernel
theorem dX9_fareTold_9 : decode cX9_fareTold 9 = .ok (.iload_n 1, 1) := by decide +kernel
theorem dX9_fareTold_10 : decode cX9_fareTold 10 = .ok (.iconst 1, 1) := by decide +kernel
theorem dX9_fareTold_11 : decode cX9_fareTold 11 = .ok (.invokevirtual 123, 3) := by decide +kernel
theorem dX9_fareTold_14 : decode cX9_fareTold 14 = .ok (.aload_n 0, 1) := by decide +kernel
theorem dX9_fareTold_15 : decode cX9_fareTold 15 = .ok (.iload_n 1, 1) := by decide +kernel
theorem dX9_fareTold_16 : decode cX9_fareTold 16 = .ok (.iconst 4, 1) := by decide +kernel
theorem dX9_fareTold_17 : decode cX9_fareTold 17 = .ok (.invokevirtual 123, 3) := by decide +kernel
theorem dX9_fareTold_20 : decode cX9_fareTold 20 = .ok (.iadd, 1) := by decide +kernel
theorem dX9_fareTold_21 : decode cX9_fareTold 21 = .ok (.ireturn, 1) := by decide +kernel
theorem dX9_fareTold_22 : decode cX9_fareTold 22 = .ok (.aload_n 0, 1) := by decide +kernel
theorem dX9_fareTold_23 : decode cX9_fareTold 23 = .ok (.getfield 28, 3) := by decide +kernel
theorem dX9_fareTold_26 : decode cX9_fareTold 26 = .ok (.bipush 109, 2) := by decide +kernel
theorem dX9_fareTold_28 : decode cX9_fareTold 28 = .ok (.aload_n 0, 1) := by decide +kernel
theorem dX9_fareTold_29 : decode cX9_fareTold 29 = .ok (.iload_n 1, 1) := by decide +kernel
theorem dX9_fareTold_30 : decode cX9_fareTold 30 = .ok (.iconst 1, 1) := by decide +kernel
theorem dX9_fareTold_31 : decode cX9_fareTold 31 = .ok (.invokevirtual 123, 3) := by decide +kernel
theorem dX9_fareTold_34 : decode cX9_fareTold 34 = .ok (.iastore, 1) := by decide +kernel
theorem dX9_fareTold_35 : decode cX9_fareTold 35 = .ok (.aload_n 0, 1) := by decide +kernel
theorem dX9_fareTold_36 : decode cX9_fareTold 36 = .ok (.getfield 28, 3) := by decide +kernel
theorem dX9_fareTold_39 : decode cX9_fareTold 39 = .ok (.bipush 107, 2) := by decide +kernel
theorem dX9_fareTold_41 : decode cX9_fareTold 41 = .ok (.aload_n 0, 1) := by decide +kernel
theorem dX9_fareTold_42 : decode cX9_fareTold 42 = .ok (.iload_n 1, 1) := by decide +kernel
theorem dX9_fareTold_43 : decode cX9_fareTold 43 = .ok (.iconst 4, 1) := by decide +kernel
theorem dX9_fareTold_44 : decode cX9_fareTold 44 = .ok (.invokevirtual 123, 3) := by decide +kernel
theorem dX9_fareTold_47 : decode cX9_fareTold 47 = .ok (.iastore, 1) := by decide +kernel
theorem dX9_fareTold_48 : decode cX9_fareTold 48 = .ok (.aload_n 0, 1) := by decide +kernel
theorem dX9_fareTold_49 : decode cX9_fareTold 49 = .ok (.getfield 28, 3) := by decide +kernel
theorem dX9_fareTold_52 : decode cX9_fareTold 52 = .ok (.bipush 98, 2) := by decide +kernel
theorem dX9_fareTold_54 : decode cX9_fareTold 54 = .ok (.aload_n 0, 1) := by decide +kernel
theorem dX9_fareTold_55 : decode cX9_fareTold 55 = .ok (.iload_n 1, 1) := by decide +kernel
theorem dX9_fareTold_56 : decode cX9_fareTold 56 = .ok (.iconst 2, 1) := by decide +kernel
theorem dX9_fareTold_57 : decode cX9_fareTold 57 = .ok (.invokevirtual 123, 3) := by decide +kernel
theorem dX9_fareTold_60 : decode cX9_fareTold 60 = .ok (.iastore, 1) := by decide +kernel
theorem dX9_fareTold_61 : decode cX9_fareTold 61 = .ok (.aload_n 0, 1) := by decide +kernel
theorem dX9_fareTold_62 : decode cX9_fareTold 62 = .ok (.iconst 1, 1) := by decide +kernel
theorem dX9_fareTold_63 : decode cX9_fareTold 63 = .ok (.invokevirtual 127, 3) := by decide +kernel
theorem dX9_fareTold_66 : decode cX9_fareTold 66 = .ok (.ireturn, 1) := by decide +kernel
theorem dX9_fare_0 : decode cX9_fare 0 = .ok (.iconst 2, 1) := by decide +kernel
theorem dX9_fare_1 : decode cX9_fare 1 = .ok (.aload_n 0, 1) := by decide +kernel
theorem dX9_fare_2 : decode cX9_fare 2 = .ok (.iload_n 1, 1) := by decide +kernel
theorem dX9_fare_3 : decode cX9_fare 3 = .ok (.iconst 1, 1) := by decide +kernel
theorem dX9_fare_4 : decode cX9_fare 4 = .ok (.invokevirtual 123, 3) := by decide +kernel
theorem dX9_fare_7 : decode cX9_fare 7 = .ok (.iadd, 1) := by decide +kernel
theorem dX9_fare_8 : decode cX9_fare 8 = .ok (.istore_n 2, 1) := by decide +kernel
theorem dX9_fare_9 : decode cX9_fare 9 = .ok (.iload_n 2, 1) := by decide +kernel
theorem dX9_fare_10 : decode cX9_fare 10 = .ok (.istore_n 3, 1) := by decide +kernel
theorem dX9_fare_11 : decode cX9_fare 11 = .ok (.aload_n 0, 1) := by decide +kernel
theorem dX9_fare_12 : decode cX9_fare 12 = .ok (.iload_n 1, 1) := by decide +kernel
theorem dX9_fare_13 : decode cX9_fare 13 = .ok (.iconst 0, 1) := by decide +kernel
theorem dX9_fare_14 : decode cX9_fare 14 = .ok (.invokevirtual 123, 3) := by decide +kernel
theorem dX9_fare_17 : decode cX9_fare 17 = .ok (.tableswitch 63 2 6 #[35, 42, 47, 35, 54], 35) := by decide +kernel
theorem dX9_fare_52 : decode cX9_fare 52 = .ok (.iload_n 2, 1) := by decide +kernel
theorem dX9_fare_53 : decode cX9_fare 53 = .ok (.iconst 2, 1) := by decide +kernel
theorem dX9_fare_54 : decode cX9_fare 54 = .ok (.idiv, 1) := by decide +kernel
theorem dX9_fare_55 : decode cX9_fare 55 = .ok (.istore_n 3, 1) := by decide +kernel
theorem dX9_fare_56 : decode cX9_fare 56 = .ok (.goto 24, 3) := by decide +kernel
theorem dX9_fare_59 : decode cX9_fare 59 = .ok (.iconst 1, 1) := by decide +kernel
theorem dX9_fare_60 : decode cX9_fare 60 = .ok (.istore_n 3, 1) := by decide +kernel
theorem dX9_fare_61 : decode cX9_fare 61 = .ok (.goto 19, 3) := by decide +kernel
theorem dX9_fare_64 : decode cX9_fare 64 = .ok (.iload_n 2, 1) := by decide +kernel
theorem dX9_fare_65 : decode cX9_fare 65 = .ok (.iconst 1, 1) := by decide +kernel
theorem dX9_fare_66 : decode cX9_fare 66 = .ok (.iadd, 1) := by decide +kernel
theorem dX9_fare_67 : decode cX9_fare 67 = .ok (.istore_n 3, 1) := by decide +kernel
theorem dX9_fare_68 : decode cX9_fare 68 = .ok (.goto 12, 3) := by decide +kernel
theorem dX9_fare_71 : decode cX9_fare 71 = .ok (.aload_n 0, 1) := by decide +kernel
theorem dX9_fare_72 : decode cX9_fare 72 = .ok (.iload_n 1, 1) := by decide +kernel
theorem dX9_fare_73 : decode cX9_fare 73 = .ok (.invokevirtual 136, 3) := by decide +kernel
theorem dX9_fare_76 : decode cX9_fare 76 = .ok (.istore_n 3, 1) := by decide +kernel
theorem dX9_fare_77 : decode cX9_fare 77 = .ok (.goto 3, 3) := by decide +kernel
theorem dX9_fare_80 : decode cX9_fare 80 = .ok (.iload_n 3, 1) := by decide +kernel
theorem dX9_fare_81 : decode cX9_fare 81 = .ok (.iconst 0, 1) := by decide +kernel
theorem dX9_fare_82 : decode cX9_fare 82 = .ok (.bipush 99, 2) := by decide +kernel
theorem dX9_fare_84 : decode cX9_fare 84 = .ok (.invokestatic 133, 3) := by decide +kernel
theorem dX9_fare_87 : decode cX9_fare 87 = .ok (.ireturn, 1) := by decide +kernel
theorem dX9_placeOf_0 : decode cX9_placeOf 0 = .ok (.iconst (-1), 1) := by decide +kernel
theorem dX9_placeOf_1 : decode cX9_placeOf 1 = .ok (.istore_n 3, 1) := by decide +kernel
theorem dX9_placeOf_2 : decode cX9_placeOf 2 = .ok (.iconst 0, 1) := by decide +kernel
theorem dX9_placeOf_3 : decode cX9_placeOf 3 = .ok (.istore 4, 2) := by decide +kernel
theorem dX9_placeOf_5 : decode cX9_placeOf 5 = .ok (.iload 4, 2) := by decide +kernel
theorem dX9_placeOf_7 : decode cX9_placeOf 7 = .ok (.aload_n 0, 1) := by decide +kernel
theorem dX9_placeOf_8 : decode cX9_placeOf 8 = .ok (.iload_n 1, 1) := by decide +kernel
theorem dX9_placeOf_9 : decode cX9_placeOf 9 = .ok (.iconst 4, 1) := by decide +kernel
theorem dX9_placeOf_10 : decode cX9_placeOf 10 = .ok (.invokevirtual 123, 3) := by decide +kernel
theorem dX9_placeOf_13 : decode cX9_placeOf 13 = .ok (.if_icmp .ge 29, 3) := by decide +kernel
theorem dX9_placeOf_16 : decode cX9_placeOf 16 = .ok (.aload_n 0, 1) := by decide +kernel
theorem dX9_placeOf_17 : decode cX9_placeOf 17 = .ok (.iload_n 1, 1) := by decide +kernel
theorem dX9_placeOf_18 : decode cX9_placeOf 18 = .ok (.iconst 5, 1) := by decide +kernel
theorem dX9_placeOf_19 : decode cX9_placeOf 19 = .ok (.iload 4, 2) := by decide +kernel
theorem dX9_placeOf_21 : decode cX9_placeOf 21 = .ok (.iadd, 1) := by decide +kernel
theorem dX9_placeOf_22 : decode cX9_placeOf 22 = .ok (.invokevirtual 123, 3) := by decide +kernel
theorem dX9_placeOf_25 : decode cX9_placeOf 25 = .ok (.iload_n 2, 1) := by decide +kernel
theorem dX9_placeOf_26 : decode cX9_placeOf 26 = .ok (.if_icmp .ne 8, 3) := by decide +kernel
theorem dX9_placeOf_29 : decode cX9_placeOf 29 = .ok (.iload 4, 2) := by decide +kernel
theorem dX9_placeOf_31 : decode cX9_placeOf 31 = .ok (.goto 4, 3) := by decide +kernel
theorem dX9_placeOf_34 : decode cX9_placeOf 34 = .ok (.iload_n 3, 1) := by decide +kernel
theorem dX9_placeOf_35 : decode cX9_placeOf 35 = .ok (.istore_n 3, 1) := by decide +kernel
theorem dX9_placeOf_36 : decode cX9_placeOf 36 = .ok (.iinc 4 1, 3) := by decide +kernel
theorem dX9_placeOf_39 : decode cX9_placeOf 39 = .ok (.goto (-34), 3) := by decide +kernel
theorem dX9_placeOf_42 : decode cX9_placeOf 42 = .ok (.iload_n 3, 1) := by decide +kernel
theorem dX9_placeOf_43 : decode cX9_placeOf 43 = .ok (.ireturn, 1) := by decide +kernel
theorem dX9_knows_0 : decode cX9_knows 0 = .ok (.aload_n 0, 1) := by decide +kernel
theorem dX9_knows_1 : decode cX9_knows 1 = .ok (.iload_n 1, 1) := by decide +kernel
theorem dX9_knows_2 : decode cX9_knows 2 = .ok (.iload_n 2, 1) := by decide +kernel
theorem dX9_knows_3 : decode cX9_knows 3 = .ok (.invokevirtual 139, 3) := by decide +kernel
theorem dX9_knows_6 : decode cX9_knows 6 = .ok (.iconst (-1), 1) := by decide +kernel
theorem dX9_knows_7 : decode cX9_knows 7 = .ok (.if_icmp .eq 7, 3) := by decide +kernel
theorem dX9_knows_10 : decode cX9_knows 10 = .ok (.iconst 1, 1) := by decide +kernel
theorem dX9_knows_11 : decode cX9_knows 11 = .ok (.goto 4, 3) := by decide +kernel
theorem dX9_knows_14 : decode cX9_knows 14 = .ok (.iconst 0, 1) := by decide +kernel
theorem dX9_knows_15 : decode cX9_knows 15 = .ok (.ireturn, 1) := by decide +kernel
theorem dX9_forgets_0 : decode cX9_forgets 0 = .ok (.aload_n 0, 1) := by decide +kernel
theorem dX9_forgets_1 : decode cX9_forgets 1 = .ok (.iload_n 1, 1) := by decide +kernel
theorem dX9_forgets_2 : decode cX9_forgets 2 = .ok (.iload_n 2, 1) := by decide +kernel
theorem dX9_forgets_3 : decode cX9_forgets 3 = .ok (.invokevirtual 139, 3) := by decide +kernel
theorem dX9_forgets_6 : decode cX9_forgets 6 = .ok (.istore_n 3, 1) := by decide +kernel
theorem dX9_forgets_7 : decode cX9_forgets 7 = .ok (.iload_n 3, 1) := by decide +kernel
theorem dX9_forgets_8 : decode cX9_forgets 8 = .ok (.iconst (-1), 1) := by decide +kernel
theorem dX9_forgets_9 : decode cX9_forgets 9 = .ok (.if_icmp .eq 59, 3) := by decide +kernel
theorem dX9_forgets_12 : decode cX9_forgets 12 = .ok (.iload_n 3, 1) := by decide +kernel
theorem dX9_forgets_13 : decode cX9_forgets 13 = .ok (.istore 4, 2) := by decide +kernel
theorem dX9_forgets_15 : decode cX9_forgets 15 = .ok (.iload 4, 2) := by decide +kernel
theorem dX9_forgets_17 : decode cX9_forgets 17 = .ok (.iconst 1, 1) := by decide +kernel
theorem dX9_forgets_18 : decode cX9_forgets 18 = .ok (.iadd, 1) := by decide +kernel
theorem dX9_forgets_19 : decode cX9_forgets 19 = .ok (.aload_n 0, 1) := by decide +kernel
theorem dX9_forgets_20 : decode cX9_forgets 20 = .ok (.iload_n 1, 1) := by decide +kernel
theorem dX9_forgets_21 : decode cX9_forgets 21 = .ok (.iconst 4, 1) := by decide +kernel
theorem dX9_forgets_22 : decode cX9_forgets 22 = .ok (.invokevirtual 123, 3) := by decide +kernel
theorem dX9_forgets_25 : decode cX9_forgets 25 = .ok (.if_icmp .ge 29, 3) := by decide +kernel
theorem dX9_forgets_28 : decode cX9_forgets 28 = .ok (.aload_n 0, 1) := by decide +kernel
theorem dX9_forgets_29 : decode cX9_forgets 29 = .ok (.iload_n 1, 1) := by decide +kernel
theorem dX9_forgets_30 : decode cX9_forgets 30 = .ok (.iconst 5, 1) := by decide +kernel
theorem dX9_forgets_31 : decode cX9_forgets 31 = .ok (.iload 4, 2) := by decide +kernel
theorem dX9_forgets_33 : decode cX9_forgets 33 = .ok (.iadd, 1) := by decide +kernel
theorem dX9_forgets_34 : decode cX9_forgets 34 = .ok (.aload_n 0, 1) := by decide +kernel
theorem dX9_forgets_35 : decode cX9_forgets 35 = .ok (.iload_n 1, 1) := by decide +kernel
theorem dX9_forgets_36 : decode cX9_forgets 36 = .ok (.iconst 5, 1) := by decide +kernel
theorem dX9_forgets_37 : decode cX9_forgets 37 = .ok (.iload 4, 2) := by decide +kernel
theorem dX9_forgets_39 : decode cX9_forgets 39 = .ok (.iadd, 1) := by decide +kernel
theorem dX9_forgets_40 : decode cX9_forgets 40 = .ok (.iconst 1, 1) := by decide +kernel
theorem dX9_forgets_41 : decode cX9_forgets 41 = .ok (.iadd, 1) := by decide +kernel
theorem dX9_forgets_42 : decode cX9_forgets 42 = .ok (.invokevirtual 123, 3) := by decide +kernel
theorem dX9_forgets_45 : decode cX9_forgets 45 = .ok (.invokevirtual 142, 3) := by decide +kernel
theorem dX9_forgets_48 : decode cX9_forgets 48 = .ok (.iinc 4 1, 3) := by decide +kernel
theorem dX9_forgets_51 : decode cX9_forgets 51 = .ok (.goto (-36), 3) := by decide +kernel
theorem dX9_forgets_54 : decode cX9_forgets 54 = .ok (.aload_n 0, 1) := by decide +kernel
theorem dX9_forgets_55 : decode cX9_forgets 55 = .ok (.iload_n 1, 1) := by decide +kernel
theorem dX9_forgets_56 : decode cX9_forgets 56 = .ok (.iconst 4, 1) := by decide +kernel
theorem dX9_forgets_57 : decode cX9_forgets 57 = .ok (.aload_n 0, 1) := by decide +kernel
theorem dX9_forgets_58 : decode cX9_forgets 58 = .ok (.iload_n 1, 1) := by decide +kernel
theorem dX9_forgets_59 : decode cX9_forgets 59 = .ok (.iconst 4, 1) := by decide +kernel
theorem dX9_forgets_60 : decode cX9_forgets 60 = .ok (.invokevirtual 123, 3) := by decide +kernel
theorem dX9_forgets_63 : decode cX9_forgets 63 = .ok (.iconst 1, 1) := by decide +kernel
theorem dX9_forgets_64 : decode cX9_forgets 64 = .ok (.isub, 1) := by decide +kernel
theorem dX9_forgets_65 : decode cX9_forgets 65 = .ok (.invokevirtual 142, 3) := by decide +kernel
theorem dX9_forgets_68 : decode cX9_forgets 68 = .ok (.return_, 1) := by decide +kernel
theorem dX9_comes_0 : decode cX9_comes 0 = .ok (.aload_n 0, 1) := by decide +kernel
theorem dX9_comes_1 : decode cX9_comes 1 = .ok (.iload_n 1, 1) := by decide +kernel
theorem dX9_comes_2 : decode cX9_comes 2 = .ok (.invokevirtual 146, 3) := by decide +kernel
theorem dX9_comes_5 : decode cX9_comes 5 = .ok (.istore_n 3, 1) := by decide +kernel
theorem dX9_comes_6 : decode cX9_comes 6 = .ok (.aload_n 0, 1) := by decide +kernel
theorem dX9_comes_7 : decode cX9_comes 7 = .ok (.iload_n 1, 1) := by decide +kernel
theorem dX9_comes_8 : decode cX9_comes 8 = .ok (.iload_n 2, 1) := by decide +kernel
theorem dX9_comes_9 : decode cX9_comes 9 = .ok (.invokevirtual 149, 3) := by decide +kernel
theorem dX9_comes_12 : decode cX9_comes 12 = .ok (.aload_n 0, 1) := by decide +kernel
theorem dX9_comes_13 : decode cX9_comes 13 = .ok (.iload_n 1, 1) := by decide +kernel
theorem dX9_comes_14 : decode cX9_comes 14 = .ok (.iconst 4, 1) := by decide +kernel
theorem dX9_comes_15 : decode cX9_comes 15 = .ok (.invokevirtual 123, 3) := by decide +kernel
theorem dX9_comes_18 : decode cX9_comes 18 = .ok (.istore 4, 2) := by decide +kernel
theorem dX9_comes_20 : decode cX9_comes 20 = .ok (.iload 4, 2) := by decide +kernel
theorem dX9_comes_22 : decode cX9_comes 22 = .ok (.ifCond .le 29, 3) := by decide +kernel
theorem dX9_comes_25 : decode cX9_comes 25 = .ok (.aload_n 0, 1) := by decide +kernel
theorem dX9_comes_26 : decode cX9_comes 26 = .ok (.iload_n 1, 1) := by decide +kernel
theorem dX9_comes_27 : decode cX9_comes 27 = .ok (.iconst 5, 1) := by decide +kernel
theorem dX9_comes_28 : decode cX9_comes 28 = .ok (.iload 4, 2) := by decide +kernel
theorem dX9_comes_30 : decode cX9_comes 30 = .ok (.iadd, 1) := by decide +kernel
theorem dX9_comes_31 : decode cX9_comes 31 = .ok (.aload_n 0, 1) := by decide +kernel
theorem dX9_comes_32 : decode cX9_comes 32 = .ok (.iload_n 1, 1) := by decide +kernel
theorem dX9_comes_33 : decode cX9_comes 33 = .ok (.iconst 5, 1) := by decide +kernel
theorem dX9_comes_34 : decode cX9_comes 34 = .ok (.iload 4, 2) := by decide +kernel
theorem dX9_comes_36 : decode cX9_comes 36 = .ok (.iadd, 1) := by decide +kernel
theorem dX9_comes_37 : decode cX9_comes 37 = .ok (.iconst 1, 1) := by decide +kernel
theorem dX9_comes_38 : decode cX9_comes 38 = .ok (.isub, 1) := by decide +kernel
theorem dX9_comes_39 : decode cX9_comes 39 = .ok (.invokevirtual 123, 3) := by decide +kernel
theorem dX9_comes_42 : decode cX9_comes 42 = .ok (.invokevirtual 142, 3) := by decide +kernel
theorem dX9_comes_45 : decode cX9_comes 45 = .ok (.iinc 4 (-1), 3) := by decide +kernel
theorem dX9_comes_48 : decode cX9_comes 48 = .ok (.goto (-28), 3) := by decide +kernel
theorem dX9_comes_51 : decode cX9_comes 51 = .ok (.aload_n 0, 1) := by decide +kernel
theorem dX9_comes_52 : decode cX9_comes 52 = .ok (.iload_n 1, 1) := by decide +kernel
theorem dX9_comes_53 : decode cX9_comes 53 = .ok (.iconst 5, 1) := by decide +kernel
theorem dX9_comes_54 : decode cX9_comes 54 = .ok (.iload_n 2, 1) := by decide +kernel
theorem dX9_comes_55 : decode cX9_comes 55 = .ok (.invokevirtual 142, 3) := by decide +kernel
theorem dX9_comes_58 : decode cX9_comes 58 = .ok (.aload_n 0, 1) := by decide +kernel
theorem dX9_comes_59 : decode cX9_comes 59 = .ok (.iload_n 1, 1) := by decide +kernel
theorem dX9_comes_60 : decode cX9_comes 60 = .ok (.iconst 4, 1) := by decide +kernel
theorem dX9_comes_61 : decode cX9_comes 61 = .ok (.aload_n 0, 1) := by decide +kernel
theorem dX9_comes_62 : decode cX9_comes 62 = .ok (.iload_n 1, 1) := by decide +kernel
theorem dX9_comes_63 : decode cX9_comes 63 = .ok (.iconst 4, 1) := by decide +kernel
theorem dX9_comes_64 : decode cX9_comes 64 = .ok (.invokevirtual 123, 3) := by decide +kernel
theorem dX9_comes_67 : decode cX9_comes 67 = .ok (.iconst 1, 1) := by decide +kernel
theorem dX9_comes_68 : decode cX9_comes 68 = .ok (.iadd, 1) := by decide +kernel
theorem dX9_comes_69 : decode cX9_comes 69 = .ok (.iconst 0, 1) := by decide +kernel
theorem dX9_comes_70 : decode cX9_comes 70 = .ok (.iload_n 3, 1) := by decide +kernel
theorem dX9_comes_71 : decode cX9_comes 71 = .ok (.invokestatic 133, 3) := by decide +kernel
theorem dX9_comes_74 : decode cX9_comes 74 = .ok (.invokevirtual 142, 3) := by decide +kernel
theorem dX9_comes_77 : decode cX9_comes 77 = .ok (.return_, 1) := by decide +kernel
theorem dX9_person_0 : decode cX9_person 0 = .ok (.iload_n 1, 1) := by decide +kernel
theorem dX9_person_1 : decode cX9_person 1 = .ok (.iconst 0, 1) := by decide +kernel
theorem dX9_person_2 : decode cX9_person 2 = .ok (.iconst 1, 1) := by decide +kernel
theorem dX9_person_3 : decode cX9_person 3 = .ok (.invokestatic 59, 3) := by decide +kernel
theorem dX9_person_6 : decode cX9_person 6 = .ok (.ifCond .ne 9, 3) := by decide +kernel
theorem dX9_person_9 : decode cX9_person 9 = .ok (.aload_n 0, 1) := by decide +kernel
theorem dX9_person_10 : decode cX9_person 10 = .ok (.iconst 1, 1) := by decide +kernel
theorem dX9_person_11 : decode cX9_person 11 = .ok (.invokevirtual 63, 3) := by decide +kernel
theorem dX9_person_14 : decode cX9_person 14 = .ok (.ireturn, 1) := by decide +kernel
theorem dX9_person_15 : decode cX9_person 15 = .ok (.aload_n 0, 1) := by decide +kernel
theorem dX9_person_16 : decode cX9_person 16 = .ok (.getfield 7, 3) := by decide +kernel
theorem dX9_person_19 : decode cX9_person 19 = .ok (.iconst 0, 1) := by decide +kernel
theorem dX9_person_20 : decode cX9_person 20 = .ok (.iaload, 1) := by decide +kernel
theorem dX9_person_21 : decode cX9_person 21 = .ok (.bipush 8, 2) := by decide +kernel
theorem dX9_person_23 : decode cX9_person 23 = .ok (.if_icmp .ne 9, 3) := by decide +kernel
theorem dX9_person_26 : decode cX9_person 26 = .ok (.aload_n 0, 1) := by decide +kernel
theorem dX9_person_27 : decode cX9_person 27 = .ok (.iconst 4, 1) := by decide +kernel
theorem dX9_person_28 : decode cX9_person 28 = .ok (.invokevirtual 63, 3) := by decide +kernel
theorem dX9_person_31 : decode cX9_person 31 = .ok (.ireturn, 1) := by decide +kernel
theorem dX9_person_32 : decode cX9_person 32 = .ok (.aload_n 0, 1) := by decide +kernel
theorem dX9_person_33 : decode cX9_person 33 = .ok (.getfield 7, 3) := by decide +kernel
theorem dX9_person_36 : decode cX9_person 36 = .ok (.bipush 8, 2) := by decide +kernel
theorem dX9_person_38 : decode cX9_person 38 = .ok (.iconst 2, 1) := by decide +kernel
theorem dX9_person_39 : decode cX9_person 39 = .ok (.aload_n 0, 1) := by decide +kernel
theorem dX9_person_40 : decode cX9_person 40 = .ok (.getfield 7, 3) := by decide +kernel
theorem dX9_person_43 : decode cX9_person 43 = .ok (.iconst 0, 1) := by decide +kernel
theorem dX9_person_44 : decode cX9_person 44 = .ok (.iaload, 1) := by decide +kernel
theorem dX9_person_45 : decode cX9_person 45 = .ok (.imul, 1) := by decide +kernel
theorem dX9_person_46 : decode cX9_person 46 = .ok (.iadd, 1) := by decide +kernel
theorem dX9_person_47 : decode cX9_person 47 = .ok (.iload_n 1, 1) := by decide +kernel
theorem dX9_person_48 : decode cX9_person 48 = .ok (.iastore, 1) := by decide +kernel
theorem dX9_person_49 : decode cX9_person 49 = .ok (.aload_n 0, 1) := by decide +kernel
theorem dX9_person_50 : decode cX9_person 50 = .ok (.getfield 7, 3) := by decide +kernel
theorem dX9_person_53 : decode cX9_person 53 = .ok (.bipush 8, 2) := by decide +kernel
theorem dX9_person_55 : decode cX9_person 55 = .ok (.iconst 2, 1) := by decide +kernel
theorem dX9_person_56 : decode cX9_person 56 = .ok (.aload_n 0, 1) := by decide +kernel
theorem dX9_person_57 : decode cX9_person 57 = .ok (.getfield 7, 3) := by decide +kernel
theorem dX9_person_60 : decode cX9_person 60 = .ok (.iconst 0, 1) := by decide +kernel
theorem dX9_person_61 : decode cX9_person 61 = .ok (.iaload, 1) := by decide +kernel
theorem dX9_person_62 : decode cX9_person 62 = .ok (.imul, 1) := by decide +kernel
theorem dX9_person_63 : decode cX9_person 63 = .ok (.iadd, 1) := by decide +kernel
theorem dX9_person_64 : decode cX9_person 64 = .ok (.iconst 1, 1) := by decide +kernel
theorem dX9_person_65 : decode cX9_person 65 = .ok (.iadd, 1) := by decide +kernel
theorem dX9_person_66 : decode cX9_person 66 = .ok (.bipush 20, 2) := by decide +kernel
theorem dX9_person_68 : decode cX9_person 68 = .ok (.iastore, 1) := by decide +kernel
theorem dX9_person_69 : decode cX9_person 69 = .ok (.aload_n 0, 1) := by decide +kernel
theorem dX9_person_70 : decode cX9_person 70 = .ok (.getfield 7, 3) := by decide +kernel
theorem dX9_person_73 : decode cX9_person 73 = .ok (.iconst 0, 1) := by decide +kernel
theorem dX9_person_74 : decode cX9_person 74 = .ok (.dup2, 1) := by decide +kernel
theorem dX9_person_75 : decode cX9_person 75 = .ok (.iaload, 1) := by decide +kernel
theorem dX9_person_76 : decode cX9_person 76 = .ok (.iconst 1, 1) := by decide +kernel
theorem dX9_person_77 : decode cX9_person 77 = .ok (.iadd, 1) := by decide +kernel
theorem dX9_person_78 : decode cX9_person 78 = .ok (.iastore, 1) := by decide +kernel
theorem dX9_person_79 : decode cX9_person 79 = .ok (.aload_n 0, 1) := by decide +kernel
theorem dX9_person_80 : decode cX9_person 80 = .ok (.getfield 7, 3) := by decide +kernel
theorem dX9_person_83 : decode cX9_person 83 = .ok (.iconst 0, 1) := by decide +kernel
theorem dX9_person_84 : decode cX9_person 84 = .ok (.iaload, 1) := by decide +kernel
theorem dX9_person_85 : decode cX9_person 85 = .ok (.iconst 1, 1) := by decide +kernel
theorem dX9_person_86 : decode cX9_person 86 = .ok (.isub, 1) := by decide +kernel
theorem dX9_person_87 : decode cX9_person 87 = .ok (.ireturn, 1) := by decide +kernel
theorem dX9_findHeaps_0 : decode cX9_findHeaps 0 = .ok (.iconst 0, 1) := by decide +kernel
theorem dX9_findHeaps_1 : decode cX9_findHeaps 1 = .ok (.istore_n 1, 1) := by decide +kernel
theorem dX9_findHeaps_2 : decode cX9_findHeaps 2 = .ok (.iload_n 1, 1) := by decide +kernel
theorem dX9_findHeaps_3 : decode cX9_findHeaps 3 = .ok (.bipush 8, 2) := by decide +kernel
theorem dX9_findHeaps_5 : decode cX9_findHeaps 5 = .ok (.if_icmp .ge 16, 3) := by decide +kernel
theorem dX9_findHeaps_8 : decode cX9_findHeaps 8 = .ok (.aload_n 0, 1) := by decide +kernel
theorem dX9_findHeaps_9 : decode cX9_findHeaps 9 = .ok (.getfield 34, 3) := by decide +kernel
theorem dX9_findHeaps_12 : decode cX9_findHeaps 12 = .ok (.iload_n 1, 1) := by decide +kernel
theorem dX9_findHeaps_13 : decode cX9_findHeaps 13 = .ok (.iload_n 1, 1) := by decide +kernel
theorem dX9_findHeaps_14 : decode cX9_findHeaps 14 = .ok (.iastore, 1) := by decide +kernel
theorem dX9_findHeaps_15 : decode cX9_findHeaps 15 = .ok (.iinc 1 1, 3) := by decide +kernel
theorem dX9_findHeaps_18 : decode cX9_findHeaps 18 = .ok (.goto (-16), 3) := by decide +kernel
theorem dX9_findHeaps_21 : decode cX9_findHeaps 21 = .ok (.iconst 0, 1) := by decide +kernel
theorem dX9_findHeaps_22 : decode cX9_findHeaps 22 = .ok (.istore_n 1, 1) := by decide +kernel
theorem dX9_findHeaps_23 : decode cX9_findHeaps 23 = .ok (.iload_n 1, 1) := by decide +kernel
theorem dX9_findHeaps_24 : decode cX9_findHeaps 24 = .ok (.aload_n 0, 1) := by decide +kernel
theorem dX9_findHeaps_25 : decode cX9_findHeaps 25 = .ok (.getfield 7, 3) := by decide +kernel
theorem dX9_findHeaps_28 : decode cX9_findHeaps 28 = .ok (.iconst 1, 1) := by decide +kernel
theorem dX9_findHeaps_29 : decode cX9_findHeaps 29 = .ok (.iaload, 1) := by decide +kernel
theorem dX9_findHeaps_30 : decode cX9_findHeaps 30 = .ok (.if_icmp .ge 130, 3) := by decide +kernel
theorem dX9_findHeaps_33 : decode cX9_findHeaps 33 = .ok (.iconst 1, 1) := by decide +kernel
theorem dX9_findHeaps_34 : decode cX9_findHeaps 34 = .ok (.istore_n 2, 1) := by decide +kernel
theorem dX9_findHeaps_35 : decode cX9_findHeaps 35 = .ok (.iload_n 2, 1) := by decide +kernel
theorem dX9_findHeaps_36 : decode cX9_findHeaps 36 = .ok (.aload_n 0, 1) := by decide +kernel
theorem dX9_findHeaps_37 : decode cX9_findHeaps 37 = .ok (.iload_n 1, 1) := by decide +kernel
theorem dX9_findHeaps_38 : decode cX9_findHeaps 38 = .ok (.iconst 4, 1) := by decide +kernel
theorem dX9_findHeaps_39 : decode cX9_findHeaps 39 = .ok (.invokevirtual 123, 3) := by decide +kernel
theorem dX9_findHeaps_42 : decode cX9_findHeaps 42 = .ok (.if_icmp .ge 112, 3) := by decide +kernel
theorem dX9_findHeaps_45 : decode cX9_findHeaps 45 = .ok (.aload_n 0, 1) := by decide +kernel
theorem dX9_findHeaps_46 : decode cX9_findHeaps 46 = .ok (.getfield 34, 3) := by decide +kernel
theorem dX9_findHeaps_49 : decode cX9_findHeaps 49 = .ok (.aload_n 0, 1) := by decide +kernel
theorem dX9_findHeaps_50 : decode cX9_findHeaps 50 = .ok (.iload_n 1, 1) := by decide +kernel
theorem dX9_findHeaps_51 : decode cX9_findHeaps 51 = .ok (.iconst 5, 1) := by decide +kernel
theorem dX9_findHeaps_52 : decode cX9_findHeaps 52 = .ok (.iload_n 2, 1) := by decide +kernel
theorem dX9_findHeaps_53 : decode cX9_findHeaps 53 = .ok (.iadd, 1) := by decide +kernel
theorem dX9_findHeaps_54 : decode cX9_findHeaps 54 = .ok (.iconst 1, 1) := by decide +kernel
theorem dX9_findHeaps_55 : decode cX9_findHeaps 55 = .ok (.isub, 1) := by decide +kernel
theorem dX9_findHeaps_56 : decode cX9_findHeaps 56 = .ok (.invokevirtual 123, 3) := by decide +kernel
theorem dX9_findHeaps_59 : decode cX9_findHeaps 59 = .ok (.iaload, 1) := by decide +kernel
theorem dX9_findHeaps_60 : decode cX9_findHeaps 60 = .ok (.istore_n 3, 1) := by decide +kernel
theorem dX9_findHeaps_61 : decode cX9_findHeaps 61 = .ok (.aload_n 0, 1) := by decide +kernel
theorem dX9_findHeaps_62 : decode cX9_findHeaps 62 = .ok (.getfield 34, 3) := by decide +kernel
theorem dX9_findHeaps_65 : decode cX9_findHeaps 65 = .ok (.aload_n 0, 1) := by decide +kernel
theorem dX9_findHeaps_66 : decode cX9_findHeaps 66 = .ok (.iload_n 1, 1) := by decide +kernel
theorem dX9_findHeaps_67 : decode cX9_findHeaps 67 = .ok (.iconst 5, 1) := by decide +kernel
theorem dX9_findHeaps_68 : decode cX9_findHeaps 68 = .ok (.iload_n 2, 1) := by decide +kernel
theorem dX9_findHeaps_69 : decode cX9_findHeaps 69 = .ok (.iadd, 1) := by decide +kernel
theorem dX9_findHeaps_70 : decode cX9_findHeaps 70 = .ok (.invokevirtual 123, 3) := by decide +kernel
theorem dX9_findHeaps_73 : decode cX9_findHeaps 73 = .ok (.iaload, 1) := by decide +kernel
theorem dX9_findHeaps_74 : decode cX9_findHeaps 74 = .ok (.istore 4, 2) := by decide +kernel
theorem dX9_findHeaps_76 : decode cX9_findHeaps 76 = .ok (.iload_n 3, 1) := by decide +kernel
theorem dX9_findHeaps_77 : decode cX9_findHeaps 77 = .ok (.iload 4, 2) := by decide +kernel
theorem dX9_findHeaps_79 : decode cX9_findHeaps 79 = .ok (.if_icmp .ge 7, 3) := by decide +kernel
theorem dX9_findHeaps_82 : decode cX9_findHeaps 82 = .ok (.iload_n 3, 1) := by decide +kernel
theorem dX9_findHeaps_83 : decode cX9_findHeaps 83 = .ok (.goto 5, 3) := by decide +kernel
theorem dX9_findHeaps_86 : decode cX9_findHeaps 86 = .ok (.iload 4, 2) := by decide +kernel
theorem dX9_findHeaps_88 : decode cX9_findHeaps 88 = .ok (.istore 5, 2) := by decide +kernel
theorem dX9_findHeaps_90 : decode cX9_findHeaps 90 = .ok (.iconst 0, 1) := by decide +kernel
theorem dX9_findHeaps_91 : decode cX9_findHeaps 91 = .ok (.istore 6, 2) := by decide +kernel
theorem dX9_findHeaps_93 : decode cX9_findHeaps 93 = .ok (.iload 6, 2) := by decide +kernel
theorem dX9_findHeaps_95 : decode cX9_findHeaps 95 = .ok (.bipush 8, 2) := by decide +kernel
theorem dX9_findHeaps_97 : decode cX9_findHeaps 97 = .ok (.if_icmp .ge 51, 3) := by decide +kernel
theorem dX9_findHeaps_100 : decode cX9_findHeaps 100 = .ok (.aload_n 0, 1) := by decide +kernel
theorem dX9_findHeaps_101 : decode cX9_findHeaps 101 = .ok (.getfield 34, 3) := by decide +kernel
theorem dX9_findHeaps_104 : decode cX9_findHeaps 104 = .ok (.iload 6, 2) := by decide +kernel
theorem dX9_findHeaps_106 : decode cX9_findHeaps 106 = .ok (.aload_n 0, 1) := by decide +kernel
theorem dX9_findHeaps_107 : decode cX9_findHeaps 107 = .ok (.getfield 34, 3) := by decide +kernel
theorem dX9_findHeaps_110 : decode cX9_findHeaps 110 = .ok (.iload 6, 2) := by decide +kernel
theorem dX9_findHeaps_112 : decode cX9_findHeaps 112 = .ok (.iaload, 1) := by decide +kernel
theorem dX9_findHeaps_113 : decode cX9_findHeaps 113 = .ok (.iload_n 3, 1) := by decide +kernel
theorem dX9_findHeaps_114 : decode cX9_findHeaps 114 = .ok (.if_icmp .eq 15, 3) := by decide +kernel
theorem dX9_findHeaps_117 : decode cX9_findHeaps 117 = .ok (.aload_n 0, 1) := by decide +kernel
theorem dX9_findHeaps_118 : decode cX9_findHeaps 118 = .ok (.getfield 34, 3) := by decide +kernel
theorem dX9_findHeaps_121 : decode cX9_findHeaps 121 = .ok (.iload 6, 2) := by decide +kernel
theorem dX9_findHeaps_123 : decode cX9_findHeaps 123 = .ok (.iaload, 1) := by decide +kernel
theorem dX9_findHeaps_124 : decode cX9_findHeaps 124 = .ok (.iload 4, 2) := by decide +kernel
theorem dX9_findHeaps_126 : decode cX9_findHeaps 126 = .ok (.if_icmp .ne 8, 3) := by decide +kernel
theorem dX9_findHeaps_129 : decode cX9_findHeaps 129 = .ok (.iload 5, 2) := by decide +kernel
theorem dX9_findHeaps_131 : decode cX9_findHeaps 131 = .ok (.goto 10, 3) := by decide +kernel
theorem dX9_findHeaps_134 : decode cX9_findHeaps 134 = .ok (.aload_n 0, 1) := by decide +kernel
theorem dX9_findHeaps_135 : decode cX9_findHeaps 135 = .ok (.getfield 34, 3) := by decide +kernel
theorem dX9_findHeaps_138 : decode cX9_findHeaps 138 = .ok (.iload 6, 2) := by decide +kernel
theorem dX9_findHeaps_140 : decode cX9_findHeaps 140 = .ok (.iaload, 1) := by decide +kernel
theorem dX9_findHeaps_141 : decode cX9_findHeaps 141 = .ok (.iastore, 1) := by decide +kernel
theorem dX9_findHeaps_142 : decode cX9_findHeaps 142 = .ok (.iinc 6 1, 3) := by decide +kernel
theorem dX9_findHeaps_145 : decode cX9_findHeaps 145 = .ok (.goto (-52), 3) := by decide +kernel
theorem dX9_findHeaps_148 : decode cX9_findHeaps 148 = .ok (.iinc 2 1, 3) := by decide +kernel
theorem dX9_findHeaps_151 : decode cX9_findHeaps 151 = .ok (.goto (-116), 3) := by decide +kernel
theorem dX9_findHeaps_154 : decode cX9_findHeaps 154 = .ok (.iinc 1 1, 3) := by decide +kernel
theorem dX9_findHeaps_157 : decode cX9_findHeaps 157 = .ok (.goto (-134), 3) := by decide +kernel
theorem dX9_findHeaps_160 : decode cX9_findHeaps 160 = .ok (.return_, 1) := by decide +kernel
theorem dX9_knownBy_0 : decode cX9_knownBy 0 = .ok (.iconst 0, 1) := by decide +kernel
theorem dX9_knownBy_1 : decode cX9_knownBy 1 = .ok (.istore_n 2, 1) := by decide +kernel
theorem dX9_knownBy_2 : decode cX9_knownBy 2 = .ok (.iconst 0, 1) := by decide +kernel
theorem dX9_knownBy_3 : decode cX9_knownBy 3 = .ok (.istore_n 3, 1) := by decide +kernel
theorem dX9_knownBy_4 : decode cX9_knownBy 4 = .ok (.iload_n 3, 1) := by decide +kernel
theorem dX9_knownBy_5 : decode cX9_knownBy 5 = .ok (.aload_n 0, 1) := by decide +kernel
theorem dX9_knownBy_6 : decode cX9_knownBy 6 = .ok (.getfield 7, 3) := by decide +kernel
theorem dX9_knownBy_9 : decode cX9_knownBy 9 = .ok (.iconst 1, 1) := by decide +kernel
theorem dX9_knownBy_10 : decode cX9_knownBy 10 = .ok (.iaload, 1) := by decide +kernel
theorem dX9_knownBy_11 : decode cX9_knownBy 11 = .ok (.if_icmp .ge 26, 3) := by decide +kernel
theorem dX9_knownBy_14 : decode cX9_knownBy 14 = .ok (.iload_n 2, 1) := by decide +kernel
theorem dX9_knownBy_15 : decode cX9_knownBy 15 = .ok (.aload_n 0, 1) := by decide +kernel
theorem dX9_knownBy_16 : decode cX9_knownBy 16 = .ok (.iload_n 3, 1) := by decide +kernel
theorem dX9_knownBy_17 : decode cX9_knownBy 17 = .ok (.iload_n 1, 1) := by decide +kernel
theorem dX9_knownBy_18 : decode cX9_knownBy 18 = .ok (.invokevirtual 152, 3) := by decide +kernel
theorem dX9_knownBy_21 : decode cX9_knownBy 21 = .ok (.ifCond .eq 7, 3) := by decide +kernel
theorem dX9_knownBy_24 : decode cX9_knownBy 24 = .ok (.iconst 1, 1) := by decide +kernel
theorem dX9_knownBy_25 : decode cX9_knownBy 25 = .ok (.goto 4, 3) := by decide +kernel
theorem dX9_knownBy_28 : decode cX9_knownBy 28 = .ok (.iconst 0, 1) := by decide +kernel
theorem dX9_knownBy_29 : decode cX9_knownBy 29 = .ok (.iadd, 1) := by decide +kernel
theorem dX9_knownBy_30 : decode cX9_knownBy 30 = .ok (.istore_n 2, 1) := by decide +kernel
theorem dX9_knownBy_31 : decode cX9_knownBy 31 = .ok (.iinc 3 1, 3) := by decide +kernel
theorem dX9_knownBy_34 : decode cX9_knownBy 34 = .ok (.goto (-30), 3) := by decide +kernel
theorem dX9_knownBy_37 : decode cX9_knownBy 37 = .ok (.iload_n 2, 1) := by decide +kernel
theorem dX9_knownBy_38 : decode cX9_knownBy 38 = .ok (.ireturn, 1) := by decide +kernel
theorem dX9_personIs_0 : decode cX9_personIs 0 = .ok (.aload_n 0, 1) := by decide +kernel
theorem dX9_personIs_1 : decode cX9_personIs 1 = .ok (.iload_n 1, 1) := by decide +kernel
theorem dX9_personIs_2 : decode cX9_personIs 2 = .ok (.invokevirtual 156, 3) := by decide +kernel
theorem dX9_personIs_5 : decode cX9_personIs 5 = .ok (.ifCond .eq 12, 3) := by decide +kernel
theorem dX9_personIs_8 : decode cX9_personIs 8 = .ok (.iload_n 2, 1) := by decide +kernel
theorem dX9_personIs_9 : decode cX9_personIs 9 = .ok (.iconst 0, 1) := by decide +kernel
theorem dX9_personIs_10 : decode cX9_personIs 10 = .ok (.iconst 3, 1) := by decide +kernel
theorem dX9_personIs_11 : decode cX9_personIs 11 = .ok (.invokestatic 59, 3) := by decide +kernel
theorem dX9_personIs_14 : decode cX9_personIs 14 = .ok (.ifCond .ne 9, 3) := by decide +kernel
theorem dX9_personIs_17 : decode cX9_personIs 17 = .ok (.aload_n 0, 1) := by decide +kernel
theorem dX9_personIs_18 : decode cX9_personIs 18 = .ok (.iconst 1, 1) := by decide +kernel
theorem dX9_personIs_19 : decode cX9_personIs 19 = .ok (.invokevirtual 63, 3) := by decide +kernel
theorem dX9_personIs_22 : decode cX9_personIs 22 = .ok (.ireturn, 1) := by decide +kernel
theorem dX9_personIs_23 : decode cX9_personIs 23 = .ok (.aload_n 0, 1) := by decide +kernel
theorem dX9_personIs_24 : decode cX9_personIs 24 = .ok (.invokevirtual 159, 3) := by decide +kernel
theorem dX9_personIs_27 : decode cX9_personIs 27 = .ok (.iload_n 2, 1) := by decide +kernel
theorem dX9_personIs_28 : decode cX9_personIs 28 = .ok (.iconst 2, 1) := by decide +kernel
theorem dX9_personIs_29 : decode cX9_personIs 29 = .ok (.if_icmp .ge 12, 3) := by decide +kernel
theorem dX9_personIs_32 : decode cX9_personIs 32 = .ok (.aload_n 0, 1) := by decide +kernel
theorem dX9_personIs_33 : decode cX9_personIs 33 = .ok (.iload_n 1, 1) := by decide +kernel
theorem dX9_personIs_34 : decode cX9_personIs 34 = .ok (.iload_n 2, 1) := by decide +kernel
theorem dX9_personIs_35 : decode cX9_personIs 35 = .ok (.invokevirtual 162, 3) := by decide +kernel
theorem dX9_personIs_38 : decode cX9_personIs 38 = .ok (.goto 22, 3) := by decide +kernel
theorem dX9_personIs_41 : decode cX9_personIs 41 = .ok (.iload_n 2, 1) := by decide +kernel
theorem dX9_personIs_42 : decode cX9_personIs 42 = .ok (.iconst 2, 1) := by decide +kernel
theorem dX9_personIs_43 : decode cX9_personIs 43 = .ok (.if_icmp .ne 11, 3) := by decide +kernel
theorem dX9_personIs_46 : decode cX9_personIs 46 = .ok (.aload_n 0, 1) := by decide +kernel
theorem dX9_personIs_47 : decode cX9_personIs 47 = .ok (.iload_n 1, 1) := by decide +kernel
theorem dX9_personIs_48 : decode cX9_personIs 48 = .ok (.invokevirtual 165, 3) := by decide +kernel
theorem dX9_personIs_51 : decode cX9_personIs 51 = .ok (.goto 9, 3) := by decide +kernel
theorem dX9_personIs_54 : decode cX9_personIs 54 = .ok (.aload_n 0, 1) := by decide +kernel
theorem dX9_personIs_55 : decode cX9_personIs 55 = .ok (.getfield 34, 3) := by decide +kernel
theorem dX9_personIs_58 : decode cX9_personIs 58 = .ok (.iload_n 1, 1) := by decide +kernel
theorem dX9_personIs_59 : decode cX9_personIs 59 = .ok (.iaload, 1) := by decide +kernel
theorem dX9_personIs_60 : decode cX9_personIs 60 = .ok (.ireturn, 1) := by decide +kernel
theorem dX9_man_0 : decode cX9_man 0 = .ok (.iload_n 1, 1) := by decide +kernel
theorem dX9_man_1 : decode cX9_man 1 = .ok (.iconst 0, 1) := by decide +kernel
theorem dX9_man_2 : decode cX9_man 2 = .ok (.bipush 69, 2) := by decide +kernel
theorem dX9_man_4 : decode cX9_man 4 = .ok (.invokestatic 59, 3) := by decide +kernel
theorem dX9_man_7 : decode cX9_man 7 = .ok (.ifCond .eq 12, 3) := by decide +kernel
theorem dX9_man_10 : decode cX9_man 10 = .ok (.iload_n 2, 1) := by decide +kernel
theorem dX9_man_11 : decode cX9_man 11 = .ok (.iconst 0, 1) := by decide +kernel
theorem dX9_man_12 : decode cX9_man 12 = .ok (.iconst 1, 1) := by decide +kernel
theorem dX9_man_13 : decode cX9_man 13 = .ok (.invokestatic 59, 3) := by decide +kernel
theorem dX9_man_16 : decode cX9_man 16 = .ok (.ifCond .ne 9, 3) := by decide +kernel
theorem dX9_man_19 : decode cX9_man 19 = .ok (.aload_n 0, 1) := by decide +kernel
theorem dX9_man_20 : decode cX9_man 20 = .ok (.iconst 1, 1) := by decide +kernel
theorem dX9_man_21 : decode cX9_man 21 = .ok (.invokevirtual 63, 3) := by decide +kernel
theorem dX9_man_24 : decode cX9_man 24 = .ok (.ireturn, 1) := by decide +kernel
theorem dX9_man_25 : decode cX9_man 25 = .ok (.aload_n 0, 1) := by decide +kernel
theorem dX9_man_26 : decode cX9_man 26 = .ok (.getfield 7, 3) := by decide +kernel
theorem dX9_man_29 : decode cX9_man 29 = .ok (.iconst 1, 1) := by decide +kernel
theorem dX9_man_30 : decode cX9_man 30 = .ok (.iaload, 1) := by decide +kernel
theorem dX9_man_31 : decode cX9_man 31 = .ok (.iconst 4, 1) := by decide +kernel
theorem dX9_man_32 : decode cX9_man 32 = .ok (.if_icmp .ne 9, 3) := by decide +kernel
theorem dX9_man_35 : decode cX9_man 35 = .ok (.aload_n 0, 1) := by decide +kernel
theorem dX9_man_36 : decode cX9_man 36 = .ok (.iconst 4, 1) := by decide +kernel
theorem dX9_man_37 : decode cX9_man 37 = .ok (.invokevirtual 63, 3) := by decide +kernel
theorem dX9_man_40 : decode cX9_man 40 = .ok (.ireturn, 1) := by decide +kernel
theorem dX9_man_41 : decode cX9_man 41 = .ok (.aload_n 0, 1) := by decide +kernel
theorem dX9_man_42 : decode cX9_man 42 = .ok (.getfield 7, 3) := by decide +kernel
theorem dX9_man_45 : decode cX9_man 45 = .ok (.iconst 1, 1) := by decide +kernel
theorem dX9_man_46 : decode cX9_man 46 = .ok (.iaload, 1) := by decide +kernel
theorem dX9_man_47 : decode cX9_man 47 = .ok (.istore_n 3, 1) := by decide +kernel
theorem dX9_man_48 : decode cX9_man 48 = .ok (.aload_n 0, 1) := by decide +kernel
theorem dX9_man_49 : decode cX9_man 49 = .ok (.iload_n 3, 1) := by decide +kernel
theorem dX9_man_50 : decode cX9_man 50 = .ok (.iconst 0, 1) := by decide +kernel
theorem dX9_man_51 : decode cX9_man 51 = .ok (.iload_n 1, 1) := by decide +kernel
theorem dX9_man_52 : decode cX9_man 52 = .ok (.bipush 10, 2) := by decide +kernel
theorem dX9_man_54 : decode cX9_man 54 = .ok (.idiv, 1) := by decide +kernel
theorem dX9_man_55 : decode cX9_man 55 = .ok (.invokevirtual 142, 3) := by decide +kernel
theorem dX9_man_58 : decode cX9_man 58 = .ok (.aload_n 0, 1) := by decide +kernel
theorem dX9_man_59 : decode cX9_man 59 = .ok (.iload_n 3, 1) := by decide +kernel
theorem dX9_man_60 : decode cX9_man 60 = .ok (.iconst 1, 1) := by decide +kernel
theorem dX9_man_61 : decode cX9_man 61 = .ok (.iload_n 1, 1) := by decide +kernel
theorem dX9_man_62 : decode cX9_man 62 = .ok (.bipush 10, 2) := by decide +kernel
theorem dX9_man_64 : decode cX9_man 64 = .ok (.irem, 1) := by decide +kernel
theorem dX9_man_65 : decode cX9_man 65 = .ok (.invokevirtual 142, 3) := by decide +kernel
theorem dX9_man_68 : decode cX9_man 68 = .ok (.aload_n 0, 1) := by decide +kernel
theorem dX9_man_69 : decode cX9_man 69 = .ok (.iload_n 3, 1) := by decide +kernel
theorem dX9_man_70 : decode cX9_man 70 = .ok (.iconst 2, 1) := by decide +kernel
theorem dX9_man_71 : decode cX9_man 71 = .ok (.iload_n 2, 1) := by decide +kernel
theorem dX9_man_72 : decode cX9_man 72 = .ok (.invokevirtual 142, 3) := by decide +kernel
theorem dX9_man_75 : decode cX9_man 75 = .ok (.aload_n 0, 1) := by decide +kernel
theorem dX9_man_76 : decode cX9_man 76 = .ok (.iload_n 3, 1) := by decide +kernel
theorem dX9_man_77 : decode cX9_man 77 = .ok (.iconst 3, 1) := by decide +kernel
theorem dX9_man_78 : decode cX9_man 78 = .ok (.iconst 0, 1) := by decide +kernel
theorem dX9_man_79 : decode cX9_man 79 = .ok (.invokevirtual 142, 3) := by decide +kernel
theorem dX9_man_82 : decode cX9_man 82 = .ok (.aload_n 0, 1) := by decide +kernel
theorem dX9_man_83 : decode cX9_man 83 = .ok (.iload_n 3, 1) := by decide +kernel
theorem dX9_man_84 : decode cX9_man 84 = .ok (.iconst 4, 1) := by decide +kernel
theorem dX9_man_85 : decode cX9_man 85 = .ok (.iconst 0, 1) := by decide +kernel
theorem dX9_man_86 : decode cX9_man 86 = .ok (.invokevirtual 142, 3) := by decide +kernel
theorem dX9_man_89 : decode cX9_man 89 = .ok (.aload_n 0, 1) := by decide +kernel
theorem dX9_man_90 : decode cX9_man 90 = .ok (.getfield 7, 3) := by decide +kernel
theorem dX9_man_93 : decode cX9_man 93 = .ok (.iconst 1, 1) := by decide +kernel
theorem dX9_man_94 : decode cX9_man 94 = .ok (.dup2, 1) := by decide +kernel
theorem dX9_man_95 : decode cX9_man 95 = .ok (.iaload, 1) := by decide +kernel
theorem dX9_man_96 : decode cX9_man 96 = .ok (.iconst 1, 1) := by decide +kernel
theorem dX9_man_97 : decode cX9_man 97 = .ok (.iadd, 1) := by decide +kernel
theorem dX9_man_98 : decode cX9_man 98 = .ok (.iastore, 1) := by decide +kernel
theorem dX9_man_99 : decode cX9_man 99 = .ok (.iload_n 3, 1) := by decide +kernel
theorem dX9_man_100 : decode cX9_man 100 = .ok (.ireturn, 1) := by decide +kernel
theorem dX9_manIs_0 : decode cX9_manIs 0 = .ok (.aload_n 0, 1) := by decide +kernel
theorem dX9_manIs_1 : decode cX9_manIs 1 = .ok (.iload_n 1, 1) := by decide +kernel
theorem dX9_manIs_2 : decode cX9_manIs 2 = .ok (.invokevirtual 168, 3) := by decide +kernel
theorem dX9_manIs_5 : decode cX9_manIs 5 = .ok (.ifCond .eq 13, 3) := by decide +kernel
theorem dX9_manIs_8 : decode cX9_manIs 8 = .ok (.iload_n 2, 1) := by decide +kernel
theorem dX9_manIs_9 : decode cX9_manIs 9 = .ok (.iconst 0, 1) := by decide +kernel
theorem dX9_manIs_10 : decode cX9_manIs 10 = .ok (.bipush 14, 2) := by decide +kernel
theorem dX9_manIs_12 : decode cX9_manIs 12 = .ok (.invokestatic 59, 3) := by decide +kernel
theorem dX9_manIs_15 : decode cX9_manIs 15 = .ok (.ifCond .ne 9, 3) := by decide +kernel
theorem dX9_manIs_18 : decode cX9_manIs 18 = .ok (.aload_n 0, 1) := by decide +kernel
theorem dX9_manIs_19 : decode cX9_manIs 19 = .ok (.iconst 1, 1) := by decide +kernel
theorem dX9_manIs_20 : decode cX9_manIs 20 = .ok (.invokevirtual 63, 3) := by decide +kernel
theorem dX9_manIs_23 : decode cX9_manIs 23 = .ok (.ireturn, 1) := by decide +kernel
theorem dX9_manIs_24 : decode cX9_manIs 24 = .ok (.iload_n 2, 1) := by decide +kernel
theorem dX9_manIs_25 : decode cX9_manIs 25 = .ok (.bipush 6, 2) := by decide +kernel
theorem dX9_manIs_27 : decode cX9_manIs 27 = .ok (.if_icmp .le 32, 3) := by decide +kernel
theorem dX9_manIs_30 : decode cX9_manIs 30 = .ok (.iload_n 2, 1) := by decide +kernel
theorem dX9_manIs_31 : decode cX9_manIs 31 = .ok (.bipush 7, 2) := by decide +kernel
theorem dX9_manIs_33 : decode cX9_manIs 33 = .ok (.isub, 1) := by decide +kernel
theorem dX9_manIs_34 : decode cX9_manIs 34 = .ok (.aload_n 0, 1) := by decide +kernel
theorem dX9_manIs_35 : decode cX9_manIs 35 = .ok (.iload_n 1, 1) := by decide +kernel
theorem dX9_manIs_36 : decode cX9_manIs 36 = .ok (.iconst 4, 1) := by decide +kernel
theorem dX9_manIs_37 : decode cX9_manIs 37 = .ok (.invokevirtual 123, 3) := by decide +kernel
theorem dX9_manIs_40 : decode cX9_manIs 40 = .ok (.if_icmp .ge 17, 3) := by decide +kernel
theorem dX9_manIs_43 : decode cX9_manIs 43 = .ok (.aload_n 0, 1) := by decide +kernel
theorem dX9_manIs_44 : decode cX9_manIs 44 = .ok (.iload_n 1, 1) := by decide +kernel
theorem dX9_manIs_45 : decode cX9_manIs 45 = .ok (.iconst 5, 1) := by decide +kernel
theorem dX9_manIs_46 : decode cX9_manIs 46 = .ok (.iload_n 2, 1) := by decide +kernel
theorem dX9_manIs_47 : decode cX9_manIs 47 = .ok (.iadd, 1) := by decide +kernel
theorem dX9_manIs_48 : decode cX9_manIs 48 = .ok (.bipush 7, 2) := by decide +kernel
theorem dX9_manIs_50 : decode cX9_manIs 50 = .ok (.isub, 1) := by decide +kernel
theorem dX9_manIs_51 : decode cX9_manIs 51 = .ok (.invokevirtual 123, 3) := by decide +kernel
theorem dX9_manIs_54 : decode cX9_manIs 54 = .ok (.goto 4, 3) := by decide +kernel
theorem dX9_manIs_57 : decode cX9_manIs 57 = .ok (.iconst (-1), 1) := by decide +kernel
theorem dX9_manIs_58 : decode cX9_manIs 58 = .ok (.ireturn, 1) := by decide +kernel
theorem dX9_manIs_59 : decode cX9_manIs 59 = .ok (.iload_n 2, 1) := by decide +kernel
theorem dX9_manIs_60 : decode cX9_manIs 60 = .ok (.iconst 4, 1) := by decide +kernel
theorem dX9_manIs_61 : decode cX9_manIs 61 = .ok (.if_icmp .ne 11, 3) := by decide +kernel
theorem dX9_manIs_64 : decode cX9_manIs 64 = .ok (.aload_n 0, 1) := by decide +kernel
theorem dX9_manIs_65 : decode cX9_manIs 65 = .ok (.iload_n 1, 1) := by decide +kernel
theorem dX9_manIs_66 : decode cX9_manIs 66 = .ok (.invokevirtual 146, 3) := by decide +kernel
theorem dX9_manIs_69 : decode cX9_manIs 69 = .ok (.goto 37, 3) := by decide +kernel
theorem dX9_manIs_72 : decode cX9_manIs 72 = .ok (.iload_n 2, 1) := by decide +kernel
theorem dX9_manIs_73 : decode cX9_manIs 73 = .ok (.iconst 5, 1) := by decide +kernel
theorem dX9_manIs_74 : decode cX9_manIs 74 = .ok (.if_icmp .ne 11, 3) := by decide +kernel
theorem dX9_manIs_77 : decode cX9_manIs 77 = .ok (.aload_n 0, 1) := by decide +kernel
theorem dX9_manIs_78 : decode cX9_manIs 78 = .ok (.iload_n 1, 1) := by decide +kernel
theorem dX9_manIs_79 : decode cX9_manIs 79 = .ok (.invokevirtual 171, 3) := by decide +kernel
theorem dX9_manIs_82 : decode cX9_manIs 82 = .ok (.goto 24, 3) := by decide +kernel
theorem dX9_manIs_85 : decode cX9_manIs 85 = .ok (.iload_n 2, 1) := by decide +kernel
theorem dX9_manIs_86 : decode cX9_manIs 86 = .ok (.bipush 6, 2) := by decide +kernel
theorem dX9_manIs_88 : decode cX9_manIs 88 = .ok (.if_icmp .ne 12, 3) := by decide +kernel
theorem dX9_manIs_91 : decode cX9_manIs 91 = .ok (.aload_n 0, 1) := by decide +kernel
theorem dX9_manIs_92 : decode cX9_manIs 92 = .ok (.iload_n 1, 1) := by decide +kernel
theorem dX9_manIs_93 : decode cX9_manIs 93 = .ok (.iconst 4, 1) := by decide +kernel
theorem dX9_manIs_94 : decode cX9_manIs 94 = .ok (.invokevirtual 123, 3) := by decide +kernel
theorem dX9_manIs_97 : decode cX9_manIs 97 = .ok (.goto 9, 3) := by decide +kernel
theorem dX9_manIs_100 : decode cX9_manIs 100 = .ok (.aload_n 0, 1) := by decide +kernel
theorem dX9_manIs_101 : decode cX9_manIs 101 = .ok (.iload_n 1, 1) := by decide +kernel
theorem dX9_manIs_102 : decode cX9_manIs 102 = .ok (.iload_n 2, 1) := by decide +kernel
theorem dX9_manIs_103 : decode cX9_manIs 103 = .ok (.invokevirtual 123, 3) := by decide +kernel
theorem dX9_manIs_106 : decode cX9_manIs 106 = .ok (.ireturn, 1) := by decide +kernel
theorem dX9_isUnder_0 : decode cX9_isUnder 0 = .ok (.iload_n 1, 1) := by decide +kernel
theorem dX9_isUnder_1 : decode cX9_isUnder 1 = .ok (.ifCond .eq 28, 3) := by decide +kernel
theorem dX9_isUnder_4 : decode cX9_isUnder 4 = .ok (.iload_n 0, 1) := by decide +kernel
theorem dX9_isUnder_5 : decode cX9_isUnder 5 = .ok (.iload_n 1, 1) := by decide +kernel
theorem dX9_isUnder_6 : decode cX9_isUnder 6 = .ok (.if_icmp .eq 23, 3) := by decide +kernel
theorem dX9_isUnder_9 : decode cX9_isUnder 9 = .ok (.iload_n 1, 1) := by decide +kernel
theorem dX9_isUnder_10 : decode cX9_isUnder 10 = .ok (.iconst 1, 1) := by decide +kernel
theorem dX9_isUnder_11 : decode cX9_isUnder 11 = .ok (.if_icmp .ne 8, 3) := by decide +kernel
theorem dX9_isUnder_14 : decode cX9_isUnder 14 = .ok (.iload_n 0, 1) := by decide +kernel
theorem dX9_isUnder_15 : decode cX9_isUnder 15 = .ok (.iconst 4, 1) := by decide +kernel
theorem dX9_isUnder_16 : decode cX9_isUnder 16 = .ok (.if_icmp .eq 13, 3) := by decide +kernel
theorem dX9_isUnder_19 : decode cX9_isUnder 19 = .ok (.iload_n 1, 1) := by decide +kernel
theorem dX9_isUnder_20 : decode cX9_isUnder 20 = .ok (.iconst 2, 1) := by decide +kernel
theorem dX9_isUnder_21 : decode cX9_isUnder 21 = .ok (.if_icmp .ne 12, 3) := by decide +kernel
theorem dX9_isUnder_24 : decode cX9_isUnder 24 = .ok (.iload_n 0, 1) := by decide +kernel
theorem dX9_isUnder_25 : decode cX9_isUnder 25 = .ok (.iconst 5, 1) := by decide +kernel
theorem dX9_isUnder_26 : decode cX9_isUnder 26 = .ok (.if_icmp .ne 7, 3) := by decide +kernel
theorem dX9_isUnder_29 : decode cX9_isUnder 29 = .ok (.iconst 1, 1) := by decide +kernel
theorem dX9_isUnder_30 : decode cX9_isUnder 30 = .ok (.goto 4, 3) := by decide +kernel
theorem dX9_isUnder_33 : decode cX9_isUnder 33 = .ok (.iconst 0, 1) := by decide +kernel
theorem dX9_isUnder_34 : decode cX9_isUnder 34 = .ok (.ireturn, 1) := by decide +kernel
theorem dX9_as_0 : decode cX9_as 0 = .ok (.aload_n 0, 1) := by decide +kernel
theorem dX9_as_1 : decode cX9_as 1 = .ok (.iload_n 1, 1) := by decide +kernel
theorem dX9_as_2 : decode cX9_as 2 = .ok (.invokevirtual 168, 3) := by decide +kernel
theorem dX9_as_5 : decode cX9_as 5 = .ok (.ifCond .eq 13, 3) := by decide +kernel
theorem dX9_as_8 : decode cX9_as 8 = .ok (.iload_n 2, 1) := by decide +kernel
theorem dX9_as_9 : decode cX9_as 9 = .ok (.iconst 0, 1) := by decide +kernel
theorem dX9_as_10 : decode cX9_as 10 = .ok (.bipush 6, 2) := by decide +kernel
theorem dX9_as_12 : decode cX9_as 12 = .ok (.invokestatic 59, 3) := by decide +kernel
theorem dX9_as_15 : decode cX9_as 15 = .ok (.ifCond .ne 9, 3) := by decide +kernel
theorem dX9_as_18 : decode cX9_as 18 = .ok (.aload_n 0, 1) := by decide +kernel
theorem dX9_as_19 : decode cX9_as 19 = .ok (.iconst 1, 1) := by decide +kernel
theorem dX9_as_20 : decode cX9_as 20 = .ok (.invokevirtual 63, 3) := by decide +kernel
theorem dX9_as_23 : decode cX9_as 23 = .ok (.ireturn, 1) := by decide +kernel
theorem dX9_as_24 : decode cX9_as 24 = .ok (.aload_n 0, 1) := by decide +kernel
theorem dX9_as_25 : decode cX9_as 25 = .ok (.iload_n 1, 1) := by decide +kernel
theorem dX9_as_26 : decode cX9_as 26 = .ok (.iconst 0, 1) := by decide +kernel
theorem dX9_as_27 : decode cX9_as 27 = .ok (.invokevirtual 123, 3) := by decide +kernel
theorem dX9_as_30 : decode cX9_as 30 = .ok (.iload_n 2, 1) := by decide +kernel
theorem dX9_as_31 : decode cX9_as 31 = .ok (.invokestatic 174, 3) := by decide +kernel
theorem dX9_as_34 : decode cX9_as 34 = .ok (.ifCond .eq 12, 3) := by decide +kernel
theorem dX9_as_37 : decode cX9_as 37 = .ok (.aload_n 0, 1) := by decide +kernel
theorem dX9_as_38 : decode cX9_as 38 = .ok (.iload_n 1, 1) := by decide +kernel
theorem dX9_as_39 : decode cX9_as 39 = .ok (.iconst 3, 1) := by decide +kernel
theorem dX9_as_40 : decode cX9_as 40 = .ok (.invokevirtual 123, 3) := by decide +kernel
theorem dX9_as_43 : decode cX9_as 43 = .ok (.goto 8, 3) := by decide +kernel
theorem dX9_as_46 : decode cX9_as 46 = .ok (.aload_n 0, 1) := by decide +kernel
theorem dX9_as_47 : decode cX9_as 47 = .ok (.iconst 5, 1) := by decide +kernel
theorem dX9_as_48 : decode cX9_as 48 = .ok (.invokevirtual 63, 3) := by decide +kernel
theorem dX9_as_51 : decode cX9_as 51 = .ok (.ireturn, 1) := by decide +kernel
theorem dX9_setMan_0 : decode cX9_setMan 0 = .ok (.aload_n 0, 1) := by decide +kernel
theorem dX9_setMan_1 : decode cX9_setMan 1 = .ok (.iload_n 1, 1) := by decide +kernel
theorem dX9_setMan_2 : decode cX9_setMan 2 = .ok (.invokevirtual 168, 3) := by decide +kernel
theorem dX9_setMan_5 : decode cX9_setMan 5 = .ok (.ifCond .eq 40, 3) := by decide +kernel
theorem dX9_setMan_8 : decode cX9_setMan 8 = .ok (.iload_n 2, 1) := by decide +kernel
theorem dX9_setMan_9 : decode cX9_setMan 9 = .ok (.iconst 0, 1) := by decide +kernel
theorem dX9_setMan_10 : decode cX9_setMan 10 = .ok (.iconst 2, 1) := by decide +kernel
theorem dX9_setMan_11 : decode cX9_setMan 11 = .ok (.invokestatic 59, 3) := by decide +kernel
theorem dX9_setMan_14 : decode cX9_setMan 14 = .ok (.ifCond .eq 31, 3) := by decide +kernel
theorem dX9_setMan_17 : decode cX9_setMan 17 = .ok (.iload_n 3, 1) := by decide +kernel
theorem dX9_setMan_18 : decode cX9_setMan 18 = .ok (.iconst 0, 1) := by decide +kernel
theorem dX9_setMan_19 : decode cX9_setMan 19 = .ok (.iload_n 2, 1) := by decide +kernel
theorem dX9_setMan_20 : decode cX9_setMan 20 = .ok (.ifCond .ne 8, 3) := by decide +kernel
theorem dX9_setMan_23 : decode cX9_setMan 23 = .ok (.bipush 6, 2) := by decide +kernel
theorem dX9_setMan_25 : decode cX9_setMan 25 = .ok (.goto 14, 3) := by decide +kernel
theorem dX9_setMan_28 : decode cX9_setMan 28 = .ok (.iload_n 2, 1) := by decide +kernel
theorem dX9_setMan_29 : decode cX9_setMan 29 = .ok (.iconst 1, 1) := by decide +kernel
theorem dX9_setMan_30 : decode cX9_setMan 30 = .ok (.if_icmp .ne 8, 3) := by decide +kernel
theorem dX9_setMan_33 : decode cX9_setMan 33 = .ok (.bipush 9, 2) := by decide +kernel
theorem dX9_setMan_35 : decode cX9_setMan 35 = .ok (.goto 4, 3) := by decide +kernel
theorem dX9_setMan_38 : decode cX9_setMan 38 = .ok (.iconst 1, 1) := by decide +kernel
theorem dX9_setMan_39 : decode cX9_setMan 39 = .ok (.invokestatic 59, 3) := by decide +kernel
theorem dX9_setMan_42 : decode cX9_setMan 42 = .ok (.ifCond .ne 9, 3) := by decide +kernel
theorem dX9_setMan_45 : decode cX9_setMan 45 = .ok (.aload_n 0, 1) := by decide +kernel
theorem dX9_setMan_46 : decode cX9_setMan 46 = .ok (.iconst 1, 1) := by decide +kernel
theorem dX9_setMan_47 : decode cX9_setMan 47 = .ok (.invokevirtual 63, 3) := by decide +kernel
theorem dX9_setMan_50 : decode cX9_setMan 50 = .ok (.ireturn, 1) := by decide +kernel
theorem dX9_setMan_51 : decode cX9_setMan 51 = .ok (.aload_n 0, 1) := by decide +kernel
theorem dX9_setMan_52 : decode cX9_setMan 52 = .ok (.iload_n 1, 1) := by decide +kernel
theorem dX9_setMan_53 : decode cX9_setMan 53 = .ok (.iload_n 2, 1) := by decide +kernel
theorem dX9_setMan_54 : decode cX9_setMan 54 = .ok (.invokevirtual 123, 3) := by decide +kernel
theorem dX9_setMan_57 : decode cX9_setMan 57 = .ok (.istore 4, 2) := by decide +kernel
theorem dX9_setMan_59 : decode cX9_setMan 59 = .ok (.aload_n 0, 1) := by decide +kernel
theorem dX9_setMan_60 : decode cX9_setMan 60 = .ok (.iload_n 1, 1) := by decide +kernel
theorem dX9_setMan_61 : decode cX9_setMan 61 = .ok (.iload_n 2, 1) := by decide +kernel
theorem dX9_setMan_62 : decode cX9_setMan 62 = .ok (.iload_n 3, 1) := by decide +kernel
theorem dX9_setMan_63 : decode cX9_setMan 63 = .ok (.invokevirtual 142, 3) := by decide +kernel
theorem dX9_setMan_66 : decode cX9_setMan 66 = .ok (.iload 4, 2) := by decide +kernel
theorem dX9_setMan_68 : decode cX9_setMan 68 = .ok (.ireturn, 1) := by decide +kernel
theorem dX9_setPerson_0 : decode cX9_setPerson 0 = .ok (.aload_n 0, 1) := by decide +kernel
theorem dX9_setPerson_1 : decode cX9_setPerson 1 = .ok (.iload_n 1, 1) := by decide +kernel
theorem dX9_setPerson_2 : decode cX9_setPerson 2 = .ok (.invokevirtual 156, 3) := by decide +kernel
theorem dX9_setPerson_5 : decode cX9_setPerson 5 = .ok (.ifCond .eq 31, 3) := by decide +kernel
theorem dX9_setPerson_8 : decode cX9_setPerson 8 = .ok (.iload_n 2, 1) := by decide +kernel
theorem dX9_setPerson_9 : decode cX9_setPerson 9 = .ok (.iconst 0, 1) := by decide +kernel
theorem dX9_setPerson_10 : decode cX9_setPerson 10 = .ok (.iconst 1, 1) := by decide +kernel
theorem dX9_setPerson_11 : decode cX9_setPerson 11 = .ok (.invokestatic 59, 3) := by decide +kernel
theorem dX9_setPerson_14 : decode cX9_setPerson 14 = .ok (.ifCond .eq 22, 3) := by decide +kernel
theorem dX9_setPerson_17 : decode cX9_setPerson 17 = .ok (.iload_n 3, 1) := by decide +kernel
theorem dX9_setPerson_18 : decode cX9_setPerson 18 = .ok (.iconst 0, 1) := by decide +kernel
theorem dX9_setPerson_19 : decode cX9_setPerson 19 = .ok (.iload_n 2, 1) := by decide +kernel
theorem dX9_setPerson_20 : decode cX9_setPerson 20 = .ok (.ifCond .ne 7, 3) := by decide +kernel
theorem dX9_setPerson_23 : decode cX9_setPerson 23 = .ok (.iconst 1, 1) := by decide +kernel
theorem dX9_setPerson_24 : decode cX9_setPerson 24 = .ok (.goto 6, 3) := by decide +kernel
theorem dX9_setPerson_27 : decode cX9_setPerson 27 = .ok (.sipush 9999, 3) := by decide +kernel
theorem dX9_setPerson_30 : decode cX9_setPerson 30 = .ok (.invokestatic 59, 3) := by decide +kernel
theorem dX9_setPerson_33 : decode cX9_setPerson 33 = .ok (.ifCond .ne 9, 3) := by decide +kernel
theorem dX9_setPerson_36 : decode cX9_setPerson 36 = .ok (.aload_n 0, 1) := by decide +kernel
theorem dX9_setPerson_37 : decode cX9_setPerson 37 = .ok (.iconst 1, 1) := by decide +kernel
theorem dX9_setPerson_38 : decode cX9_setPerson 38 = .ok (.invokevirtual 63, 3) := by decide +kernel
theorem dX9_setPerson_41 : decode cX9_setPerson 41 = .ok (.ireturn, 1) := by decide +kernel
theorem dX9_setPerson_42 : decode cX9_setPerson 42 = .ok (.aload_n 0, 1) := by decide +kernel
theorem dX9_setPerson_43 : decode cX9_setPerson 43 = .ok (.iload_n 1, 1) := by decide +kernel
theorem dX9_setPerson_44 : decode cX9_setPerson 44 = .ok (.iload_n 2, 1) := by decide +kernel
theorem dX9_setPerson_45 : decode cX9_setPerson 45 = .ok (.invokevirtual 162, 3) := by decide +kernel
theorem dX9_setPerson_48 : decode cX9_setPerson 48 = .ok (.istore 4, 2) := by decide +kernel
theorem dX9_setPerson_50 : decode cX9_setPerson 50 = .ok (.aload_n 0, 1) := by decide +kernel
theorem dX9_setPerson_51 : decode cX9_setPerson 51 = .ok (.getfield 7, 3) := by decide +kernel
theorem dX9_setPerson_54 : decode cX9_setPerson 54 = .ok (.bipush 8, 2) := by decide +kernel
theorem dX9_setPerson_56 : decode cX9_setPerson 56 = .ok (.iconst 2, 1) := by decide +kernel
theorem dX9_setPerson_57 : decode cX9_setPerson 57 = .ok (.iload_n 1, 1) := by decide +kernel
theorem dX9_setPerson_58 : decode cX9_setPerson 58 = .ok (.imul, 1) := by decide +kernel
theorem dX9_setPerson_59 : decode cX9_setPerson 59 = .ok (.iadd, 1) := by decide +kernel
theorem dX9_setPerson_60 : decode cX9_setPerson 60 = .ok (.iload_n 2, 1) := by decide +kernel
theorem dX9_setPerson_61 : decode cX9_setPerson 61 = .ok (.iadd, 1) := by decide +kernel
theorem dX9_setPerson_62 : decode cX9_setPerson 62 = .ok (.iload_n 3, 1) := by decide +kernel
theorem dX9_setPerson_63 : decode cX9_setPerson 63 = .ok (.iastore, 1) := by decide +kernel
theorem dX9_setPerson_64 : decode cX9_setPerson 64 = .ok (.iload 4, 2) := by decide +kernel
theorem dX9_setPerson_66 : decode cX9_setPerson 66 = .ok (.ireturn, 1) := by decide +kernel
theorem dX9_forget_0 : decode cX9_forget 0 = .ok (.aload_n 0, 1) := by decide +kernel
theorem dX9_forget_1 : decode cX9_forget 1 = .ok (.iload_n 1, 1) := by decide +kernel
theorem dX9_forget_2 : decode cX9_forget 2 = .ok (.invokevirtual 168, 3) := by decide +kernel
theorem dX9_forget_5 : decode cX9_forget 5 = .ok (.ifCond .ne 9, 3) := by decide +kernel
theorem dX9_forget_8 : decode cX9_forget 8 = .ok (.aload_n 0, 1) := by decide +kernel
theorem dX9_forget_9 : decode cX9_forget 9 = .ok (.iconst 1, 1) := by decide +kernel
theorem dX9_forget_10 : decode cX9_forget 10 = .ok (.invokevirtual 63, 3) := by decide +kernel
theorem dX9_forget_13 : decode cX9_forget 13 = .ok (.ireturn, 1) := by decide +kernel
theorem dX9_forget_14 : decode cX9_forget 14 = .ok (.aload_n 0, 1) := by decide +kernel
theorem dX9_forget_15 : decode cX9_forget 15 = .ok (.iload_n 1, 1) := by decide +kernel
theorem dX9_forget_16 : decode cX9_forget 16 = .ok (.iconst 4, 1) := by decide +kernel
theorem dX9_forget_17 : decode cX9_forget 17 = .ok (.invokevirtual 123, 3) := by decide +kernel
theorem dX9_forget_20 : decode cX9_forget 20 = .ok (.istore_n 2, 1) := by decide +kernel
theorem dX9_forget_21 : decode cX9_forget 21 = .ok (.aload_n 0, 1) := by decide +kernel
theorem dX9_forget_22 : decode cX9_forget 22 = .ok (.iload_n 1, 1) := by decide +kernel
theorem dX9_forget_23 : decode cX9_forget 23 = .ok (.iconst 4, 1) := by decide +kernel
theorem dX9_forget_24 : decode cX9_forget 24 = .ok (.iconst 0, 1) := by decide +kernel
theorem dX9_forget_25 : decode cX9_forget 25 = .ok (.invokevirtual 142, 3) := by decide +kernel
theorem dX9_forget_28 : decode cX9_forget 28 = .ok (.iload_n 2, 1) := by decide +kernel
theorem dX9_forget_29 : decode cX9_forget 29 = .ok (.ireturn, 1) := by decide +kernel
theorem dX9_areTogether_0 : decode cX9_areTogether 0 = .ok (.aload_n 0, 1) := by decide +kernel
theorem dX9_areTogether_1 : decode cX9_areTogether 1 = .ok (.iload_n 1, 1) := by decide +kernel
theorem dX9_areTogether_2 : decode cX9_areTogether 2 = .ok (.iconst 2, 1) := by decide +kernel
theorem dX9_areTogether_3 : decode cX9_areTogether 3 = .ok (.invokevirtual 123, 3) := by decide +kernel
theorem dX9_areTogether_6 : decode cX9_areTogether 6 = .ok (.aload_n 0, 1) := by decide +kernel
theorem dX9_areTogether_7 : decode cX9_areTogether 7 = .ok (.iload_n 2, 1) := by decide +kernel
theorem dX9_areTogether_8 : decode cX9_areTogether 8 = .ok (.iconst 0, 1) := by decide +kernel
theorem dX9_areTogether_9 : decode cX9_areTogether 9 = .ok (.invokevirtual 162, 3) := by decide +kernel
theorem dX9_areTogether_12 : decode cX9_areTogether 12 = .ok (.if_icmp .ne 7, 3) := by decide +kernel
theorem dX9_areTogether_15 : decode cX9_areTogether 15 = .ok (.iconst 1, 1) := by decide +kernel
theorem dX9_areTogether_16 : decode cX9_areTogether 16 = .ok (.goto 4, 3) := by decide +kernel
theorem dX9_areTogether_19 : decode cX9_areTogether 19 = .ok (.iconst 0, 1) := by decide +kernel
theorem dX9_areTogether_20 : decode cX9_areTogether 20 = .ok (.ireturn, 1) := by decide +kernel
theorem dX9_crosses_0 : decode cX9_crosses 0 = .ok (.aload_n 0, 1) := by decide +kernel
theorem dX9_crosses_1 : decode cX9_crosses 1 = .ok (.iload_n 1, 1) := by decide +kernel
theorem dX9_crosses_2 : decode cX9_crosses 2 = .ok (.iload_n 2, 1) := by decide +kernel
theorem dX9_crosses_3 : decode cX9_crosses 3 = .ok (.invokevirtual 152, 3) := by decide +kernel
theorem dX9_crosses_6 : decode cX9_crosses 6 = .ok (.istore_n 3, 1) := by decide +kernel
theorem dX9_crosses_7 : decode cX9_crosses 7 = .ok (.iload_n 3, 1) := by decide +kernel
theorem dX9_crosses_8 : decode cX9_crosses 8 = .ok (.ifCond .eq 11, 3) := by decide +kernel
theorem dX9_crosses_11 : decode cX9_crosses 11 = .ok (.aload_n 0, 1) := by decide +kernel
theorem dX9_crosses_12 : decode cX9_crosses 12 = .ok (.iload_n 1, 1) := by decide +kernel
theorem dX9_crosses_13 : decode cX9_crosses 13 = .ok (.invokevirtual 171, 3) := by decide +kernel
theorem dX9_crosses_16 : decode cX9_crosses 16 = .ok (.goto 4, 3) := by decide +kernel
theorem dX9_crosses_19 : decode cX9_crosses 19 = .ok (.iconst 0, 1) := by decide +kernel
theorem dX9_crosses_20 : decode cX9_crosses 20 = .ok (.istore 4, 2) := by decide +kernel
theorem dX9_crosses_22 : decode cX9_crosses 22 = .ok (.aload_n 0, 1) := by decide +kernel
theorem dX9_crosses_23 : decode cX9_crosses 23 = .ok (.iload_n 2, 1) := by decide +kernel
theorem dX9_crosses_24 : decode cX9_crosses 24 = .ok (.iconst 1, 1) := by decide +kernel
theorem dX9_crosses_25 : decode cX9_crosses 25 = .ok (.invokevirtual 162, 3) := by decide +kernel
theorem dX9_crosses_28 : decode cX9_crosses 28 = .ok (.iload 4, 2) := by decide +kernel
theorem dX9_crosses_30 : decode cX9_crosses 30 = .ok (.if_icmp .ge 12, 3) := by decide +kernel
theorem dX9_crosses_33 : decode cX9_crosses 33 = .ok (.aload_n 0, 1) := by decide +kernel
theorem dX9_crosses_34 : decode cX9_crosses 34 = .ok (.iload_n 2, 1) := by decide +kernel
theorem dX9_crosses_35 : decode cX9_crosses 35 = .ok (.iconst 1, 1) := by decide +kernel
theorem dX9_crosses_36 : decode cX9_crosses 36 = .ok (.invokevirtual 162, 3) := by decide +kernel
theorem dX9_crosses_39 : decode cX9_crosses 39 = .ok (.goto 5, 3) := by decide +kernel
theorem dX9_crosses_42 : decode cX9_crosses 42 = .ok (.iload 4, 2) := by decide +kernel
theorem dX9_crosses_44 : decode cX9_crosses 44 = .ok (.istore 5, 2) := by decide +kernel
theorem dX9_crosses_46 : decode cX9_crosses 46 = .ok (.aload_n 0, 1) := by decide +kernel
theorem dX9_crosses_47 : decode cX9_crosses 47 = .ok (.getfield 7, 3) := by decide +kernel
theorem dX9_crosses_50 : decode cX9_crosses 50 = .ok (.bipush 8, 2) := by decide +kernel
theorem dX9_crosses_52 : decode cX9_crosses 52 = .ok (.iconst 2, 1) := by decide +kernel
theorem dX9_crosses_53 : decode cX9_crosses 53 = .ok (.iload_n 2, 1) := by decide +kernel
theorem dX9_crosses_54 : decode cX9_crosses 54 = .ok (.imul, 1) := by decide +kernel
theorem dX9_crosses_55 : decode cX9_crosses 55 = .ok (.iadd, 1) := by decide +kernel
theorem dX9_crosses_56 : decode cX9_crosses 56 = .ok (.iconst 1, 1) := by decide +kernel
theorem dX9_crosses_57 : decode cX9_crosses 57 = .ok (.iadd, 1) := by decide +kernel
theorem dX9_crosses_58 : decode cX9_crosses 58 = .ok (.dup2, 1) := by decide +kernel
theorem dX9_crosses_59 : decode cX9_crosses 59 = .ok (.iaload, 1) := by decide +kernel
theorem dX9_crosses_60 : decode cX9_crosses 60 = .ok (.iload 5, 2) := by decide +kernel
theorem dX9_crosses_62 : decode cX9_crosses 62 = .ok (.isub, 1) := by decide +kernel
theorem dX9_crosses_63 : decode cX9_crosses 63 = .ok (.iastore, 1) := by decide +kernel
theorem dX9_crosses_64 : decode cX9_crosses 64 = .ok (.aload_n 0, 1) := by decide +kernel
theorem dX9_crosses_65 : decode cX9_crosses 65 = .ok (.iload_n 1, 1) := by decide +kernel
theorem dX9_crosses_66 : decode cX9_crosses 66 = .ok (.iconst 3, 1) := by decide +kernel
theorem dX9_crosses_67 : decode cX9_crosses 67 = .ok (.aload_n 0, 1) := by decide +kernel
theorem dX9_crosses_68 : decode cX9_crosses 68 = .ok (.iload_n 1, 1) := by decide +kernel
theorem dX9_crosses_69 : decode cX9_crosses 69 = .ok (.iconst 3, 1) := by decide +kernel
theorem dX9_crosses_70 : decode cX9_crosses 70 = .ok (.invokevirtual 123, 3) := by decide +kernel
theorem dX9_crosses_73 : decode cX9_crosses 73 = .ok (.iload 5, 2) := by decide +kernel
theorem dX9_crosses_75 : decode cX9_crosses 75 = .ok (.iadd, 1) := by decide +kernel
theorem dX9_crosses_76 : decode cX9_crosses 76 = .ok (.iconst 0, 1) := by decide +kernel
theorem dX9_crosses_77 : decode cX9_crosses 77 = .ok (.ldc 177, 2) := by decide +kernel
theorem dX9_crosses_79 : decode cX9_crosses 79 = .ok (.invokestatic 133, 3) := by decide +kernel
theorem dX9_crosses_82 : decode cX9_crosses 82 = .ok (.invokevirtual 142, 3) := by decide +kernel
theorem dX9_crosses_85 : decode cX9_crosses 85 = .ok (.aload_n 0, 1) := by decide +kernel
theorem dX9_crosses_86 : decode cX9_crosses 86 = .ok (.getfield 7, 3) := by decide +kernel
theorem dX9_crosses_89 : decode cX9_crosses 89 = .ok (.bipush 8, 2) := by decide +kernel
theorem dX9_crosses_91 : decode cX9_crosses 91 = .ok (.iconst 2, 1) := by decide +kernel
theorem dX9_crosses_92 : decode cX9_crosses 92 = .ok (.iload_n 2, 1) := by decide +kernel
theorem dX9_crosses_93 : decode cX9_crosses 93 = .ok (.imul, 1) := by decide +kernel
theorem dX9_crosses_94 : decode cX9_crosses 94 = .ok (.iadd, 1) := by decide +kernel
theorem dX9_crosses_95 : decode cX9_crosses 95 = .ok (.iconst 1, 1) := by decide +kernel
theorem dX9_crosses_96 : decode cX9_crosses 96 = .ok (.aload_n 0, 1) := by decide +kernel
theorem dX9_crosses_97 : decode cX9_crosses 97 = .ok (.iload_n 2, 1) := by decide +kernel
theorem dX9_crosses_98 : decode cX9_crosses 98 = .ok (.iconst 0, 1) := by decide +kernel
theorem dX9_crosses_99 : decode cX9_crosses 99 = .ok (.invokevirtual 162, 3) := by decide +kernel
theorem dX9_crosses_102 : decode cX9_crosses 102 = .ok (.isub, 1) := by decide +kernel
theorem dX9_crosses_103 : decode cX9_crosses 103 = .ok (.iastore, 1) := by decide +kernel
theorem dX9_crosses_104 : decode cX9_crosses 104 = .ok (.aload_n 0, 1) := by decide +kernel
theorem dX9_crosses_105 : decode cX9_crosses 105 = .ok (.iload_n 1, 1) := by decide +kernel
theorem dX9_crosses_106 : decode cX9_crosses 106 = .ok (.iconst 2, 1) := by decide +kernel
theorem dX9_crosses_107 : decode cX9_crosses 107 = .ok (.aload_n 0, 1) := by decide +kernel
theorem dX9_crosses_108 : decode cX9_crosses 108 = .ok (.iload_n 2, 1) := by decide +kernel
theorem dX9_crosses_109 : decode cX9_crosses 109 = .ok (.iconst 0, 1) := by decide +kernel
theorem dX9_crosses_110 : decode cX9_crosses 110 = .ok (.invokevirtual 162, 3) := by decide +kernel
theorem dX9_crosses_113 : decode cX9_crosses 113 = .ok (.invokevirtual 142, 3) := by decide +kernel
theorem dX9_crosses_116 : decode cX9_crosses 116 = .ok (.aload_n 0, 1) := by decide +kernel
theorem dX9_crosses_117 : decode cX9_crosses 117 = .ok (.iload_n 1, 1) := by decide +kernel
theorem dX9_crosses_118 : decode cX9_crosses 118 = .ok (.iconst 0, 1) := by decide +kernel
theorem dX9_crosses_119 : decode cX9_crosses 119 = .ok (.invokevirtual 123, 3) := by decide +kernel
theorem dX9_crosses_122 : decode cX9_crosses 122 = .ok (.iconst 5, 1) := by decide +kernel
theorem dX9_crosses_123 : decode cX9_crosses 123 = .ok (.if_icmp .ne 24, 3) := by decide +kernel
theorem dX9_crosses_126 : decode cX9_crosses 126 = .ok (.iload 4, 2) := by decide +kernel
theorem dX9_crosses_128 : decode cX9_crosses 128 = .ok (.ifCond .le 19, 3) := by decide +kernel
theorem dX9_crosses_131 : decode cX9_crosses 131 = .ok (.iload 5, 2) := by decide +kernel
theorem dX9_crosses_133 : decode cX9_crosses 133 = .ok (.iload 4, 2) := by decide +kernel
theorem dX9_crosses_135 : decode cX9_crosses 135 = .ok (.if_icmp .ne 12, 3) := by decide +kernel
theorem dX9_crosses_138 : decode cX9_crosses 138 = .ok (.aload_n 0, 1) := by decide +kernel
theorem dX9_crosses_139 : decode cX9_crosses 139 = .ok (.iload_n 1, 1) := by decide +kernel
theorem dX9_crosses_140 : decode cX9_crosses 140 = .ok (.iload_n 2, 1) := by decide +kernel
theorem dX9_crosses_141 : decode cX9_crosses 141 = .ok (.invokevirtual 149, 3) := by decide +kernel
theorem dX9_crosses_144 : decode cX9_crosses 144 = .ok (.goto 9, 3) := by decide +kernel
theorem dX9_crosses_147 : decode cX9_crosses 147 = .ok (.aload_n 0, 1) := by decide +kernel
theorem dX9_crosses_148 : decode cX9_crosses 148 = .ok (.iload_n 1, 1) := by decide +kernel
theorem dX9_crosses_149 : decode cX9_crosses 149 = .ok (.iload_n 2, 1) := by decide +kernel
theorem dX9_crosses_150 : decode cX9_crosses 150 = .ok (.invokevirtual 178, 3) := by decide +kernel
theorem dX9_crosses_153 : decode cX9_crosses 153 = .ok (.iconst 0, 1) := by decide +kernel
theorem dX9_crosses_154 : decode cX9_crosses 154 = .ok (.istore 6, 2) := by decide +kernel
theorem dX9_crosses_156 : decode cX9_crosses 156 = .ok (.iload 6, 2) := by decide +kernel
theorem dX9_crosses_158 : decode cX9_crosses 158 = .ok (.aload_n 0, 1) := by decide +kernel
theorem dX9_crosses_159 : decode cX9_crosses 159 = .ok (.getfield 7, 3) := by decide +kernel
theorem dX9_crosses_162 : decode cX9_crosses 162 = .ok (.iconst 1, 1) := by decide +kernel
theorem dX9_crosses_163 : decode cX9_crosses 163 = .ok (.iaload, 1) := by decide +kernel
theorem dX9_crosses_164 : decode cX9_crosses 164 = .ok (.if_icmp .ge 48, 3) := by decide +kernel
theorem dX9_crosses_167 : decode cX9_crosses 167 = .ok (.aload_n 0, 1) := by decide +kernel
theorem dX9_crosses_168 : decode cX9_crosses 168 = .ok (.iload_n 1, 1) := by decide +kernel
theorem dX9_crosses_169 : decode cX9_crosses 169 = .ok (.iconst 0, 1) := by decide +kernel
theorem dX9_crosses_170 : decode cX9_crosses 170 = .ok (.invokevirtual 123, 3) := by decide +kernel
theorem dX9_crosses_173 : decode cX9_crosses 173 = .ok (.iconst 4, 1) := by decide +kernel
theorem dX9_crosses_174 : decode cX9_crosses 174 = .ok (.if_icmp .ne 38, 3) := by decide +kernel
theorem dX9_crosses_177 : decode cX9_crosses 177 = .ok (.iload 6, 2) := by decide +kernel
theorem dX9_crosses_179 : decode cX9_crosses 179 = .ok (.iload_n 1, 1) := by decide +kernel
theorem dX9_crosses_180 : decode cX9_crosses 180 = .ok (.if_icmp .eq 26, 3) := by decide +kernel
theorem dX9_crosses_183 : decode cX9_crosses 183 = .ok (.aload_n 0, 1) := by decide +kernel
theorem dX9_crosses_184 : decode cX9_crosses 184 = .ok (.iload 6, 2) := by decide +kernel
theorem dX9_crosses_186 : decode cX9_crosses 186 = .ok (.iconst 2, 1) := by decide +kernel
theorem dX9_crosses_187 : decode cX9_crosses 187 = .ok (.invokevirtual 123, 3) := by decide +kernel
theorem dX9_crosses_190 : decode cX9_crosses 190 = .ok (.aload_n 0, 1) := by decide +kernel
theorem dX9_crosses_191 : decode cX9_crosses 191 = .ok (.iload_n 1, 1) := by decide +kernel
theorem dX9_crosses_192 : decode cX9_crosses 192 = .ok (.iconst 2, 1) := by decide +kernel
theorem dX9_crosses_193 : decode cX9_crosses 193 = .ok (.invokevirtual 123, 3) := by decide +kernel
theorem dX9_crosses_196 : decode cX9_crosses 196 = .ok (.if_icmp .ne 10, 3) := by decide +kernel
theorem dX9_crosses_199 : decode cX9_crosses 199 = .ok (.aload_n 0, 1) := by decide +kernel
theorem dX9_crosses_200 : decode cX9_crosses 200 = .ok (.iload 6, 2) := by decide +kernel
theorem dX9_crosses_202 : decode cX9_crosses 202 = .ok (.iload_n 2, 1) := by decide +kernel
theorem dX9_crosses_203 : decode cX9_crosses 203 = .ok (.invokevirtual 178, 3) := by decide +kernel
theorem dX9_crosses_206 : decode cX9_crosses 206 = .ok (.iinc 6 1, 3) := by decide +kernel
theorem dX9_crosses_209 : decode cX9_crosses 209 = .ok (.goto (-53), 3) := by decide +kernel
theorem dX9_crosses_212 : decode cX9_crosses 212 = .ok (.bipush 23, 2) := by decide +kernel
theorem dX9_crosses_214 : decode cX9_crosses 214 = .ok (.istore 6, 2) := by decide +kernel
theorem dX9_crosses_216 : decode cX9_crosses 216 = .ok (.iload 6, 2) := by decide +kernel
theorem dX9_crosses_218 : decode cX9_crosses 218 = .ok (.ifCond .le 31, 3) := by decide +kernel
theorem dX9_crosses_221 : decode cX9_crosses 221 = .ok (.aload_n 0, 1) := by decide +kernel
theorem dX9_crosses_222 : decode cX9_crosses 222 = .ok (.getfield 7, 3) := by decide +kernel
theorem dX9_crosses_225 : decode cX9_crosses 225 = .ok (.bipush 100, 2) := by decide +kernel
theorem dX9_crosses_227 : decode cX9_crosses 227 = .ok (.iload 6, 2) := by decide +kernel
theorem dX9_crosses_229 : decode cX9_crosses 229 = .ok (.iadd, 1) := by decide +kernel
theorem dX9_crosses_230 : decode cX9_crosses 230 = .ok (.aload_n 0, 1) := by decide +kernel
theorem dX9_crosses_231 : decode cX9_crosses 231 = .ok (.getfield 7, 3) := by decide +kernel
theorem dX9_crosses_234 : decode cX9_crosses 234 = .ok (.bipush 100, 2) := by decide +kernel
theorem dX9_crosses_236 : decode cX9_crosses 236 = .ok (.iload 6, 2) := by decide +kernel
theorem dX9_crosses_238 : decode cX9_crosses 238 = .ok (.iadd, 1) := by decide +kernel
theorem dX9_crosses_239 : decode cX9_crosses 239 = .ok (.iconst 1, 1) := by decide +kernel
theorem dX9_crosses_240 : decode cX9_crosses 240 = .ok (.isub, 1) := by decide +kernel
theorem dX9_crosses_241 : decode cX9_crosses 241 = .ok (.iaload, 1) := by decide +kernel
theorem dX9_crosses_242 : decode cX9_crosses 242 = .ok (.iastore, 1) := by decide +kernel
theorem dX9_crosses_243 : decode cX9_crosses 243 = .ok (.iinc 6 (-1), 3) := by decide +kernel
theorem dX9_crosses_246 : decode cX9_crosses 246 = .ok (.goto (-30), 3) := by decide +kernel
theorem dX9_crosses_249 : decode cX9_crosses 249 = .ok (.aload_n 0, 1) := by decide +kernel
theorem dX9_crosses_250 : decode cX9_crosses 250 = .ok (.getfield 7, 3) := by decide +kernel
theorem dX9_crosses_253 : decode cX9_crosses 253 = .ok (.bipush 100, 2) := by decide +kernel
theorem dX9_crosses_255 : decode cX9_crosses 255 = .ok (.bipush 10, 2) := by decide +kernel
theorem dX9_crosses_257 : decode cX9_crosses 257 = .ok (.iload_n 1, 1) := by decide +kernel
theorem dX9_crosses_258 : decode cX9_crosses 258 = .ok (.imul, 1) := by decide +kernel
theorem dX9_crosses_259 : decode cX9_crosses 259 = .ok (.iload_n 2, 1) := by decide +kernel
theorem dX9_crosses_260 : decode cX9_crosses 260 = .ok (.iadd, 1) := by decide +kernel
theorem dX9_crosses_261 : decode cX9_crosses 261 = .ok (.iastore, 1) := by decide +kernel
theorem dX9_crosses_262 : decode cX9_crosses 262 = .ok (.aload_n 0, 1) := by decide +kernel
theorem dX9_crosses_263 : decode cX9_crosses 263 = .ok (.getfield 7, 3) := by decide +kernel
theorem dX9_crosses_266 : decode cX9_crosses 266 = .ok (.iconst 4, 1) := by decide +kernel
theorem dX9_crosses_267 : decode cX9_crosses 267 = .ok (.aload_n 0, 1) := by decide +kernel
theorem dX9_crosses_268 : decode cX9_crosses 268 = .ok (.getfield 7, 3) := by decide +kernel
theorem dX9_crosses_271 : decode cX9_crosses 271 = .ok (.iconst 4, 1) := by decide +kernel
theorem dX9_crosses_272 : decode cX9_crosses 272 = .ok (.iaload, 1) := by decide +kernel
theorem dX9_crosses_273 : decode cX9_crosses 273 = .ok (.iconst 1, 1) := by decide +kernel
theorem dX9_crosses_274 : decode cX9_crosses 274 = .ok (.iadd, 1) := by decide +kernel
theorem dX9_crosses_275 : decode cX9_crosses 275 = .ok (.iconst 0, 1) := by decide +kernel
theorem dX9_crosses_276 : decode cX9_crosses 276 = .ok (.bipush 24, 2) := by decide +kernel
theorem dX9_crosses_278 : decode cX9_crosses 278 = .ok (.invokestatic 133, 3) := by decide +kernel
theorem dX9_crosses_281 : decode cX9_crosses 281 = .ok (.iastore, 1) := by decide +kernel
theorem dX9_crosses_282 : decode cX9_crosses 282 = .ok (.aload_n 0, 1) := by decide +kernel
theorem dX9_crosses_283 : decode cX9_crosses 283 = .ok (.getfield 7, 3) := by decide +kernel
theorem dX9_crosses_286 : decode cX9_crosses 286 = .ok (.iconst 2, 1) := by decide +kernel
theorem dX9_crosses_287 : decode cX9_crosses 287 = .ok (.dup2, 1) := by decide +kernel
theorem dX9_crosses_288 : decode cX9_crosses 288 = .ok (.iaload, 1) := by decide +kernel
theorem dX9_crosses_289 : decode cX9_crosses 289 = .ok (.iconst 1, 1) := by decide +kernel
theorem dX9_crosses_290 : decode cX9_crosses 290 = .ok (.iadd, 1) := by decide +kernel
theorem dX9_crosses_291 : decode cX9_crosses 291 = .ok (.iastore, 1) := by decide +kernel
theorem dX9_crosses_292 : decode cX9_crosses 292 = .ok (.iload 5, 2) := by decide +kernel
theorem dX9_crosses_294 : decode cX9_crosses 294 = .ok (.ireturn, 1) := by decide +kernel
theorem dX9_whyNotCross_0 : decode cX9_whyNotCross 0 = .ok (.aload_n 0, 1) := by decide +kernel
theorem dX9_whyNotCross_1 : decode cX9_whyNotCross 1 = .ok (.iload_n 1, 1) := by decide +kernel
theorem dX9_whyNotCross_2 : decode cX9_whyNotCross 2 = .ok (.invokevirtual 168, 3) := by decide +kernel
theorem dX9_whyNotCross_5 : decode cX9_whyNotCross 5 = .ok (.ifCond .eq 11, 3) := by decide +kernel
theorem dX9_whyNotCross_8 : decode cX9_whyNotCross 8 = .ok (.aload_n 0, 1) := by decide +kernel
theorem dX9_whyNotCross_9 : decode cX9_whyNotCross 9 = .ok (.iload_n 2, 1) := by decide +kernel
theorem dX9_whyNotCross_10 : decode cX9_whyNotCross 10 = .ok (.invokevirtual 156, 3) := by decide +kernel
theorem dX9_whyNotCross_13 : decode cX9_whyNotCross 13 = .ok (.ifCond .ne 5, 3) := by decide +kernel
theorem dX9_whyNotCross_16 : decode cX9_whyNotCross 16 = .ok (.iconst 1, 1) := by decide +kernel
theorem dX9_whyNotCross_17 : decode cX9_whyNotCross 17 = .ok (.ireturn, 1) := by decide +kernel
theorem dX9_whyNotCross_18 : decode cX9_whyNotCross 18 = .ok (.aload_n 0, 1) := by decide +kernel
theorem dX9_whyNotCross_19 : decode cX9_whyNotCross 19 = .ok (.iload_n 1, 1) := by decide +kernel
theorem dX9_whyNotCross_20 : decode cX9_whyNotCross 20 = .ok (.iload_n 2, 1) := by decide +kernel
theorem dX9_whyNotCross_21 : decode cX9_whyNotCross 21 = .ok (.invokevirtual 181, 3) := by decide +kernel
theorem dX9_whyNotCross_24 : decode cX9_whyNotCross 24 = .ok (.ifCond .eq 15, 3) := by decide +kernel
theorem dX9_whyNotCross_27 : decode cX9_whyNotCross 27 = .ok (.aload_n 0, 1) := by decide +kernel
theorem dX9_whyNotCross_28 : decode cX9_whyNotCross 28 = .ok (.getfield 7, 3) := by decide +kernel
theorem dX9_whyNotCross_31 : decode cX9_whyNotCross 31 = .ok (.iconst 2, 1) := by decide +kernel
theorem dX9_whyNotCross_32 : decode cX9_whyNotCross 32 = .ok (.iaload, 1) := by decide +kernel
theorem dX9_whyNotCross_33 : decode cX9_whyNotCross 33 = .ok (.sipush 9999, 3) := by decide +kernel
theorem dX9_whyNotCross_36 : decode cX9_whyNotCross 36 = .ok (.if_icmp .ne 7, 3) := by decide +kernel
theorem dX9_whyNotCross_39 : decode cX9_whyNotCross 39 = .ok (.iconst 3, 1) := by decide +kernel
theorem dX9_whyNotCross_40 : decode cX9_whyNotCross 40 = .ok (.goto 4, 3) := by decide +kernel
theorem dX9_whyNotCross_43 : decode cX9_whyNotCross 43 = .ok (.iconst 0, 1) := by decide +kernel
theorem dX9_whyNotCross_44 : decode cX9_whyNotCross 44 = .ok (.ireturn, 1) := by decide +kernel
theorem dX9_cross_0 : decode cX9_cross 0 = .ok (.aload_n 0, 1) := by decide +kernel
theorem dX9_cross_1 : decode cX9_cross 1 = .ok (.iload_n 1, 1) := by decide +kernel
theorem dX9_cross_2 : decode cX9_cross 2 = .ok (.iload_n 2, 1) := by decide +kernel
theorem dX9_cross_3 : decode cX9_cross 3 = .ok (.invokevirtual 184, 3) := by decide +kernel
theorem dX9_cross_6 : decode cX9_cross 6 = .ok (.istore_n 3, 1) := by decide +kernel
theorem dX9_cross_7 : decode cX9_cross 7 = .ok (.iload_n 3, 1) := by decide +kernel
theorem dX9_cross_8 : decode cX9_cross 8 = .ok (.ifCond .le 11, 3) := by decide +kernel
theorem dX9_cross_11 : decode cX9_cross 11 = .ok (.aload_n 0, 1) := by decide +kernel
theorem dX9_cross_12 : decode cX9_cross 12 = .ok (.iload_n 3, 1) := by decide +kernel
theorem dX9_cross_13 : decode cX9_cross 13 = .ok (.invokevirtual 63, 3) := by decide +kernel
theorem dX9_cross_16 : decode cX9_cross 16 = .ok (.goto 9, 3) := by decide +kernel
theorem dX9_cross_19 : decode cX9_cross 19 = .ok (.aload_n 0, 1) := by decide +kernel
theorem dX9_cross_20 : decode cX9_cross 20 = .ok (.iload_n 1, 1) := by decide +kernel
theorem dX9_cross_21 : decode cX9_cross 21 = .ok (.iload_n 2, 1) := by decide +kernel
theorem dX9_cross_22 : decode cX9_cross 22 = .ok (.invokevirtual 187, 3) := by decide +kernel
theorem dX9_cross_25 : decode cX9_cross 25 = .ok (.ireturn, 1) := by decide +kernel
theorem dX9_goesAlone_0 : decode cX9_goesAlone 0 = .ok (.aload_n 0, 1) := by decide +kernel
theorem dX9_goesAlone_1 : decode cX9_goesAlone 1 = .ok (.iload_n 1, 1) := by decide +kernel
theorem dX9_goesAlone_2 : decode cX9_goesAlone 2 = .ok (.iconst 2, 1) := by decide +kernel
theorem dX9_goesAlone_3 : decode cX9_goesAlone 3 = .ok (.iconst 1, 1) := by decide +kernel
theorem dX9_goesAlone_4 : decode cX9_goesAlone 4 = .ok (.aload_n 0, 1) := by decide +kernel
theorem dX9_goesAlone_5 : decode cX9_goesAlone 5 = .ok (.iload_n 1, 1) := by decide +kernel
theorem dX9_goesAlone_6 : decode cX9_goesAlone 6 = .ok (.iconst 2, 1) := by decide +kernel
theorem dX9_goesAlone_7 : decode cX9_goesAlone 7 = .ok (.invokevirtual 123, 3) := by decide +kernel
theorem dX9_goesAlone_10 : decode cX9_goesAlone 10 = .ok (.isub, 1) := by decide +kernel
theorem dX9_goesAlone_11 : decode cX9_goesAlone 11 = .ok (.invokevirtual 142, 3) := by decide +kernel
theorem dX9_goesAlone_14 : decode cX9_goesAlone 14 = .ok (.aload_n 0, 1) := by decide +kernel
theorem dX9_goesAlone_15 : decode cX9_goesAlone 15 = .ok (.getfield 7, 3) := by decide +kernel
theorem dX9_goesAlone_18 : decode cX9_goesAlone 18 = .ok (.iconst 2, 1) := by decide +kernel
theorem dX9_goesAlone_19 : decode cX9_goesAlone 19 = .ok (.dup2, 1) := by decide +kernel
theorem dX9_goesAlone_20 : decode cX9_goesAlone 20 = .ok (.iaload, 1) := by decide +kernel
theorem dX9_goesAlone_21 : decode cX9_goesAlone 21 = .ok (.iconst 1, 1) := by decide +kernel
theorem dX9_goesAlone_22 : decode cX9_goesAlone 22 = .ok (.iadd, 1) := by decide +kernel
theorem dX9_goesAlone_23 : decode cX9_goesAlone 23 = .ok (.iastore, 1) := by decide +kernel
theorem dX9_goesAlone_24 : decode cX9_goesAlone 24 = .ok (.return_, 1) := by decide +kernel
theorem dX9_alone_0 : decode cX9_alone 0 = .ok (.aload_n 0, 1) := by decide +kernel
theorem dX9_alone_1 : decode cX9_alone 1 = .ok (.iload_n 1, 1) := by decide +kernel
theorem dX9_alone_2 : decode cX9_alone 2 = .ok (.invokevirtual 168, 3) := by decide +kernel
theorem dX9_alone_5 : decode cX9_alone 5 = .ok (.ifCond .ne 9, 3) := by decide +kernel
theorem dX9_alone_8 : decode cX9_alone 8 = .ok (.aload_n 0, 1) := by decide +kernel
theorem dX9_alone_9 : decode cX9_alone 9 = .ok (.iconst 1, 1) := by decide +kernel
theorem dX9_alone_10 : decode cX9_alone 10 = .ok (.invokevirtual 63, 3) := by decide +kernel
theorem dX9_alone_13 : decode cX9_alone 13 = .ok (.ireturn, 1) := by decide +kernel
theorem dX9_alone_14 : decode cX9_alone 14 = .ok (.aload_n 0, 1) := by decide +kernel
theorem dX9_alone_15 : decode cX9_alone 15 = .ok (.getfield 7, 3) := by decide +kernel
theorem dX9_alone_18 : decode cX9_alone 18 = .ok (.iconst 2, 1) := by decide +kernel
theorem dX9_alone_19 : decode cX9_alone 19 = .ok (.iaload, 1) := by decide +kernel
theorem dX9_alone_20 : decode cX9_alone 20 = .ok (.sipush 9999, 3) := by decide +kernel
theorem dX9_alone_23 : decode cX9_alone 23 = .ok (.if_icmp .ne 9, 3) := by decide +kernel
theorem dX9_alone_26 : decode cX9_alone 26 = .ok (.aload_n 0, 1) := by decide +kernel
theorem dX9_alone_27 : decode cX9_alone 27 = .ok (.iconst 3, 1) := by decide +kernel
theorem dX9_alone_28 : decode cX9_alone 28 = .ok (.invokevirtual 63, 3) := by decide +kernel
theorem dX9_alone_31 : decode cX9_alone 31 = .ok (.ireturn, 1) := by decide +kernel
theorem dX9_alone_32 : decode cX9_alone 32 = .ok (.aload_n 0, 1) := by decide +kernel
theorem dX9_alone_33 : decode cX9_alone 33 = .ok (.iload_n 1, 1) := by decide +kernel
theorem dX9_alone_34 : decode cX9_alone 34 = .ok (.invokevirtual 190, 3) := by decide +kernel
theorem dX9_alone_37 : decode cX9_alone 37 = .ok (.aload_n 0, 1) := by decide +kernel
theorem dX9_alone_38 : decode cX9_alone 38 = .ok (.iload_n 1, 1) := by decide +kernel
theorem dX9_alone_39 : decode cX9_alone 39 = .ok (.iconst 2, 1) := by decide +kernel
theorem dX9_alone_40 : decode cX9_alone 40 = .ok (.invokevirtual 123, 3) := by decide +kernel
theorem dX9_alone_43 : decode cX9_alone 43 = .ok (.ireturn, 1) := by decide +kernel
theorem dX9_draw_0 : decode cX9_draw 0 = .ok (.aload_n 0, 1) := by decide +kernel
theorem dX9_draw_1 : decode cX9_draw 1 = .ok (.getfield 7, 3) := by decide +kernel
theorem dX9_draw_4 : decode cX9_draw 4 = .ok (.bipush 7, 2) := by decide +kernel
theorem dX9_draw_6 : decode cX9_draw 6 = .ok (.aload_n 0, 1) := by decide +kernel
theorem dX9_draw_7 : decode cX9_draw 7 = .ok (.getfield 7, 3) := by decide +kernel
theorem dX9_draw_10 : decode cX9_draw 10 = .ok (.bipush 7, 2) := by decide +kernel
theorem dX9_draw_12 : decode cX9_draw 12 = .ok (.iaload, 1) := by decide +kernel
theorem dX9_draw_13 : decode cX9_draw 13 = .ok (.ldc 194, 2) := by decide +kernel
theorem dX9_draw_15 : decode cX9_draw 15 = .ok (.imul, 1) := by decide +kernel
theorem dX9_draw_16 : decode cX9_draw 16 = .ok (.sipush 12345, 3) := by decide +kernel
theorem dX9_draw_19 : decode cX9_draw 19 = .ok (.iadd, 1) := by decide +kernel
theorem dX9_draw_20 : decode cX9_draw 20 = .ok (.iastore, 1) := by decide +kernel
theorem dX9_draw_21 : decode cX9_draw 21 = .ok (.aload_n 0, 1) := by decide +kernel
theorem dX9_draw_22 : decode cX9_draw 22 = .ok (.getfield 7, 3) := by decide +kernel
theorem dX9_draw_25 : decode cX9_draw 25 = .ok (.bipush 7, 2) := by decide +kernel
theorem dX9_draw_27 : decode cX9_draw 27 = .ok (.iaload, 1) := by decide +kernel
theorem dX9_draw_28 : decode cX9_draw 28 = .ok (.bipush 8, 2) := by decide +kernel
theorem dX9_draw_30 : decode cX9_draw 30 = .ok (.iushr, 1) := by decide +kernel
theorem dX9_draw_31 : decode cX9_draw 31 = .ok (.ireturn, 1) := by decide +kernel
theorem dX9_crossByDraws_0 : decode cX9_crossByDraws 0 = .ok (.aload_n 0, 1) := by decide +kernel
theorem dX9_crossByDraws_1 : decode cX9_crossByDraws 1 = .ok (.invokevirtual 195, 3) := by decide +kernel
theorem dX9_crossByDraws_4 : decode cX9_crossByDraws 4 = .ok (.aload_n 0, 1) := by decide +kernel
theorem dX9_crossByDraws_5 : decode cX9_crossByDraws 5 = .ok (.getfield 7, 3) := by decide +kernel
theorem dX9_crossByDraws_8 : decode cX9_crossByDraws 8 = .ok (.iconst 1, 1) := by decide +kernel
theorem dX9_crossByDraws_9 : decode cX9_crossByDraws 9 = .ok (.iaload, 1) := by decide +kernel
theorem dX9_crossByDraws_10 : decode cX9_crossByDraws 10 = .ok (.irem, 1) := by decide +kernel
theorem dX9_crossByDraws_11 : decode cX9_crossByDraws 11 = .ok (.istore_n 1, 1) := by decide +kernel
theorem dX9_crossByDraws_12 : decode cX9_crossByDraws 12 = .ok (.iconst 0, 1) := by decide +kernel
theorem dX9_crossByDraws_13 : decode cX9_crossByDraws 13 = .ok (.istore_n 2, 1) := by decide +kernel
theorem dX9_crossByDraws_14 : decode cX9_crossByDraws 14 = .ok (.iconst 0, 1) := by decide +kernel
theorem dX9_crossByDraws_15 : decode cX9_crossByDraws 15 = .ok (.istore_n 3, 1) := by decide +kernel
theorem dX9_crossByDraws_16 : decode cX9_crossByDraws 16 = .ok (.iload_n 3, 1) := by decide +kernel
theorem dX9_crossByDraws_17 : decode cX9_crossByDraws 17 = .ok (.aload_n 0, 1) := by decide +kernel
theorem dX9_crossByDraws_18 : decode cX9_crossByDraws 18 = .ok (.getfield 7, 3) := by decide +kernel
theorem dX9_crossByDraws_21 : decode cX9_crossByDraws 21 = .ok (.iconst 0, 1) := by decide +kernel
theorem dX9_crossByDraws_22 : decode cX9_crossByDraws 22 = .ok (.iaload, 1) := by decide +kernel
theorem dX9_crossByDraws_23 : decode cX9_crossByDraws 23 = .ok (.if_icmp .ge 26, 3) := by decide +kernel
theorem dX9_crossByDraws_26 : decode cX9_crossByDraws 26 = .ok (.iload_n 2, 1) := by decide +kernel
theorem dX9_crossByDraws_27 : decode cX9_crossByDraws 27 = .ok (.aload_n 0, 1) := by decide +kernel
theorem dX9_crossByDraws_28 : decode cX9_crossByDraws 28 = .ok (.iload_n 1, 1) := by decide +kernel
theorem dX9_crossByDraws_29 : decode cX9_crossByDraws 29 = .ok (.iload_n 3, 1) := by decide +kernel
theorem dX9_crossByDraws_30 : decode cX9_crossByDraws 30 = .ok (.invokevirtual 181, 3) := by decide +kernel
theorem dX9_crossByDraws_33 : decode cX9_crossByDraws 33 = .ok (.ifCond .eq 7, 3) := by decide +kernel
theorem dX9_crossByDraws_36 : decode cX9_crossByDraws 36 = .ok (.iconst 1, 1) := by decide +kernel
theorem dX9_crossByDraws_37 : decode cX9_crossByDraws 37 = .ok (.goto 4, 3) := by decide +kernel
theorem dX9_crossByDraws_40 : decode cX9_crossByDraws 40 = .ok (.iconst 0, 1) := by decide +kernel
theorem dX9_crossByDraws_41 : decode cX9_crossByDraws 41 = .ok (.iadd, 1) := by decide +kernel
theorem dX9_crossByDraws_42 : decode cX9_crossByDraws 42 = .ok (.istore_n 2, 1) := by decide +kernel
theorem dX9_crossByDraws_43 : decode cX9_crossByDraws 43 = .ok (.iinc 3 1, 3) := by decide +kernel
theorem dX9_crossByDraws_46 : decode cX9_crossByDraws 46 = .ok (.goto (-30), 3) := by decide +kernel
theorem dX9_crossByDraws_49 : decode cX9_crossByDraws 49 = .ok (.iload_n 2, 1) := by decide +kernel
theorem dX9_crossByDraws_50 : decode cX9_crossByDraws 50 = .ok (.ifCond .ne 9, 3) := by decide +kernel
theorem dX9_crossByDraws_53 : decode cX9_crossByDraws 53 = .ok (.aload_n 0, 1) := by decide +kernel
theorem dX9_crossByDraws_54 : decode cX9_crossByDraws 54 = .ok (.iload_n 1, 1) := by decide +kernel
theorem dX9_crossByDraws_55 : decode cX9_crossByDraws 55 = .ok (.invokevirtual 190, 3) := by decide +kernel
theorem dX9_crossByDraws_58 : decode cX9_crossByDraws 58 = .ok (.return_, 1) := by decide +kernel
theorem dX9_crossByDraws_59 : decode cX9_crossByDraws 59 = .ok (.aload_n 0, 1) := by decide +kernel
theorem dX9_crossByDraws_60 : decode cX9_crossByDraws 60 = .ok (.invokevirtual 195, 3) := by decide +kernel
theorem dX9_crossByDraws_63 : decode cX9_crossByDraws 63 = .ok (.iload_n 2, 1) := by decide +kernel
theorem dX9_crossByDraws_64 : decode cX9_crossByDraws 64 = .ok (.irem, 1) := by decide +kernel
theorem dX9_crossByDraws_65 : decode cX9_crossByDraws 65 = .ok (.istore_n 3, 1) := by decide +kernel
theorem dX9_crossByDraws_66 : decode cX9_crossByDraws 66 = .ok (.iconst 0, 1) := by decide +kernel
theorem dX9_crossByDraws_67 : decode cX9_crossByDraws 67 = .ok (.istore 4, 2) := by decide +kernel
theorem dX9_crossByDraws_69 : decode cX9_crossByDraws 69 = .ok (.aload_n 0, 1) := by decide +kernel
theorem dX9_crossByDraws_70 : decode cX9_crossByDraws 70 = .ok (.iload_n 1, 1) := by decide +kernel
theorem dX9_crossByDraws_71 : decode cX9_crossByDraws 71 = .ok (.iload 4, 2) := by decide +kernel
theorem dX9_crossByDraws_73 : decode cX9_crossByDraws 73 = .ok (.invokevirtual 181, 3) := by decide +kernel
theorem dX9_crossByDraws_76 : decode cX9_crossByDraws 76 = .ok (.ifCond .eq 7, 3) := by decide +kernel
theorem dX9_crossByDraws_79 : decode cX9_crossByDraws 79 = .ok (.iload_n 3, 1) := by decide +kernel
theorem dX9_crossByDraws_80 : decode cX9_crossByDraws 80 = .ok (.ifCond .le 27, 3) := by decide +kernel
theorem dX9_crossByDraws_83 : decode cX9_crossByDraws 83 = .ok (.iload_n 3, 1) := by decide +kernel
theorem dX9_crossByDraws_84 : decode cX9_crossByDraws 84 = .ok (.aload_n 0, 1) := by decide +kernel
theorem dX9_crossByDraws_85 : decode cX9_crossByDraws 85 = .ok (.iload_n 1, 1) := by decide +kernel
theorem dX9_crossByDraws_86 : decode cX9_crossByDraws 86 = .ok (.iload 4, 2) := by decide +kernel
theorem dX9_crossByDraws_88 : decode cX9_crossByDraws 88 = .ok (.invokevirtual 181, 3) := by decide +kernel
theorem dX9_crossByDraws_91 : decode cX9_crossByDraws 91 = .ok (.ifCond .eq 7, 3) := by decide +kernel
theorem dX9_crossByDraws_94 : decode cX9_crossByDraws 94 = .ok (.iconst 1, 1) := by decide +kernel
theorem dX9_crossByDraws_95 : decode cX9_crossByDraws 95 = .ok (.goto 4, 3) := by decide +kernel
theorem dX9_crossByDraws_98 : decode cX9_crossByDraws 98 = .ok (.iconst 0, 1) := by decide +kernel
theorem dX9_crossByDraws_99 : decode cX9_crossByDraws 99 = .ok (.isub, 1) := by decide +kernel
theorem dX9_crossByDraws_100 : decode cX9_crossByDraws 100 = .ok (.istore_n 3, 1) := by decide +kernel
theorem dX9_crossByDraws_101 : decode cX9_crossByDraws 101 = .ok (.iinc 4 1, 3) := by decide +kernel
theorem dX9_crossByDraws_104 : decode cX9_crossByDraws 104 = .ok (.goto (-35), 3) := by decide +kernel
theorem dX9_crossByDraws_107 : decode cX9_crossByDraws 107 = .ok (.aload_n 0, 1) := by decide +kernel
theorem dX9_crossByDraws_108 : decode cX9_crossByDraws 108 = .ok (.iload_n 1, 1) := by decide +kernel
theorem dX9_crossByDraws_109 : decode cX9_crossByDraws 109 = .ok (.iload 4, 2) := by decide +kernel
theorem dX9_crossByDraws_111 : decode cX9_crossByDraws 111 = .ok (.invokevirtual 187, 3) := by decide +kernel
theorem dX9_crossByDraws_114 : decode cX9_crossByDraws 114 = .ok (.istore 5, 2) := by decide +kernel
theorem dX9_crossByDraws_116 : decode cX9_crossByDraws 116 = .ok (.return_, 1) := by decide +kernel
theorem dX9_draws_0 : decode cX9_draws 0 = .ok (.iload_n 1, 1) := by decide +kernel
theorem dX9_draws_1 : decode cX9_draws 1 = .ok (.iconst 1, 1) := by decide +kernel
theorem dX9_draws_2 : decode cX9_draws 2 = .ok (.bipush 60, 2) := by decide +kernel
theorem dX9_draws_4 : decode cX9_draws 4 = .ok (.invokestatic 59, 3) := by decide +kernel
theorem dX9_draws_7 : decode cX9_draws 7 = .ok (.ifCond .ne 9, 3) := by decide +kernel
theorem dX9_draws_10 : decode cX9_draws 10 = .ok (.aload_n 0, 1) := by decide +kernel
theorem dX9_draws_11 : decode cX9_draws 11 = .ok (.iconst 1, 1) := by decide +kernel
theorem dX9_draws_12 : decode cX9_draws 12 = .ok (.invokevirtual 63, 3) := by decide +kernel
theorem dX9_draws_15 : decode cX9_draws 15 = .ok (.ireturn, 1) := by decide +kernel
theorem dX9_draws_16 : decode cX9_draws 16 = .ok (.aload_n 0, 1) := by decide +kernel
theorem dX9_draws_17 : decode cX9_draws 17 = .ok (.getfield 7, 3) := by decide +kernel
theorem dX9_draws_20 : decode cX9_draws 20 = .ok (.iconst 1, 1) := by decide +kernel
theorem dX9_draws_21 : decode cX9_draws 21 = .ok (.iaload, 1) := by decide +kernel
theorem dX9_draws_22 : decode cX9_draws 22 = .ok (.ifCond .eq 17, 3) := by decide +kernel
theorem dX9_draws_25 : decode cX9_draws 25 = .ok (.aload_n 0, 1) := by decide +kernel
theorem dX9_draws_26 : decode cX9_draws 26 = .ok (.getfield 7, 3) := by decide +kernel
theorem dX9_draws_29 : decode cX9_draws 29 = .ok (.iconst 2, 1) := by decide +kernel
theorem dX9_draws_30 : decode cX9_draws 30 = .ok (.iaload, 1) := by decide +kernel
theorem dX9_draws_31 : decode cX9_draws 31 = .ok (.iload_n 1, 1) := by decide +kernel
theorem dX9_draws_32 : decode cX9_draws 32 = .ok (.iadd, 1) := by decide +kernel
theorem dX9_draws_33 : decode cX9_draws 33 = .ok (.sipush 9999, 3) := by decide +kernel
theorem dX9_draws_36 : decode cX9_draws 36 = .ok (.if_icmp .le 9, 3) := by decide +kernel
theorem dX9_draws_39 : decode cX9_draws 39 = .ok (.aload_n 0, 1) := by decide +kernel
theorem dX9_draws_40 : decode cX9_draws 40 = .ok (.iconst 3, 1) := by decide +kernel
theorem dX9_draws_41 : decode cX9_draws 41 = .ok (.invokevirtual 63, 3) := by decide +kernel
theorem dX9_draws_44 : decode cX9_draws 44 = .ok (.ireturn, 1) := by decide +kernel
theorem dX9_draws_45 : decode cX9_draws 45 = .ok (.iconst 0, 1) := by decide +kernel
theorem dX9_draws_46 : decode cX9_draws 46 = .ok (.istore_n 2, 1) := by decide +kernel
theorem dX9_draws_47 : decode cX9_draws 47 = .ok (.iload_n 2, 1) := by decide +kernel
theorem dX9_draws_48 : decode cX9_draws 48 = .ok (.iload_n 1, 1) := by decide +kernel
theorem dX9_draws_49 : decode cX9_draws 49 = .ok (.if_icmp .ge 13, 3) := by decide +kernel
theorem dX9_draws_52 : decode cX9_draws 52 = .ok (.aload_n 0, 1) := by decide +kernel
theorem dX9_draws_53 : decode cX9_draws 53 = .ok (.invokevirtual 198, 3) := by decide +kernel
theorem dX9_draws_56 : decode cX9_draws 56 = .ok (.iinc 2 1, 3) := by decide +kernel
theorem dX9_draws_59 : decode cX9_draws 59 = .ok (.goto (-12), 3) := by decide +kernel
theorem dX9_draws_62 : decode cX9_draws 62 = .ok (.aload_n 0, 1) := by decide +kernel
theorem dX9_draws_63 : decode cX9_draws 63 = .ok (.getfield 7, 3) := by decide +kernel
theorem dX9_draws_66 : decode cX9_draws 66 = .ok (.iconst 2, 1) := by decide +kernel
theorem dX9_draws_67 : decode cX9_draws 67 = .ok (.iaload, 1) := by decide +kernel
theorem dX9_draws_68 : decode cX9_draws 68 = .ok (.ireturn, 1) := by decide +kernel
theorem dX9_seed_0 : decode cX9_seed 0 = .ok (.aload_n 0, 1) := by decide +kernel
theorem dX9_seed_1 : decode cX9_seed 1 = .ok (.getfield 7, 3) := by decide +kernel
theorem dX9_seed_4 : decode cX9_seed 4 = .ok (.bipush 7, 2) := by decide +kernel
theorem dX9_seed_6 : decode cX9_seed 6 = .ok (.iaload, 1) := by decide +kernel
theorem dX9_seed_7 : decode cX9_seed 7 = .ok (.istore_n 2, 1) := by decide +kernel
theorem dX9_seed_8 : decode cX9_seed 8 = .ok (.aload_n 0, 1) := by decide +kernel
theorem dX9_seed_9 : decode cX9_seed 9 = .ok (.getfield 7, 3) := by decide +kernel
theorem dX9_seed_12 : decode cX9_seed 12 = .ok (.bipush 7, 2) := by decide +kernel
theorem dX9_seed_14 : decode cX9_seed 14 = .ok (.iload_n 1, 1) := by decide +kernel
theorem dX9_seed_15 : decode cX9_seed 15 = .ok (.iastore, 1) := by decide +kernel
theorem dX9_seed_16 : decode cX9_seed 16 = .ok (.iload_n 2, 1) := by decide +kernel
theorem dX9_seed_17 : decode cX9_seed 17 = .ok (.ireturn, 1) := by decide +kernel
theorem dX9_book_0 : decode cX9_book 0 = .ok (.iload_n 1, 1) := by decide +kernel
theorem dX9_book_1 : decode cX9_book 1 = .ok (.iconst 0, 1) := by decide +kernel
theorem dX9_book_2 : decode cX9_book 2 = .ok (.aload_n 0, 1) := by decide +kernel
theorem dX9_book_3 : decode cX9_book 3 = .ok (.getfield 7, 3) := by decide +kernel
theorem dX9_book_6 : decode cX9_book 6 = .ok (.iconst 4, 1) := by decide +kernel
theorem dX9_book_7 : decode cX9_book 7 = .ok (.iaload, 1) := by decide +kernel
theorem dX9_book_8 : decode cX9_book 8 = .ok (.iconst 1, 1) := by decide +kernel
theorem dX9_book_9 : decode cX9_book 9 = .ok (.isub, 1) := by decide +kernel
theorem dX9_book_10 : decode cX9_book 10 = .ok (.invokestatic 59, 3) := by decide +kernel
theorem dX9_book_13 : decode cX9_book 13 = .ok (.ifCond .eq 15, 3) := by decide +kernel
theorem dX9_book_16 : decode cX9_book 16 = .ok (.aload_n 0, 1) := by decide +kernel
theorem dX9_book_17 : decode cX9_book 17 = .ok (.getfield 7, 3) := by decide +kernel
theorem dX9_book_20 : decode cX9_book 20 = .ok (.bipush 100, 2) := by decide +kernel
theorem dX9_book_22 : decode cX9_book 22 = .ok (.iload_n 1, 1) := by decide +kernel
theorem dX9_book_23 : decode cX9_book 23 = .ok (.iadd, 1) := by decide +kernel
theorem dX9_book_24 : decode cX9_book 24 = .ok (.iaload, 1) := by decide +kernel
theorem dX9_book_25 : decode cX9_book 25 = .ok (.goto 8, 3) := by decide +kernel
theorem dX9_book_28 : decode cX9_book 28 = .ok (.aload_n 0, 1) := by decide +kernel
theorem dX9_book_29 : decode cX9_book 29 = .ok (.iconst 2, 1) := by decide +kernel
theorem dX9_book_30 : decode cX9_book 30 = .ok (.invokevirtual 63, 3) := by decide +kernel
theorem dX9_book_33 : decode cX9_book 33 = .ok (.ireturn, 1) := by decide +kernel
theorem dX9_owed_0 : decode cX9_owed 0 = .ok (.aload_n 0, 1) := by decide +kernel
theorem dX9_owed_1 : decode cX9_owed 1 = .ok (.getfield 7, 3) := by decide +kernel
theorem dX9_owed_4 : decode cX9_owed 4 = .ok (.bipush 76, 2) := by decide +kernel
theorem dX9_owed_6 : decode cX9_owed 6 = .ok (.iconst 3, 1) := by decide +kernel
theorem dX9_owed_7 : decode cX9_owed 7 = .ok (.iload_n 1, 1) := by decide +kernel
theorem dX9_owed_8 : decode cX9_owed 8 = .ok (.imul, 1) := by decide +kernel
theorem dX9_owed_9 : decode cX9_owed 9 = .ok (.iadd, 1) := by decide +kernel
theorem dX9_owed_10 : decode cX9_owed 10 = .ok (.iload_n 2, 1) := by decide +kernel
theorem dX9_owed_11 : decode cX9_owed 11 = .ok (.iadd, 1) := by decide +kernel
theorem dX9_owed_12 : decode cX9_owed 12 = .ok (.iaload, 1) := by decide +kernel
theorem dX9_owed_13 : decode cX9_owed 13 = .ok (.ireturn, 1) := by decide +kernel
theorem dX9_holds_0 : decode cX9_holds 0 = .ok (.aload_n 0, 1) := by decide +kernel
theorem dX9_holds_1 : decode cX9_holds 1 = .ok (.getfield 34, 3) := by decide +kernel
theorem dX9_holds_4 : decode cX9_holds 4 = .ok (.aload_n 0, 1) := by decide +kernel
theorem dX9_holds_5 : decode cX9_holds 5 = .ok (.iload_n 1, 1) := by decide +kernel
theorem dX9_holds_6 : decode cX9_holds 6 = .ok (.iconst 0, 1) := by decide +kernel
theorem dX9_holds_7 : decode cX9_holds 7 = .ok (.invokevirtual 201, 3) := by decide +kernel
theorem dX9_holds_10 : decode cX9_holds 10 = .ok (.iaload, 1) := by decide +kernel
theorem dX9_holds_11 : decode cX9_holds 11 = .ok (.aload_n 0, 1) := by decide +kernel
theorem dX9_holds_12 : decode cX9_holds 12 = .ok (.getfield 34, 3) := by decide +kernel
theorem dX9_holds_15 : decode cX9_holds 15 = .ok (.aload_n 0, 1) := by decide +kernel
theorem dX9_holds_16 : decode cX9_holds 16 = .ok (.iload_n 1, 1) := by decide +kernel
theorem dX9_holds_17 : decode cX9_holds 17 = .ok (.iconst 1, 1) := by decide +kernel
theorem dX9_holds_18 : decode cX9_holds 18 = .ok (.invokevirtual 201, 3) := by decide +kernel
theorem dX9_holds_21 : decode cX9_holds 21 = .ok (.iaload, 1) := by decide +kernel
theorem dX9_holds_22 : decode cX9_holds 22 = .ok (.if_icmp .ne 7, 3) := by decide +kernel
theorem dX9_holds_25 : decode cX9_holds 25 = .ok (.iconst 1, 1) := by decide +kernel
theorem dX9_holds_26 : decode cX9_holds 26 = .ok (.goto 4, 3) := by decide +kernel
theorem dX9_holds_29 : decode cX9_holds 29 = .ok (.iconst 0, 1) := by decide +kernel
theorem dX9_holds_30 : decode cX9_holds 30 = .ok (.ireturn, 1) := by decide +kernel
theorem dX9_holding_0 : decode cX9_holding 0 = .ok (.aload_n 0, 1) := by decide +kernel
theorem dX9_holding_1 : decode cX9_holding 1 = .ok (.invokevirtual 159, 3) := by decide +kernel
theorem dX9_holding_4 : decode cX9_holding 4 = .ok (.iconst 0, 1) := by decide +kernel
theorem dX9_holding_5 : decode cX9_holding 5 = .ok (.istore_n 1, 1) := by decide +kernel
theorem dX9_holding_6 : decode cX9_holding 6 = .ok (.iconst 0, 1) := by decide +kernel
theorem dX9_holding_7 : decode cX9_holding 7 = .ok (.istore_n 2, 1) := by decide +kernel
theorem dX9_holding_8 : decode cX9_holding 8 = .ok (.iload_n 2, 1) := by decide +kernel
theorem dX9_holding_9 : decode cX9_holding 9 = .ok (.aload_n 0, 1) := by decide +kernel
theorem dX9_holding_10 : decode cX9_holding 10 = .ok (.getfield 7, 3) := by decide +kernel
theorem dX9_holding_13 : decode cX9_holding 13 = .ok (.iconst 3, 1) := by decide +kernel
theorem dX9_holding_14 : decode cX9_holding 14 = .ok (.iaload, 1) := by decide +kernel
theorem dX9_holding_15 : decode cX9_holding 15 = .ok (.if_icmp .ge 25, 3) := by decide +kernel
theorem dX9_holding_18 : decode cX9_holding 18 = .ok (.iload_n 1, 1) := by decide +kernel
theorem dX9_holding_19 : decode cX9_holding 19 = .ok (.aload_n 0, 1) := by decide +kernel
theorem dX9_holding_20 : decode cX9_holding 20 = .ok (.iload_n 2, 1) := by decide +kernel
theorem dX9_holding_21 : decode cX9_holding 21 = .ok (.invokevirtual 204, 3) := by decide +kernel
theorem dX9_holding_24 : decode cX9_holding 24 = .ok (.ifCond .eq 7, 3) := by decide +kernel
theorem dX9_holding_27 : decode cX9_holding 27 = .ok (.iconst 1, 1) := by decide +kernel
theorem dX9_holding_28 : decode cX9_holding 28 = .ok (.goto 4, 3) := by decide +kernel
theorem dX9_holding_31 : decode cX9_holding 31 = .ok (.iconst 0, 1) := by decide +kernel
theorem dX9_holding_32 : decode cX9_holding 32 = .ok (.iadd, 1) := by decide +kernel
theorem dX9_holding_33 : decode cX9_holding 33 = .ok (.istore_n 1, 1) := by decide +kernel
theorem dX9_holding_34 : decode cX9_holding 34 = .ok (.iinc 2 1, 3) := by decide +kernel
theorem dX9_holding_37 : decode cX9_holding 37 = .ok (.goto (-29), 3) := by decide +kernel
theorem dX9_holding_40 : decode cX9_holding 40 = .ok (.iload_n 1, 1) := by decide +kernel
theorem dX9_holding_41 : decode cX9_holding 41 = .ok (.ireturn, 1) := by decide +kernel
theorem dX9_debt_0 : decode cX9_debt 0 = .ok (.aload_n 0, 1) := by decide +kernel
theorem dX9_debt_1 : decode cX9_debt 1 = .ok (.iload_n 1, 1) := by decide +kernel
theorem dX9_debt_2 : decode cX9_debt 2 = .ok (.invokevirtual 156, 3) := by decide +kernel
theorem dX9_debt_5 : decode cX9_debt 5 = .ok (.ifCond .eq 27, 3) := by decide +kernel
theorem dX9_debt_8 : decode cX9_debt 8 = .ok (.aload_n 0, 1) := by decide +kernel
theorem dX9_debt_9 : decode cX9_debt 9 = .ok (.iload_n 2, 1) := by decide +kernel
theorem dX9_debt_10 : decode cX9_debt 10 = .ok (.invokevirtual 156, 3) := by decide +kernel
theorem dX9_debt_13 : decode cX9_debt 13 = .ok (.ifCond .eq 19, 3) := by decide +kernel
theorem dX9_debt_16 : decode cX9_debt 16 = .ok (.iload_n 1, 1) := by decide +kernel
theorem dX9_debt_17 : decode cX9_debt 17 = .ok (.iload_n 2, 1) := by decide +kernel
theorem dX9_debt_18 : decode cX9_debt 18 = .ok (.if_icmp .eq 14, 3) := by decide +kernel
theorem dX9_debt_21 : decode cX9_debt 21 = .ok (.iload_n 3, 1) := by decide +kernel
theorem dX9_debt_22 : decode cX9_debt 22 = .ok (.iconst 1, 1) := by decide +kernel
theorem dX9_debt_23 : decode cX9_debt 23 = .ok (.sipush 999, 3) := by decide +kernel
theorem dX9_debt_26 : decode cX9_debt 26 = .ok (.invokestatic 59, 3) := by decide +kernel
theorem dX9_debt_29 : decode cX9_debt 29 = .ok (.ifCond .ne 9, 3) := by decide +kernel
theorem dX9_debt_32 : decode cX9_debt 32 = .ok (.aload_n 0, 1) := by decide +kernel
theorem dX9_debt_33 : decode cX9_debt 33 = .ok (.iconst 1, 1) := by decide +kernel
theorem dX9_debt_34 : decode cX9_debt 34 = .ok (.invokevirtual 63, 3) := by decide +kernel
theorem dX9_debt_37 : decode cX9_debt 37 = .ok (.ireturn, 1) := by decide +kernel
theorem dX9_debt_38 : decode cX9_debt 38 = .ok (.aload_n 0, 1) := by decide +kernel
theorem dX9_debt_39 : decode cX9_debt 39 = .ok (.getfield 7, 3) := by decide +kernel
theorem dX9_debt_42 : decode cX9_debt 42 = .ok (.iconst 3, 1) := by decide +kernel
theorem dX9_debt_43 : decode cX9_debt 43 = .ok (.iaload, 1) := by decide +kernel
theorem dX9_debt_44 : decode cX9_debt 44 = .ok (.bipush 8, 2) := by decide +kernel
theorem dX9_debt_46 : decode cX9_debt 46 = .ok (.if_icmp .ne 9, 3) := by decide +kernel
theorem dX9_debt_49 : decode cX9_debt 49 = .ok (.aload_n 0, 1) := by decide +kernel
theorem dX9_debt_50 : decode cX9_debt 50 = .ok (.iconst 4, 1) := by decide +kernel
theorem dX9_debt_51 : decode cX9_debt 51 = .ok (.invokevirtual 63, 3) := by decide +kernel
theorem dX9_debt_54 : decode cX9_debt 54 = .ok (.ireturn, 1) := by decide +kernel
theorem dX9_debt_55 : decode cX9_debt 55 = .ok (.bipush 76, 2) := by decide +kernel
theorem dX9_debt_57 : decode cX9_debt 57 = .ok (.iconst 3, 1) := by decide +kernel
theorem dX9_debt_58 : decode cX9_debt 58 = .ok (.aload_n 0, 1) := by decide +kernel
theorem dX9_debt_59 : decode cX9_debt 59 = .ok (.getfield 7, 3) := by decide +kernel
theorem dX9_debt_62 : decode cX9_debt 62 = .ok (.iconst 3, 1) := by decide +kernel
theorem dX9_debt_63 : decode cX9_debt 63 = .ok (.iaload, 1) := by decide +kernel
theorem dX9_debt_64 : decode cX9_debt 64 = .ok (.imul, 1) := by decide +kernel
theorem dX9_debt_65 : decode cX9_debt 65 = .ok (.iadd, 1) := by decide +kernel
theorem dX9_debt_66 : decode cX9_debt 66 = .ok (.istore 4, 2) := by decide +kernel
theorem dX9_debt_68 : decode cX9_debt 68 = .ok (.aload_n 0, 1) := by decide +kernel
theorem dX9_debt_69 : decode cX9_debt 69 = .ok (.getfield 7, 3) := by decide +kernel
theorem dX9_debt_72 : decode cX9_debt 72 = .ok (.iload 4, 2) := by decide +kernel
theorem dX9_debt_74 : decode cX9_debt 74 = .ok (.iload_n 1, 1) := by decide +kernel
theorem dX9_debt_75 : decode cX9_debt 75 = .ok (.iastore, 1) := by decide +kernel
theorem dX9_debt_76 : decode cX9_debt 76 = .ok (.aload_n 0, 1) := by decide +kernel
theorem dX9_debt_77 : decode cX9_debt 77 = .ok (.getfield 7, 3) := by decide +kernel
theorem dX9_debt_80 : decode cX9_debt 80 = .ok (.iload 4, 2) := by decide +kernel
theorem dX9_debt_82 : decode cX9_debt 82 = .ok (.iconst 1, 1) := by decide +kernel
theorem dX9_debt_83 : decode cX9_debt 83 = .ok (.iadd, 1) := by decide +kernel
theorem dX9_debt_84 : decode cX9_debt 84 = .ok (.iload_n 2, 1) := by decide +kernel
theorem dX9_debt_85 : decode cX9_debt 85 = .ok (.iastore, 1) := by decide +kernel
theorem dX9_debt_86 : decode cX9_debt 86 = .ok (.aload_n 0, 1) := by decide +kernel
theorem dX9_debt_87 : decode cX9_debt 87 = .ok (.getfield 7, 3) := by decide +kernel
theorem dX9_debt_90 : decode cX9_debt 90 = .ok (.iload 4, 2) := by decide +kernel
theorem dX9_debt_92 : decode cX9_debt 92 = .ok (.iconst 2, 1) := by decide +kernel
theorem dX9_debt_93 : decode cX9_debt 93 = .ok (.iadd, 1) := by decide +kernel
theorem dX9_debt_94 : decode cX9_debt 94 = .ok (.iload_n 3, 1) := by decide +kernel
theorem dX9_debt_95 : decode cX9_debt 95 = .ok (.iastore, 1) := by decide +kernel
theorem dX9_debt_96 : decode cX9_debt 96 = .ok (.aload_n 0, 1) := by decide +kernel
theorem dX9_debt_97 : decode cX9_debt 97 = .ok (.getfield 7, 3) := by decide +kernel
theorem dX9_debt_100 : decode cX9_debt 100 = .ok (.iconst 3, 1) := by decide +kernel
theorem dX9_debt_101 : decode cX9_debt 101 = .ok (.dup2, 1) := by decide +kernel
theorem dX9_debt_102 : decode cX9_debt 102 = .ok (.iaload, 1) := by decide +kernel
theorem dX9_debt_103 : decode cX9_debt 103 = .ok (.iconst 1, 1) := by decide +kernel
theorem dX9_debt_104 : decode cX9_debt 104 = .ok (.iadd, 1) := by decide +kernel
theorem dX9_debt_105 : decode cX9_debt 105 = .ok (.iastore, 1) := by decide +kernel
theorem dX9_debt_106 : decode cX9_debt 106 = .ok (.aload_n 0, 1) := by decide +kernel
theorem dX9_debt_107 : decode cX9_debt 107 = .ok (.getfield 7, 3) := by decide +kernel
theorem dX9_debt_110 : decode cX9_debt 110 = .ok (.iconst 3, 1) := by decide +kernel
theorem dX9_debt_111 : decode cX9_debt 111 = .ok (.iaload, 1) := by decide +kernel
theorem dX9_debt_112 : decode cX9_debt 112 = .ok (.iconst 1, 1) := by decide +kernel
theorem dX9_debt_113 : decode cX9_debt 113 = .ok (.isub, 1) := by decide +kernel
theorem dX9_debt_114 : decode cX9_debt 114 = .ok (.ireturn, 1) := by decide +kernel
theorem dX9_debtIs_0 : decode cX9_debtIs 0 = .ok (.iload_n 1, 1) := by decide +kernel
theorem dX9_debtIs_1 : decode cX9_debtIs 1 = .ok (.iconst 0, 1) := by decide +kernel
theorem dX9_debtIs_2 : decode cX9_debtIs 2 = .ok (.aload_n 0, 1) := by decide +kernel
theorem dX9_debtIs_3 : decode cX9_debtIs 3 = .ok (.getfield 7, 3) := by decide +kernel
theorem dX9_debtIs_6 : decode cX9_debtIs 6 = .ok (.iconst 3, 1) := by decide +kernel
theorem dX9_debtIs_7 : decode cX9_debtIs 7 = .ok (.iaload, 1) := by decide +kernel
theorem dX9_debtIs_8 : decode cX9_debtIs 8 = .ok (.iconst 1, 1) := by decide +kernel
theorem dX9_debtIs_9 : decode cX9_debtIs 9 = .ok (.isub, 1) := by decide +kernel
theorem dX9_debtIs_10 : decode cX9_debtIs 10 = .ok (.invokestatic 59, 3) := by decide +kernel
theorem dX9_debtIs_13 : decode cX9_debtIs 13 = .ok (.ifCond .eq 12, 3) := by decide +kernel
theorem dX9_debtIs_16 : decode cX9_debtIs 16 = .ok (.iload_n 2, 1) := by decide +kernel
theorem dX9_debtIs_17 : decode cX9_debtIs 17 = .ok (.iconst 0, 1) := by decide +kernel
theorem dX9_debtIs_18 : decode cX9_debtIs 18 = .ok (.iconst 3, 1) := by decide +kernel
theorem dX9_debtIs_19 : decode cX9_debtIs 19 = .ok (.invokestatic 59, 3) := by decide +kernel
theorem dX9_debtIs_22 : decode cX9_debtIs 22 = .ok (.ifCond .ne 9, 3) := by decide +kernel
theorem dX9_debtIs_25 : decode cX9_debtIs 25 = .ok (.aload_n 0, 1) := by decide +kernel
theorem dX9_debtIs_26 : decode cX9_debtIs 26 = .ok (.iconst 1, 1) := by decide +kernel
theorem dX9_debtIs_27 : decode cX9_debtIs 27 = .ok (.invokevirtual 63, 3) := by decide +kernel
theorem dX9_debtIs_30 : decode cX9_debtIs 30 = .ok (.ireturn, 1) := by decide +kernel
theorem dX9_debtIs_31 : decode cX9_debtIs 31 = .ok (.aload_n 0, 1) := by decide +kernel
theorem dX9_debtIs_32 : decode cX9_debtIs 32 = .ok (.invokevirtual 159, 3) := by decide +kernel
theorem dX9_debtIs_35 : decode cX9_debtIs 35 = .ok (.iload_n 2, 1) := by decide +kernel
theorem dX9_debtIs_36 : decode cX9_debtIs 36 = .ok (.iconst 3, 1) := by decide +kernel
theorem dX9_debtIs_37 : decode cX9_debtIs 37 = .ok (.if_icmp .ne 19, 3) := by decide +kernel
theorem dX9_debtIs_40 : decode cX9_debtIs 40 = .ok (.aload_n 0, 1) := by decide +kernel
theorem dX9_debtIs_41 : decode cX9_debtIs 41 = .ok (.iload_n 1, 1) := by decide +kernel
theorem dX9_debtIs_42 : decode cX9_debtIs 42 = .ok (.invokevirtual 204, 3) := by decide +kernel
theorem dX9_debtIs_45 : decode cX9_debtIs 45 = .ok (.ifCond .eq 7, 3) := by decide +kernel
theorem dX9_debtIs_48 : decode cX9_debtIs 48 = .ok (.iconst 1, 1) := by decide +kernel
theorem dX9_debtIs_49 : decode cX9_debtIs 49 = .ok (.goto 13, 3) := by decide +kernel
theorem dX9_debtIs_52 : decode cX9_debtIs 52 = .ok (.iconst 0, 1) := by decide +kernel
theorem dX9_debtIs_53 : decode cX9_debtIs 53 = .ok (.goto 9, 3) := by decide +kernel
theorem dX9_debtIs_56 : decode cX9_debtIs 56 = .ok (.aload_n 0, 1) := by decide +kernel
theorem dX9_debtIs_57 : decode cX9_debtIs 57 = .ok (.iload_n 1, 1) := by decide +kernel
theorem dX9_debtIs_58 : decode cX9_debtIs 58 = .ok (.iload_n 2, 1) := by decide +kernel
theorem dX9_debtIs_59 : decode cX9_debtIs 59 = .ok (.invokevirtual 201, 3) := by decide +kernel
theorem dX9_debtIs_62 : decode cX9_debtIs 62 = .ok (.ireturn, 1) := by decide +kernel
theorem dX9_pay_0 : decode cX9_pay 0 = .ok (.iload_n 1, 1) := by decide +kernel
theorem dX9_pay_1 : decode cX9_pay 1 = .ok (.iconst 0, 1) := by decide +kernel
theorem dX9_pay_2 : decode cX9_pay 2 = .ok (.aload_n 0, 1) := by decide +kernel
theorem dX9_pay_3 : decode cX9_pay 3 = .ok (.getfield 7, 3) := by decide +kernel
theorem dX9_pay_6 : decode cX9_pay 6 = .ok (.iconst 3, 1) := by decide +kernel
theorem dX9_pay_7 : decode cX9_pay 7 = .ok (.iaload, 1) := by decide +kernel
theorem dX9_pay_8 : decode cX9_pay 8 = .ok (.iconst 1, 1) := by decide +kernel
theorem dX9_pay_9 : decode cX9_pay 9 = .ok (.isub, 1) := by decide +kernel
theorem dX9_pay_10 : decode cX9_pay 10 = .ok (.invokestatic 59, 3) := by decide +kernel
theorem dX9_pay_13 : decode cX9_pay 13 = .ok (.ifCond .ne 9, 3) := by decide +kernel
theorem dX9_pay_16 : decode cX9_pay 16 = .ok (.aload_n 0, 1) := by decide +kernel
theorem dX9_pay_17 : decode cX9_pay 17 = .ok (.iconst 1, 1) := by decide +kernel
theorem dX9_pay_18 : decode cX9_pay 18 = .ok (.invokevirtual 63, 3) := by decide +kernel
theorem dX9_pay_21 : decode cX9_pay 21 = .ok (.ireturn, 1) := by decide +kernel
theorem dX9_pay_22 : decode cX9_pay 22 = .ok (.aload_n 0, 1) := by decide +kernel
theorem dX9_pay_23 : decode cX9_pay 23 = .ok (.invokevirtual 159, 3) := by decide +kernel
theorem dX9_pay_26 : decode cX9_pay 26 = .ok (.aload_n 0, 1) := by decide +kernel
theorem dX9_pay_27 : decode cX9_pay 27 = .ok (.iload_n 1, 1) := by decide +kernel
theorem dX9_pay_28 : decode cX9_pay 28 = .ok (.iconst 0, 1) := by decide +kernel
theorem dX9_pay_29 : decode cX9_pay 29 = .ok (.invokevirtual 201, 3) := by decide +kernel
theorem dX9_pay_32 : decode cX9_pay 32 = .ok (.istore_n 2, 1) := by decide +kernel
theorem dX9_pay_33 : decode cX9_pay 33 = .ok (.aload_n 0, 1) := by decide +kernel
theorem dX9_pay_34 : decode cX9_pay 34 = .ok (.iload_n 1, 1) := by decide +kernel
theorem dX9_pay_35 : decode cX9_pay 35 = .ok (.iconst 1, 1) := by decide +kernel
theorem dX9_pay_36 : decode cX9_pay 36 = .ok (.invokevirtual 201, 3) := by decide +kernel
theorem dX9_pay_39 : decode cX9_pay 39 = .ok (.istore_n 3, 1) := by decide +kernel
theorem dX9_pay_40 : decode cX9_pay 40 = .ok (.aload_n 0, 1) := by decide +kernel
theorem dX9_pay_41 : decode cX9_pay 41 = .ok (.iload_n 1, 1) := by decide +kernel
theorem dX9_pay_42 : decode cX9_pay 42 = .ok (.invokevirtual 204, 3) := by decide +kernel
theorem dX9_pay_45 : decode cX9_pay 45 = .ok (.ifCond .eq 12, 3) := by decide +kernel
theorem dX9_pay_48 : decode cX9_pay 48 = .ok (.aload_n 0, 1) := by decide +kernel
theorem dX9_pay_49 : decode cX9_pay 49 = .ok (.iload_n 2, 1) := by decide +kernel
theorem dX9_pay_50 : decode cX9_pay 50 = .ok (.iconst 1, 1) := by decide +kernel
theorem dX9_pay_51 : decode cX9_pay 51 = .ok (.invokevirtual 162, 3) := by decide +kernel
theorem dX9_pay_54 : decode cX9_pay 54 = .ok (.ifCond .ne 9, 3) := by decide +kernel
theorem dX9_pay_57 : decode cX9_pay 57 = .ok (.aload_n 0, 1) := by decide +kernel
theorem dX9_pay_58 : decode cX9_pay 58 = .ok (.iconst 3, 1) := by decide +kernel
theorem dX9_pay_59 : decode cX9_pay 59 = .ok (.invokevirtual 63, 3) := by decide +kernel
theorem dX9_pay_62 : decode cX9_pay 62 = .ok (.ireturn, 1) := by decide +kernel
theorem dX9_pay_63 : decode cX9_pay 63 = .ok (.aload_n 0, 1) := by decide +kernel
theorem dX9_pay_64 : decode cX9_pay 64 = .ok (.iload_n 1, 1) := by decide +kernel
theorem dX9_pay_65 : decode cX9_pay 65 = .ok (.iconst 2, 1) := by decide +kernel
theorem dX9_pay_66 : decode cX9_pay 66 = .ok (.invokevirtual 201, 3) := by decide +kernel
theorem dX9_pay_69 : decode cX9_pay 69 = .ok (.aload_n 0, 1) := by decide +kernel
theorem dX9_pay_70 : decode cX9_pay 70 = .ok (.iload_n 2, 1) := by decide +kernel
theorem dX9_pay_71 : decode cX9_pay 71 = .ok (.iconst 1, 1) := by decide +kernel
theorem dX9_pay_72 : decode cX9_pay 72 = .ok (.invokevirtual 162, 3) := by decide +kernel
theorem dX9_pay_75 : decode cX9_pay 75 = .ok (.if_icmp .ge 12, 3) := by decide +kernel
theorem dX9_pay_78 : decode cX9_pay 78 = .ok (.aload_n 0, 1) := by decide +kernel
theorem dX9_pay_79 : decode cX9_pay 79 = .ok (.iload_n 1, 1) := by decide +kernel
theorem dX9_pay_80 : decode cX9_pay 80 = .ok (.iconst 2, 1) := by decide +kernel
theorem dX9_pay_81 : decode cX9_pay 81 = .ok (.invokevirtual 201, 3) := by decide +kernel
theorem dX9_pay_84 : decode cX9_pay 84 = .ok (.goto 9, 3) := by decide +kernel
theorem dX9_pay_87 : decode cX9_pay 87 = .ok (.aload_n 0, 1) := by decide +kernel
theorem dX9_pay_88 : decode cX9_pay 88 = .ok (.iload_n 2, 1) := by decide +kernel
theorem dX9_pay_89 : decode cX9_pay 89 = .ok (.iconst 1, 1) := by decide +kernel
theorem dX9_pay_90 : decode cX9_pay 90 = .ok (.invokevirtual 162, 3) := by decide +kernel
theorem dX9_pay_93 : decode cX9_pay 93 = .ok (.istore 4, 2) := by decide +kernel
theorem dX9_pay_95 : decode cX9_pay 95 = .ok (.aload_n 0, 1) := by decide +kernel
theorem dX9_pay_96 : decode cX9_pay 96 = .ok (.getfield 7, 3) := by decide +kernel
theorem dX9_pay_99 : decode cX9_pay 99 = .ok (.bipush 8, 2) := by decide +kernel
theorem dX9_pay_101 : decode cX9_pay 101 = .ok (.iconst 2, 1) := by decide +kernel
theorem dX9_pay_102 : decode cX9_pay 102 = .ok (.iload_n 2, 1) := by decide +kernel
theorem dX9_pay_103 : decode cX9_pay 103 = .ok (.imul, 1) := by decide +kernel
theorem dX9_pay_104 : decode cX9_pay 104 = .ok (.iadd, 1) := by decide +kernel
theorem dX9_pay_105 : decode cX9_pay 105 = .ok (.iconst 1, 1) := by decide +kernel
theorem dX9_pay_106 : decode cX9_pay 106 = .ok (.iadd, 1) := by decide +kernel
theorem dX9_pay_107 : decode cX9_pay 107 = .ok (.dup2, 1) := by decide +kernel
theorem dX9_pay_108 : decode cX9_pay 108 = .ok (.iaload, 1) := by decide +kernel
theorem dX9_pay_109 : decode cX9_pay 109 = .ok (.iload 4, 2) := by decide +kernel
theorem dX9_pay_111 : decode cX9_pay 111 = .ok (.isub, 1) := by decide +kernel
theorem dX9_pay_112 : decode cX9_pay 112 = .ok (.iastore, 1) := by decide +kernel
theorem dX9_pay_113 : decode cX9_pay 113 = .ok (.aload_n 0, 1) := by decide +kernel
theorem dX9_pay_114 : decode cX9_pay 114 = .ok (.getfield 7, 3) := by decide +kernel
theorem dX9_pay_117 : decode cX9_pay 117 = .ok (.bipush 8, 2) := by decide +kernel
theorem dX9_pay_119 : decode cX9_pay 119 = .ok (.iconst 2, 1) := by decide +kernel
theorem dX9_pay_120 : decode cX9_pay 120 = .ok (.iload_n 3, 1) := by decide +kernel
theorem dX9_pay_121 : decode cX9_pay 121 = .ok (.imul, 1) := by decide +kernel
theorem dX9_pay_122 : decode cX9_pay 122 = .ok (.iadd, 1) := by decide +kernel
theorem dX9_pay_123 : decode cX9_pay 123 = .ok (.iconst 1, 1) := by decide +kernel
theorem dX9_pay_124 : decode cX9_pay 124 = .ok (.iadd, 1) := by decide +kernel
theorem dX9_pay_125 : decode cX9_pay 125 = .ok (.aload_n 0, 1) := by decide +kernel
theorem dX9_pay_126 : decode cX9_pay 126 = .ok (.iload_n 3, 1) := by decide +kernel
theorem dX9_pay_127 : decode cX9_pay 127 = .ok (.iconst 1, 1) := by decide +kernel
theorem dX9_pay_128 : decode cX9_pay 128 = .ok (.invokevirtual 162, 3) := by decide +kernel
theorem dX9_pay_131 : decode cX9_pay 131 = .ok (.iload 4, 2) := by decide +kernel
theorem dX9_pay_133 : decode cX9_pay 133 = .ok (.iadd, 1) := by decide +kernel
theorem dX9_pay_134 : decode cX9_pay 134 = .ok (.iconst 0, 1) := by decide +kernel
theorem dX9_pay_135 : decode cX9_pay 135 = .ok (.sipush 9999, 3) := by decide +kernel
theorem dX9_pay_138 : decode cX9_pay 138 = .ok (.invokestatic 133, 3) := by decide +kernel
theorem dX9_pay_141 : decode cX9_pay 141 = .ok (.iastore, 1) := by decide +kernel
theorem dX9_pay_142 : decode cX9_pay 142 = .ok (.aload_n 0, 1) := by decide +kernel
theorem dX9_pay_143 : decode cX9_pay 143 = .ok (.getfield 7, 3) := by decide +kernel
theorem dX9_pay_146 : decode cX9_pay 146 = .ok (.bipush 76, 2) := by decide +kernel
theorem dX9_pay_148 : decode cX9_pay 148 = .ok (.iconst 3, 1) := by decide +kernel
theorem dX9_pay_149 : decode cX9_pay 149 = .ok (.iload_n 1, 1) := by decide +kernel
theorem dX9_pay_150 : decode cX9_pay 150 = .ok (.imul, 1) := by decide +kernel
theorem dX9_pay_151 : decode cX9_pay 151 = .ok (.iadd, 1) := by decide +kernel
theorem dX9_pay_152 : decode cX9_pay 152 = .ok (.iconst 2, 1) := by decide +kernel
theorem dX9_pay_153 : decode cX9_pay 153 = .ok (.iadd, 1) := by decide +kernel
theorem dX9_pay_154 : decode cX9_pay 154 = .ok (.dup2, 1) := by decide +kernel
theorem dX9_pay_155 : decode cX9_pay 155 = .ok (.iaload, 1) := by decide +kernel
theorem dX9_pay_156 : decode cX9_pay 156 = .ok (.iload 4, 2) := by decide +kernel
theorem dX9_pay_158 : decode cX9_pay 158 = .ok (.isub, 1) := by decide +kernel
theorem dX9_pay_159 : decode cX9_pay 159 = .ok (.iastore, 1) := by decide +kernel
theorem dX9_pay_160 : decode cX9_pay 160 = .ok (.aload_n 0, 1) := by decide +kernel
theorem dX9_pay_161 : decode cX9_pay 161 = .ok (.iload_n 1, 1) := by decide +kernel
theorem dX9_pay_162 : decode cX9_pay 162 = .ok (.iconst 2, 1) := by decide +kernel
theorem dX9_pay_163 : decode cX9_pay 163 = .ok (.invokevirtual 201, 3) := by decide +kernel
theorem dX9_pay_166 : decode cX9_pay 166 = .ok (.ifCond .ne 59, 3) := by decide +kernel
theorem dX9_pay_169 : decode cX9_pay 169 = .ok (.aload_n 0, 1) := by decide +kernel
theorem dX9_pay_170 : decode cX9_pay 170 = .ok (.getfield 7, 3) := by decide +kernel
theorem dX9_pay_173 : decode cX9_pay 173 = .ok (.iconst 3, 1) := by decide +kernel
theorem dX9_pay_174 : decode cX9_pay 174 = .ok (.dup2, 1) := by decide +kernel
theorem dX9_pay_175 : decode cX9_pay 175 = .ok (.iaload, 1) := by decide +kernel
theorem dX9_pay_176 : decode cX9_pay 176 = .ok (.iconst 1, 1) := by decide +kernel
theorem dX9_pay_177 : decode cX9_pay 177 = .ok (.isub, 1) := by decide +kernel
theorem dX9_pay_178 : decode cX9_pay 178 = .ok (.iastore, 1) := by decide +kernel
theorem dX9_pay_179 : decode cX9_pay 179 = .ok (.iconst 3, 1) := by decide +kernel
theorem dX9_pay_180 : decode cX9_pay 180 = .ok (.iload_n 1, 1) := by decide +kernel
theorem dX9_pay_181 : decode cX9_pay 181 = .ok (.imul, 1) := by decide +kernel
theorem dX9_pay_182 : decode cX9_pay 182 = .ok (.istore 5, 2) := by decide +kernel
theorem dX9_pay_184 : decode cX9_pay 184 = .ok (.iload 5, 2) := by decide +kernel
theorem dX9_pay_186 : decode cX9_pay 186 = .ok (.iconst 3, 1) := by decide +kernel
theorem dX9_pay_187 : decode cX9_pay 187 = .ok (.aload_n 0, 1) := by decide +kernel
theorem dX9_pay_188 : decode cX9_pay 188 = .ok (.getfield 7, 3) := by decide +kernel
theorem dX9_pay_191 : decode cX9_pay 191 = .ok (.iconst 3, 1) := by decide +kernel
theorem dX9_pay_192 : decode cX9_pay 192 = .ok (.iaload, 1) := by decide +kernel
theorem dX9_pay_193 : decode cX9_pay 193 = .ok (.imul, 1) := by decide +kernel
theorem dX9_pay_194 : decode cX9_pay 194 = .ok (.if_icmp .ge 31, 3) := by decide +kernel
theorem dX9_pay_197 : decode cX9_pay 197 = .ok (.aload_n 0, 1) := by decide +kernel
theorem dX9_pay_198 : decode cX9_pay 198 = .ok (.getfield 7, 3) := by decide +kernel
theorem dX9_pay_201 : decode cX9_pay 201 = .ok (.bipush 76, 2) := by decide +kernel
theorem dX9_pay_203 : decode cX9_pay 203 = .ok (.iload 5, 2) := by decide +kernel
theorem dX9_pay_205 : decode cX9_pay 205 = .ok (.iadd, 1) := by decide +kernel
theorem dX9_pay_206 : decode cX9_pay 206 = .ok (.aload_n 0, 1) := by decide +kernel
theorem dX9_pay_207 : decode cX9_pay 207 = .ok (.getfield 7, 3) := by decide +kernel
theorem dX9_pay_210 : decode cX9_pay 210 = .ok (.bipush 76, 2) := by decide +kernel
theorem dX9_pay_212 : decode cX9_pay 212 = .ok (.iload 5, 2) := by decide +kernel
theorem dX9_pay_214 : decode cX9_pay 214 = .ok (.iadd, 1) := by decide +kernel
theorem dX9_pay_215 : decode cX9_pay 215 = .ok (.iconst 3, 1) := by decide +kernel
theorem dX9_pay_216 : decode cX9_pay 216 = .ok (.iadd, 1) := by decide +kernel
theorem dX9_pay_217 : decode cX9_pay 217 = .ok (.iaload, 1) := by decide +kernel
theorem dX9_pay_218 : decode cX9_pay 218 = .ok (.iastore, 1) := by decide +kernel
theorem dX9_pay_219 : decode cX9_pay 219 = .ok (.iinc 5 1, 3) := by decide +kernel
theorem dX9_pay_222 : decode cX9_pay 222 = .ok (.goto (-38), 3) := by decide +kernel
theorem dX9_pay_225 : decode cX9_pay 225 = .ok (.iload 4, 2) := by decide +kernel
theorem dX9_pay_227 : decode cX9_pay 227 = .ok (.ireturn, 1) := by decide +kernel
theorem dX9_loses_0 : decode cX9_loses 0 = .ok (.aload_n 0, 1) := by decide +kernel
theorem dX9_loses_1 : decode cX9_loses 1 = .ok (.iload_n 1, 1) := by decide +kernel
theorem dX9_loses_2 : decode cX9_loses 2 = .ok (.invokevirtual 168, 3) := by decide +kernel
theorem dX9_loses_5 : decode cX9_loses 5 = .ok (.ifCond .eq 11, 3) := by decide +kernel
theorem dX9_loses_8 : decode cX9_loses 8 = .ok (.aload_n 0, 1) := by decide +kernel
theorem dX9_loses_9 : decode cX9_loses 9 = .ok (.iload_n 2, 1) := by decide +kernel
theorem dX9_loses_10 : decode cX9_loses 10 = .ok (.invokevirtual 156, 3) := by decide +kernel
theorem dX9_loses_13 : decode cX9_loses 13 = .ok (.ifCond .ne 9, 3) := by decide +kernel
theorem dX9_loses_16 : decode cX9_loses 16 = .ok (.aload_n 0, 1) := by decide +kernel
theorem dX9_loses_17 : decode cX9_loses 17 = .ok (.iconst 1, 1) := by decide +kernel
theorem dX9_loses_18 : decode cX9_loses 18 = .ok (.invokevirtual 63, 3) := by decide +kernel
theorem dX9_loses_21 : decode cX9_loses 21 = .ok (.ireturn, 1) := by decide +kernel
theorem dX9_loses_22 : decode cX9_loses 22 = .ok (.aload_n 0, 1) := by decide +kernel
theorem dX9_loses_23 : decode cX9_loses 23 = .ok (.iload_n 1, 1) := by decide +kernel
theorem dX9_loses_24 : decode cX9_loses 24 = .ok (.iload_n 2, 1) := by decide +kernel
theorem dX9_loses_25 : decode cX9_loses 25 = .ok (.invokevirtual 181, 3) := by decide +kernel
theorem dX9_loses_28 : decode cX9_loses 28 = .ok (.ifCond .ne 9, 3) := by decide +kernel
theorem dX9_loses_31 : decode cX9_loses 31 = .ok (.aload_n 0, 1) := by decide +kernel
theorem dX9_loses_32 : decode cX9_loses 32 = .ok (.iconst 3, 1) := by decide +kernel
theorem dX9_loses_33 : decode cX9_loses 33 = .ok (.invokevirtual 63, 3) := by decide +kernel
theorem dX9_loses_36 : decode cX9_loses 36 = .ok (.ireturn, 1) := by decide +kernel
theorem dX9_loses_37 : decode cX9_loses 37 = .ok (.aload_n 0, 1) := by decide +kernel
theorem dX9_loses_38 : decode cX9_loses 38 = .ok (.invokevirtual 207, 3) := by decide +kernel
theorem dX9_loses_41 : decode cX9_loses 41 = .ok (.istore_n 3, 1) := by decide +kernel
theorem dX9_loses_42 : decode cX9_loses 42 = .ok (.aload_n 0, 1) := by decide +kernel
theorem dX9_loses_43 : decode cX9_loses 43 = .ok (.iconst 0, 1) := by decide +kernel
theorem dX9_loses_44 : decode cX9_loses 44 = .ok (.invokevirtual 210, 3) := by decide +kernel
theorem dX9_loses_47 : decode cX9_loses 47 = .ok (.aload_n 0, 1) := by decide +kernel
theorem dX9_loses_48 : decode cX9_loses 48 = .ok (.iload_n 1, 1) := by decide +kernel
theorem dX9_loses_49 : decode cX9_loses 49 = .ok (.iload_n 2, 1) := by decide +kernel
theorem dX9_loses_50 : decode cX9_loses 50 = .ok (.invokevirtual 187, 3) := by decide +kernel
theorem dX9_loses_53 : decode cX9_loses 53 = .ok (.istore 4, 2) := by decide +kernel
theorem dX9_loses_55 : decode cX9_loses 55 = .ok (.aload_n 0, 1) := by decide +kernel
theorem dX9_loses_56 : decode cX9_loses 56 = .ok (.invokevirtual 207, 3) := by decide +kernel
theorem dX9_loses_59 : decode cX9_loses 59 = .ok (.istore 5, 2) := by decide +kernel
theorem dX9_loses_61 : decode cX9_loses 61 = .ok (.aload_n 0, 1) := by decide +kernel
theorem dX9_loses_62 : decode cX9_loses 62 = .ok (.iconst 0, 1) := by decide +kernel
theorem dX9_loses_63 : decode cX9_loses 63 = .ok (.invokevirtual 213, 3) := by decide +kernel
theorem dX9_loses_66 : decode cX9_loses 66 = .ok (.iload_n 3, 1) := by decide +kernel
theorem dX9_loses_67 : decode cX9_loses 67 = .ok (.iload 5, 2) := by decide +kernel
theorem dX9_loses_69 : decode cX9_loses 69 = .ok (.isub, 1) := by decide +kernel
theorem dX9_loses_70 : decode cX9_loses 70 = .ok (.ireturn, 1) := by decide +kernel
theorem dX9_estranges_0 : decode cX9_estranges 0 = .ok (.aload_n 0, 1) := by decide +kernel
theorem dX9_estranges_1 : decode cX9_estranges 1 = .ok (.iload_n 2, 1) := by decide +kernel
theorem dX9_estranges_2 : decode cX9_estranges 2 = .ok (.iload_n 1, 1) := by decide +kernel
theorem dX9_estranges_3 : decode cX9_estranges 3 = .ok (.invokevirtual 152, 3) := by decide +kernel
theorem dX9_estranges_6 : decode cX9_estranges 6 = .ok (.ifCond .ne 14, 3) := by decide +kernel
theorem dX9_estranges_9 : decode cX9_estranges 9 = .ok (.aload_n 0, 1) := by decide +kernel
theorem dX9_estranges_10 : decode cX9_estranges 10 = .ok (.iload_n 2, 1) := by decide +kernel
theorem dX9_estranges_11 : decode cX9_estranges 11 = .ok (.iload_n 1, 1) := by decide +kernel
theorem dX9_estranges_12 : decode cX9_estranges 12 = .ok (.invokevirtual 181, 3) := by decide +kernel
theorem dX9_estranges_15 : decode cX9_estranges 15 = .ok (.ifCond .eq 5, 3) := by decide +kernel
theorem dX9_estranges_18 : decode cX9_estranges 18 = .ok (.iconst 0, 1) := by decide +kernel
theorem dX9_estranges_19 : decode cX9_estranges 19 = .ok (.ireturn, 1) := by decide +kernel
theorem dX9_estranges_20 : decode cX9_estranges 20 = .ok (.iconst (-1), 1) := by decide +kernel
theorem dX9_estranges_21 : decode cX9_estranges 21 = .ok (.istore 5, 2) := by decide +kernel
theorem dX9_estranges_23 : decode cX9_estranges 23 = .ok (.aload_n 0, 1) := by decide +kernel
theorem dX9_estranges_24 : decode cX9_estranges 24 = .ok (.iload 4, 2) := by decide +kernel
theorem dX9_estranges_26 : decode cX9_estranges 26 = .ok (.invokevirtual 210, 3) := by decide +kernel
theorem dX9_estranges_29 : decode cX9_estranges 29 = .ok (.iconst 0, 1) := by decide +kernel
theorem dX9_estranges_30 : decode cX9_estranges 30 = .ok (.istore 6, 2) := by decide +kernel
theorem dX9_estranges_32 : decode cX9_estranges 32 = .ok (.iload 6, 2) := by decide +kernel
theorem dX9_estranges_34 : decode cX9_estranges 34 = .ok (.aload_n 0, 1) := by decide +kernel
theorem dX9_estranges_35 : decode cX9_estranges 35 = .ok (.getfield 7, 3) := by decide +kernel
theorem dX9_estranges_38 : decode cX9_estranges 38 = .ok (.iconst 0, 1) := by decide +kernel
theorem dX9_estranges_39 : decode cX9_estranges 39 = .ok (.iaload, 1) := by decide +kernel
theorem dX9_estranges_40 : decode cX9_estranges 40 = .ok (.if_icmp .ge 91, 3) := by decide +kernel
theorem dX9_estranges_43 : decode cX9_estranges 43 = .ok (.iload_n 3, 1) := by decide +kernel
theorem dX9_estranges_44 : decode cX9_estranges 44 = .ok (.ifCond .le 87, 3) := by decide +kernel
theorem dX9_estranges_47 : decode cX9_estranges 47 = .ok (.iload 6, 2) := by decide +kernel
theorem dX9_estranges_49 : decode cX9_estranges 49 = .ok (.iload_n 1, 1) := by decide +kernel
theorem dX9_estranges_50 : decode cX9_estranges 50 = .ok (.if_icmp .eq 75, 3) := by decide +kernel
theorem dX9_estranges_53 : decode cX9_estranges 53 = .ok (.aload_n 0, 1) := by decide +kernel
theorem dX9_estranges_54 : decode cX9_estranges 54 = .ok (.iload_n 2, 1) := by decide +kernel
theorem dX9_estranges_55 : decode cX9_estranges 55 = .ok (.iload 6, 2) := by decide +kernel
theorem dX9_estranges_57 : decode cX9_estranges 57 = .ok (.invokevirtual 181, 3) := by decide +kernel
theorem dX9_estranges_60 : decode cX9_estranges 60 = .ok (.ifCond .eq 65, 3) := by decide +kernel
theorem dX9_estranges_63 : decode cX9_estranges 63 = .ok (.aload_n 0, 1) := by decide +kernel
theorem dX9_estranges_64 : decode cX9_estranges 64 = .ok (.iload_n 2, 1) := by decide +kernel
theorem dX9_estranges_65 : decode cX9_estranges 65 = .ok (.iload 6, 2) := by decide +kernel
theorem dX9_estranges_67 : decode cX9_estranges 67 = .ok (.invokevirtual 187, 3) := by decide +kernel
theorem dX9_estranges_70 : decode cX9_estranges 70 = .ok (.istore 7, 2) := by decide +kernel
theorem dX9_estranges_72 : decode cX9_estranges 72 = .ok (.aload_n 0, 1) := by decide +kernel
theorem dX9_estranges_73 : decode cX9_estranges 73 = .ok (.iload_n 1, 1) := by decide +kernel
theorem dX9_estranges_74 : decode cX9_estranges 74 = .ok (.iload_n 2, 1) := by decide +kernel
theorem dX9_estranges_75 : decode cX9_estranges 75 = .ok (.iload_n 3, 1) := by decide +kernel
theorem dX9_estranges_76 : decode cX9_estranges 76 = .ok (.iconst 1, 1) := by decide +kernel
theorem dX9_estranges_77 : decode cX9_estranges 77 = .ok (.isub, 1) := by decide +kernel
theorem dX9_estranges_78 : decode cX9_estranges 78 = .ok (.iload 4, 2) := by decide +kernel
theorem dX9_estranges_80 : decode cX9_estranges 80 = .ok (.iconst 1, 1) := by decide +kernel
theorem dX9_estranges_81 : decode cX9_estranges 81 = .ok (.iadd, 1) := by decide +kernel
theorem dX9_estranges_82 : decode cX9_estranges 82 = .ok (.invokevirtual 216, 3) := by decide +kernel
theorem dX9_estranges_85 : decode cX9_estranges 85 = .ok (.istore 8, 2) := by decide +kernel
theorem dX9_estranges_87 : decode cX9_estranges 87 = .ok (.aload_n 0, 1) := by decide +kernel
theorem dX9_estranges_88 : decode cX9_estranges 88 = .ok (.iload 4, 2) := by decide +kernel
theorem dX9_estranges_90 : decode cX9_estranges 90 = .ok (.invokevirtual 213, 3) := by decide +kernel
theorem dX9_estranges_93 : decode cX9_estranges 93 = .ok (.iload 8, 2) := by decide +kernel
theorem dX9_estranges_95 : decode cX9_estranges 95 = .ok (.iconst (-1), 1) := by decide +kernel
theorem dX9_estranges_96 : decode cX9_estranges 96 = .ok (.if_icmp .eq 25, 3) := by decide +kernel
theorem dX9_estranges_99 : decode cX9_estranges 99 = .ok (.iload 5, 2) := by decide +kernel
theorem dX9_estranges_101 : decode cX9_estranges 101 = .ok (.iconst (-1), 1) := by decide +kernel
theorem dX9_estranges_102 : decode cX9_estranges 102 = .ok (.if_icmp .eq 12, 3) := by decide +kernel
theorem dX9_estranges_105 : decode cX9_estranges 105 = .ok (.iload 8, 2) := by decide +kernel
theorem dX9_estranges_107 : decode cX9_estranges 107 = .ok (.iconst 1, 1) := by decide +kernel
theorem dX9_estranges_108 : decode cX9_estranges 108 = .ok (.iadd, 1) := by decide +kernel
theorem dX9_estranges_109 : decode cX9_estranges 109 = .ok (.iload 5, 2) := by decide +kernel
theorem dX9_estranges_111 : decode cX9_estranges 111 = .ok (.if_icmp .ge 10, 3) := by decide +kernel
theorem dX9_estranges_114 : decode cX9_estranges 114 = .ok (.iload 8, 2) := by decide +kernel
theorem dX9_estranges_116 : decode cX9_estranges 116 = .ok (.iconst 1, 1) := by decide +kernel
theorem dX9_estranges_117 : decode cX9_estranges 117 = .ok (.iadd, 1) := by decide +kernel
theorem dX9_estranges_118 : decode cX9_estranges 118 = .ok (.goto 5, 3) := by decide +kernel
theorem dX9_estranges_121 : decode cX9_estranges 121 = .ok (.iload 5, 2) := by decide +kernel
theorem dX9_estranges_123 : decode cX9_estranges 123 = .ok (.istore 5, 2) := by decide +kernel
theorem dX9_estranges_125 : decode cX9_estranges 125 = .ok (.iinc 6 1, 3) := by decide +kernel
theorem dX9_estranges_128 : decode cX9_estranges 128 = .ok (.goto (-96), 3) := by decide +kernel
theorem dX9_estranges_131 : decode cX9_estranges 131 = .ok (.iload 5, 2) := by decide +kernel
theorem dX9_estranges_133 : decode cX9_estranges 133 = .ok (.ireturn, 1) := by decide +kernel
theorem dX9_stranger_0 : decode cX9_stranger 0 = .ok (.aload_n 0, 1) := by decide +kernel
theorem dX9_stranger_1 : decode cX9_stranger 1 = .ok (.iload_n 1, 1) := by decide +kernel
theorem dX9_stranger_2 : decode cX9_stranger 2 = .ok (.invokevirtual 156, 3) := by decide +kernel
theorem dX9_stranger_5 : decode cX9_stranger 5 = .ok (.ifCond .eq 20, 3) := by decide +kernel
theorem dX9_stranger_8 : decode cX9_stranger 8 = .ok (.aload_n 0, 1) := by decide +kernel
theorem dX9_stranger_9 : decode cX9_stranger 9 = .ok (.iload_n 2, 1) := by decide +kernel
theorem dX9_stranger_10 : decode cX9_stranger 10 = .ok (.invokevirtual 168, 3) := by decide +kernel
theorem dX9_stranger_13 : decode cX9_stranger 13 = .ok (.ifCond .eq 12, 3) := by decide +kernel
theorem dX9_stranger_16 : decode cX9_stranger 16 = .ok (.iload_n 3, 1) := by decide +kernel
theorem dX9_stranger_17 : decode cX9_stranger 17 = .ok (.iconst 0, 1) := by decide +kernel
theorem dX9_stranger_18 : decode cX9_stranger 18 = .ok (.iconst 4, 1) := by decide +kernel
theorem dX9_stranger_19 : decode cX9_stranger 19 = .ok (.invokestatic 59, 3) := by decide +kernel
theorem dX9_stranger_22 : decode cX9_stranger 22 = .ok (.ifCond .ne 9, 3) := by decide +kernel
theorem dX9_stranger_25 : decode cX9_stranger 25 = .ok (.aload_n 0, 1) := by decide +kernel
theorem dX9_stranger_26 : decode cX9_stranger 26 = .ok (.iconst 1, 1) := by decide +kernel
theorem dX9_stranger_27 : decode cX9_stranger 27 = .ok (.invokevirtual 63, 3) := by decide +kernel
theorem dX9_stranger_30 : decode cX9_stranger 30 = .ok (.ireturn, 1) := by decide +kernel
theorem dX9_stranger_31 : decode cX9_stranger 31 = .ok (.aload_n 0, 1) := by decide +kernel
theorem dX9_stranger_32 : decode cX9_stranger 32 = .ok (.iload_n 1, 1) := by decide +kernel
theorem dX9_stranger_33 : decode cX9_stranger 33 = .ok (.iload_n 2, 1) := by decide +kernel
theorem dX9_stranger_34 : decode cX9_stranger 34 = .ok (.iload_n 3, 1) := by decide +kernel
theorem dX9_stranger_35 : decode cX9_stranger 35 = .ok (.iconst 0, 1) := by decide +kernel
theorem dX9_stranger_36 : decode cX9_stranger 36 = .ok (.invokevirtual 216, 3) := by decide +kernel
theorem dX9_stranger_39 : decode cX9_stranger 39 = .ok (.istore 4, 2) := by decide +kernel
theorem dX9_stranger_41 : decode cX9_stranger 41 = .ok (.iload 4, 2) := by decide +kernel
theorem dX9_stranger_43 : decode cX9_stranger 43 = .ok (.iconst (-1), 1) := by decide +kernel
theorem dX9_stranger_44 : decode cX9_stranger 44 = .ok (.if_icmp .ne 11, 3) := by decide +kernel
theorem dX9_stranger_47 : decode cX9_stranger 47 = .ok (.aload_n 0, 1) := by decide +kernel
theorem dX9_stranger_48 : decode cX9_stranger 48 = .ok (.iconst 2, 1) := by decide +kernel
theorem dX9_stranger_49 : decode cX9_stranger 49 = .ok (.invokevirtual 63, 3) := by decide +kernel
theorem dX9_stranger_52 : decode cX9_stranger 52 = .ok (.goto 5, 3) := by decide +kernel
theorem dX9_stranger_55 : decode cX9_stranger 55 = .ok (.iload 4, 2) := by decide +kernel
theorem dX9_stranger_57 : decode cX9_stranger 57 = .ok (.ireturn, 1) := by decide +kernel
theorem dX9_ferries_0 : decode cX9_ferries 0 = .ok (.iload_n 2, 1) := by decide +kernel
theorem dX9_ferries_1 : decode cX9_ferries 1 = .ok (.iload_n 3, 1) := by decide +kernel
theorem dX9_ferries_2 : decode cX9_ferries 2 = .ok (.if_icmp .ne 80, 3) := by decide +kernel
theorem dX9_ferries_5 : decode cX9_ferries 5 = .ok (.iconst 0, 1) := by decide +kernel
theorem dX9_ferries_6 : decode cX9_ferries 6 = .ok (.istore 5, 2) := by decide +kernel
theorem dX9_ferries_8 : decode cX9_ferries 8 = .ok (.iload 5, 2) := by decide +kernel
theorem dX9_ferries_10 : decode cX9_ferries 10 = .ok (.iload_n 3, 1) := by decide +kernel
theorem dX9_ferries_11 : decode cX9_ferries 11 = .ok (.if_icmp .ge 40, 3) := by decide +kernel
theorem dX9_ferries_14 : decode cX9_ferries 14 = .ok (.aload_n 0, 1) := by decide +kernel
theorem dX9_ferries_15 : decode cX9_ferries 15 = .ok (.getfield 220, 3) := by decide +kernel
theorem dX9_ferries_18 : decode cX9_ferries 18 = .ok (.iconst (-1), 1) := by decide +kernel
theorem dX9_ferries_19 : decode cX9_ferries 19 = .ok (.if_icmp .eq 12, 3) := by decide +kernel
theorem dX9_ferries_22 : decode cX9_ferries 22 = .ok (.iload 4, 2) := by decide +kernel
theorem dX9_ferries_24 : decode cX9_ferries 24 = .ok (.aload_n 0, 1) := by decide +kernel
theorem dX9_ferries_25 : decode cX9_ferries 25 = .ok (.getfield 220, 3) := by decide +kernel
theorem dX9_ferries_28 : decode cX9_ferries 28 = .ok (.if_icmp .ge 23, 3) := by decide +kernel
theorem dX9_ferries_31 : decode cX9_ferries 31 = .ok (.aload_n 0, 1) := by decide +kernel
theorem dX9_ferries_32 : decode cX9_ferries 32 = .ok (.getfield 40, 3) := by decide +kernel
theorem dX9_ferries_35 : decode cX9_ferries 35 = .ok (.iload 5, 2) := by decide +kernel
theorem dX9_ferries_37 : decode cX9_ferries 37 = .ok (.aload_n 0, 1) := by decide +kernel
theorem dX9_ferries_38 : decode cX9_ferries 38 = .ok (.getfield 37, 3) := by decide +kernel
theorem dX9_ferries_41 : decode cX9_ferries 41 = .ok (.iload 5, 2) := by decide +kernel
theorem dX9_ferries_43 : decode cX9_ferries 43 = .ok (.iaload, 1) := by decide +kernel
theorem dX9_ferries_44 : decode cX9_ferries 44 = .ok (.iastore, 1) := by decide +kernel
theorem dX9_ferries_45 : decode cX9_ferries 45 = .ok (.iinc 5 1, 3) := by decide +kernel
theorem dX9_ferries_48 : decode cX9_ferries 48 = .ok (.goto (-40), 3) := by decide +kernel
theorem dX9_ferries_51 : decode cX9_ferries 51 = .ok (.aload_n 0, 1) := by decide +kernel
theorem dX9_ferries_52 : decode cX9_ferries 52 = .ok (.aload_n 0, 1) := by decide +kernel
theorem dX9_ferries_53 : decode cX9_ferries 53 = .ok (.getfield 220, 3) := by decide +kernel
theorem dX9_ferries_56 : decode cX9_ferries 56 = .ok (.iconst (-1), 1) := by decide +kernel
theorem dX9_ferries_57 : decode cX9_ferries 57 = .ok (.if_icmp .eq 12, 3) := by decide +kernel
theorem dX9_ferries_60 : decode cX9_ferries 60 = .ok (.iload 4, 2) := by decide +kernel
theorem dX9_ferries_62 : decode cX9_ferries 62 = .ok (.aload_n 0, 1) := by decide +kernel
theorem dX9_ferries_63 : decode cX9_ferries 63 = .ok (.getfield 220, 3) := by decide +kernel
theorem dX9_ferries_66 : decode cX9_ferries 66 = .ok (.if_icmp .ge 8, 3) := by decide +kernel
theorem dX9_ferries_69 : decode cX9_ferries 69 = .ok (.iload 4, 2) := by decide +kernel
theorem dX9_ferries_71 : decode cX9_ferries 71 = .ok (.goto 7, 3) := by decide +kernel
theorem dX9_ferries_74 : decode cX9_ferries 74 = .ok (.aload_n 0, 1) := by decide +kernel
theorem dX9_ferries_75 : decode cX9_ferries 75 = .ok (.getfield 220, 3) := by decide +kernel
theorem dX9_ferries_78 : decode cX9_ferries 78 = .ok (.putfield 220, 3) := by decide +kernel
theorem dX9_ferries_81 : decode cX9_ferries 81 = .ok (.return_, 1) := by decide +kernel
theorem dX9_ferries_82 : decode cX9_ferries 82 = .ok (.aload_n 0, 1) := by decide +kernel
theorem dX9_ferries_83 : decode cX9_ferries 83 = .ok (.iload_n 2, 1) := by decide +kernel
theorem dX9_ferries_84 : decode cX9_ferries 84 = .ok (.invokevirtual 210, 3) := by decide +kernel
theorem dX9_ferries_87 : decode cX9_ferries 87 = .ok (.iconst 0, 1) := by decide +kernel
theorem dX9_ferries_88 : decode cX9_ferries 88 = .ok (.istore 5, 2) := by decide +kernel
theorem dX9_ferries_90 : decode cX9_ferries 90 = .ok (.iload 5, 2) := by decide +kernel
theorem dX9_ferries_92 : decode cX9_ferries 92 = .ok (.aload_n 0, 1) := by decide +kernel
theorem dX9_ferries_93 : decode cX9_ferries 93 = .ok (.getfield 7, 3) := by decide +kernel
theorem dX9_ferries_96 : decode cX9_ferries 96 = .ok (.iconst 1, 1) := by decide +kernel
theorem dX9_ferries_97 : decode cX9_ferries 97 = .ok (.iaload, 1) := by decide +kernel
theorem dX9_ferries_98 : decode cX9_ferries 98 = .ok (.if_icmp .ge 55, 3) := by decide +kernel
theorem dX9_ferries_101 : decode cX9_ferries 101 = .ok (.aload_n 0, 1) := by decide +kernel
theorem dX9_ferries_102 : decode cX9_ferries 102 = .ok (.iload 5, 2) := by decide +kernel
theorem dX9_ferries_104 : decode cX9_ferries 104 = .ok (.iload_n 1, 1) := by decide +kernel
theorem dX9_ferries_105 : decode cX9_ferries 105 = .ok (.invokevirtual 181, 3) := by decide +kernel
theorem dX9_ferries_108 : decode cX9_ferries 108 = .ok (.ifCond .eq 39, 3) := by decide +kernel
theorem dX9_ferries_111 : decode cX9_ferries 111 = .ok (.aload_n 0, 1) := by decide +kernel
theorem dX9_ferries_112 : decode cX9_ferries 112 = .ok (.getfield 37, 3) := by decide +kernel
theorem dX9_ferries_115 : decode cX9_ferries 115 = .ok (.iload_n 2, 1) := by decide +kernel
theorem dX9_ferries_116 : decode cX9_ferries 116 = .ok (.iload 5, 2) := by decide +kernel
theorem dX9_ferries_118 : decode cX9_ferries 118 = .ok (.iastore, 1) := by decide +kernel
theorem dX9_ferries_119 : decode cX9_ferries 119 = .ok (.aload_n 0, 1) := by decide +kernel
theorem dX9_ferries_120 : decode cX9_ferries 120 = .ok (.iload 5, 2) := by decide +kernel
theorem dX9_ferries_122 : decode cX9_ferries 122 = .ok (.iload_n 1, 1) := by decide +kernel
theorem dX9_ferries_123 : decode cX9_ferries 123 = .ok (.invokevirtual 187, 3) := by decide +kernel
theorem dX9_ferries_126 : decode cX9_ferries 126 = .ok (.istore 6, 2) := by decide +kernel
theorem dX9_ferries_128 : decode cX9_ferries 128 = .ok (.aload_n 0, 1) := by decide +kernel
theorem dX9_ferries_129 : decode cX9_ferries 129 = .ok (.iload_n 1, 1) := by decide +kernel
theorem dX9_ferries_130 : decode cX9_ferries 130 = .ok (.iload_n 2, 1) := by decide +kernel
theorem dX9_ferries_131 : decode cX9_ferries 131 = .ok (.iconst 1, 1) := by decide +kernel
theorem dX9_ferries_132 : decode cX9_ferries 132 = .ok (.iadd, 1) := by decide +kernel
theorem dX9_ferries_133 : decode cX9_ferries 133 = .ok (.iload_n 3, 1) := by decide +kernel
theorem dX9_ferries_134 : decode cX9_ferries 134 = .ok (.iload 4, 2) := by decide +kernel
theorem dX9_ferries_136 : decode cX9_ferries 136 = .ok (.iload 6, 2) := by decide +kernel
theorem dX9_ferries_138 : decode cX9_ferries 138 = .ok (.iadd, 1) := by decide +kernel
theorem dX9_ferries_139 : decode cX9_ferries 139 = .ok (.invokevirtual 223, 3) := by decide +kernel
theorem dX9_ferries_142 : decode cX9_ferries 142 = .ok (.aload_n 0, 1) := by decide +kernel
theorem dX9_ferries_143 : decode cX9_ferries 143 = .ok (.iload_n 2, 1) := by decide +kernel
theorem dX9_ferries_144 : decode cX9_ferries 144 = .ok (.invokevirtual 213, 3) := by decide +kernel
theorem dX9_ferries_147 : decode cX9_ferries 147 = .ok (.iinc 5 1, 3) := by decide +kernel
theorem dX9_ferries_150 : decode cX9_ferries 150 = .ok (.goto (-60), 3) := by decide +kernel
theorem dX9_ferries_153 : decode cX9_ferries 153 = .ok (.return_, 1) := by decide +kernel
theorem dX9_way_0 : decode cX9_way 0 = .ok (.aload_n 0, 1) := by decide +kernel
theorem dX9_way_1 : decode cX9_way 1 = .ok (.iload_n 1, 1) := by decide +kernel
theorem dX9_way_2 : decode cX9_way 2 = .ok (.invokevirtual 156, 3) := by decide +kernel
theorem dX9_way_5 : decode cX9_way 5 = .ok (.ifCond .eq 24, 3) := by decide +kernel
theorem dX9_way_8 : decode cX9_way 8 = .ok (.iload_n 2, 1) := by decide +kernel
theorem dX9_way_9 : decode cX9_way 9 = .ok (.iconst 0, 1) := by decide +kernel
theorem dX9_way_10 : decode cX9_way 10 = .ok (.bipush 6, 2) := by decide +kernel
theorem dX9_way_12 : decode cX9_way 12 = .ok (.invokestatic 59, 3) := by decide +kernel
theorem dX9_way_15 : decode cX9_way 15 = .ok (.ifCond .eq 14, 3) := by decide +kernel
theorem dX9_way_18 : decode cX9_way 18 = .ok (.iload_n 3, 1) := by decide +kernel
theorem dX9_way_19 : decode cX9_way 19 = .ok (.iconst (-1), 1) := by decide +kernel
theorem dX9_way_20 : decode cX9_way 20 = .ok (.iload_n 2, 1) := by decide +kernel
theorem dX9_way_21 : decode cX9_way 21 = .ok (.iconst 1, 1) := by decide +kernel
theorem dX9_way_22 : decode cX9_way 22 = .ok (.isub, 1) := by decide +kernel
theorem dX9_way_23 : decode cX9_way 23 = .ok (.invokestatic 59, 3) := by decide +kernel
theorem dX9_way_26 : decode cX9_way 26 = .ok (.ifCond .ne 9, 3) := by decide +kernel
theorem dX9_way_29 : decode cX9_way 29 = .ok (.aload_n 0, 1) := by decide +kernel
theorem dX9_way_30 : decode cX9_way 30 = .ok (.iconst 1, 1) := by decide +kernel
theorem dX9_way_31 : decode cX9_way 31 = .ok (.invokevirtual 63, 3) := by decide +kernel
theorem dX9_way_34 : decode cX9_way 34 = .ok (.ireturn, 1) := by decide +kernel
theorem dX9_way_35 : decode cX9_way 35 = .ok (.aload_n 0, 1) := by decide +kernel
theorem dX9_way_36 : decode cX9_way 36 = .ok (.iconst (-1), 1) := by decide +kernel
theorem dX9_way_37 : decode cX9_way 37 = .ok (.putfield 220, 3) := by decide +kernel
theorem dX9_way_40 : decode cX9_way 40 = .ok (.aload_n 0, 1) := by decide +kernel
theorem dX9_way_41 : decode cX9_way 41 = .ok (.iload_n 1, 1) := by decide +kernel
theorem dX9_way_42 : decode cX9_way 42 = .ok (.iconst 1, 1) := by decide +kernel
theorem dX9_way_43 : decode cX9_way 43 = .ok (.invokevirtual 162, 3) := by decide +kernel
theorem dX9_way_46 : decode cX9_way 46 = .ok (.istore 4, 2) := by decide +kernel
theorem dX9_way_48 : decode cX9_way 48 = .ok (.aload_n 0, 1) := by decide +kernel
theorem dX9_way_49 : decode cX9_way 49 = .ok (.getfield 7, 3) := by decide +kernel
theorem dX9_way_52 : decode cX9_way 52 = .ok (.bipush 8, 2) := by decide +kernel
theorem dX9_way_54 : decode cX9_way 54 = .ok (.iconst 2, 1) := by decide +kernel
theorem dX9_way_55 : decode cX9_way 55 = .ok (.iload_n 1, 1) := by decide +kernel
theorem dX9_way_56 : decode cX9_way 56 = .ok (.imul, 1) := by decide +kernel
theorem dX9_way_57 : decode cX9_way 57 = .ok (.iadd, 1) := by decide +kernel
theorem dX9_way_58 : decode cX9_way 58 = .ok (.iconst 1, 1) := by decide +kernel
theorem dX9_way_59 : decode cX9_way 59 = .ok (.iadd, 1) := by decide +kernel
theorem dX9_way_60 : decode cX9_way 60 = .ok (.sipush 9999, 3) := by decide +kernel
theorem dX9_way_63 : decode cX9_way 63 = .ok (.iastore, 1) := by decide +kernel
theorem dX9_way_64 : decode cX9_way 64 = .ok (.aload_n 0, 1) := by decide +kernel
theorem dX9_way_65 : decode cX9_way 65 = .ok (.iload_n 1, 1) := by decide +kernel
theorem dX9_way_66 : decode cX9_way 66 = .ok (.iconst 0, 1) := by decide +kernel
theorem dX9_way_67 : decode cX9_way 67 = .ok (.iload_n 2, 1) := by decide +kernel
theorem dX9_way_68 : decode cX9_way 68 = .ok (.iconst 0, 1) := by decide +kernel
theorem dX9_way_69 : decode cX9_way 69 = .ok (.invokevirtual 223, 3) := by decide +kernel
theorem dX9_way_72 : decode cX9_way 72 = .ok (.aload_n 0, 1) := by decide +kernel
theorem dX9_way_73 : decode cX9_way 73 = .ok (.getfield 7, 3) := by decide +kernel
theorem dX9_way_76 : decode cX9_way 76 = .ok (.bipush 8, 2) := by decide +kernel
theorem dX9_way_78 : decode cX9_way 78 = .ok (.iconst 2, 1) := by decide +kernel
theorem dX9_way_79 : decode cX9_way 79 = .ok (.iload_n 1, 1) := by decide +kernel
theorem dX9_way_80 : decode cX9_way 80 = .ok (.imul, 1) := by decide +kernel
theorem dX9_way_81 : decode cX9_way 81 = .ok (.iadd, 1) := by decide +kernel
theorem dX9_way_82 : decode cX9_way 82 = .ok (.iconst 1, 1) := by decide +kernel
theorem dX9_way_83 : decode cX9_way 83 = .ok (.iadd, 1) := by decide +kernel
theorem dX9_way_84 : decode cX9_way 84 = .ok (.iload 4, 2) := by decide +kernel
theorem dX9_way_86 : decode cX9_way 86 = .ok (.iastore, 1) := by decide +kernel
theorem dX9_way_87 : decode cX9_way 87 = .ok (.aload_n 0, 1) := by decide +kernel
theorem dX9_way_88 : decode cX9_way 88 = .ok (.getfield 220, 3) := by decide +kernel
theorem dX9_way_91 : decode cX9_way 91 = .ok (.iconst (-1), 1) := by decide +kernel
theorem dX9_way_92 : decode cX9_way 92 = .ok (.if_icmp .ne 11, 3) := by decide +kernel
theorem dX9_way_95 : decode cX9_way 95 = .ok (.aload_n 0, 1) := by decide +kernel
theorem dX9_way_96 : decode cX9_way 96 = .ok (.iconst 2, 1) := by decide +kernel
theorem dX9_way_97 : decode cX9_way 97 = .ok (.invokevirtual 63, 3) := by decide +kernel
theorem dX9_way_100 : decode cX9_way 100 = .ok (.goto 21, 3) := by decide +kernel
theorem dX9_way_103 : decode cX9_way 103 = .ok (.iload_n 3, 1) := by decide +kernel
theorem dX9_way_104 : decode cX9_way 104 = .ok (.iconst (-1), 1) := by decide +kernel
theorem dX9_way_105 : decode cX9_way 105 = .ok (.if_icmp .ne 10, 3) := by decide +kernel
theorem dX9_way_108 : decode cX9_way 108 = .ok (.aload_n 0, 1) := by decide +kernel
theorem dX9_way_109 : decode cX9_way 109 = .ok (.getfield 220, 3) := by decide +kernel
theorem dX9_way_112 : decode cX9_way 112 = .ok (.goto 9, 3) := by decide +kernel
theorem dX9_way_115 : decode cX9_way 115 = .ok (.aload_n 0, 1) := by decide +kernel
theorem dX9_way_116 : decode cX9_way 116 = .ok (.getfield 40, 3) := by decide +kernel
theorem dX9_way_119 : decode cX9_way 119 = .ok (.iload_n 3, 1) := by decide +kernel
theorem dX9_way_120 : decode cX9_way 120 = .ok (.iaload, 1) := by decide +kernel
theorem dX9_way_121 : decode cX9_way 121 = .ok (.ireturn, 1) := by decide +kernel
theorem dX9_memory_0 : decode cX9_memory 0 = .ok (.aload_n 0, 1) := by decide +kernel
theorem dX9_memory_1 : decode cX9_memory 1 = .ok (.iload_n 1, 1) := by decide +kernel
theorem dX9_memory_2 : decode cX9_memory 2 = .ok (.invokevirtual 168, 3) := by decide +kernel
theorem dX9_memory_5 : decode cX9_memory 5 = .ok (.ifCond .eq 11, 3) := by decide +kernel
theorem dX9_memory_8 : decode cX9_memory 8 = .ok (.aload_n 0, 1) := by decide +kernel
theorem dX9_memory_9 : decode cX9_memory 9 = .ok (.iload_n 2, 1) := by decide +kernel
theorem dX9_memory_10 : decode cX9_memory 10 = .ok (.invokevirtual 156, 3) := by decide +kernel
theorem dX9_memory_13 : decode cX9_memory 13 = .ok (.ifCond .ne 9, 3) := by decide +kernel
theorem dX9_memory_16 : decode cX9_memory 16 = .ok (.aload_n 0, 1) := by decide +kernel
theorem dX9_memory_17 : decode cX9_memory 17 = .ok (.iconst 1, 1) := by decide +kernel
theorem dX9_memory_18 : decode cX9_memory 18 = .ok (.invokevirtual 63, 3) := by decide +kernel
theorem dX9_memory_21 : decode cX9_memory 21 = .ok (.ireturn, 1) := by decide +kernel
theorem dX9_memory_22 : decode cX9_memory 22 = .ok (.iconst 0, 1) := by decide +kernel
theorem dX9_memory_23 : decode cX9_memory 23 = .ok (.istore_n 3, 1) := by decide +kernel
theorem dX9_memory_24 : decode cX9_memory 24 = .ok (.iconst 0, 1) := by decide +kernel
theorem dX9_memory_25 : decode cX9_memory 25 = .ok (.istore 4, 2) := by decide +kernel
theorem dX9_memory_27 : decode cX9_memory 27 = .ok (.iconst 0, 1) := by decide +kernel
theorem dX9_memory_28 : decode cX9_memory 28 = .ok (.istore 5, 2) := by decide +kernel
theorem dX9_memory_30 : decode cX9_memory 30 = .ok (.iload 5, 2) := by decide +kernel
theorem dX9_memory_32 : decode cX9_memory 32 = .ok (.aload_n 0, 1) := by decide +kernel
theorem dX9_memory_33 : decode cX9_memory 33 = .ok (.getfield 7, 3) := by decide +kernel
theorem dX9_memory_36 : decode cX9_memory 36 = .ok (.iconst 4, 1) := by decide +kernel
theorem dX9_memory_37 : decode cX9_memory 37 = .ok (.iaload, 1) := by decide +kernel
theorem dX9_memory_38 : decode cX9_memory 38 = .ok (.if_icmp .ge 69, 3) := by decide +kernel
theorem dX9_memory_41 : decode cX9_memory 41 = .ok (.aload_n 0, 1) := by decide +kernel
theorem dX9_memory_42 : decode cX9_memory 42 = .ok (.getfield 7, 3) := by decide +kernel
theorem dX9_memory_45 : decode cX9_memory 45 = .ok (.bipush 100, 2) := by decide +kernel
theorem dX9_memory_47 : decode cX9_memory 47 = .ok (.iload 5, 2) := by decide +kernel
theorem dX9_memory_49 : decode cX9_memory 49 = .ok (.iadd, 1) := by decide +kernel
theorem dX9_memory_50 : decode cX9_memory 50 = .ok (.iaload, 1) := by decide +kernel
theorem dX9_memory_51 : decode cX9_memory 51 = .ok (.bipush 10, 2) := by decide +kernel
theorem dX9_memory_53 : decode cX9_memory 53 = .ok (.irem, 1) := by decide +kernel
theorem dX9_memory_54 : decode cX9_memory 54 = .ok (.istore 6, 2) := by decide +kernel
theorem dX9_memory_56 : decode cX9_memory 56 = .ok (.aload_n 0, 1) := by decide +kernel
theorem dX9_memory_57 : decode cX9_memory 57 = .ok (.getfield 7, 3) := by decide +kernel
theorem dX9_memory_60 : decode cX9_memory 60 = .ok (.bipush 100, 2) := by decide +kernel
theorem dX9_memory_62 : decode cX9_memory 62 = .ok (.iload 5, 2) := by decide +kernel
theorem dX9_memory_64 : decode cX9_memory 64 = .ok (.iadd, 1) := by decide +kernel
theorem dX9_memory_65 : decode cX9_memory 65 = .ok (.iaload, 1) := by decide +kernel
theorem dX9_memory_66 : decode cX9_memory 66 = .ok (.bipush 10, 2) := by decide +kernel
theorem dX9_memory_68 : decode cX9_memory 68 = .ok (.idiv, 1) := by decide +kernel
theorem dX9_memory_69 : decode cX9_memory 69 = .ok (.iload_n 1, 1) := by decide +kernel
theorem dX9_memory_70 : decode cX9_memory 70 = .ok (.if_icmp .ne 31, 3) := by decide +kernel
theorem dX9_memory_73 : decode cX9_memory 73 = .ok (.iload_n 3, 1) := by decide +kernel
theorem dX9_memory_74 : decode cX9_memory 74 = .ok (.iload 6, 2) := by decide +kernel
theorem dX9_memory_76 : decode cX9_memory 76 = .ok (.ishr, 1) := by decide +kernel
theorem dX9_memory_77 : decode cX9_memory 77 = .ok (.iconst 1, 1) := by decide +kernel
theorem dX9_memory_78 : decode cX9_memory 78 = .ok (.iand, 1) := by decide +kernel
theorem dX9_memory_79 : decode cX9_memory 79 = .ok (.ifCond .ne 22, 3) := by decide +kernel
theorem dX9_memory_82 : decode cX9_memory 82 = .ok (.iload_n 3, 1) := by decide +kernel
theorem dX9_memory_83 : decode cX9_memory 83 = .ok (.iconst 1, 1) := by decide +kernel
theorem dX9_memory_84 : decode cX9_memory 84 = .ok (.iload 6, 2) := by decide +kernel
theorem dX9_memory_86 : decode cX9_memory 86 = .ok (.ishl, 1) := by decide +kernel
theorem dX9_memory_87 : decode cX9_memory 87 = .ok (.ior, 1) := by decide +kernel
theorem dX9_memory_88 : decode cX9_memory 88 = .ok (.istore_n 3, 1) := by decide +kernel
theorem dX9_memory_89 : decode cX9_memory 89 = .ok (.iinc 4 1, 3) := by decide +kernel
theorem dX9_memory_92 : decode cX9_memory 92 = .ok (.iload 6, 2) := by decide +kernel
theorem dX9_memory_94 : decode cX9_memory 94 = .ok (.iload_n 2, 1) := by decide +kernel
theorem dX9_memory_95 : decode cX9_memory 95 = .ok (.if_icmp .ne 6, 3) := by decide +kernel
theorem dX9_memory_98 : decode cX9_memory 98 = .ok (.iload 4, 2) := by decide +kernel
theorem dX9_memory_100 : decode cX9_memory 100 = .ok (.ireturn, 1) := by decide +kernel
theorem dX9_memory_101 : decode cX9_memory 101 = .ok (.iinc 5 1, 3) := by decide +kernel
theorem dX9_memory_104 : decode cX9_memory 104 = .ok (.goto (-74), 3) := by decide +kernel
theorem dX9_memory_107 : decode cX9_memory 107 = .ok (.aload_n 0, 1) := by decide +kernel
theorem dX9_memory_108 : decode cX9_memory 108 = .ok (.iconst 2, 1) := by decide +kernel
theorem dX9_memory_109 : decode cX9_memory 109 = .ok (.invokevirtual 63, 3) := by decide +kernel
theorem dX9_memory_112 : decode cX9_memory 112 = .ok (.ireturn, 1) := by decide +kernel
theorem dX9_hearsay_0 : decode cX9_hearsay 0 = .ok (.aload_n 0, 1) := by decide +kernel
theorem dX9_hearsay_1 : decode cX9_hearsay 1 = .ok (.iload_n 1, 1) := by decide +kernel
theorem dX9_hearsay_2 : decode cX9_hearsay 2 = .ok (.invokevirtual 168, 3) := by decide +kernel
theorem dX9_hearsay_5 : decode cX9_hearsay 5 = .ok (.ifCond .eq 11, 3) := by decide +kernel
theorem dX9_hearsay_8 : decode cX9_hearsay 8 = .ok (.aload_n 0, 1) := by decide +kernel
theorem dX9_hearsay_9 : decode cX9_hearsay 9 = .ok (.iload_n 2, 1) := by decide +kernel
theorem dX9_hearsay_10 : decode cX9_hearsay 10 = .ok (.invokevirtual 156, 3) := by decide +kernel
theorem dX9_hearsay_13 : decode cX9_hearsay 13 = .ok (.ifCond .ne 9, 3) := by decide +kernel
theorem dX9_hearsay_16 : decode cX9_hearsay 16 = .ok (.aload_n 0, 1) := by decide +kernel
theorem dX9_hearsay_17 : decode cX9_hearsay 17 = .ok (.iconst 1, 1) := by decide +kernel
theorem dX9_hearsay_18 : decode cX9_hearsay 18 = .ok (.invokevirtual 63, 3) := by decide +kernel
theorem dX9_hearsay_21 : decode cX9_hearsay 21 = .ok (.ireturn, 1) := by decide +kernel
theorem dX9_hearsay_22 : decode cX9_hearsay 22 = .ok (.aload_n 0, 1) := by decide +kernel
theorem dX9_hearsay_23 : decode cX9_hearsay 23 = .ok (.iload_n 1, 1) := by decide +kernel
theorem dX9_hearsay_24 : decode cX9_hearsay 24 = .ok (.iload_n 2, 1) := by decide +kernel
theorem dX9_hearsay_25 : decode cX9_hearsay 25 = .ok (.invokevirtual 181, 3) := by decide +kernel
theorem dX9_hearsay_28 : decode cX9_hearsay 28 = .ok (.ifCond .ne 9, 3) := by decide +kernel
theorem dX9_hearsay_31 : decode cX9_hearsay 31 = .ok (.aload_n 0, 1) := by decide +kernel
theorem dX9_hearsay_32 : decode cX9_hearsay 32 = .ok (.iconst 3, 1) := by decide +kernel
theorem dX9_hearsay_33 : decode cX9_hearsay 33 = .ok (.invokevirtual 63, 3) := by decide +kernel
theorem dX9_hearsay_36 : decode cX9_hearsay 36 = .ok (.ireturn, 1) := by decide +kernel
theorem dX9_hearsay_37 : decode cX9_hearsay 37 = .ok (.aload_n 0, 1) := by decide +kernel
theorem dX9_hearsay_38 : decode cX9_hearsay 38 = .ok (.iconst 0, 1) := by decide +kernel
theorem dX9_hearsay_39 : decode cX9_hearsay 39 = .ok (.invokevirtual 210, 3) := by decide +kernel
theorem dX9_hearsay_42 : decode cX9_hearsay 42 = .ok (.aload_n 0, 1) := by decide +kernel
theorem dX9_hearsay_43 : decode cX9_hearsay 43 = .ok (.iload_n 1, 1) := by decide +kernel
theorem dX9_hearsay_44 : decode cX9_hearsay 44 = .ok (.iload_n 2, 1) := by decide +kernel
theorem dX9_hearsay_45 : decode cX9_hearsay 45 = .ok (.invokevirtual 187, 3) := by decide +kernel
theorem dX9_hearsay_48 : decode cX9_hearsay 48 = .ok (.istore_n 3, 1) := by decide +kernel
theorem dX9_hearsay_49 : decode cX9_hearsay 49 = .ok (.iconst 0, 1) := by decide +kernel
theorem dX9_hearsay_50 : decode cX9_hearsay 50 = .ok (.istore 4, 2) := by decide +kernel
theorem dX9_hearsay_52 : decode cX9_hearsay 52 = .ok (.iconst 0, 1) := by decide +kernel
theorem dX9_hearsay_53 : decode cX9_hearsay 53 = .ok (.istore 5, 2) := by decide +kernel
theorem dX9_hearsay_55 : decode cX9_hearsay 55 = .ok (.iload 5, 2) := by decide +kernel
theorem dX9_hearsay_57 : decode cX9_hearsay 57 = .ok (.aload_n 0, 1) := by decide +kernel
theorem dX9_hearsay_58 : decode cX9_hearsay 58 = .ok (.getfield 7, 3) := by decide +kernel
theorem dX9_hearsay_61 : decode cX9_hearsay 61 = .ok (.iconst 1, 1) := by decide +kernel
theorem dX9_hearsay_62 : decode cX9_hearsay 62 = .ok (.iaload, 1) := by decide +kernel
theorem dX9_hearsay_63 : decode cX9_hearsay 63 = .ok (.if_icmp .ge 32, 3) := by decide +kernel
theorem dX9_hearsay_66 : decode cX9_hearsay 66 = .ok (.iload 4, 2) := by decide +kernel
theorem dX9_hearsay_68 : decode cX9_hearsay 68 = .ok (.aload_n 0, 1) := by decide +kernel
theorem dX9_hearsay_69 : decode cX9_hearsay 69 = .ok (.iload 5, 2) := by decide +kernel
theorem dX9_hearsay_71 : decode cX9_hearsay 71 = .ok (.iload_n 2, 1) := by decide +kernel
theorem dX9_hearsay_72 : decode cX9_hearsay 72 = .ok (.invokevirtual 152, 3) := by decide +kernel
theorem dX9_hearsay_75 : decode cX9_hearsay 75 = .ok (.ifCond .eq 10, 3) := by decide +kernel
theorem dX9_hearsay_78 : decode cX9_hearsay 78 = .ok (.iconst 1, 1) := by decide +kernel
theorem dX9_hearsay_79 : decode cX9_hearsay 79 = .ok (.iload 5, 2) := by decide +kernel
theorem dX9_hearsay_81 : decode cX9_hearsay 81 = .ok (.ishl, 1) := by decide +kernel
theorem dX9_hearsay_82 : decode cX9_hearsay 82 = .ok (.goto 4, 3) := by decide +kernel
theorem dX9_hearsay_85 : decode cX9_hearsay 85 = .ok (.iconst 0, 1) := by decide +kernel
theorem dX9_hearsay_86 : decode cX9_hearsay 86 = .ok (.ior, 1) := by decide +kernel
theorem dX9_hearsay_87 : decode cX9_hearsay 87 = .ok (.istore 4, 2) := by decide +kernel
theorem dX9_hearsay_89 : decode cX9_hearsay 89 = .ok (.iinc 5 1, 3) := by decide +kernel
theorem dX9_hearsay_92 : decode cX9_hearsay 92 = .ok (.goto (-37), 3) := by decide +kernel
theorem dX9_hearsay_95 : decode cX9_hearsay 95 = .ok (.aload_n 0, 1) := by decide +kernel
theorem dX9_hearsay_96 : decode cX9_hearsay 96 = .ok (.iconst 0, 1) := by decide +kernel
theorem dX9_hearsay_97 : decode cX9_hearsay 97 = .ok (.invokevirtual 213, 3) := by decide +kernel
theorem dX9_hearsay_100 : decode cX9_hearsay 100 = .ok (.iload 4, 2) := by decide +kernel
theorem dX9_hearsay_102 : decode cX9_hearsay 102 = .ok (.ireturn, 1) := by decide +kernel
theorem dX9_areAsPut_0 : decode cX9_areAsPut 0 = .ok (.aload_n 0, 1) := by decide +kernel
theorem dX9_areAsPut_1 : decode cX9_areAsPut 1 = .ok (.getfield 7, 3) := by decide +kernel
theorem dX9_areAsPut_4 : decode cX9_areAsPut 4 = .ok (.iconst 1, 1) := by decide +kernel
theorem dX9_areAsPut_5 : decode cX9_areAsPut 5 = .ok (.iaload, 1) := by decide +kernel
theorem dX9_areAsPut_6 : decode cX9_areAsPut 6 = .ok (.aload_n 0, 1) := by decide +kernel
theorem dX9_areAsPut_7 : decode cX9_areAsPut 7 = .ok (.getfield 16, 3) := by decide +kernel
theorem dX9_areAsPut_10 : decode cX9_areAsPut 10 = .ok (.iconst 1, 1) := by decide +kernel
theorem dX9_areAsPut_11 : decode cX9_areAsPut 11 = .ok (.iaload, 1) := by decide +kernel
theorem dX9_areAsPut_12 : decode cX9_areAsPut 12 = .ok (.if_icmp .ne 7, 3) := by decide +kernel
theorem dX9_areAsPut_15 : decode cX9_areAsPut 15 = .ok (.iconst 1, 1) := by decide +kernel
theorem dX9_areAsPut_16 : decode cX9_areAsPut 16 = .ok (.goto 4, 3) := by decide +kernel
theorem dX9_areAsPut_19 : decode cX9_areAsPut 19 = .ok (.iconst 0, 1) := by decide +kernel
theorem dX9_areAsPut_20 : decode cX9_areAsPut 20 = .ok (.istore_n 1, 1) := by decide +kernel
theorem dX9_areAsPut_21 : decode cX9_areAsPut 21 = .ok (.iconst 0, 1) := by decide +kernel
theorem dX9_areAsPut_22 : decode cX9_areAsPut 22 = .ok (.istore_n 2, 1) := by decide +kernel
theorem dX9_areAsPut_23 : decode cX9_areAsPut 23 = .ok (.iload_n 2, 1) := by decide +kernel
theorem dX9_areAsPut_24 : decode cX9_areAsPut 24 = .ok (.aload_n 0, 1) := by decide +kernel
theorem dX9_areAsPut_25 : decode cX9_areAsPut 25 = .ok (.getfield 7, 3) := by decide +kernel
theorem dX9_areAsPut_28 : decode cX9_areAsPut 28 = .ok (.iconst 1, 1) := by decide +kernel
theorem dX9_areAsPut_29 : decode cX9_areAsPut 29 = .ok (.iaload, 1) := by decide +kernel
theorem dX9_areAsPut_30 : decode cX9_areAsPut 30 = .ok (.if_icmp .ge 97, 3) := by decide +kernel
theorem dX9_areAsPut_33 : decode cX9_areAsPut 33 = .ok (.iload_n 1, 1) := by decide +kernel
theorem dX9_areAsPut_34 : decode cX9_areAsPut 34 = .ok (.ifCond .eq 93, 3) := by decide +kernel
theorem dX9_areAsPut_37 : decode cX9_areAsPut 37 = .ok (.aload_n 0, 1) := by decide +kernel
theorem dX9_areAsPut_38 : decode cX9_areAsPut 38 = .ok (.iload_n 2, 1) := by decide +kernel
theorem dX9_areAsPut_39 : decode cX9_areAsPut 39 = .ok (.iconst 4, 1) := by decide +kernel
theorem dX9_areAsPut_40 : decode cX9_areAsPut 40 = .ok (.invokevirtual 123, 3) := by decide +kernel
theorem dX9_areAsPut_43 : decode cX9_areAsPut 43 = .ok (.aload_n 0, 1) := by decide +kernel
theorem dX9_areAsPut_44 : decode cX9_areAsPut 44 = .ok (.getfield 16, 3) := by decide +kernel
theorem dX9_areAsPut_47 : decode cX9_areAsPut 47 = .ok (.bipush 24, 2) := by decide +kernel
theorem dX9_areAsPut_49 : decode cX9_areAsPut 49 = .ok (.bipush 13, 2) := by decide +kernel
theorem dX9_areAsPut_51 : decode cX9_areAsPut 51 = .ok (.iload_n 2, 1) := by decide +kernel
theorem dX9_areAsPut_52 : decode cX9_areAsPut 52 = .ok (.imul, 1) := by decide +kernel
theorem dX9_areAsPut_53 : decode cX9_areAsPut 53 = .ok (.iadd, 1) := by decide +kernel
theorem dX9_areAsPut_54 : decode cX9_areAsPut 54 = .ok (.iconst 4, 1) := by decide +kernel
theorem dX9_areAsPut_55 : decode cX9_areAsPut 55 = .ok (.iadd, 1) := by decide +kernel
theorem dX9_areAsPut_56 : decode cX9_areAsPut 56 = .ok (.iaload, 1) := by decide +kernel
theorem dX9_areAsPut_57 : decode cX9_areAsPut 57 = .ok (.if_icmp .ne 7, 3) := by decide +kernel
theorem dX9_areAsPut_60 : decode cX9_areAsPut 60 = .ok (.iconst 1, 1) := by decide +kernel
theorem dX9_areAsPut_61 : decode cX9_areAsPut 61 = .ok (.goto 4, 3) := by decide +kernel
theorem dX9_areAsPut_64 : decode cX9_areAsPut 64 = .ok (.iconst 0, 1) := by decide +kernel
theorem dX9_areAsPut_65 : decode cX9_areAsPut 65 = .ok (.istore_n 1, 1) := by decide +kernel
theorem dX9_areAsPut_66 : decode cX9_areAsPut 66 = .ok (.iconst 0, 1) := by decide +kernel
theorem dX9_areAsPut_67 : decode cX9_areAsPut 67 = .ok (.istore_n 3, 1) := by decide +kernel
theorem dX9_areAsPut_68 : decode cX9_areAsPut 68 = .ok (.iload_n 3, 1) := by decide +kernel
theorem dX9_areAsPut_69 : decode cX9_areAsPut 69 = .ok (.aload_n 0, 1) := by decide +kernel
theorem dX9_areAsPut_70 : decode cX9_areAsPut 70 = .ok (.iload_n 2, 1) := by decide +kernel
theorem dX9_areAsPut_71 : decode cX9_areAsPut 71 = .ok (.iconst 4, 1) := by decide +kernel
theorem dX9_areAsPut_72 : decode cX9_areAsPut 72 = .ok (.invokevirtual 123, 3) := by decide +kernel
theorem dX9_areAsPut_75 : decode cX9_areAsPut 75 = .ok (.if_icmp .ge 46, 3) := by decide +kernel
theorem dX9_areAsPut_78 : decode cX9_areAsPut 78 = .ok (.iload_n 1, 1) := by decide +kernel
theorem dX9_areAsPut_79 : decode cX9_areAsPut 79 = .ok (.ifCond .eq 42, 3) := by decide +kernel
theorem dX9_areAsPut_82 : decode cX9_areAsPut 82 = .ok (.aload_n 0, 1) := by decide +kernel
theorem dX9_areAsPut_83 : decode cX9_areAsPut 83 = .ok (.iload_n 2, 1) := by decide +kernel
theorem dX9_areAsPut_84 : decode cX9_areAsPut 84 = .ok (.iconst 5, 1) := by decide +kernel
theorem dX9_areAsPut_85 : decode cX9_areAsPut 85 = .ok (.iload_n 3, 1) := by decide +kernel
theorem dX9_areAsPut_86 : decode cX9_areAsPut 86 = .ok (.iadd, 1) := by decide +kernel
theorem dX9_areAsPut_87 : decode cX9_areAsPut 87 = .ok (.invokevirtual 123, 3) := by decide +kernel
theorem dX9_areAsPut_90 : decode cX9_areAsPut 90 = .ok (.aload_n 0, 1) := by decide +kernel
theorem dX9_areAsPut_91 : decode cX9_areAsPut 91 = .ok (.getfield 16, 3) := by decide +kernel
theorem dX9_areAsPut_94 : decode cX9_areAsPut 94 = .ok (.bipush 24, 2) := by decide +kernel
theorem dX9_areAsPut_96 : decode cX9_areAsPut 96 = .ok (.bipush 13, 2) := by decide +kernel
theorem dX9_areAsPut_98 : decode cX9_areAsPut 98 = .ok (.iload_n 2, 1) := by decide +kernel
theorem dX9_areAsPut_99 : decode cX9_areAsPut 99 = .ok (.imul, 1) := by decide +kernel
theorem dX9_areAsPut_100 : decode cX9_areAsPut 100 = .ok (.iadd, 1) := by decide +kernel
theorem dX9_areAsPut_101 : decode cX9_areAsPut 101 = .ok (.iconst 5, 1) := by decide +kernel
theorem dX9_areAsPut_102 : decode cX9_areAsPut 102 = .ok (.iadd, 1) := by decide +kernel
theorem dX9_areAsPut_103 : decode cX9_areAsPut 103 = .ok (.iload_n 3, 1) := by decide +kernel
theorem dX9_areAsPut_104 : decode cX9_areAsPut 104 = .ok (.iadd, 1) := by decide +kernel
theorem dX9_areAsPut_105 : decode cX9_areAsPut 105 = .ok (.iaload, 1) := by decide +kernel
theorem dX9_areAsPut_106 : decode cX9_areAsPut 106 = .ok (.if_icmp .ne 7, 3) := by decide +kernel
theorem dX9_areAsPut_109 : decode cX9_areAsPut 109 = .ok (.iconst 1, 1) := by decide +kernel
theorem dX9_areAsPut_110 : decode cX9_areAsPut 110 = .ok (.goto 4, 3) := by decide +kernel
theorem dX9_areAsPut_113 : decode cX9_areAsPut 113 = .ok (.iconst 0, 1) := by decide +kernel
theorem dX9_areAsPut_114 : decode cX9_areAsPut 114 = .ok (.istore_n 1, 1) := by decide +kernel
theorem dX9_areAsPut_115 : decode cX9_areAsPut 115 = .ok (.iinc 3 1, 3) := by decide +kernel
theorem dX9_areAsPut_118 : decode cX9_areAsPut 118 = .ok (.goto (-50), 3) := by decide +kernel
theorem dX9_areAsPut_121 : decode cX9_areAsPut 121 = .ok (.iinc 2 1, 3) := by decide +kernel
theorem dX9_areAsPut_124 : decode cX9_areAsPut 124 = .ok (.goto (-101), 3) := by decide +kernel
theorem dX9_areAsPut_127 : decode cX9_areAsPut 127 = .ok (.iload_n 1, 1) := by decide +kernel
theorem dX9_areAsPut_128 : decode cX9_areAsPut 128 = .ok (.ireturn, 1) := by decide +kernel
theorem dX9_fits_0 : decode cX9_fits 0 = .ok (.iload_n 1, 1) := by decide +kernel
theorem dX9_fits_1 : decode cX9_fits 1 = .ok (.ifCond .ne 48, 3) := by decide +kernel
theorem dX9_fits_4 : decode cX9_fits 4 = .ok (.aload_n 0, 1) := by decide +kernel
theorem dX9_fits_5 : decode cX9_fits 5 = .ok (.invokevirtual 227, 3) := by decide +kernel
theorem dX9_fits_8 : decode cX9_fits 8 = .ok (.istore 4, 2) := by decide +kernel
theorem dX9_fits_10 : decode cX9_fits 10 = .ok (.aload_n 0, 1) := by decide +kernel
theorem dX9_fits_11 : decode cX9_fits 11 = .ok (.dup, 1) := by decide +kernel
theorem dX9_fits_12 : decode cX9_fits 12 = .ok (.getfield 230, 3) := by decide +kernel
theorem dX9_fits_15 : decode cX9_fits 15 = .ok (.iload 4, 2) := by decide +kernel
theorem dX9_fits_17 : decode cX9_fits 17 = .ok (.ifCond .eq 7, 3) := by decide +kernel
theorem dX9_fits_20 : decode cX9_fits 20 = .ok (.iconst 1, 1) := by decide +kernel
theorem dX9_fits_21 : decode cX9_fits 21 = .ok (.goto 4, 3) := by decide +kernel
theorem dX9_fits_24 : decode cX9_fits 24 = .ok (.iconst 0, 1) := by decide +kernel
theorem dX9_fits_25 : decode cX9_fits 25 = .ok (.iadd, 1) := by decide +kernel
theorem dX9_fits_26 : decode cX9_fits 26 = .ok (.putfield 230, 3) := by decide +kernel
theorem dX9_fits_29 : decode cX9_fits 29 = .ok (.aload_n 0, 1) := by decide +kernel
theorem dX9_fits_30 : decode cX9_fits 30 = .ok (.dup, 1) := by decide +kernel
theorem dX9_fits_31 : decode cX9_fits 31 = .ok (.getfield 233, 3) := by decide +kernel
theorem dX9_fits_34 : decode cX9_fits 34 = .ok (.iload 4, 2) := by decide +kernel
theorem dX9_fits_36 : decode cX9_fits 36 = .ok (.ifCond .eq 7, 3) := by decide +kernel
theorem dX9_fits_39 : decode cX9_fits 39 = .ok (.iload_n 3, 1) := by decide +kernel
theorem dX9_fits_40 : decode cX9_fits 40 = .ok (.goto 4, 3) := by decide +kernel
theorem dX9_fits_43 : decode cX9_fits 43 = .ok (.iconst 0, 1) := by decide +kernel
theorem dX9_fits_44 : decode cX9_fits 44 = .ok (.ior, 1) := by decide +kernel
theorem dX9_fits_45 : decode cX9_fits 45 = .ok (.putfield 233, 3) := by decide +kernel
theorem dX9_fits_48 : decode cX9_fits 48 = .ok (.return_, 1) := by decide +kernel
theorem dX9_fits_49 : decode cX9_fits 49 = .ok (.aload_n 0, 1) := by decide +kernel
theorem dX9_fits_50 : decode cX9_fits 50 = .ok (.iload_n 2, 1) := by decide +kernel
theorem dX9_fits_51 : decode cX9_fits 51 = .ok (.invokevirtual 210, 3) := by decide +kernel
theorem dX9_fits_54 : decode cX9_fits 54 = .ok (.iconst 0, 1) := by decide +kernel
theorem dX9_fits_55 : decode cX9_fits 55 = .ok (.istore 4, 2) := by decide +kernel
theorem dX9_fits_57 : decode cX9_fits 57 = .ok (.iload 4, 2) := by decide +kernel
theorem dX9_fits_59 : decode cX9_fits 59 = .ok (.aload_n 0, 1) := by decide +kernel
theorem dX9_fits_60 : decode cX9_fits 60 = .ok (.getfield 7, 3) := by decide +kernel
theorem dX9_fits_63 : decode cX9_fits 63 = .ok (.iconst 1, 1) := by decide +kernel
theorem dX9_fits_64 : decode cX9_fits 64 = .ok (.iaload, 1) := by decide +kernel
theorem dX9_fits_65 : decode cX9_fits 65 = .ok (.if_icmp .ge 71, 3) := by decide +kernel
theorem dX9_fits_68 : decode cX9_fits 68 = .ok (.iconst 0, 1) := by decide +kernel
theorem dX9_fits_69 : decode cX9_fits 69 = .ok (.istore 5, 2) := by decide +kernel
theorem dX9_fits_71 : decode cX9_fits 71 = .ok (.iload 5, 2) := by decide +kernel
theorem dX9_fits_73 : decode cX9_fits 73 = .ok (.aload_n 0, 1) := by decide +kernel
theorem dX9_fits_74 : decode cX9_fits 74 = .ok (.getfield 7, 3) := by decide +kernel
theorem dX9_fits_77 : decode cX9_fits 77 = .ok (.iconst 0, 1) := by decide +kernel
theorem dX9_fits_78 : decode cX9_fits 78 = .ok (.iaload, 1) := by decide +kernel
theorem dX9_fits_79 : decode cX9_fits 79 = .ok (.if_icmp .ge 51, 3) := by decide +kernel
theorem dX9_fits_82 : decode cX9_fits 82 = .ok (.aload_n 0, 1) := by decide +kernel
theorem dX9_fits_83 : decode cX9_fits 83 = .ok (.iload 4, 2) := by decide +kernel
theorem dX9_fits_85 : decode cX9_fits 85 = .ok (.iload 5, 2) := by decide +kernel
theorem dX9_fits_87 : decode cX9_fits 87 = .ok (.invokevirtual 181, 3) := by decide +kernel
theorem dX9_fits_90 : decode cX9_fits 90 = .ok (.ifCond .eq 34, 3) := by decide +kernel
theorem dX9_fits_93 : decode cX9_fits 93 = .ok (.aload_n 0, 1) := by decide +kernel
theorem dX9_fits_94 : decode cX9_fits 94 = .ok (.iload 4, 2) := by decide +kernel
theorem dX9_fits_96 : decode cX9_fits 96 = .ok (.iload 5, 2) := by decide +kernel
theorem dX9_fits_98 : decode cX9_fits 98 = .ok (.invokevirtual 187, 3) := by decide +kernel
theorem dX9_fits_101 : decode cX9_fits 101 = .ok (.istore 6, 2) := by decide +kernel
theorem dX9_fits_103 : decode cX9_fits 103 = .ok (.aload_n 0, 1) := by decide +kernel
theorem dX9_fits_104 : decode cX9_fits 104 = .ok (.iload_n 1, 1) := by decide +kernel
theorem dX9_fits_105 : decode cX9_fits 105 = .ok (.iconst 1, 1) := by decide +kernel
theorem dX9_fits_106 : decode cX9_fits 106 = .ok (.isub, 1) := by decide +kernel
theorem dX9_fits_107 : decode cX9_fits 107 = .ok (.iload_n 2, 1) := by decide +kernel
theorem dX9_fits_108 : decode cX9_fits 108 = .ok (.iconst 1, 1) := by decide +kernel
theorem dX9_fits_109 : decode cX9_fits 109 = .ok (.iadd, 1) := by decide +kernel
theorem dX9_fits_110 : decode cX9_fits 110 = .ok (.iload_n 3, 1) := by decide +kernel
theorem dX9_fits_111 : decode cX9_fits 111 = .ok (.iconst 1, 1) := by decide +kernel
theorem dX9_fits_112 : decode cX9_fits 112 = .ok (.iload 5, 2) := by decide +kernel
theorem dX9_fits_114 : decode cX9_fits 114 = .ok (.ishl, 1) := by decide +kernel
theorem dX9_fits_115 : decode cX9_fits 115 = .ok (.ior, 1) := by decide +kernel
theorem dX9_fits_116 : decode cX9_fits 116 = .ok (.invokevirtual 236, 3) := by decide +kernel
theorem dX9_fits_119 : decode cX9_fits 119 = .ok (.aload_n 0, 1) := by decide +kernel
theorem dX9_fits_120 : decode cX9_fits 120 = .ok (.iload_n 2, 1) := by decide +kernel
theorem dX9_fits_121 : decode cX9_fits 121 = .ok (.invokevirtual 213, 3) := by decide +kernel
theorem dX9_fits_124 : decode cX9_fits 124 = .ok (.iinc 5 1, 3) := by decide +kernel
theorem dX9_fits_127 : decode cX9_fits 127 = .ok (.goto (-56), 3) := by decide +kernel
theorem dX9_fits_130 : decode cX9_fits 130 = .ok (.iinc 4 1, 3) := by decide +kernel
theorem dX9_fits_133 : decode cX9_fits 133 = .ok (.goto (-76), 3) := by decide +kernel
theorem dX9_fits_136 : decode cX9_fits 136 = .ok (.return_, 1) := by decide +kernel
theorem dX9_rows_0 : decode cX9_rows 0 = .ok (.iload_n 1, 1) := by decide +kernel
theorem dX9_rows_1 : decode cX9_rows 1 = .ok (.iconst 0, 1) := by decide +kernel
theorem dX9_rows_2 : decode cX9_rows 2 = .ok (.iconst 3, 1) := by decide +kernel
theorem dX9_rows_3 : decode cX9_rows 3 = .ok (.invokestatic 59, 3) := by decide +kernel
theorem dX9_rows_6 : decode cX9_rows 6 = .ok (.ifCond .eq 12, 3) := by decide +kernel
theorem dX9_rows_9 : decode cX9_rows 9 = .ok (.iload_n 2, 1) := by decide +kernel
theorem dX9_rows_10 : decode cX9_rows 10 = .ok (.iconst 0, 1) := by decide +kernel
theorem dX9_rows_11 : decode cX9_rows 11 = .ok (.iconst 1, 1) := by decide +kernel
theorem dX9_rows_12 : decode cX9_rows 12 = .ok (.invokestatic 59, 3) := by decide +kernel
theorem dX9_rows_15 : decode cX9_rows 15 = .ok (.ifCond .ne 9, 3) := by decide +kernel
theorem dX9_rows_18 : decode cX9_rows 18 = .ok (.aload_n 0, 1) := by decide +kernel
theorem dX9_rows_19 : decode cX9_rows 19 = .ok (.iconst 1, 1) := by decide +kernel
theorem dX9_rows_20 : decode cX9_rows 20 = .ok (.invokevirtual 63, 3) := by decide +kernel
theorem dX9_rows_23 : decode cX9_rows 23 = .ok (.ireturn, 1) := by decide +kernel
theorem dX9_rows_24 : decode cX9_rows 24 = .ok (.aload_n 0, 1) := by decide +kernel
theorem dX9_rows_25 : decode cX9_rows 25 = .ok (.getfield 239, 3) := by decide +kernel
theorem dX9_rows_28 : decode cX9_rows 28 = .ok (.ifCond .ne 9, 3) := by decide +kernel
theorem dX9_rows_31 : decode cX9_rows 31 = .ok (.aload_n 0, 1) := by decide +kernel
theorem dX9_rows_32 : decode cX9_rows 32 = .ok (.iconst 2, 1) := by decide +kernel
theorem dX9_rows_33 : decode cX9_rows 33 = .ok (.invokevirtual 63, 3) := by decide +kernel
theorem dX9_rows_36 : decode cX9_rows 36 = .ok (.ireturn, 1) := by decide +kernel
theorem dX9_rows_37 : decode cX9_rows 37 = .ok (.aload_n 0, 1) := by decide +kernel
theorem dX9_rows_38 : decode cX9_rows 38 = .ok (.iconst 0, 1) := by decide +kernel
theorem dX9_rows_39 : decode cX9_rows 39 = .ok (.putfield 230, 3) := by decide +kernel
theorem dX9_rows_42 : decode cX9_rows 42 = .ok (.aload_n 0, 1) := by decide +kernel
theorem dX9_rows_43 : decode cX9_rows 43 = .ok (.iconst 0, 1) := by decide +kernel
theorem dX9_rows_44 : decode cX9_rows 44 = .ok (.putfield 233, 3) := by decide +kernel
theorem dX9_rows_47 : decode cX9_rows 47 = .ok (.aload_n 0, 1) := by decide +kernel
theorem dX9_rows_48 : decode cX9_rows 48 = .ok (.getfield 7, 3) := by decide +kernel
theorem dX9_rows_51 : decode cX9_rows 51 = .ok (.aload_n 0, 1) := by decide +kernel
theorem dX9_rows_52 : decode cX9_rows 52 = .ok (.getfield 16, 3) := by decide +kernel
theorem dX9_rows_55 : decode cX9_rows 55 = .ok (.invokestatic 242, 3) := by decide +kernel
theorem dX9_rows_58 : decode cX9_rows 58 = .ok (.aload_n 0, 1) := by decide +kernel
theorem dX9_rows_59 : decode cX9_rows 59 = .ok (.getfield 13, 3) := by decide +kernel
theorem dX9_rows_62 : decode cX9_rows 62 = .ok (.aload_n 0, 1) := by decide +kernel
theorem dX9_rows_63 : decode cX9_rows 63 = .ok (.getfield 7, 3) := by decide +kernel
theorem dX9_rows_66 : decode cX9_rows 66 = .ok (.invokestatic 242, 3) := by decide +kernel
theorem dX9_rows_69 : decode cX9_rows 69 = .ok (.aload_n 0, 1) := by decide +kernel
theorem dX9_rows_70 : decode cX9_rows 70 = .ok (.iload_n 1, 1) := by decide +kernel
theorem dX9_rows_71 : decode cX9_rows 71 = .ok (.iconst 0, 1) := by decide +kernel
theorem dX9_rows_72 : decode cX9_rows 72 = .ok (.iconst 0, 1) := by decide +kernel
theorem dX9_rows_73 : decode cX9_rows 73 = .ok (.invokevirtual 236, 3) := by decide +kernel
theorem dX9_rows_76 : decode cX9_rows 76 = .ok (.aload_n 0, 1) := by decide +kernel
theorem dX9_rows_77 : decode cX9_rows 77 = .ok (.getfield 16, 3) := by decide +kernel
theorem dX9_rows_80 : decode cX9_rows 80 = .ok (.aload_n 0, 1) := by decide +kernel
theorem dX9_rows_81 : decode cX9_rows 81 = .ok (.getfield 7, 3) := by decide +kernel
theorem dX9_rows_84 : decode cX9_rows 84 = .ok (.invokestatic 242, 3) := by decide +kernel
theorem dX9_rows_87 : decode cX9_rows 87 = .ok (.iload_n 2, 1) := by decide +kernel
theorem dX9_rows_88 : decode cX9_rows 88 = .ok (.ifCond .ne 10, 3) := by decide +kernel
theorem dX9_rows_91 : decode cX9_rows 91 = .ok (.aload_n 0, 1) := by decide +kernel
theorem dX9_rows_92 : decode cX9_rows 92 = .ok (.getfield 230, 3) := by decide +kernel
theorem dX9_rows_95 : decode cX9_rows 95 = .ok (.goto 7, 3) := by decide +kernel
theorem dX9_rows_98 : decode cX9_rows 98 = .ok (.aload_n 0, 1) := by decide +kernel
theorem dX9_rows_99 : decode cX9_rows 99 = .ok (.getfield 233, 3) := by decide +kernel
theorem dX9_rows_102 : decode cX9_rows 102 = .ok (.ireturn, 1) := by decide +kernel
theorem dX9_begins_0 : decode cX9_begins 0 = .ok (.aload_n 0, 1) := by decide +kernel
theorem dX9_begins_1 : decode cX9_begins 1 = .ok (.getfield 246, 3) := by decide +kernel
theorem dX9_begins_4 : decode cX9_begins 4 = .ok (.bipush 30, 2) := by decide +kernel
theorem dX9_begins_6 : decode cX9_begins 6 = .ok (.if_icmp .ge 23, 3) := by decide +kernel
theorem dX9_begins_9 : decode cX9_begins 9 = .ok (.aload_n 0, 1) := by decide +kernel
theorem dX9_begins_10 : decode cX9_begins 10 = .ok (.getfield 43, 3) := by decide +kernel
theorem dX9_begins_13 : decode cX9_begins 13 = .ok (.aload_n 0, 1) := by decide +kernel
theorem dX9_begins_14 : decode cX9_begins 14 = .ok (.getfield 246, 3) := by decide +kernel
theorem dX9_begins_17 : decode cX9_begins 17 = .ok (.iload_n 1, 1) := by decide +kernel
theorem dX9_begins_18 : decode cX9_begins 18 = .ok (.iastore, 1) := by decide +kernel
theorem dX9_begins_19 : decode cX9_begins 19 = .ok (.aload_n 0, 1) := by decide +kernel
theorem dX9_begins_20 : decode cX9_begins 20 = .ok (.dup, 1) := by decide +kernel
theorem dX9_begins_21 : decode cX9_begins 21 = .ok (.getfield 246, 3) := by decide +kernel
theorem dX9_begins_24 : decode cX9_begins 24 = .ok (.iconst 1, 1) := by decide +kernel
theorem dX9_begins_25 : decode cX9_begins 25 = .ok (.iadd, 1) := by decide +kernel
theorem dX9_begins_26 : decode cX9_begins 26 = .ok (.putfield 246, 3) := by decide +kernel
theorem dX9_begins_29 : decode cX9_begins 29 = .ok (.return_, 1) := by decide +kernel
theorem dX9_above_0 : decode cX9_above 0 = .ok (.iload_n 0, 1) := by decide +kernel
theorem dX9_above_1 : decode cX9_above 1 = .ok (.iconst 4, 1) := by decide +kernel
theorem dX9_above_2 : decode cX9_above 2 = .ok (.if_icmp .ne 7, 3) := by decide +kernel
theorem dX9_above_5 : decode cX9_above 5 = .ok (.iconst 1, 1) := by decide +kernel
theorem dX9_above_6 : decode cX9_above 6 = .ok (.goto 13, 3) := by decide +kernel
theorem dX9_above_9 : decode cX9_above 9 = .ok (.iload_n 0, 1) := by decide +kernel
theorem dX9_above_10 : decode cX9_above 10 = .ok (.iconst 5, 1) := by decide +kernel
theorem dX9_above_11 : decode cX9_above 11 = .ok (.if_icmp .ne 7, 3) := by decide +kernel
theorem dX9_above_14 : decode cX9_above 14 = .ok (.iconst 2, 1) := by decide +kernel
theorem dX9_above_15 : decode cX9_above 15 = .ok (.goto 4, 3) := by decide +kernel
theorem dX9_above_18 : decode cX9_above 18 = .ok (.iconst 0, 1) := by decide +kernel
theorem dX9_above_19 : decode cX9_above 19 = .ok (.ireturn, 1) := by decide +kernel
theorem dX9_kindNow_0 : decode cX9_kindNow 0 = .ok (.aload_n 0, 1) := by decide +kernel
theorem dX9_kindNow_1 : decode cX9_kindNow 1 = .ok (.aload_n 0, 1) := by decide +kernel
theorem dX9_kindNow_2 : decode cX9_kindNow 2 = .ok (.getfield 249, 3) := by decide +kernel
theorem dX9_kindNow_5 : decode cX9_kindNow 5 = .ok (.iconst 0, 1) := by decide +kernel
theorem dX9_kindNow_6 : decode cX9_kindNow 6 = .ok (.invokevirtual 123, 3) := by decide +kernel
theorem dX9_kindNow_9 : decode cX9_kindNow 9 = .ok (.ireturn, 1) := by decide +kernel
theorem dX9_mNow_0 : decode cX9_mNow 0 = .ok (.aload_n 0, 1) := by decide +kernel
theorem dX9_mNow_1 : decode cX9_mNow 1 = .ok (.aload_n 0, 1) := by decide +kernel
theorem dX9_mNow_2 : decode cX9_mNow 2 = .ok (.getfield 249, 3) := by decide +kernel
theorem dX9_mNow_5 : decode cX9_mNow 5 = .ok (.iconst 1, 1) := by decide +kernel
theorem dX9_mNow_6 : decode cX9_mNow 6 = .ok (.invokevirtual 123, 3) := by decide +kernel
theorem dX9_mNow_9 : decode cX9_mNow 9 = .ok (.ireturn, 1) := by decide +kernel
theorem dX9_rowsAs_0 : decode cX9_rowsAs 0 = .ok (.iload_n 1, 1) := by decide +kernel
theorem dX9_rowsAs_1 : decode cX9_rowsAs 1 = .ok (.tableswitch 100 0 6 #[43, 56, 100, 100, 74, 100, 92], 43) := by decide +kernel
theorem dX9_rowsAs_44 : decode cX9_rowsAs 44 = .ok (.aload_n 0, 1) := by decide +kernel
theorem dX9_rowsAs_45 : decode cX9_rowsAs 45 = .ok (.bipush 10, 2) := by decide +kernel
theorem dX9_rowsAs_47 : decode cX9_rowsAs 47 = .ok (.invokevirtual 252, 3) := by decide +kernel
theorem dX9_rowsAs_50 : decode cX9_rowsAs 50 = .ok (.iload_n 2, 1) := by decide +kernel
theorem dX9_rowsAs_51 : decode cX9_rowsAs 51 = .ok (.aload_n 0, 1) := by decide +kernel
theorem dX9_rowsAs_52 : decode cX9_rowsAs 52 = .ok (.getfield 249, 3) := by decide +kernel
theorem dX9_rowsAs_55 : decode cX9_rowsAs 55 = .ok (.iadd, 1) := by decide +kernel
theorem dX9_rowsAs_56 : decode cX9_rowsAs 56 = .ok (.ireturn, 1) := by decide +kernel
theorem dX9_rowsAs_57 : decode cX9_rowsAs 57 = .ok (.aload_n 0, 1) := by decide +kernel
theorem dX9_rowsAs_58 : decode cX9_rowsAs 58 = .ok (.bipush 20, 2) := by decide +kernel
theorem dX9_rowsAs_60 : decode cX9_rowsAs 60 = .ok (.invokevirtual 252, 3) := by decide +kernel
theorem dX9_rowsAs_63 : decode cX9_rowsAs 63 = .ok (.aload_n 0, 1) := by decide +kernel
theorem dX9_rowsAs_64 : decode cX9_rowsAs 64 = .ok (.iconst 1, 1) := by decide +kernel
theorem dX9_rowsAs_65 : decode cX9_rowsAs 65 = .ok (.invokestatic 255, 3) := by decide +kernel
theorem dX9_rowsAs_68 : decode cX9_rowsAs 68 = .ok (.iload_n 2, 1) := by decide +kernel
theorem dX9_rowsAs_69 : decode cX9_rowsAs 69 = .ok (.invokevirtual 258, 3) := by decide +kernel
theorem dX9_rowsAs_72 : decode cX9_rowsAs 72 = .ok (.iconst 5, 1) := by decide +kernel
theorem dX9_rowsAs_73 : decode cX9_rowsAs 73 = .ok (.isub, 1) := by decide +kernel
theorem dX9_rowsAs_74 : decode cX9_rowsAs 74 = .ok (.ireturn, 1) := by decide +kernel
theorem dX9_rowsAs_75 : decode cX9_rowsAs 75 = .ok (.aload_n 0, 1) := by decide +kernel
theorem dX9_rowsAs_76 : decode cX9_rowsAs 76 = .ok (.bipush 50, 2) := by decide +kernel
theorem dX9_rowsAs_78 : decode cX9_rowsAs 78 = .ok (.invokevirtual 252, 3) := by decide +kernel
theorem dX9_rowsAs_81 : decode cX9_rowsAs 81 = .ok (.aload_n 0, 1) := by decide +kernel
theorem dX9_rowsAs_82 : decode cX9_rowsAs 82 = .ok (.iconst 4, 1) := by decide +kernel
theorem dX9_rowsAs_83 : decode cX9_rowsAs 83 = .ok (.invokestatic 255, 3) := by decide +kernel
theorem dX9_rowsAs_86 : decode cX9_rowsAs 86 = .ok (.iload_n 2, 1) := by decide +kernel
theorem dX9_rowsAs_87 : decode cX9_rowsAs 87 = .ok (.invokevirtual 258, 3) := by decide +kernel
theorem dX9_rowsAs_90 : decode cX9_rowsAs 90 = .ok (.iconst 3, 1) := by decide +kernel
theorem dX9_rowsAs_91 : decode cX9_rowsAs 91 = .ok (.imul, 1) := by decide +kernel
theorem dX9_rowsAs_92 : decode cX9_rowsAs 92 = .ok (.ireturn, 1) := by decide +kernel
theorem dX9_rowsAs_93 : decode cX9_rowsAs 93 = .ok (.aload_n 0, 1) := by decide +kernel
theorem dX9_rowsAs_94 : decode cX9_rowsAs 94 = .ok (.bipush 70, 2) := by decide +kernel
theorem dX9_rowsAs_96 : decode cX9_rowsAs 96 = .ok (.invokevirtual 252, 3) := by decide +kernel
theorem dX9_rowsAs_99 : decode cX9_rowsAs 99 = .ok (.iconst 3, 1) := by decide +kernel
theorem dX9_rowsAs_100 : decode cX9_rowsAs 100 = .ok (.ireturn, 1) := by decide +kernel
theorem dX9_rowsAs_101 : decode cX9_rowsAs 101 = .ok (.aload_n 0, 1) := by decide +kernel
theorem dX9_rowsAs_102 : decode cX9_rowsAs 102 = .ok (.iload_n 1, 1) := by decide +kernel
theorem dX9_rowsAs_103 : decode cX9_rowsAs 103 = .ok (.invokestatic 255, 3) := by decide +kernel
theorem dX9_rowsAs_106 : decode cX9_rowsAs 106 = .ok (.iload_n 2, 1) := by decide +kernel
theorem dX9_rowsAs_107 : decode cX9_rowsAs 107 = .ok (.invokevirtual 258, 3) := by decide +kernel
theorem dX9_rowsAs_110 : decode cX9_rowsAs 110 = .ok (.ireturn, 1) := by decide +kernel
theorem dX9_keepsAs_0 : decode cX9_keepsAs 0 = .ok (.iload_n 1, 1) := by decide +kernel
theorem dX9_keepsAs_1 : decode cX9_keepsAs 1 = .ok (.tableswitch 119 0 6 #[43, 119, 61, 119, 119, 79, 97], 43) := by decide +kernel
theorem dX9_keepsAs_44 : decode cX9_keepsAs 44 = .ok (.aload_n 0, 1) := by decide +kernel
theorem dX9_keepsAs_45 : decode cX9_keepsAs 45 = .ok (.bipush 11, 2) := by decide +kernel
theorem dX9_keepsAs_47 : decode cX9_keepsAs 47 = .ok (.invokevirtual 252, 3) := by decide +kernel
theorem dX9_keepsAs_50 : decode cX9_keepsAs 50 = .ok (.aload_n 0, 1) := by decide +kernel
theorem dX9_keepsAs_51 : decode cX9_keepsAs 51 = .ok (.aload_n 0, 1) := by decide +kernel
theorem dX9_keepsAs_52 : decode cX9_keepsAs 52 = .ok (.invokevirtual 261, 3) := by decide +kernel
theorem dX9_keepsAs_55 : decode cX9_keepsAs 55 = .ok (.iload_n 2, 1) := by decide +kernel
theorem dX9_keepsAs_56 : decode cX9_keepsAs 56 = .ok (.invokevirtual 258, 3) := by decide +kernel
theorem dX9_keepsAs_59 : decode cX9_keepsAs 59 = .ok (.iconst 2, 1) := by decide +kernel
theorem dX9_keepsAs_60 : decode cX9_keepsAs 60 = .ok (.imul, 1) := by decide +kernel
theorem dX9_keepsAs_61 : decode cX9_keepsAs 61 = .ok (.ireturn, 1) := by decide +kernel
theorem dX9_keepsAs_62 : decode cX9_keepsAs 62 = .ok (.aload_n 0, 1) := by decide +kernel
theorem dX9_keepsAs_63 : decode cX9_keepsAs 63 = .ok (.bipush 30, 2) := by decide +kernel
theorem dX9_keepsAs_65 : decode cX9_keepsAs 65 = .ok (.invokevirtual 252, 3) := by decide +kernel
theorem dX9_keepsAs_68 : decode cX9_keepsAs 68 = .ok (.iconst 0, 1) := by decide +kernel
theorem dX9_keepsAs_69 : decode cX9_keepsAs 69 = .ok (.aload_n 0, 1) := by decide +kernel
theorem dX9_keepsAs_70 : decode cX9_keepsAs 70 = .ok (.iconst 2, 1) := by decide +kernel
theorem dX9_keepsAs_71 : decode cX9_keepsAs 71 = .ok (.invokestatic 255, 3) := by decide +kernel
theorem dX9_keepsAs_74 : decode cX9_keepsAs 74 = .ok (.iload_n 2, 1) := by decide +kernel
theorem dX9_keepsAs_75 : decode cX9_keepsAs 75 = .ok (.invokevirtual 264, 3) := by decide +kernel
theorem dX9_keepsAs_78 : decode cX9_keepsAs 78 = .ok (.isub, 1) := by decide +kernel
theorem dX9_keepsAs_79 : decode cX9_keepsAs 79 = .ok (.ireturn, 1) := by decide +kernel
theorem dX9_keepsAs_80 : decode cX9_keepsAs 80 = .ok (.aload_n 0, 1) := by decide +kernel
theorem dX9_keepsAs_81 : decode cX9_keepsAs 81 = .ok (.bipush 60, 2) := by decide +kernel
theorem dX9_keepsAs_83 : decode cX9_keepsAs 83 = .ok (.invokevirtual 252, 3) := by decide +kernel
theorem dX9_keepsAs_86 : decode cX9_keepsAs 86 = .ok (.aload_n 0, 1) := by decide +kernel
theorem dX9_keepsAs_87 : decode cX9_keepsAs 87 = .ok (.iconst 5, 1) := by decide +kernel
theorem dX9_keepsAs_88 : decode cX9_keepsAs 88 = .ok (.invokestatic 255, 3) := by decide +kernel
theorem dX9_keepsAs_91 : decode cX9_keepsAs 91 = .ok (.iload_n 2, 1) := by decide +kernel
theorem dX9_keepsAs_92 : decode cX9_keepsAs 92 = .ok (.iconst 1, 1) := by decide +kernel
theorem dX9_keepsAs_93 : decode cX9_keepsAs 93 = .ok (.iadd, 1) := by decide +kernel
theorem dX9_keepsAs_94 : decode cX9_keepsAs 94 = .ok (.invokevirtual 264, 3) := by decide +kernel
theorem dX9_keepsAs_97 : decode cX9_keepsAs 97 = .ok (.ireturn, 1) := by decide +kernel
theorem dX9_keepsAs_98 : decode cX9_keepsAs 98 = .ok (.aload_n 0, 1) := by decide +kernel
theorem dX9_keepsAs_99 : decode cX9_keepsAs 99 = .ok (.bipush 71, 2) := by decide +kernel
theorem dX9_keepsAs_101 : decode cX9_keepsAs 101 = .ok (.invokevirtual 252, 3) := by decide +kernel
theorem dX9_keepsAs_104 : decode cX9_keepsAs 104 = .ok (.aload_n 0, 1) := by decide +kernel
theorem dX9_keepsAs_105 : decode cX9_keepsAs 105 = .ok (.bipush 6, 2) := by decide +kernel
theorem dX9_keepsAs_107 : decode cX9_keepsAs 107 = .ok (.invokestatic 255, 3) := by decide +kernel
theorem dX9_keepsAs_110 : decode cX9_keepsAs 110 = .ok (.iload_n 2, 1) := by decide +kernel
theorem dX9_keepsAs_111 : decode cX9_keepsAs 111 = .ok (.invokevirtual 264, 3) := by decide +kernel
theorem dX9_keepsAs_114 : decode cX9_keepsAs 114 = .ok (.aload_n 0, 1) := by decide +kernel
theorem dX9_keepsAs_115 : decode cX9_keepsAs 115 = .ok (.invokevirtual 267, 3) := by decide +kernel
theorem dX9_keepsAs_118 : decode cX9_keepsAs 118 = .ok (.iadd, 1) := by decide +kernel
theorem dX9_keepsAs_119 : decode cX9_keepsAs 119 = .ok (.ireturn, 1) := by decide +kernel
theorem dX9_keepsAs_120 : decode cX9_keepsAs 120 = .ok (.aload_n 0, 1) := by decide +kernel
theorem dX9_keepsAs_121 : decode cX9_keepsAs 121 = .ok (.iload_n 1, 1) := by decide +kernel
theorem dX9_keepsAs_122 : decode cX9_keepsAs 122 = .ok (.invokestatic 255, 3) := by decide +kernel
theorem dX9_keepsAs_125 : decode cX9_keepsAs 125 = .ok (.iload_n 2, 1) := by decide +kernel
theorem dX9_keepsAs_126 : decode cX9_keepsAs 126 = .ok (.invokevirtual 264, 3) := by decide +kernel
theorem dX9_keepsAs_129 : decode cX9_keepsAs 129 = .ok (.ireturn, 1) := by decide +kernel
theorem dX9_asksAs_0 : decode cX9_asksAs 0 = .ok (.iload_n 1, 1) := by decide +kernel
theorem dX9_asksAs_1 : decode cX9_asksAs 1 = .ok (.tableswitch 95 0 4 #[35, 95, 95, 56, 74], 35) := by decide +kernel
theorem dX9_asksAs_36 : decode cX9_asksAs 36 = .ok (.aload_n 0, 1) := by decide +kernel
theorem dX9_asksAs_37 : decode cX9_asksAs 37 = .ok (.bipush 12, 2) := by decide +kernel
theorem dX9_asksAs_39 : decode cX9_asksAs 39 = .ok (.invokevirtual 252, 3) := by decide +kernel
theorem dX9_asksAs_42 : decode cX9_asksAs 42 = .ok (.aload_n 0, 1) := by decide +kernel
theorem dX9_asksAs_43 : decode cX9_asksAs 43 = .ok (.aload_n 0, 1) := by decide +kernel
theorem dX9_asksAs_44 : decode cX9_asksAs 44 = .ok (.invokevirtual 261, 3) := by decide +kernel
theorem dX9_asksAs_47 : decode cX9_asksAs 47 = .ok (.iload_n 2, 1) := by decide +kernel
theorem dX9_asksAs_48 : decode cX9_asksAs 48 = .ok (.invokevirtual 264, 3) := by decide +kernel
theorem dX9_asksAs_51 : decode cX9_asksAs 51 = .ok (.aload_n 0, 1) := by decide +kernel
theorem dX9_asksAs_52 : decode cX9_asksAs 52 = .ok (.invokevirtual 267, 3) := by decide +kernel
theorem dX9_asksAs_55 : decode cX9_asksAs 55 = .ok (.isub, 1) := by decide +kernel
theorem dX9_asksAs_56 : decode cX9_asksAs 56 = .ok (.ireturn, 1) := by decide +kernel
theorem dX9_asksAs_57 : decode cX9_asksAs 57 = .ok (.aload_n 0, 1) := by decide +kernel
theorem dX9_asksAs_58 : decode cX9_asksAs 58 = .ok (.bipush 40, 2) := by decide +kernel
theorem dX9_asksAs_60 : decode cX9_asksAs 60 = .ok (.invokevirtual 252, 3) := by decide +kernel
theorem dX9_asksAs_63 : decode cX9_asksAs 63 = .ok (.aload_n 0, 1) := by decide +kernel
theorem dX9_asksAs_64 : decode cX9_asksAs 64 = .ok (.iconst 3, 1) := by decide +kernel
theorem dX9_asksAs_65 : decode cX9_asksAs 65 = .ok (.invokestatic 255, 3) := by decide +kernel
theorem dX9_asksAs_68 : decode cX9_asksAs 68 = .ok (.iload_n 2, 1) := by decide +kernel
theorem dX9_asksAs_69 : decode cX9_asksAs 69 = .ok (.iconst 2, 1) := by decide +kernel
theorem dX9_asksAs_70 : decode cX9_asksAs 70 = .ok (.idiv, 1) := by decide +kernel
theorem dX9_asksAs_71 : decode cX9_asksAs 71 = .ok (.invokevirtual 270, 3) := by decide +kernel
theorem dX9_asksAs_74 : decode cX9_asksAs 74 = .ok (.ireturn, 1) := by decide +kernel
theorem dX9_asksAs_75 : decode cX9_asksAs 75 = .ok (.aload_n 0, 1) := by decide +kernel
theorem dX9_asksAs_76 : decode cX9_asksAs 76 = .ok (.bipush 51, 2) := by decide +kernel
theorem dX9_asksAs_78 : decode cX9_asksAs 78 = .ok (.invokevirtual 252, 3) := by decide +kernel
theorem dX9_asksAs_81 : decode cX9_asksAs 81 = .ok (.aload_n 0, 1) := by decide +kernel
theorem dX9_asksAs_82 : decode cX9_asksAs 82 = .ok (.iconst 4, 1) := by decide +kernel
theorem dX9_asksAs_83 : decode cX9_asksAs 83 = .ok (.invokestatic 255, 3) := by decide +kernel
theorem dX9_asksAs_86 : decode cX9_asksAs 86 = .ok (.iload_n 2, 1) := by decide +kernel
theorem dX9_asksAs_87 : decode cX9_asksAs 87 = .ok (.invokevirtual 270, 3) := by decide +kernel
theorem dX9_asksAs_90 : decode cX9_asksAs 90 = .ok (.aload_n 0, 1) := by decide +kernel
theorem dX9_asksAs_91 : decode cX9_asksAs 91 = .ok (.getfield 249, 3) := by decide +kernel
theorem dX9_asksAs_94 : decode cX9_asksAs 94 = .ok (.ixor, 1) := by decide +kernel
theorem dX9_asksAs_95 : decode cX9_asksAs 95 = .ok (.ireturn, 1) := by decide +kernel
theorem dX9_asksAs_96 : decode cX9_asksAs 96 = .ok (.aload_n 0, 1) := by decide +kernel
theorem dX9_asksAs_97 : decode cX9_asksAs 97 = .ok (.iload_n 1, 1) := by decide +kernel
theorem dX9_asksAs_98 : decode cX9_asksAs 98 = .ok (.invokestatic 255, 3) := by decide +kernel
theorem dX9_asksAs_101 : decode cX9_asksAs 101 = .ok (.iload_n 2, 1) := by decide +kernel
theorem dX9_asksAs_102 : decode cX9_asksAs 102 = .ok (.invokevirtual 270, 3) := by decide +kernel
theorem dX9_asksAs_105 : decode cX9_asksAs 105 = .ok (.ireturn, 1) := by decide +kernel
theorem dX9_partsAs_0 : decode cX9_partsAs 0 = .ok (.iload_n 1, 1) := by decide +kernel
theorem dX9_partsAs_1 : decode cX9_partsAs 1 = .ok (.lookupswitch 119 #[(0, 27), (1, 78)], 27) := by decide +kernel
theorem dX9_partsAs_28 : decode cX9_partsAs 28 = .ok (.aload_n 0, 1) := by decide +kernel
theorem dX9_partsAs_29 : decode cX9_partsAs 29 = .ok (.bipush 13, 2) := by decide +kernel
theorem dX9_partsAs_31 : decode cX9_partsAs 31 = .ok (.invokevirtual 252, 3) := by decide +kernel
theorem dX9_partsAs_34 : decode cX9_partsAs 34 = .ok (.aload_n 0, 1) := by decide +kernel
theorem dX9_partsAs_35 : decode cX9_partsAs 35 = .ok (.invokevirtual 267, 3) := by decide +kernel
theorem dX9_partsAs_38 : decode cX9_partsAs 38 = .ok (.aload_n 0, 1) := by decide +kernel
theorem dX9_partsAs_39 : decode cX9_partsAs 39 = .ok (.getfield 249, 3) := by decide +kernel
theorem dX9_partsAs_42 : decode cX9_partsAs 42 = .ok (.isub, 1) := by decide +kernel
theorem dX9_partsAs_43 : decode cX9_partsAs 43 = .ok (.istore_n 3, 1) := by decide +kernel
theorem dX9_partsAs_44 : decode cX9_partsAs 44 = .ok (.aload_n 0, 1) := by decide +kernel
theorem dX9_partsAs_45 : decode cX9_partsAs 45 = .ok (.iload_n 3, 1) := by decide +kernel
theorem dX9_partsAs_46 : decode cX9_partsAs 46 = .ok (.ifCond .ne 7, 3) := by decide +kernel
theorem dX9_partsAs_49 : decode cX9_partsAs 49 = .ok (.iconst 1, 1) := by decide +kernel
theorem dX9_partsAs_50 : decode cX9_partsAs 50 = .ok (.goto 4, 3) := by decide +kernel
theorem dX9_partsAs_53 : decode cX9_partsAs 53 = .ok (.iconst 0, 1) := by decide +kernel
theorem dX9_partsAs_54 : decode cX9_partsAs 54 = .ok (.putfield 273, 3) := by decide +kernel
theorem dX9_partsAs_57 : decode cX9_partsAs 57 = .ok (.iload_n 3, 1) := by decide +kernel
theorem dX9_partsAs_58 : decode cX9_partsAs 58 = .ok (.ifCond .ne 7, 3) := by decide +kernel
theorem dX9_partsAs_61 : decode cX9_partsAs 61 = .ok (.iconst 0, 1) := by decide +kernel
theorem dX9_partsAs_62 : decode cX9_partsAs 62 = .ok (.goto 16, 3) := by decide +kernel
theorem dX9_partsAs_65 : decode cX9_partsAs 65 = .ok (.iload_n 3, 1) := by decide +kernel
theorem dX9_partsAs_66 : decode cX9_partsAs 66 = .ok (.iconst (-1), 1) := by decide +kernel
theorem dX9_partsAs_67 : decode cX9_partsAs 67 = .ok (.if_icmp .ne 8, 3) := by decide +kernel
theorem dX9_partsAs_70 : decode cX9_partsAs 70 = .ok (.iload_n 2, 1) := by decide +kernel
theorem dX9_partsAs_71 : decode cX9_partsAs 71 = .ok (.ineg, 1) := by decide +kernel
theorem dX9_partsAs_72 : decode cX9_partsAs 72 = .ok (.goto 6, 3) := by decide +kernel
theorem dX9_partsAs_75 : decode cX9_partsAs 75 = .ok (.iload_n 2, 1) := by decide +kernel
theorem dX9_partsAs_76 : decode cX9_partsAs 76 = .ok (.iload_n 3, 1) := by decide +kernel
theorem dX9_partsAs_77 : decode cX9_partsAs 77 = .ok (.idiv, 1) := by decide +kernel
theorem dX9_partsAs_78 : decode cX9_partsAs 78 = .ok (.ireturn, 1) := by decide +kernel
theorem dX9_partsAs_79 : decode cX9_partsAs 79 = .ok (.aload_n 0, 1) := by decide +kernel
theorem dX9_partsAs_80 : decode cX9_partsAs 80 = .ok (.bipush 21, 2) := by decide +kernel
theorem dX9_partsAs_82 : decode cX9_partsAs 82 = .ok (.invokevirtual 252, 3) := by decide +kernel
theorem dX9_partsAs_85 : decode cX9_partsAs 85 = .ok (.aload_n 0, 1) := by decide +kernel
theorem dX9_partsAs_86 : decode cX9_partsAs 86 = .ok (.iconst 1, 1) := by decide +kernel
theorem dX9_partsAs_87 : decode cX9_partsAs 87 = .ok (.invokestatic 255, 3) := by decide +kernel
theorem dX9_partsAs_90 : decode cX9_partsAs 90 = .ok (.iload_n 2, 1) := by decide +kernel
theorem dX9_partsAs_91 : decode cX9_partsAs 91 = .ok (.invokevirtual 277, 3) := by decide +kernel
theorem dX9_partsAs_94 : decode cX9_partsAs 94 = .ok (.istore 4, 2) := by decide +kernel
theorem dX9_partsAs_96 : decode cX9_partsAs 96 = .ok (.aload_n 0, 1) := by decide +kernel
theorem dX9_partsAs_97 : decode cX9_partsAs 97 = .ok (.getfield 273, 3) := by decide +kernel
theorem dX9_partsAs_100 : decode cX9_partsAs 100 = .ok (.ifCond .eq 7, 3) := by decide +kernel
theorem dX9_partsAs_103 : decode cX9_partsAs 103 = .ok (.iconst 0, 1) := by decide +kernel
theorem dX9_partsAs_104 : decode cX9_partsAs 104 = .ok (.goto 15, 3) := by decide +kernel
theorem dX9_partsAs_107 : decode cX9_partsAs 107 = .ok (.iload 4, 2) := by decide +kernel
theorem dX9_partsAs_109 : decode cX9_partsAs 109 = .ok (.aload_n 0, 1) := by decide +kernel
theorem dX9_partsAs_110 : decode cX9_partsAs 110 = .ok (.aload_n 0, 1) := by decide +kernel
theorem dX9_partsAs_111 : decode cX9_partsAs 111 = .ok (.invokevirtual 261, 3) := by decide +kernel
theorem dX9_partsAs_114 : decode cX9_partsAs 114 = .ok (.iconst 1, 1) := by decide +kernel
theorem dX9_partsAs_115 : decode cX9_partsAs 115 = .ok (.invokevirtual 264, 3) := by decide +kernel
theorem dX9_partsAs_118 : decode cX9_partsAs 118 = .ok (.iadd, 1) := by decide +kernel
theorem dX9_partsAs_119 : decode cX9_partsAs 119 = .ok (.ireturn, 1) := by decide +kernel
theorem dX9_partsAs_120 : decode cX9_partsAs 120 = .ok (.aload_n 0, 1) := by decide +kernel
theorem dX9_partsAs_121 : decode cX9_partsAs 121 = .ok (.iload_n 1, 1) := by decide +kernel
theorem dX9_partsAs_122 : decode cX9_partsAs 122 = .ok (.invokestatic 255, 3) := by decide +kernel
theorem dX9_partsAs_125 : decode cX9_partsAs 125 = .ok (.iload_n 2, 1) := by decide +kernel
theorem dX9_partsAs_126 : decode cX9_partsAs 126 = .ok (.invokevirtual 277, 3) := by decide +kernel
theorem dX9_partsAs_129 : decode cX9_partsAs 129 = .ok (.ireturn, 1) := by decide +kernel
theorem dX9_voice_0 : decode cX9_voice 0 = .ok (.aload_n 0, 1) := by decide +kernel
theorem dX9_voice_1 : decode cX9_voice 1 = .ok (.iload_n 1, 1) := by decide +kernel
theorem dX9_voice_2 : decode cX9_voice 2 = .ok (.invokevirtual 168, 3) := by decide +kernel
theorem dX9_voice_5 : decode cX9_voice 5 = .ok (.ifCond .eq 12, 3) := by decide +kernel
theorem dX9_voice_8 : decode cX9_voice 8 = .ok (.iload_n 2, 1) := by decide +kernel
theorem dX9_voice_9 : decode cX9_voice 9 = .ok (.iconst 0, 1) := by decide +kernel
theorem dX9_voice_10 : decode cX9_voice 10 = .ok (.iconst 3, 1) := by decide +kernel
theorem dX9_voice_11 : decode cX9_voice 11 = .ok (.invokestatic 59, 3) := by decide +kernel
theorem dX9_voice_14 : decode cX9_voice 14 = .ok (.ifCond .ne 9, 3) := by decide +kernel
theorem dX9_voice_17 : decode cX9_voice 17 = .ok (.aload_n 0, 1) := by decide +kernel
theorem dX9_voice_18 : decode cX9_voice 18 = .ok (.iconst 1, 1) := by decide +kernel
theorem dX9_voice_19 : decode cX9_voice 19 = .ok (.invokevirtual 63, 3) := by decide +kernel
theorem dX9_voice_22 : decode cX9_voice 22 = .ok (.ireturn, 1) := by decide +kernel
theorem dX9_voice_23 : decode cX9_voice 23 = .ok (.aload_n 0, 1) := by decide +kernel
theorem dX9_voice_24 : decode cX9_voice 24 = .ok (.iconst 0, 1) := by decide +kernel
theorem dX9_voice_25 : decode cX9_voice 25 = .ok (.putfield 246, 3) := by decide +kernel
theorem dX9_voice_28 : decode cX9_voice 28 = .ok (.aload_n 0, 1) := by decide +kernel
theorem dX9_voice_29 : decode cX9_voice 29 = .ok (.iload_n 1, 1) := by decide +kernel
theorem dX9_voice_30 : decode cX9_voice 30 = .ok (.putfield 249, 3) := by decide +kernel
theorem dX9_voice_33 : decode cX9_voice 33 = .ok (.aload_n 0, 1) := by decide +kernel
theorem dX9_voice_34 : decode cX9_voice 34 = .ok (.iconst 0, 1) := by decide +kernel
theorem dX9_voice_35 : decode cX9_voice 35 = .ok (.putfield 273, 3) := by decide +kernel
theorem dX9_voice_38 : decode cX9_voice 38 = .ok (.aload_n 0, 1) := by decide +kernel
theorem dX9_voice_39 : decode cX9_voice 39 = .ok (.invokevirtual 261, 3) := by decide +kernel
theorem dX9_voice_42 : decode cX9_voice 42 = .ok (.istore 4, 2) := by decide +kernel
theorem dX9_voice_44 : decode cX9_voice 44 = .ok (.iload_n 2, 1) := by decide +kernel
theorem dX9_voice_45 : decode cX9_voice 45 = .ok (.ifCond .ne 13, 3) := by decide +kernel
theorem dX9_voice_48 : decode cX9_voice 48 = .ok (.aload_n 0, 1) := by decide +kernel
theorem dX9_voice_49 : decode cX9_voice 49 = .ok (.iload 4, 2) := by decide +kernel
theorem dX9_voice_51 : decode cX9_voice 51 = .ok (.iload_n 3, 1) := by decide +kernel
theorem dX9_voice_52 : decode cX9_voice 52 = .ok (.invokevirtual 258, 3) := by decide +kernel
theorem dX9_voice_55 : decode cX9_voice 55 = .ok (.goto 40, 3) := by decide +kernel
theorem dX9_voice_58 : decode cX9_voice 58 = .ok (.iload_n 2, 1) := by decide +kernel
theorem dX9_voice_59 : decode cX9_voice 59 = .ok (.iconst 1, 1) := by decide +kernel
theorem dX9_voice_60 : decode cX9_voice 60 = .ok (.if_icmp .ne 13, 3) := by decide +kernel
theorem dX9_voice_63 : decode cX9_voice 63 = .ok (.aload_n 0, 1) := by decide +kernel
theorem dX9_voice_64 : decode cX9_voice 64 = .ok (.iload 4, 2) := by decide +kernel
theorem dX9_voice_66 : decode cX9_voice 66 = .ok (.iload_n 3, 1) := by decide +kernel
theorem dX9_voice_67 : decode cX9_voice 67 = .ok (.invokevirtual 264, 3) := by decide +kernel
theorem dX9_voice_70 : decode cX9_voice 70 = .ok (.goto 25, 3) := by decide +kernel
theorem dX9_voice_73 : decode cX9_voice 73 = .ok (.iload_n 2, 1) := by decide +kernel
theorem dX9_voice_74 : decode cX9_voice 74 = .ok (.iconst 2, 1) := by decide +kernel
theorem dX9_voice_75 : decode cX9_voice 75 = .ok (.if_icmp .ne 13, 3) := by decide +kernel
theorem dX9_voice_78 : decode cX9_voice 78 = .ok (.aload_n 0, 1) := by decide +kernel
theorem dX9_voice_79 : decode cX9_voice 79 = .ok (.iload 4, 2) := by decide +kernel
theorem dX9_voice_81 : decode cX9_voice 81 = .ok (.iload_n 3, 1) := by decide +kernel
theorem dX9_voice_82 : decode cX9_voice 82 = .ok (.invokevirtual 270, 3) := by decide +kernel
theorem dX9_voice_85 : decode cX9_voice 85 = .ok (.goto 10, 3) := by decide +kernel
theorem dX9_voice_88 : decode cX9_voice 88 = .ok (.aload_n 0, 1) := by decide +kernel
theorem dX9_voice_89 : decode cX9_voice 89 = .ok (.iload 4, 2) := by decide +kernel
theorem dX9_voice_91 : decode cX9_voice 91 = .ok (.iload_n 3, 1) := by decide +kernel
theorem dX9_voice_92 : decode cX9_voice 92 = .ok (.invokevirtual 277, 3) := by decide +kernel
theorem dX9_voice_95 : decode cX9_voice 95 = .ok (.istore 5, 2) := by decide +kernel
theorem dX9_voice_97 : decode cX9_voice 97 = .ok (.aload_n 0, 1) := by decide +kernel
theorem dX9_voice_98 : decode cX9_voice 98 = .ok (.getfield 273, 3) := by decide +kernel
theorem dX9_voice_101 : decode cX9_voice 101 = .ok (.ifCond .eq 12, 3) := by decide +kernel
theorem dX9_voice_104 : decode cX9_voice 104 = .ok (.aload_n 0, 1) := by decide +kernel
theorem dX9_voice_105 : decode cX9_voice 105 = .ok (.bipush 6, 2) := by decide +kernel
theorem dX9_voice_107 : decode cX9_voice 107 = .ok (.invokevirtual 63, 3) := by decide +kernel
theorem dX9_voice_110 : decode cX9_voice 110 = .ok (.goto 5, 3) := by decide +kernel
theorem dX9_voice_113 : decode cX9_voice 113 = .ok (.iload 5, 2) := by decide +kernel
theorem dX9_voice_115 : decode cX9_voice 115 = .ok (.ireturn, 1) := by decide +kernel
theorem dX9_body_0 : decode cX9_body 0 = .ok (.iload_n 1, 1) := by decide +kernel
theorem dX9_body_1 : decode cX9_body 1 = .ok (.iconst 0, 1) := by decide +kernel
theorem dX9_body_2 : decode cX9_body 2 = .ok (.aload_n 0, 1) := by decide +kernel
theorem dX9_body_3 : decode cX9_body 3 = .ok (.getfield 246, 3) := by decide +kernel
theorem dX9_body_6 : decode cX9_body 6 = .ok (.iconst 1, 1) := by decide +kernel
theorem dX9_body_7 : decode cX9_body 7 = .ok (.isub, 1) := by decide +kernel
theorem dX9_body_8 : decode cX9_body 8 = .ok (.invokestatic 59, 3) := by decide +kernel
theorem dX9_body_11 : decode cX9_body 11 = .ok (.ifCond .eq 12, 3) := by decide +kernel
theorem dX9_body_14 : decode cX9_body 14 = .ok (.aload_n 0, 1) := by decide +kernel
theorem dX9_body_15 : decode cX9_body 15 = .ok (.getfield 43, 3) := by decide +kernel
theorem dX9_body_18 : decode cX9_body 18 = .ok (.iload_n 1, 1) := by decide +kernel
theorem dX9_body_19 : decode cX9_body 19 = .ok (.iaload, 1) := by decide +kernel
theorem dX9_body_20 : decode cX9_body 20 = .ok (.goto 8, 3) := by decide +kernel
theorem dX9_body_23 : decode cX9_body 23 = .ok (.aload_n 0, 1) := by decide +kernel
theorem dX9_body_24 : decode cX9_body 24 = .ok (.iconst 2, 1) := by decide +kernel
theorem dX9_body_25 : decode cX9_body 25 = .ok (.invokevirtual 63, 3) := by decide +kernel
theorem dX9_body_28 : decode cX9_body 28 = .ok (.ireturn, 1) := by decide +kernel
theorem dX9_isSheet_0 : decode cX9_isSheet 0 = .ok (.iload_n 0, 1) := by decide +kernel
theorem dX9_isSheet_1 : decode cX9_isSheet 1 = .ok (.iconst 0, 1) := by decide +kernel
theorem dX9_isSheet_2 : decode cX9_isSheet 2 = .ok (.iconst 3, 1) := by decide +kernel
theorem dX9_isSheet_3 : decode cX9_isSheet 3 = .ok (.invokestatic 59, 3) := by decide +kernel
theorem dX9_isSheet_6 : decode cX9_isSheet 6 = .ok (.ireturn, 1) := by decide +kernel
theorem dX9_sheet_0 : decode cX9_sheet 0 = .ok (.iload_n 1, 1) := by decide +kernel
theorem dX9_sheet_1 : decode cX9_sheet 1 = .ok (.invokestatic 280, 3) := by decide +kernel
theorem dX9_sheet_4 : decode cX9_sheet 4 = .ok (.ifCond .eq 25, 3) := by decide +kernel
theorem dX9_sheet_7 : decode cX9_sheet 7 = .ok (.iload_n 2, 1) := by decide +kernel
theorem dX9_sheet_8 : decode cX9_sheet 8 = .ok (.ifCond .eq 27, 3) := by decide +kernel
theorem dX9_sheet_11 : decode cX9_sheet 11 = .ok (.iload_n 2, 1) := by decide +kernel
theorem dX9_sheet_12 : decode cX9_sheet 12 = .ok (.bipush 8, 2) := by decide +kernel
theorem dX9_sheet_14 : decode cX9_sheet 14 = .ok (.if_icmp .eq 21, 3) := by decide +kernel
theorem dX9_sheet_17 : decode cX9_sheet 17 = .ok (.iload_n 2, 1) := by decide +kernel
theorem dX9_sheet_18 : decode cX9_sheet 18 = .ok (.bipush 16, 2) := by decide +kernel
theorem dX9_sheet_20 : decode cX9_sheet 20 = .ok (.if_icmp .eq 15, 3) := by decide +kernel
theorem dX9_sheet_23 : decode cX9_sheet 23 = .ok (.iload_n 2, 1) := by decide +kernel
theorem dX9_sheet_24 : decode cX9_sheet 24 = .ok (.bipush 32, 2) := by decide +kernel
theorem dX9_sheet_26 : decode cX9_sheet 26 = .ok (.if_icmp .eq 9, 3) := by decide +kernel
theorem dX9_sheet_29 : decode cX9_sheet 29 = .ok (.aload_n 0, 1) := by decide +kernel
theorem dX9_sheet_30 : decode cX9_sheet 30 = .ok (.iconst 1, 1) := by decide +kernel
theorem dX9_sheet_31 : decode cX9_sheet 31 = .ok (.invokevirtual 63, 3) := by decide +kernel
theorem dX9_sheet_34 : decode cX9_sheet 34 = .ok (.ireturn, 1) := by decide +kernel
theorem dX9_sheet_35 : decode cX9_sheet 35 = .ok (.iload_n 2, 1) := by decide +kernel
theorem dX9_sheet_36 : decode cX9_sheet 36 = .ok (.ifCond .eq 13, 3) := by decide +kernel
theorem dX9_sheet_39 : decode cX9_sheet 39 = .ok (.iload_n 3, 1) := by decide +kernel
theorem dX9_sheet_40 : decode cX9_sheet 40 = .ok (.ifCond .ge 9, 3) := by decide +kernel
theorem dX9_sheet_43 : decode cX9_sheet 43 = .ok (.aload_n 0, 1) := by decide +kernel
theorem dX9_sheet_44 : decode cX9_sheet 44 = .ok (.iconst 3, 1) := by decide +kernel
theorem dX9_sheet_45 : decode cX9_sheet 45 = .ok (.invokevirtual 63, 3) := by decide +kernel
theorem dX9_sheet_48 : decode cX9_sheet 48 = .ok (.ireturn, 1) := by decide +kernel
theorem dX9_sheet_49 : decode cX9_sheet 49 = .ok (.iload_n 2, 1) := by decide +kernel
theorem dX9_sheet_50 : decode cX9_sheet 50 = .ok (.ifCond .eq 15, 3) := by decide +kernel
theorem dX9_sheet_53 : decode cX9_sheet 53 = .ok (.iload_n 3, 1) := by decide +kernel
theorem dX9_sheet_54 : decode cX9_sheet 54 = .ok (.bipush 24, 2) := by decide +kernel
theorem dX9_sheet_56 : decode cX9_sheet 56 = .ok (.if_icmp .le 9, 3) := by decide +kernel
theorem dX9_sheet_59 : decode cX9_sheet 59 = .ok (.aload_n 0, 1) := by decide +kernel
theorem dX9_sheet_60 : decode cX9_sheet 60 = .ok (.iconst 1, 1) := by decide +kernel
theorem dX9_sheet_61 : decode cX9_sheet 61 = .ok (.invokevirtual 63, 3) := by decide +kernel
theorem dX9_sheet_64 : decode cX9_sheet 64 = .ok (.ireturn, 1) := by decide +kernel
theorem dX9_sheet_65 : decode cX9_sheet 65 = .ok (.aload_n 0, 1) := by decide +kernel
theorem dX9_sheet_66 : decode cX9_sheet 66 = .ok (.getfield 46, 3) := by decide +kernel
theorem dX9_sheet_69 : decode cX9_sheet 69 = .ok (.iload_n 1, 1) := by decide +kernel
theorem dX9_sheet_70 : decode cX9_sheet 70 = .ok (.iload_n 2, 1) := by decide +kernel
theorem dX9_sheet_71 : decode cX9_sheet 71 = .ok (.iastore, 1) := by decide +kernel
theorem dX9_sheet_72 : decode cX9_sheet 72 = .ok (.aload_n 0, 1) := by decide +kernel
theorem dX9_sheet_73 : decode cX9_sheet 73 = .ok (.getfield 49, 3) := by decide +kernel
theorem dX9_sheet_76 : decode cX9_sheet 76 = .ok (.iload_n 1, 1) := by decide +kernel
theorem dX9_sheet_77 : decode cX9_sheet 77 = .ok (.iload_n 2, 1) := by decide +kernel
theorem dX9_sheet_78 : decode cX9_sheet 78 = .ok (.ifCond .ne 7, 3) := by decide +kernel
theorem dX9_sheet_81 : decode cX9_sheet 81 = .ok (.iconst 0, 1) := by decide +kernel
theorem dX9_sheet_82 : decode cX9_sheet 82 = .ok (.goto 4, 3) := by decide +kernel
theorem dX9_sheet_85 : decode cX9_sheet 85 = .ok (.iload_n 3, 1) := by decide +kernel
theorem dX9_sheet_86 : decode cX9_sheet 86 = .ok (.iastore, 1) := by decide +kernel
theorem dX9_sheet_87 : decode cX9_sheet 87 = .ok (.iconst 0, 1) := by decide +kernel
theorem dX9_sheet_88 : decode cX9_sheet 88 = .ok (.istore 4, 2) := by decide +kernel
theorem dX9_sheet_90 : decode cX9_sheet 90 = .ok (.iload 4, 2) := by decide +kernel
theorem dX9_sheet_92 : decode cX9_sheet 92 = .ok (.bipush 24, 2) := by decide +kernel
theorem dX9_sheet_94 : decode cX9_sheet 94 = .ok (.if_icmp .ge 22, 3) := by decide +kernel
theorem dX9_sheet_97 : decode cX9_sheet 97 = .ok (.aload_n 0, 1) := by decide +kernel
theorem dX9_sheet_98 : decode cX9_sheet 98 = .ok (.getfield 52, 3) := by decide +kernel
theorem dX9_sheet_101 : decode cX9_sheet 101 = .ok (.bipush 24, 2) := by decide +kernel
theorem dX9_sheet_103 : decode cX9_sheet 103 = .ok (.iload_n 1, 1) := by decide +kernel
theorem dX9_sheet_104 : decode cX9_sheet 104 = .ok (.imul, 1) := by decide +kernel
theorem dX9_sheet_105 : decode cX9_sheet 105 = .ok (.iload 4, 2) := by decide +kernel
theorem dX9_sheet_107 : decode cX9_sheet 107 = .ok (.iadd, 1) := by decide +kernel
theorem dX9_sheet_108 : decode cX9_sheet 108 = .ok (.iconst 0, 1) := by decide +kernel
theorem dX9_sheet_109 : decode cX9_sheet 109 = .ok (.iastore, 1) := by decide +kernel
theorem dX9_sheet_110 : decode cX9_sheet 110 = .ok (.iinc 4 1, 3) := by decide +kernel
theorem dX9_sheet_113 : decode cX9_sheet 113 = .ok (.goto (-23), 3) := by decide +kernel
theorem dX9_sheet_116 : decode cX9_sheet 116 = .ok (.iconst 1, 1) := by decide +kernel
theorem dX9_sheet_117 : decode cX9_sheet 117 = .ok (.ireturn, 1) := by decide +kernel
theorem dX9_put_0 : decode cX9_put 0 = .ok (.iload_n 1, 1) := by decide +kernel
theorem dX9_put_1 : decode cX9_put 1 = .ok (.invokestatic 280, 3) := by decide +kernel
theorem dX9_put_4 : decode cX9_put 4 = .ok (.ifCond .ne 9, 3) := by decide +kernel
theorem dX9_put_7 : decode cX9_put 7 = .ok (.aload_n 0, 1) := by decide +kernel
theorem dX9_put_8 : decode cX9_put 8 = .ok (.iconst 1, 1) := by decide +kernel
theorem dX9_put_9 : decode cX9_put 9 = .ok (.invokevirtual 63, 3) := by decide +kernel
theorem dX9_put_12 : decode cX9_put 12 = .ok (.ireturn, 1) := by decide +kernel
theorem dX9_put_13 : decode cX9_put 13 = .ok (.aload_n 0, 1) := by decide +kernel
theorem dX9_put_14 : decode cX9_put 14 = .ok (.getfield 46, 3) := by decide +kernel
theorem dX9_put_17 : decode cX9_put 17 = .ok (.iload_n 1, 1) := by decide +kernel
theorem dX9_put_18 : decode cX9_put 18 = .ok (.iaload, 1) := by decide +kernel
theorem dX9_put_19 : decode cX9_put 19 = .ok (.ifCond .ne 9, 3) := by decide +kernel
theorem dX9_put_22 : decode cX9_put 22 = .ok (.aload_n 0, 1) := by decide +kernel
theorem dX9_put_23 : decode cX9_put 23 = .ok (.iconst 2, 1) := by decide +kernel
theorem dX9_put_24 : decode cX9_put 24 = .ok (.invokevirtual 63, 3) := by decide +kernel
theorem dX9_put_27 : decode cX9_put 27 = .ok (.ireturn, 1) := by decide +kernel
theorem dX9_put_28 : decode cX9_put 28 = .ok (.iload_n 2, 1) := by decide +kernel
theorem dX9_put_29 : decode cX9_put 29 = .ok (.iconst 0, 1) := by decide +kernel
theorem dX9_put_30 : decode cX9_put 30 = .ok (.aload_n 0, 1) := by decide +kernel
theorem dX9_put_31 : decode cX9_put 31 = .ok (.getfield 49, 3) := by decide +kernel
theorem dX9_put_34 : decode cX9_put 34 = .ok (.iload_n 1, 1) := by decide +kernel
theorem dX9_put_35 : decode cX9_put 35 = .ok (.iaload, 1) := by decide +kernel
theorem dX9_put_36 : decode cX9_put 36 = .ok (.iconst 1, 1) := by decide +kernel
theorem dX9_put_37 : decode cX9_put 37 = .ok (.isub, 1) := by decide +kernel
theorem dX9_put_38 : decode cX9_put 38 = .ok (.invokestatic 59, 3) := by decide +kernel
theorem dX9_put_41 : decode cX9_put 41 = .ok (.ifCond .ne 9, 3) := by decide +kernel
theorem dX9_put_44 : decode cX9_put 44 = .ok (.aload_n 0, 1) := by decide +kernel
theorem dX9_put_45 : decode cX9_put 45 = .ok (.iconst 1, 1) := by decide +kernel
theorem dX9_put_46 : decode cX9_put 46 = .ok (.invokevirtual 63, 3) := by decide +kernel
theorem dX9_put_49 : decode cX9_put 49 = .ok (.ireturn, 1) := by decide +kernel
theorem dX9_put_50 : decode cX9_put 50 = .ok (.bipush 32, 2) := by decide +kernel
theorem dX9_put_52 : decode cX9_put 52 = .ok (.aload_n 0, 1) := by decide +kernel
theorem dX9_put_53 : decode cX9_put 53 = .ok (.getfield 46, 3) := by decide +kernel
theorem dX9_put_56 : decode cX9_put 56 = .ok (.iload_n 1, 1) := by decide +kernel
theorem dX9_put_57 : decode cX9_put 57 = .ok (.iaload, 1) := by decide +kernel
theorem dX9_put_58 : decode cX9_put 58 = .ok (.isub, 1) := by decide +kernel
theorem dX9_put_59 : decode cX9_put 59 = .ok (.istore 4, 2) := by decide +kernel
theorem dX9_put_61 : decode cX9_put 61 = .ok (.aload_n 0, 1) := by decide +kernel
theorem dX9_put_62 : decode cX9_put 62 = .ok (.getfield 52, 3) := by decide +kernel
theorem dX9_put_65 : decode cX9_put 65 = .ok (.bipush 24, 2) := by decide +kernel
theorem dX9_put_67 : decode cX9_put 67 = .ok (.iload_n 1, 1) := by decide +kernel
theorem dX9_put_68 : decode cX9_put 68 = .ok (.imul, 1) := by decide +kernel
theorem dX9_put_69 : decode cX9_put 69 = .ok (.iload_n 2, 1) := by decide +kernel
theorem dX9_put_70 : decode cX9_put 70 = .ok (.iadd, 1) := by decide +kernel
theorem dX9_put_71 : decode cX9_put 71 = .ok (.iload_n 3, 1) := by decide +kernel
theorem dX9_put_72 : decode cX9_put 72 = .ok (.iload 4, 2) := by decide +kernel
theorem dX9_put_74 : decode cX9_put 74 = .ok (.ishl, 1) := by decide +kernel
theorem dX9_put_75 : decode cX9_put 75 = .ok (.iload 4, 2) := by decide +kernel
theorem dX9_put_77 : decode cX9_put 77 = .ok (.ishr, 1) := by decide +kernel
theorem dX9_put_78 : decode cX9_put 78 = .ok (.iastore, 1) := by decide +kernel
theorem dX9_put_79 : decode cX9_put 79 = .ok (.iconst 1, 1) := by decide +kernel
theorem dX9_put_80 : decode cX9_put 80 = .ok (.ireturn, 1) := by decide +kernel
theorem dX9_move_0 : decode cX9_move 0 = .ok (.iload_n 1, 1) := by decide +kernel
theorem dX9_move_1 : decode cX9_move 1 = .ok (.invokestatic 280, 3) := by decide +kernel
theorem dX9_move_4 : decode cX9_move 4 = .ok (.ifCond .eq 10, 3) := by decide +kernel
theorem dX9_move_7 : decode cX9_move 7 = .ok (.iload_n 3, 1) := by decide +kernel
theorem dX9_move_8 : decode cX9_move 8 = .ok (.invokestatic 280, 3) := by decide +kernel
theorem dX9_move_11 : decode cX9_move 11 = .ok (.ifCond .ne 9, 3) := by decide +kernel
theorem dX9_move_14 : decode cX9_move 14 = .ok (.aload_n 0, 1) := by decide +kernel
theorem dX9_move_15 : decode cX9_move 15 = .ok (.iconst 1, 1) := by decide +kernel
theorem dX9_move_16 : decode cX9_move 16 = .ok (.invokevirtual 63, 3) := by decide +kernel
theorem dX9_move_19 : decode cX9_move 19 = .ok (.ireturn, 1) := by decide +kernel
theorem dX9_move_20 : decode cX9_move 20 = .ok (.aload_n 0, 1) := by decide +kernel
theorem dX9_move_21 : decode cX9_move 21 = .ok (.getfield 46, 3) := by decide +kernel
theorem dX9_move_24 : decode cX9_move 24 = .ok (.iload_n 1, 1) := by decide +kernel
theorem dX9_move_25 : decode cX9_move 25 = .ok (.iaload, 1) := by decide +kernel
theorem dX9_move_26 : decode cX9_move 26 = .ok (.ifCond .eq 12, 3) := by decide +kernel
theorem dX9_move_29 : decode cX9_move 29 = .ok (.aload_n 0, 1) := by decide +kernel
theorem dX9_move_30 : decode cX9_move 30 = .ok (.getfield 46, 3) := by decide +kernel
theorem dX9_move_33 : decode cX9_move 33 = .ok (.iload_n 3, 1) := by decide +kernel
theorem dX9_move_34 : decode cX9_move 34 = .ok (.iaload, 1) := by decide +kernel
theorem dX9_move_35 : decode cX9_move 35 = .ok (.ifCond .ne 9, 3) := by decide +kernel
theorem dX9_move_38 : decode cX9_move 38 = .ok (.aload_n 0, 1) := by decide +kernel
theorem dX9_move_39 : decode cX9_move 39 = .ok (.iconst 2, 1) := by decide +kernel
theorem dX9_move_40 : decode cX9_move 40 = .ok (.invokevirtual 63, 3) := by decide +kernel
theorem dX9_move_43 : decode cX9_move 43 = .ok (.ireturn, 1) := by decide +kernel
theorem dX9_move_44 : decode cX9_move 44 = .ok (.aload_n 0, 1) := by decide +kernel
theorem dX9_move_45 : decode cX9_move 45 = .ok (.getfield 46, 3) := by decide +kernel
theorem dX9_move_48 : decode cX9_move 48 = .ok (.iload_n 1, 1) := by decide +kernel
theorem dX9_move_49 : decode cX9_move 49 = .ok (.iaload, 1) := by decide +kernel
theorem dX9_move_50 : decode cX9_move 50 = .ok (.aload_n 0, 1) := by decide +kernel
theorem dX9_move_51 : decode cX9_move 51 = .ok (.getfield 46, 3) := by decide +kernel
theorem dX9_move_54 : decode cX9_move 54 = .ok (.iload_n 3, 1) := by decide +kernel
theorem dX9_move_55 : decode cX9_move 55 = .ok (.iaload, 1) := by decide +kernel
theorem dX9_move_56 : decode cX9_move 56 = .ok (.if_icmp .eq 9, 3) := by decide +kernel
theorem dX9_move_59 : decode cX9_move 59 = .ok (.aload_n 0, 1) := by decide +kernel
theorem dX9_move_60 : decode cX9_move 60 = .ok (.iconst 5, 1) := by decide +kernel
theorem dX9_move_61 : decode cX9_move 61 = .ok (.invokevirtual 63, 3) := by decide +kernel
theorem dX9_move_64 : decode cX9_move 64 = .ok (.ireturn, 1) := by decide +kernel
theorem dX9_move_65 : decode cX9_move 65 = .ok (.iload 5, 2) := by decide +kernel
theorem dX9_move_67 : decode cX9_move 67 = .ok (.ifCond .lt 39, 3) := by decide +kernel
theorem dX9_move_70 : decode cX9_move 70 = .ok (.iload_n 2, 1) := by decide +kernel
theorem dX9_move_71 : decode cX9_move 71 = .ok (.ifCond .lt 35, 3) := by decide +kernel
theorem dX9_move_74 : decode cX9_move 74 = .ok (.iload 4, 2) := by decide +kernel
theorem dX9_move_76 : decode cX9_move 76 = .ok (.ifCond .lt 30, 3) := by decide +kernel
theorem dX9_move_79 : decode cX9_move 79 = .ok (.iload_n 2, 1) := by decide +kernel
theorem dX9_move_80 : decode cX9_move 80 = .ok (.aload_n 0, 1) := by decide +kernel
theorem dX9_move_81 : decode cX9_move 81 = .ok (.getfield 49, 3) := by decide +kernel
theorem dX9_move_84 : decode cX9_move 84 = .ok (.iload_n 1, 1) := by decide +kernel
theorem dX9_move_85 : decode cX9_move 85 = .ok (.iaload, 1) := by decide +kernel
theorem dX9_move_86 : decode cX9_move 86 = .ok (.iload 5, 2) := by decide +kernel
theorem dX9_move_88 : decode cX9_move 88 = .ok (.isub, 1) := by decide +kernel
theorem dX9_move_89 : decode cX9_move 89 = .ok (.if_icmp .gt 17, 3) := by decide +kernel
theorem dX9_move_92 : decode cX9_move 92 = .ok (.iload 4, 2) := by decide +kernel
theorem dX9_move_94 : decode cX9_move 94 = .ok (.aload_n 0, 1) := by decide +kernel
theorem dX9_move_95 : decode cX9_move 95 = .ok (.getfield 49, 3) := by decide +kernel
theorem dX9_move_98 : decode cX9_move 98 = .ok (.iload_n 3, 1) := by decide +kernel
theorem dX9_move_99 : decode cX9_move 99 = .ok (.iaload, 1) := by decide +kernel
theorem dX9_move_100 : decode cX9_move 100 = .ok (.iload 5, 2) := by decide +kernel
theorem dX9_move_102 : decode cX9_move 102 = .ok (.isub, 1) := by decide +kernel
theorem dX9_move_103 : decode cX9_move 103 = .ok (.if_icmp .le 9, 3) := by decide +kernel
theorem dX9_move_106 : decode cX9_move 106 = .ok (.aload_n 0, 1) := by decide +kernel
theorem dX9_move_107 : decode cX9_move 107 = .ok (.iconst 1, 1) := by decide +kernel
theorem dX9_move_108 : decode cX9_move 108 = .ok (.invokevirtual 63, 3) := by decide +kernel
theorem dX9_move_111 : decode cX9_move 111 = .ok (.ireturn, 1) := by decide +kernel
theorem dX9_move_112 : decode cX9_move 112 = .ok (.iconst 0, 1) := by decide +kernel
theorem dX9_move_113 : decode cX9_move 113 = .ok (.istore 6, 2) := by decide +kernel
theorem dX9_move_115 : decode cX9_move 115 = .ok (.iload 6, 2) := by decide +kernel
theorem dX9_move_117 : decode cX9_move 117 = .ok (.iload 5, 2) := by decide +kernel
theorem dX9_move_119 : decode cX9_move 119 = .ok (.if_icmp .ge 30, 3) := by decide +kernel
theorem dX9_move_122 : decode cX9_move 122 = .ok (.aload_n 0, 1) := by decide +kernel
theorem dX9_move_123 : decode cX9_move 123 = .ok (.getfield 55, 3) := by decide +kernel
theorem dX9_move_126 : decode cX9_move 126 = .ok (.iload 6, 2) := by decide +kernel
theorem dX9_move_128 : decode cX9_move 128 = .ok (.aload_n 0, 1) := by decide +kernel
theorem dX9_move_129 : decode cX9_move 129 = .ok (.getfield 52, 3) := by decide +kernel
theorem dX9_move_132 : decode cX9_move 132 = .ok (.bipush 24, 2) := by decide +kernel
theorem dX9_move_134 : decode cX9_move 134 = .ok (.iload_n 1, 1) := by decide +kernel
theorem dX9_move_135 : decode cX9_move 135 = .ok (.imul, 1) := by decide +kernel
theorem dX9_move_136 : decode cX9_move 136 = .ok (.iload_n 2, 1) := by decide +kernel
theorem dX9_move_137 : decode cX9_move 137 = .ok (.iadd, 1) := by decide +kernel
theorem dX9_move_138 : decode cX9_move 138 = .ok (.iload 6, 2) := by decide +kernel
theorem dX9_move_140 : decode cX9_move 140 = .ok (.iadd, 1) := by decide +kernel
theorem dX9_move_141 : decode cX9_move 141 = .ok (.iaload, 1) := by decide +kernel
theorem dX9_move_142 : decode cX9_move 142 = .ok (.iastore, 1) := by decide +kernel
theorem dX9_move_143 : decode cX9_move 143 = .ok (.iinc 6 1, 3) := by decide +kernel
theorem dX9_move_146 : decode cX9_move 146 = .ok (.goto (-31), 3) := by decide +kernel
theorem dX9_move_149 : decode cX9_move 149 = .ok (.iconst 0, 1) := by decide +kernel
theorem dX9_move_150 : decode cX9_move 150 = .ok (.istore 6, 2) := by decide +kernel
theorem dX9_move_152 : decode cX9_move 152 = .ok (.iload 6, 2) := by decide +kernel
theorem dX9_move_154 : decode cX9_move 154 = .ok (.iload 5, 2) := by decide +kernel
theorem dX9_move_156 : decode cX9_move 156 = .ok (.if_icmp .ge 31, 3) := by decide +kernel
theorem dX9_move_159 : decode cX9_move 159 = .ok (.aload_n 0, 1) := by decide +kernel
theorem dX9_move_160 : decode cX9_move 160 = .ok (.getfield 52, 3) := by decide +kernel
theorem dX9_move_163 : decode cX9_move 163 = .ok (.bipush 24, 2) := by decide +kernel
theorem dX9_move_165 : decode cX9_move 165 = .ok (.iload_n 3, 1) := by decide +kernel
theorem dX9_move_166 : decode cX9_move 166 = .ok (.imul, 1) := by decide +kernel
theorem dX9_move_167 : decode cX9_move 167 = .ok (.iload 4, 2) := by decide +kernel
theorem dX9_move_169 : decode cX9_move 169 = .ok (.iadd, 1) := by decide +kernel
theorem dX9_move_170 : decode cX9_move 170 = .ok (.iload 6, 2) := by decide +kernel
theorem dX9_move_172 : decode cX9_move 172 = .ok (.iadd, 1) := by decide +kernel
theorem dX9_move_173 : decode cX9_move 173 = .ok (.aload_n 0, 1) := by decide +kernel
theorem dX9_move_174 : decode cX9_move 174 = .ok (.getfield 55, 3) := by decide +kernel
theorem dX9_move_177 : decode cX9_move 177 = .ok (.iload 6, 2) := by decide +kernel
theorem dX9_move_179 : decode cX9_move 179 = .ok (.iaload, 1) := by decide +kernel
theorem dX9_move_180 : decode cX9_move 180 = .ok (.iastore, 1) := by decide +kernel
theorem dX9_move_181 : decode cX9_move 181 = .ok (.iinc 6 1, 3) := by decide +kernel
theorem dX9_move_184 : decode cX9_move 184 = .ok (.goto (-32), 3) := by decide +kernel
theorem dX9_move_187 : decode cX9_move 187 = .ok (.iload 5, 2) := by decide +kernel
theorem dX9_move_189 : decode cX9_move 189 = .ok (.ireturn, 1) := by decide +kernel
theorem dX9_lacks_0 : decode cX9_lacks 0 = .ok (.iload_n 1, 1) := by decide +kernel
theorem dX9_lacks_1 : decode cX9_lacks 1 = .ok (.invokestatic 280, 3) := by decide +kernel
theorem dX9_lacks_4 : decode cX9_lacks 4 = .ok (.ifCond .ne 7, 3) := by decide +kernel
theorem dX9_lacks_7 : decode cX9_lacks 7 = .ok (.iconst 1, 1) := by decide +kernel
theorem dX9_lacks_8 : decode cX9_lacks 8 = .ok (.goto 17, 3) := by decide +kernel
theorem dX9_lacks_11 : decode cX9_lacks 11 = .ok (.aload_n 0, 1) := by decide +kernel
theorem dX9_lacks_12 : decode cX9_lacks 12 = .ok (.getfield 46, 3) := by decide +kernel
theorem dX9_lacks_15 : decode cX9_lacks 15 = .ok (.iload_n 1, 1) := by decide +kernel
theorem dX9_lacks_16 : decode cX9_lacks 16 = .ok (.iaload, 1) := by decide +kernel
theorem dX9_lacks_17 : decode cX9_lacks 17 = .ok (.ifCond .ne 7, 3) := by decide +kernel
theorem dX9_lacks_20 : decode cX9_lacks 20 = .ok (.iconst 2, 1) := by decide +kernel
theorem dX9_lacks_21 : decode cX9_lacks 21 = .ok (.goto 4, 3) := by decide +kernel
theorem dX9_lacks_24 : decode cX9_lacks 24 = .ok (.iconst 0, 1) := by decide +kernel
theorem dX9_lacks_25 : decode cX9_lacks 25 = .ok (.ireturn, 1) := by decide +kernel
theorem dX9_crossings_0 : decode cX9_crossings 0 = .ok (.aload_n 0, 1) := by decide +kernel
theorem dX9_crossings_1 : decode cX9_crossings 1 = .ok (.iload_n 1, 1) := by decide +kernel
theorem dX9_crossings_2 : decode cX9_crossings 2 = .ok (.invokevirtual 283, 3) := by decide +kernel
theorem dX9_crossings_5 : decode cX9_crossings 5 = .ok (.istore_n 2, 1) := by decide +kernel
theorem dX9_crossings_6 : decode cX9_crossings 6 = .ok (.iload_n 2, 1) := by decide +kernel
theorem dX9_crossings_7 : decode cX9_crossings 7 = .ok (.ifCond .le 9, 3) := by decide +kernel
theorem dX9_crossings_10 : decode cX9_crossings 10 = .ok (.aload_n 0, 1) := by decide +kernel
theorem dX9_crossings_11 : decode cX9_crossings 11 = .ok (.iload_n 2, 1) := by decide +kernel
theorem dX9_crossings_12 : decode cX9_crossings 12 = .ok (.invokevirtual 63, 3) := by decide +kernel
theorem dX9_crossings_15 : decode cX9_crossings 15 = .ok (.ireturn, 1) := by decide +kernel
theorem dX9_crossings_16 : decode cX9_crossings 16 = .ok (.iconst 0, 1) := by decide +kernel
theorem dX9_crossings_17 : decode cX9_crossings 17 = .ok (.istore_n 3, 1) := by decide +kernel
theorem dX9_crossings_18 : decode cX9_crossings 18 = .ok (.bipush 24, 2) := by decide +kernel
theorem dX9_crossings_20 : decode cX9_crossings 20 = .ok (.iload_n 1, 1) := by decide +kernel
theorem dX9_crossings_21 : decode cX9_crossings 21 = .ok (.imul, 1) := by decide +kernel
theorem dX9_crossings_22 : decode cX9_crossings 22 = .ok (.istore 4, 2) := by decide +kernel
theorem dX9_crossings_24 : decode cX9_crossings 24 = .ok (.iconst 2, 1) := by decide +kernel
theorem dX9_crossings_25 : decode cX9_crossings 25 = .ok (.iload_n 3, 1) := by decide +kernel
theorem dX9_crossings_26 : decode cX9_crossings 26 = .ok (.imul, 1) := by decide +kernel
theorem dX9_crossings_27 : decode cX9_crossings 27 = .ok (.iconst 1, 1) := by decide +kernel
theorem dX9_crossings_28 : decode cX9_crossings 28 = .ok (.iadd, 1) := by decide +kernel
theorem dX9_crossings_29 : decode cX9_crossings 29 = .ok (.aload_n 0, 1) := by decide +kernel
theorem dX9_crossings_30 : decode cX9_crossings 30 = .ok (.getfield 49, 3) := by decide +kernel
theorem dX9_crossings_33 : decode cX9_crossings 33 = .ok (.iload_n 1, 1) := by decide +kernel
theorem dX9_crossings_34 : decode cX9_crossings 34 = .ok (.iaload, 1) := by decide +kernel
theorem dX9_crossings_35 : decode cX9_crossings 35 = .ok (.if_icmp .ge 70, 3) := by decide +kernel
theorem dX9_crossings_38 : decode cX9_crossings 38 = .ok (.aload_n 0, 1) := by decide +kernel
theorem dX9_crossings_39 : decode cX9_crossings 39 = .ok (.aload_n 0, 1) := by decide +kernel
theorem dX9_crossings_40 : decode cX9_crossings 40 = .ok (.getfield 52, 3) := by decide +kernel
theorem dX9_crossings_43 : decode cX9_crossings 43 = .ok (.iload 4, 2) := by decide +kernel
theorem dX9_crossings_45 : decode cX9_crossings 45 = .ok (.iconst 2, 1) := by decide +kernel
theorem dX9_crossings_46 : decode cX9_crossings 46 = .ok (.iload_n 3, 1) := by decide +kernel
theorem dX9_crossings_47 : decode cX9_crossings 47 = .ok (.imul, 1) := by decide +kernel
theorem dX9_crossings_48 : decode cX9_crossings 48 = .ok (.iadd, 1) := by decide +kernel
theorem dX9_crossings_49 : decode cX9_crossings 49 = .ok (.iaload, 1) := by decide +kernel
theorem dX9_crossings_50 : decode cX9_crossings 50 = .ok (.aload_n 0, 1) := by decide +kernel
theorem dX9_crossings_51 : decode cX9_crossings 51 = .ok (.getfield 52, 3) := by decide +kernel
theorem dX9_crossings_54 : decode cX9_crossings 54 = .ok (.iload 4, 2) := by decide +kernel
theorem dX9_crossings_56 : decode cX9_crossings 56 = .ok (.iconst 2, 1) := by decide +kernel
theorem dX9_crossings_57 : decode cX9_crossings 57 = .ok (.iload_n 3, 1) := by decide +kernel
theorem dX9_crossings_58 : decode cX9_crossings 58 = .ok (.imul, 1) := by decide +kernel
theorem dX9_crossings_59 : decode cX9_crossings 59 = .ok (.iadd, 1) := by decide +kernel
theorem dX9_crossings_60 : decode cX9_crossings 60 = .ok (.iconst 1, 1) := by decide +kernel
theorem dX9_crossings_61 : decode cX9_crossings 61 = .ok (.iadd, 1) := by decide +kernel
theorem dX9_crossings_62 : decode cX9_crossings 62 = .ok (.iaload, 1) := by decide +kernel
theorem dX9_crossings_63 : decode cX9_crossings 63 = .ok (.invokevirtual 184, 3) := by decide +kernel
theorem dX9_crossings_66 : decode cX9_crossings 66 = .ok (.ifCond .ne 39, 3) := by decide +kernel
theorem dX9_crossings_69 : decode cX9_crossings 69 = .ok (.aload_n 0, 1) := by decide +kernel
theorem dX9_crossings_70 : decode cX9_crossings 70 = .ok (.aload_n 0, 1) := by decide +kernel
theorem dX9_crossings_71 : decode cX9_crossings 71 = .ok (.getfield 52, 3) := by decide +kernel
theorem dX9_crossings_74 : decode cX9_crossings 74 = .ok (.iload 4, 2) := by decide +kernel
theorem dX9_crossings_76 : decode cX9_crossings 76 = .ok (.iconst 2, 1) := by decide +kernel
theorem dX9_crossings_77 : decode cX9_crossings 77 = .ok (.iload_n 3, 1) := by decide +kernel
theorem dX9_crossings_78 : decode cX9_crossings 78 = .ok (.imul, 1) := by decide +kernel
theorem dX9_crossings_79 : decode cX9_crossings 79 = .ok (.iadd, 1) := by decide +kernel
theorem dX9_crossings_80 : decode cX9_crossings 80 = .ok (.iaload, 1) := by decide +kernel
theorem dX9_crossings_81 : decode cX9_crossings 81 = .ok (.aload_n 0, 1) := by decide +kernel
theorem dX9_crossings_82 : decode cX9_crossings 82 = .ok (.getfield 52, 3) := by decide +kernel
theorem dX9_crossings_85 : decode cX9_crossings 85 = .ok (.iload 4, 2) := by decide +kernel
theorem dX9_crossings_87 : decode cX9_crossings 87 = .ok (.iconst 2, 1) := by decide +kernel
theorem dX9_crossings_88 : decode cX9_crossings 88 = .ok (.iload_n 3, 1) := by decide +kernel
theorem dX9_crossings_89 : decode cX9_crossings 89 = .ok (.imul, 1) := by decide +kernel
theorem dX9_crossings_90 : decode cX9_crossings 90 = .ok (.iadd, 1) := by decide +kernel
theorem dX9_crossings_91 : decode cX9_crossings 91 = .ok (.iconst 1, 1) := by decide +kernel
theorem dX9_crossings_92 : decode cX9_crossings 92 = .ok (.iadd, 1) := by decide +kernel
theorem dX9_crossings_93 : decode cX9_crossings 93 = .ok (.iaload, 1) := by decide +kernel
theorem dX9_crossings_94 : decode cX9_crossings 94 = .ok (.invokevirtual 187, 3) := by decide +kernel
theorem dX9_crossings_97 : decode cX9_crossings 97 = .ok (.istore 5, 2) := by decide +kernel
theorem dX9_crossings_99 : decode cX9_crossings 99 = .ok (.iinc 3 1, 3) := by decide +kernel
theorem dX9_crossings_102 : decode cX9_crossings 102 = .ok (.goto (-78), 3) := by decide +kernel
theorem dX9_crossings_105 : decode cX9_crossings 105 = .ok (.iload_n 3, 1) := by decide +kernel
theorem dX9_crossings_106 : decode cX9_crossings 106 = .ok (.ireturn, 1) := by decide +kernel
theorem dX9_judge_0 : decode cX9_judge 0 = .ok (.aload_n 0, 1) := by decide +kernel
theorem dX9_judge_1 : decode cX9_judge 1 = .ok (.iload_n 2, 1) := by decide +kernel
theorem dX9_judge_2 : decode cX9_judge 2 = .ok (.invokevirtual 168, 3) := by decide +kernel
theorem dX9_judge_5 : decode cX9_judge 5 = .ok (.ifCond .eq 11, 3) := by decide +kernel
theorem dX9_judge_8 : decode cX9_judge 8 = .ok (.aload_n 0, 1) := by decide +kernel
theorem dX9_judge_9 : decode cX9_judge 9 = .ok (.iload_n 1, 1) := by decide +kernel
theorem dX9_judge_10 : decode cX9_judge 10 = .ok (.invokevirtual 283, 3) := by decide +kernel
theorem dX9_judge_13 : decode cX9_judge 13 = .ok (.goto 4, 3) := by decide +kernel
theorem dX9_judge_16 : decode cX9_judge 16 = .ok (.iconst 1, 1) := by decide +kernel
theorem dX9_judge_17 : decode cX9_judge 17 = .ok (.istore_n 3, 1) := by decide +kernel
theorem dX9_judge_18 : decode cX9_judge 18 = .ok (.iload_n 3, 1) := by decide +kernel
theorem dX9_judge_19 : decode cX9_judge 19 = .ok (.ifCond .le 9, 3) := by decide +kernel
theorem dX9_judge_22 : decode cX9_judge 22 = .ok (.aload_n 0, 1) := by decide +kernel
theorem dX9_judge_23 : decode cX9_judge 23 = .ok (.iload_n 3, 1) := by decide +kernel
theorem dX9_judge_24 : decode cX9_judge 24 = .ok (.invokevirtual 63, 3) := by decide +kernel
theorem dX9_judge_27 : decode cX9_judge 27 = .ok (.ireturn, 1) := by decide +kernel
theorem dX9_judge_28 : decode cX9_judge 28 = .ok (.iconst 0, 1) := by decide +kernel
theorem dX9_judge_29 : decode cX9_judge 29 = .ok (.istore 4, 2) := by decide +kernel
theorem dX9_judge_31 : decode cX9_judge 31 = .ok (.iload 4, 2) := by decide +kernel
theorem dX9_judge_33 : decode cX9_judge 33 = .ok (.aload_n 0, 1) := by decide +kernel
theorem dX9_judge_34 : decode cX9_judge 34 = .ok (.getfield 49, 3) := by decide +kernel
theorem dX9_judge_37 : decode cX9_judge 37 = .ok (.iload_n 1, 1) := by decide +kernel
theorem dX9_judge_38 : decode cX9_judge 38 = .ok (.iaload, 1) := by decide +kernel
theorem dX9_judge_39 : decode cX9_judge 39 = .ok (.if_icmp .ge 44, 3) := by decide +kernel
theorem dX9_judge_42 : decode cX9_judge 42 = .ok (.iload 4, 2) := by decide +kernel
theorem dX9_judge_44 : decode cX9_judge 44 = .ok (.aload_n 0, 1) := by decide +kernel
theorem dX9_judge_45 : decode cX9_judge 45 = .ok (.iload_n 2, 1) := by decide +kernel
theorem dX9_judge_46 : decode cX9_judge 46 = .ok (.iconst 4, 1) := by decide +kernel
theorem dX9_judge_47 : decode cX9_judge 47 = .ok (.invokevirtual 123, 3) := by decide +kernel
theorem dX9_judge_50 : decode cX9_judge 50 = .ok (.if_icmp .ge 33, 3) := by decide +kernel
theorem dX9_judge_53 : decode cX9_judge 53 = .ok (.aload_n 0, 1) := by decide +kernel
theorem dX9_judge_54 : decode cX9_judge 54 = .ok (.getfield 52, 3) := by decide +kernel
theorem dX9_judge_57 : decode cX9_judge 57 = .ok (.bipush 24, 2) := by decide +kernel
theorem dX9_judge_59 : decode cX9_judge 59 = .ok (.iload_n 1, 1) := by decide +kernel
theorem dX9_judge_60 : decode cX9_judge 60 = .ok (.imul, 1) := by decide +kernel
theorem dX9_judge_61 : decode cX9_judge 61 = .ok (.iload 4, 2) := by decide +kernel
theorem dX9_judge_63 : decode cX9_judge 63 = .ok (.iadd, 1) := by decide +kernel
theorem dX9_judge_64 : decode cX9_judge 64 = .ok (.iaload, 1) := by decide +kernel
theorem dX9_judge_65 : decode cX9_judge 65 = .ok (.aload_n 0, 1) := by decide +kernel
theorem dX9_judge_66 : decode cX9_judge 66 = .ok (.iload_n 2, 1) := by decide +kernel
theorem dX9_judge_67 : decode cX9_judge 67 = .ok (.iconst 5, 1) := by decide +kernel
theorem dX9_judge_68 : decode cX9_judge 68 = .ok (.iload 4, 2) := by decide +kernel
theorem dX9_judge_70 : decode cX9_judge 70 = .ok (.iadd, 1) := by decide +kernel
theorem dX9_judge_71 : decode cX9_judge 71 = .ok (.invokevirtual 123, 3) := by decide +kernel
theorem dX9_judge_74 : decode cX9_judge 74 = .ok (.if_icmp .ne 9, 3) := by decide +kernel
theorem dX9_judge_77 : decode cX9_judge 77 = .ok (.iinc 4 1, 3) := by decide +kernel
theorem dX9_judge_80 : decode cX9_judge 80 = .ok (.goto (-49), 3) := by decide +kernel
theorem dX9_judge_83 : decode cX9_judge 83 = .ok (.iload 4, 2) := by decide +kernel
theorem dX9_judge_85 : decode cX9_judge 85 = .ok (.aload_n 0, 1) := by decide +kernel
theorem dX9_judge_86 : decode cX9_judge 86 = .ok (.getfield 49, 3) := by decide +kernel
theorem dX9_judge_89 : decode cX9_judge 89 = .ok (.iload_n 1, 1) := by decide +kernel
theorem dX9_judge_90 : decode cX9_judge 90 = .ok (.iaload, 1) := by decide +kernel
theorem dX9_judge_91 : decode cX9_judge 91 = .ok (.if_icmp .ne 18, 3) := by decide +kernel
theorem dX9_judge_94 : decode cX9_judge 94 = .ok (.iload 4, 2) := by decide +kernel
theorem dX9_judge_96 : decode cX9_judge 96 = .ok (.aload_n 0, 1) := by decide +kernel
theorem dX9_judge_97 : decode cX9_judge 97 = .ok (.iload_n 2, 1) := by decide +kernel
theorem dX9_judge_98 : decode cX9_judge 98 = .ok (.iconst 4, 1) := by decide +kernel
theorem dX9_judge_99 : decode cX9_judge 99 = .ok (.invokevirtual 123, 3) := by decide +kernel
theorem dX9_judge_102 : decode cX9_judge 102 = .ok (.if_icmp .ne 7, 3) := by decide +kernel
theorem dX9_judge_105 : decode cX9_judge 105 = .ok (.iconst (-1), 1) := by decide +kernel
theorem dX9_judge_106 : decode cX9_judge 106 = .ok (.goto 5, 3) := by decide +kernel
theorem dX9_judge_109 : decode cX9_judge 109 = .ok (.iload 4, 2) := by decide +kernel
theorem dX9_judge_111 : decode cX9_judge 111 = .ok (.ireturn, 1) := by decide +kernel
theorem dX9_image_0 : decode cX9_image 0 = .ok (.aload_n 0, 1) := by decide +kernel
theorem dX9_image_1 : decode cX9_image 1 = .ok (.getfield 7, 3) := by decide +kernel
theorem dX9_image_4 : decode cX9_image 4 = .ok (.aload_n 0, 1) := by decide +kernel
theorem dX9_image_5 : decode cX9_image 5 = .ok (.getfield 13, 3) := by decide +kernel
theorem dX9_image_8 : decode cX9_image 8 = .ok (.invokestatic 242, 3) := by decide +kernel
theorem dX9_image_11 : decode cX9_image 11 = .ok (.aload_n 0, 1) := by decide +kernel
theorem dX9_image_12 : decode cX9_image 12 = .ok (.dup, 1) := by decide +kernel
theorem dX9_image_13 : decode cX9_image 13 = .ok (.getfield 239, 3) := by decide +kernel
theorem dX9_image_16 : decode cX9_image 16 = .ok (.iconst 1, 1) := by decide +kernel
theorem dX9_image_17 : decode cX9_image 17 = .ok (.iadd, 1) := by decide +kernel
theorem dX9_image_18 : decode cX9_image 18 = .ok (.putfield 239, 3) := by decide +kernel
theorem dX9_image_21 : decode cX9_image 21 = .ok (.aload_n 0, 1) := by decide +kernel
theorem dX9_image_22 : decode cX9_image 22 = .ok (.getfield 239, 3) := by decide +kernel
theorem dX9_image_25 : decode cX9_image 25 = .ok (.ireturn, 1) := by decide +kernel
theorem dX9_restore_0 : decode cX9_restore 0 = .ok (.aload_n 0, 1) := by decide +kernel
theorem dX9_restore_1 : decode cX9_restore 1 = .ok (.getfield 239, 3) := by decide +kernel
theorem dX9_restore_4 : decode cX9_restore 4 = .ok (.ifCond .ne 9, 3) := by decide +kernel
theorem dX9_restore_7 : decode cX9_restore 7 = .ok (.aload_n 0, 1) := by decide +kernel
theorem dX9_restore_8 : decode cX9_restore 8 = .ok (.iconst 2, 1) := by decide +kernel
theorem dX9_restore_9 : decode cX9_restore 9 = .ok (.invokevirtual 63, 3) := by decide +kernel
theorem dX9_restore_12 : decode cX9_restore 12 = .ok (.ireturn, 1) := by decide +kernel
theorem dX9_restore_13 : decode cX9_restore 13 = .ok (.aload_n 0, 1) := by decide +kernel
theorem dX9_restore_14 : decode cX9_restore 14 = .ok (.getfield 13, 3) := by decide +kernel
theorem dX9_restore_17 : decode cX9_restore 17 = .ok (.aload_n 0, 1) := by decide +kernel
theorem dX9_restore_18 : decode cX9_restore 18 = .ok (.getfield 7, 3) := by decide +kernel
theorem dX9_restore_21 : decode cX9_restore 21 = .ok (.invokestatic 242, 3) := by decide +kernel
theorem dX9_restore_24 : decode cX9_restore 24 = .ok (.aload_n 0, 1) := by decide +kernel
theorem dX9_restore_25 : decode cX9_restore 25 = .ok (.getfield 7, 3) := by decide +kernel
theorem dX9_restore_28 : decode cX9_restore 28 = .ok (.iconst 2, 1) := by decide +kernel
theorem dX9_restore_29 : decode cX9_restore 29 = .ok (.iaload, 1) := by decide +kernel
theorem dX9_restore_30 : decode cX9_restore 30 = .ok (.ireturn, 1) := by decide +kernel
theorem dX9_tell_0 : decode cX9_tell 0 = .ok (.aload_n 0, 1) := by decide +kernel
theorem dX9_tell_1 : decode cX9_tell 1 = .ok (.getfield 7, 3) := by decide +kernel
theorem dX9_tell_4 : decode cX9_tell 4 = .ok (.bipush 6, 2) := by decide +kernel
theorem dX9_tell_6 : decode cX9_tell 6 = .ok (.iaload, 1) := by decide +kernel
theorem dX9_tell_7 : decode cX9_tell 7 = .ok (.bipush 24, 2) := by decide +kernel
theorem dX9_tell_9 : decode cX9_tell 9 = .ok (.if_icmp .ne 9, 3) := by decide +kernel
theorem dX9_tell_12 : decode cX9_tell 12 = .ok (.aload_n 0, 1) := by decide +kernel
theorem dX9_tell_13 : decode cX9_tell 13 = .ok (.iconst 4, 1) := by decide +kernel
theorem dX9_tell_14 : decode cX9_tell 14 = .ok (.invokevirtual 63, 3) := by decide +kernel
theorem dX9_tell_17 : decode cX9_tell 17 = .ok (.ireturn, 1) := by decide +kernel
theorem dX9_tell_18 : decode cX9_tell 18 = .ok (.aload_n 0, 1) := by decide +kernel
theorem dX9_tell_19 : decode cX9_tell 19 = .ok (.getfield 7, 3) := by decide +kernel
theorem dX9_tell_22 : decode cX9_tell 22 = .ok (.sipush 434, 3) := by decide +kernel
theorem dX9_tell_25 : decode cX9_tell 25 = .ok (.aload_n 0, 1) := by decide +kernel
theorem dX9_tell_26 : decode cX9_tell 26 = .ok (.getfield 7, 3) := by decide +kernel
theorem dX9_tell_29 : decode cX9_tell 29 = .ok (.bipush 6, 2) := by decide +kernel
theorem dX9_tell_31 : decode cX9_tell 31 = .ok (.iaload, 1) := by decide +kernel
theorem dX9_tell_32 : decode cX9_tell 32 = .ok (.iadd, 1) := by decide +kernel
theorem dX9_tell_33 : decode cX9_tell 33 = .ok (.iload_n 1, 1) := by decide +kernel
theorem dX9_tell_34 : decode cX9_tell 34 = .ok (.iastore, 1) := by decide +kernel
theorem dX9_tell_35 : decode cX9_tell 35 = .ok (.aload_n 0, 1) := by decide +kernel
theorem dX9_tell_36 : decode cX9_tell 36 = .ok (.getfield 7, 3) := by decide +kernel
theorem dX9_tell_39 : decode cX9_tell 39 = .ok (.bipush 6, 2) := by decide +kernel
theorem dX9_tell_41 : decode cX9_tell 41 = .ok (.dup2, 1) := by decide +kernel
theorem dX9_tell_42 : decode cX9_tell 42 = .ok (.iaload, 1) := by decide +kernel
theorem dX9_tell_43 : decode cX9_tell 43 = .ok (.iconst 1, 1) := by decide +kernel
theorem dX9_tell_44 : decode cX9_tell 44 = .ok (.iadd, 1) := by decide +kernel
theorem dX9_tell_45 : decode cX9_tell 45 = .ok (.iastore, 1) := by decide +kernel
theorem dX9_tell_46 : decode cX9_tell 46 = .ok (.aload_n 0, 1) := by decide +kernel
theorem dX9_tell_47 : decode cX9_tell 47 = .ok (.getfield 7, 3) := by decide +kernel
theorem dX9_tell_50 : decode cX9_tell 50 = .ok (.bipush 6, 2) := by decide +kernel
theorem dX9_tell_52 : decode cX9_tell 52 = .ok (.iaload, 1) := by decide +kernel
theorem dX9_tell_53 : decode cX9_tell 53 = .ok (.ireturn, 1) := by decide +kernel
theorem dX9_check_0 : decode cX9_check 0 = .ok (.aload_n 0, 1) := by decide +kernel
theorem dX9_check_1 : decode cX9_check 1 = .ok (.getfield 7, 3) := by decide +kernel
theorem dX9_check_4 : decode cX9_check 4 = .ok (.bipush 6, 2) := by decide +kernel
theorem dX9_check_6 : decode cX9_check 6 = .ok (.iaload, 1) := by decide +kernel
theorem dX9_check_7 : decode cX9_check 7 = .ok (.istore_n 2, 1) := by decide +kernel
theorem dX9_check_8 : decode cX9_check 8 = .ok (.aload_n 0, 1) := by decide +kernel
theorem dX9_check_9 : decode cX9_check 9 = .ok (.getfield 7, 3) := by decide +kernel
theorem dX9_check_12 : decode cX9_check 12 = .ok (.bipush 6, 2) := by decide +kernel
theorem dX9_check_14 : decode cX9_check 14 = .ok (.iconst 0, 1) := by decide +kernel
theorem dX9_check_15 : decode cX9_check 15 = .ok (.iastore, 1) := by decide +kernel
theorem dX9_check_16 : decode cX9_check 16 = .ok (.aload_n 0, 1) := by decide +kernel
theorem dX9_check_17 : decode cX9_check 17 = .ok (.iload_n 1, 1) := by decide +kernel
theorem dX9_check_18 : decode cX9_check 18 = .ok (.invokevirtual 168, 3) := by decide +kernel
theorem dX9_check_21 : decode cX9_check 21 = .ok (.ifCond .ne 9, 3) := by decide +kernel
theorem dX9_check_24 : decode cX9_check 24 = .ok (.aload_n 0, 1) := by decide +kernel
theorem dX9_check_25 : decode cX9_check 25 = .ok (.iconst 1, 1) := by decide +kernel
theorem dX9_check_26 : decode cX9_check 26 = .ok (.invokevirtual 63, 3) := by decide +kernel
theorem dX9_check_29 : decode cX9_check 29 = .ok (.ireturn, 1) := by decide +kernel
theorem dX9_check_30 : decode cX9_check 30 = .ok (.iconst 0, 1) := by decide +kernel
theorem dX9_check_31 : decode cX9_check 31 = .ok (.istore_n 3, 1) := by decide +kernel
theorem dX9_check_32 : decode cX9_check 32 = .ok (.iconst 0, 1) := by decide +kernel
theorem dX9_check_33 : decode cX9_check 33 = .ok (.istore 4, 2) := by decide +kernel
theorem dX9_check_35 : decode cX9_check 35 = .ok (.iconst 1, 1) := by decide +kernel
theorem dX9_check_36 : decode cX9_check 36 = .ok (.istore 5, 2) := by decide +kernel
theorem dX9_check_38 : decode cX9_check 38 = .ok (.iload 4, 2) := by decide +kernel
theorem dX9_check_40 : decode cX9_check 40 = .ok (.iload_n 2, 1) := by decide +kernel
theorem dX9_check_41 : decode cX9_check 41 = .ok (.if_icmp .ge 90, 3) := by decide +kernel
theorem dX9_check_44 : decode cX9_check 44 = .ok (.iload 5, 2) := by decide +kernel
theorem dX9_check_46 : decode cX9_check 46 = .ok (.ifCond .eq 85, 3) := by decide +kernel
theorem dX9_check_49 : decode cX9_check 49 = .ok (.aload_n 0, 1) := by decide +kernel
theorem dX9_check_50 : decode cX9_check 50 = .ok (.getfield 7, 3) := by decide +kernel
theorem dX9_check_53 : decode cX9_check 53 = .ok (.sipush 434, 3) := by decide +kernel
theorem dX9_check_56 : decode cX9_check 56 = .ok (.iload 4, 2) := by decide +kernel
theorem dX9_check_58 : decode cX9_check 58 = .ok (.iadd, 1) := by decide +kernel
theorem dX9_check_59 : decode cX9_check 59 = .ok (.iaload, 1) := by decide +kernel
theorem dX9_check_60 : decode cX9_check 60 = .ok (.istore 6, 2) := by decide +kernel
theorem dX9_check_62 : decode cX9_check 62 = .ok (.aload_n 0, 1) := by decide +kernel
theorem dX9_check_63 : decode cX9_check 63 = .ok (.iload 6, 2) := by decide +kernel
theorem dX9_check_65 : decode cX9_check 65 = .ok (.invokevirtual 156, 3) := by decide +kernel
theorem dX9_check_68 : decode cX9_check 68 = .ok (.ifCond .eq 26, 3) := by decide +kernel
theorem dX9_check_71 : decode cX9_check 71 = .ok (.aload_n 0, 1) := by decide +kernel
theorem dX9_check_72 : decode cX9_check 72 = .ok (.iload_n 1, 1) := by decide +kernel
theorem dX9_check_73 : decode cX9_check 73 = .ok (.iload 6, 2) := by decide +kernel
theorem dX9_check_75 : decode cX9_check 75 = .ok (.invokevirtual 152, 3) := by decide +kernel
theorem dX9_check_78 : decode cX9_check 78 = .ok (.ifCond .eq 16, 3) := by decide +kernel
theorem dX9_check_81 : decode cX9_check 81 = .ok (.iload_n 3, 1) := by decide +kernel
theorem dX9_check_82 : decode cX9_check 82 = .ok (.iload 6, 2) := by decide +kernel
theorem dX9_check_84 : decode cX9_check 84 = .ok (.ishr, 1) := by decide +kernel
theorem dX9_check_85 : decode cX9_check 85 = .ok (.iconst 1, 1) := by decide +kernel
theorem dX9_check_86 : decode cX9_check 86 = .ok (.iand, 1) := by decide +kernel
theorem dX9_check_87 : decode cX9_check 87 = .ok (.ifCond .ne 7, 3) := by decide +kernel
theorem dX9_check_90 : decode cX9_check 90 = .ok (.iconst 1, 1) := by decide +kernel
theorem dX9_check_91 : decode cX9_check 91 = .ok (.goto 4, 3) := by decide +kernel
theorem dX9_check_94 : decode cX9_check 94 = .ok (.iconst 0, 1) := by decide +kernel
theorem dX9_check_95 : decode cX9_check 95 = .ok (.istore 5, 2) := by decide +kernel
theorem dX9_check_97 : decode cX9_check 97 = .ok (.iload_n 3, 1) := by decide +kernel
theorem dX9_check_98 : decode cX9_check 98 = .ok (.iload 5, 2) := by decide +kernel
theorem dX9_check_100 : decode cX9_check 100 = .ok (.ifCond .eq 10, 3) := by decide +kernel
theorem dX9_check_103 : decode cX9_check 103 = .ok (.iconst 1, 1) := by decide +kernel
theorem dX9_check_104 : decode cX9_check 104 = .ok (.iload 6, 2) := by decide +kernel
theorem dX9_check_106 : decode cX9_check 106 = .ok (.ishl, 1) := by decide +kernel
theorem dX9_check_107 : decode cX9_check 107 = .ok (.goto 4, 3) := by decide +kernel
theorem dX9_check_110 : decode cX9_check 110 = .ok (.iconst 0, 1) := by decide +kernel
theorem dX9_check_111 : decode cX9_check 111 = .ok (.ior, 1) := by decide +kernel
theorem dX9_check_112 : decode cX9_check 112 = .ok (.istore_n 3, 1) := by decide +kernel
theorem dX9_check_113 : decode cX9_check 113 = .ok (.iload 4, 2) := by decide +kernel
theorem dX9_check_115 : decode cX9_check 115 = .ok (.iload 5, 2) := by decide +kernel
theorem dX9_check_117 : decode cX9_check 117 = .ok (.ifCond .eq 7, 3) := by decide +kernel
theorem dX9_check_120 : decode cX9_check 120 = .ok (.iconst 1, 1) := by decide +kernel
theorem dX9_check_121 : decode cX9_check 121 = .ok (.goto 4, 3) := by decide +kernel
theorem dX9_check_124 : decode cX9_check 124 = .ok (.iconst 0, 1) := by decide +kernel
theorem dX9_check_125 : decode cX9_check 125 = .ok (.iadd, 1) := by decide +kernel
theorem dX9_check_126 : decode cX9_check 126 = .ok (.istore 4, 2) := by decide +kernel
theorem dX9_check_128 : decode cX9_check 128 = .ok (.goto (-90), 3) := by decide +kernel
theorem dX9_check_131 : decode cX9_check 131 = .ok (.iload 5, 2) := by decide +kernel
theorem dX9_check_133 : decode cX9_check 133 = .ok (.ifCond .eq 18, 3) := by decide +kernel
theorem dX9_check_136 : decode cX9_check 136 = .ok (.iload 4, 2) := by decide +kernel
theorem dX9_check_138 : decode cX9_check 138 = .ok (.aload_n 0, 1) := by decide +kernel
theorem dX9_check_139 : decode cX9_check 139 = .ok (.iload_n 1, 1) := by decide +kernel
theorem dX9_check_140 : decode cX9_check 140 = .ok (.iconst 4, 1) := by decide +kernel
theorem dX9_check_141 : decode cX9_check 141 = .ok (.invokevirtual 123, 3) := by decide +kernel
theorem dX9_check_144 : decode cX9_check 144 = .ok (.if_icmp .ne 7, 3) := by decide +kernel
theorem dX9_check_147 : decode cX9_check 147 = .ok (.iconst 0, 1) := by decide +kernel
theorem dX9_check_148 : decode cX9_check 148 = .ok (.goto 7, 3) := by decide +kernel
theorem dX9_check_151 : decode cX9_check 151 = .ok (.iconst 1, 1) := by decide +kernel
theorem dX9_check_152 : decode cX9_check 152 = .ok (.iload 4, 2) := by decide +kernel
theorem dX9_check_154 : decode cX9_check 154 = .ok (.iadd, 1) := by decide +kernel
theorem dX9_check_155 : decode cX9_check 155 = .ok (.ireturn, 1) := by decide +kernel
theorem dX9_allCoins_0 : decode cX9_allCoins 0 = .ok (.iconst 0, 1) := by decide +kernel
theorem dX9_allCoins_1 : decode cX9_allCoins 1 = .ok (.istore_n 1, 1) := by decide +kernel
theorem dX9_allCoins_2 : decode cX9_allCoins 2 = .ok (.iconst 0, 1) := by decide +kernel
theorem dX9_allCoins_3 : decode cX9_allCoins 3 = .ok (.istore_n 2, 1) := by decide +kernel
theorem dX9_allCoins_4 : decode cX9_allCoins 4 = .ok (.iload_n 2, 1) := by decide +kernel
theorem dX9_allCoins_5 : decode cX9_allCoins 5 = .ok (.aload_n 0, 1) := by decide +kernel
theorem dX9_allCoins_6 : decode cX9_allCoins 6 = .ok (.getfield 7, 3) := by decide +kernel
theorem dX9_allCoins_9 : decode cX9_allCoins 9 = .ok (.iconst 0, 1) := by decide +kernel
theorem dX9_allCoins_10 : decode cX9_allCoins 10 = .ok (.iaload, 1) := by decide +kernel
theorem dX9_allCoins_11 : decode cX9_allCoins 11 = .ok (.if_icmp .ge 18, 3) := by decide +kernel
theorem dX9_allCoins_14 : decode cX9_allCoins 14 = .ok (.iload_n 1, 1) := by decide +kernel
theorem dX9_allCoins_15 : decode cX9_allCoins 15 = .ok (.aload_n 0, 1) := by decide +kernel
theorem dX9_allCoins_16 : decode cX9_allCoins 16 = .ok (.iload_n 2, 1) := by decide +kernel
theorem dX9_allCoins_17 : decode cX9_allCoins 17 = .ok (.iconst 1, 1) := by decide +kernel
theorem dX9_allCoins_18 : decode cX9_allCoins 18 = .ok (.invokevirtual 162, 3) := by decide +kernel
theorem dX9_allCoins_21 : decode cX9_allCoins 21 = .ok (.iadd, 1) := by decide +kernel
theorem dX9_allCoins_22 : decode cX9_allCoins 22 = .ok (.istore_n 1, 1) := by decide +kernel
theorem dX9_allCoins_23 : decode cX9_allCoins 23 = .ok (.iinc 2 1, 3) := by decide +kernel
theorem dX9_allCoins_26 : decode cX9_allCoins 26 = .ok (.goto (-22), 3) := by decide +kernel
theorem dX9_allCoins_29 : decode cX9_allCoins 29 = .ok (.iconst 0, 1) := by decide +kernel
theorem dX9_allCoins_30 : decode cX9_allCoins 30 = .ok (.istore_n 2, 1) := by decide +kernel
theorem dX9_allCoins_31 : decode cX9_allCoins 31 = .ok (.iload_n 2, 1) := by decide +kernel
theorem dX9_allCoins_32 : decode cX9_allCoins 32 = .ok (.aload_n 0, 1) := by decide +kernel
theorem dX9_allCoins_33 : decode cX9_allCoins 33 = .ok (.getfield 7, 3) := by decide +kernel
theorem dX9_allCoins_36 : decode cX9_allCoins 36 = .ok (.iconst 1, 1) := by decide +kernel
theorem dX9_allCoins_37 : decode cX9_allCoins 37 = .ok (.iaload, 1) := by decide +kernel
theorem dX9_allCoins_38 : decode cX9_allCoins 38 = .ok (.if_icmp .ge 18, 3) := by decide +kernel
theorem dX9_allCoins_41 : decode cX9_allCoins 41 = .ok (.iload_n 1, 1) := by decide +kernel
theorem dX9_allCoins_42 : decode cX9_allCoins 42 = .ok (.aload_n 0, 1) := by decide +kernel
theorem dX9_allCoins_43 : decode cX9_allCoins 43 = .ok (.iload_n 2, 1) := by decide +kernel
theorem dX9_allCoins_44 : decode cX9_allCoins 44 = .ok (.iconst 3, 1) := by decide +kernel
theorem dX9_allCoins_45 : decode cX9_allCoins 45 = .ok (.invokevirtual 123, 3) := by decide +kernel
theorem dX9_allCoins_48 : decode cX9_allCoins 48 = .ok (.iadd, 1) := by decide +kernel
theorem dX9_allCoins_49 : decode cX9_allCoins 49 = .ok (.istore_n 1, 1) := by decide +kernel
theorem dX9_allCoins_50 : decode cX9_allCoins 50 = .ok (.iinc 2 1, 3) := by decide +kernel
theorem dX9_allCoins_53 : decode cX9_allCoins 53 = .ok (.goto (-22), 3) := by decide +kernel
theorem dX9_allCoins_56 : decode cX9_allCoins 56 = .ok (.iload_n 1, 1) := by decide +kernel
theorem dX9_allCoins_57 : decode cX9_allCoins 57 = .ok (.ireturn, 1) := by decide +kernel
theorem dX9_count_0 : decode cX9_count 0 = .ok (.iload_n 1, 1) := by decide +kernel
theorem dX9_count_1 : decode cX9_count 1 = .ok (.tableswitch 132 0 10 #[59, 66, 73, 80, 87, 92, 97, 104, 112, 117, 125], 59) := by decide +kernel
theorem dX9_count_60 : decode cX9_count 60 = .ok (.aload_n 0, 1) := by decide +kernel
theorem dX9_count_61 : decode cX9_count 61 = .ok (.getfield 7, 3) := by decide +kernel
theorem dX9_count_64 : decode cX9_count 64 = .ok (.iconst 0, 1) := by decide +kernel
theorem dX9_count_65 : decode cX9_count 65 = .ok (.iaload, 1) := by decide +kernel
theorem dX9_count_66 : decode cX9_count 66 = .ok (.ireturn, 1) := by decide +kernel
theorem dX9_count_67 : decode cX9_count 67 = .ok (.aload_n 0, 1) := by decide +kernel
theorem dX9_count_68 : decode cX9_count 68 = .ok (.getfield 7, 3) := by decide +kernel
theorem dX9_count_71 : decode cX9_count 71 = .ok (.iconst 1, 1) := by decide +kernel
theorem dX9_count_72 : decode cX9_count 72 = .ok (.iaload, 1) := by decide +kernel
theorem dX9_count_73 : decode cX9_count 73 = .ok (.ireturn, 1) := by decide +kernel
theorem dX9_count_74 : decode cX9_count 74 = .ok (.aload_n 0, 1) := by decide +kernel
theorem dX9_count_75 : decode cX9_count 75 = .ok (.getfield 7, 3) := by decide +kernel
theorem dX9_count_78 : decode cX9_count 78 = .ok (.iconst 2, 1) := by decide +kernel
theorem dX9_count_79 : decode cX9_count 79 = .ok (.iaload, 1) := by decide +kernel
theorem dX9_count_80 : decode cX9_count 80 = .ok (.ireturn, 1) := by decide +kernel
theorem dX9_count_81 : decode cX9_count 81 = .ok (.aload_n 0, 1) := by decide +kernel
theorem dX9_count_82 : decode cX9_count 82 = .ok (.getfield 7, 3) := by decide +kernel
theorem dX9_count_85 : decode cX9_count 85 = .ok (.iconst 3, 1) := by decide +kernel
theorem dX9_count_86 : decode cX9_count 86 = .ok (.iaload, 1) := by decide +kernel
theorem dX9_count_87 : decode cX9_count 87 = .ok (.ireturn, 1) := by decide +kernel
theorem dX9_count_88 : decode cX9_count 88 = .ok (.aload_n 0, 1) := by decide +kernel
theorem dX9_count_89 : decode cX9_count 89 = .ok (.invokevirtual 207, 3) := by decide +kernel
theorem dX9_count_92 : decode cX9_count 92 = .ok (.ireturn, 1) := by decide +kernel
theorem dX9_count_93 : decode cX9_count 93 = .ok (.aload_n 0, 1) := by decide +kernel
theorem dX9_count_94 : decode cX9_count 94 = .ok (.invokevirtual 286, 3) := by decide +kernel
theorem dX9_count_97 : decode cX9_count 97 = .ok (.ireturn, 1) := by decide +kernel
theorem dX9_count_98 : decode cX9_count 98 = .ok (.aload_n 0, 1) := by decide +kernel
theorem dX9_count_99 : decode cX9_count 99 = .ok (.getfield 7, 3) := by decide +kernel
theorem dX9_count_102 : decode cX9_count 102 = .ok (.iconst 5, 1) := by decide +kernel
theorem dX9_count_103 : decode cX9_count 103 = .ok (.iaload, 1) := by decide +kernel
theorem dX9_count_104 : decode cX9_count 104 = .ok (.ireturn, 1) := by decide +kernel
theorem dX9_count_105 : decode cX9_count 105 = .ok (.aload_n 0, 1) := by decide +kernel
theorem dX9_count_106 : decode cX9_count 106 = .ok (.getfield 7, 3) := by decide +kernel
theorem dX9_count_109 : decode cX9_count 109 = .ok (.bipush 6, 2) := by decide +kernel
theorem dX9_count_111 : decode cX9_count 111 = .ok (.iaload, 1) := by decide +kernel
theorem dX9_count_112 : decode cX9_count 112 = .ok (.ireturn, 1) := by decide +kernel
theorem dX9_count_113 : decode cX9_count 113 = .ok (.aload_n 0, 1) := by decide +kernel
theorem dX9_count_114 : decode cX9_count 114 = .ok (.getfield 246, 3) := by decide +kernel
theorem dX9_count_117 : decode cX9_count 117 = .ok (.ireturn, 1) := by decide +kernel
theorem dX9_count_118 : decode cX9_count 118 = .ok (.aload_n 0, 1) := by decide +kernel
theorem dX9_count_119 : decode cX9_count 119 = .ok (.getfield 7, 3) := by decide +kernel
theorem dX9_count_122 : decode cX9_count 122 = .ok (.bipush 7, 2) := by decide +kernel
theorem dX9_count_124 : decode cX9_count 124 = .ok (.iaload, 1) := by decide +kernel
theorem dX9_count_125 : decode cX9_count 125 = .ok (.ireturn, 1) := by decide +kernel
theorem dX9_count_126 : decode cX9_count 126 = .ok (.aload_n 0, 1) := by decide +kernel
theorem dX9_count_127 : decode cX9_count 127 = .ok (.getfield 7, 3) := by decide +kernel
theorem dX9_count_130 : decode cX9_count 130 = .ok (.iconst 4, 1) := by decide +kernel
theorem dX9_count_131 : decode cX9_count 131 = .ok (.iaload, 1) := by decide +kernel
theorem dX9_count_132 : decode cX9_count 132 = .ok (.ireturn, 1) := by decide +kernel
theorem dX9_count_133 : decode cX9_count 133 = .ok (.aload_n 0, 1) := by decide +kernel
theorem dX9_count_134 : decode cX9_count 134 = .ok (.iconst 1, 1) := by decide +kernel
theorem dX9_count_135 : decode cX9_count 135 = .ok (.invokevirtual 63, 3) := by decide +kernel
theorem dX9_count_138 : decode cX9_count 138 = .ok (.ireturn, 1) := by decide +kernel
theorem dX9_told_0 : decode cX9_told 0 = .ok (.iload_n 1, 1) := by decide +kernel
theorem dX9_told_1 : decode cX9_told 1 = .ok (.iconst 1, 1) := by decide +kernel
theorem dX9_told_2 : decode cX9_told 2 = .ok (.bipush 6, 2) := by decide +kernel
theorem dX9_told_4 : decode cX9_told 4 = .ok (.invokestatic 59, 3) := by decide +kernel
theorem dX9_told_7 : decode cX9_told 7 = .ok (.ifCond .eq 12, 3) := by decide +kernel
theorem dX9_told_10 : decode cX9_told 10 = .ok (.aload_n 0, 1) := by decide +kernel
theorem dX9_told_11 : decode cX9_told 11 = .ok (.getfield 22, 3) := by decide +kernel
theorem dX9_told_14 : decode cX9_told 14 = .ok (.iload_n 1, 1) := by decide +kernel
theorem dX9_told_15 : decode cX9_told 15 = .ok (.iaload, 1) := by decide +kernel
theorem dX9_told_16 : decode cX9_told 16 = .ok (.goto 8, 3) := by decide +kernel
theorem dX9_told_19 : decode cX9_told 19 = .ok (.aload_n 0, 1) := by decide +kernel
theorem dX9_told_20 : decode cX9_told 20 = .ok (.iconst 1, 1) := by decide +kernel
theorem dX9_told_21 : decode cX9_told 21 = .ok (.invokevirtual 63, 3) := by decide +kernel
theorem dX9_told_24 : decode cX9_told 24 = .ok (.ireturn, 1) := by decide +kernel
