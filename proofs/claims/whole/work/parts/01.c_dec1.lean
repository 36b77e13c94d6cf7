theorem dX8_accountDigit_52 : decode cX8_accountDigit 52 = .ok (.aload_n 0, 1) := by decide +kernel
theorem dX8_accountDigit_53 : decode cX8_accountDigit 53 = .ok (.getfield 28, 3) := by decide +kernel
theorem dX8_accountDigit_56 : decode cX8_accountDigit 56 = .ok (.invokevirtual 41, 3) := by decide +kernel
theorem dX8_accountDigit_59 : decode cX8_accountDigit 59 = .ok (.iconst 0, 1) := by decide +kernel
theorem dX8_accountDigit_60 : decode cX8_accountDigit 60 = .ok (.ireturn, 1) := by decide +kernel
theorem dX8_accountDigit_61 : decode cX8_accountDigit 61 = .ok (.aload_n 0, 1) := by decide +kernel
theorem dX8_accountDigit_62 : decode cX8_accountDigit 62 = .ok (.dup, 1) := by decide +kernel
theorem dX8_accountDigit_63 : decode cX8_accountDigit 63 = .ok (.getfield 28, 3) := by decide +kernel
theorem dX8_accountDigit_66 : decode cX8_accountDigit 66 = .ok (.iconst 1, 1) := by decide +kernel
theorem dX8_accountDigit_67 : decode cX8_accountDigit 67 = .ok (.iadd, 1) := by decide +kernel
theorem dX8_accountDigit_68 : decode cX8_accountDigit 68 = .ok (.putfield 28, 3) := by decide +kernel
theorem dX8_accountDigit_71 : decode cX8_accountDigit 71 = .ok (.iload_n 1, 1) := by decide +kernel
theorem dX8_accountDigit_72 : decode cX8_accountDigit 72 = .ok (.bipush 48, 2) := by decide +kernel
theorem dX8_accountDigit_74 : decode cX8_accountDigit 74 = .ok (.isub, 1) := by decide +kernel
theorem dX8_accountDigit_75 : decode cX8_accountDigit 75 = .ok (.ireturn, 1) := by decide +kernel
theorem dX8_number_0 : decode cX8_number 0 = .ok (.aload_n 0, 1) := by decide +kernel
theorem dX8_number_1 : decode cX8_number 1 = .ok (.getfield 31, 3) := by decide +kernel
theorem dX8_number_4 : decode cX8_number 4 = .ok (.ifCond .eq 5, 3) := by decide +kernel
theorem dX8_number_7 : decode cX8_number 7 = .ok (.iload_n 1, 1) := by decide +kernel
theorem dX8_number_8 : decode cX8_number 8 = .ok (.ireturn, 1) := by decide +kernel
theorem dX8_number_9 : decode cX8_number 9 = .ok (.aload_n 0, 1) := by decide +kernel
theorem dX8_number_10 : decode cX8_number 10 = .ok (.getfield 28, 3) := by decide +kernel
theorem dX8_number_13 : decode cX8_number 13 = .ok (.istore_n 3, 1) := by decide +kernel
theorem dX8_number_14 : decode cX8_number 14 = .ok (.iconst 0, 1) := by decide +kernel
theorem dX8_number_15 : decode cX8_number 15 = .ok (.istore 4, 2) := by decide +kernel
theorem dX8_number_17 : decode cX8_number 17 = .ok (.aload_n 0, 1) := by decide +kernel
theorem dX8_number_18 : decode cX8_number 18 = .ok (.aload_n 0, 1) := by decide +kernel
theorem dX8_number_19 : decode cX8_number 19 = .ok (.getfield 28, 3) := by decide +kernel
theorem dX8_number_22 : decode cX8_number 22 = .ok (.invokevirtual 37, 3) := by decide +kernel
theorem dX8_number_25 : decode cX8_number 25 = .ok (.istore 5, 2) := by decide +kernel
theorem dX8_number_27 : decode cX8_number 27 = .ok (.aload_n 0, 1) := by decide +kernel
theorem dX8_number_28 : decode cX8_number 28 = .ok (.getfield 28, 3) := by decide +kernel
theorem dX8_number_31 : decode cX8_number 31 = .ok (.iload_n 3, 1) := by decide +kernel
theorem dX8_number_32 : decode cX8_number 32 = .ok (.iconst 5, 1) := by decide +kernel
theorem dX8_number_33 : decode cX8_number 33 = .ok (.iadd, 1) := by decide +kernel
theorem dX8_number_34 : decode cX8_number 34 = .ok (.if_icmp .ge 53, 3) := by decide +kernel
theorem dX8_number_37 : decode cX8_number 37 = .ok (.iload 5, 2) := by decide +kernel
theorem dX8_number_39 : decode cX8_number 39 = .ok (.bipush 48, 2) := by decide +kernel
theorem dX8_number_41 : decode cX8_number 41 = .ok (.if_icmp .lt 46, 3) := by decide +kernel
theorem dX8_number_44 : decode cX8_number 44 = .ok (.iload 5, 2) := by decide +kernel
theorem dX8_number_46 : decode cX8_number 46 = .ok (.bipush 57, 2) := by decide +kernel
theorem dX8_number_48 : decode cX8_number 48 = .ok (.if_icmp .gt 39, 3) := by decide +kernel
theorem dX8_number_51 : decode cX8_number 51 = .ok (.iload 4, 2) := by decide +kernel
theorem dX8_number_53 : decode cX8_number 53 = .ok (.bipush 10, 2) := by decide +kernel
theorem dX8_number_55 : decode cX8_number 55 = .ok (.imul, 1) := by decide +kernel
theorem dX8_number_56 : decode cX8_number 56 = .ok (.iload 5, 2) := by decide +kernel
theorem dX8_number_58 : decode cX8_number 58 = .ok (.iadd, 1) := by decide +kernel
theorem dX8_number_59 : decode cX8_number 59 = .ok (.bipush 48, 2) := by decide +kernel
theorem dX8_number_61 : decode cX8_number 61 = .ok (.isub, 1) := by decide +kernel
theorem dX8_number_62 : decode cX8_number 62 = .ok (.istore 4, 2) := by decide +kernel
theorem dX8_number_64 : decode cX8_number 64 = .ok (.aload_n 0, 1) := by decide +kernel
theorem dX8_number_65 : decode cX8_number 65 = .ok (.dup, 1) := by decide +kernel
theorem dX8_number_66 : decode cX8_number 66 = .ok (.getfield 28, 3) := by decide +kernel
theorem dX8_number_69 : decode cX8_number 69 = .ok (.iconst 1, 1) := by decide +kernel
theorem dX8_number_70 : decode cX8_number 70 = .ok (.iadd, 1) := by decide +kernel
theorem dX8_number_71 : decode cX8_number 71 = .ok (.putfield 28, 3) := by decide +kernel
theorem dX8_number_74 : decode cX8_number 74 = .ok (.aload_n 0, 1) := by decide +kernel
theorem dX8_number_75 : decode cX8_number 75 = .ok (.aload_n 0, 1) := by decide +kernel
theorem dX8_number_76 : decode cX8_number 76 = .ok (.getfield 28, 3) := by decide +kernel
theorem dX8_number_79 : decode cX8_number 79 = .ok (.invokevirtual 37, 3) := by decide +kernel
theorem dX8_number_82 : decode cX8_number 82 = .ok (.istore 5, 2) := by decide +kernel
theorem dX8_number_84 : decode cX8_number 84 = .ok (.goto (-57), 3) := by decide +kernel
theorem dX8_number_87 : decode cX8_number 87 = .ok (.aload_n 0, 1) := by decide +kernel
theorem dX8_number_88 : decode cX8_number 88 = .ok (.getfield 28, 3) := by decide +kernel
theorem dX8_number_91 : decode cX8_number 91 = .ok (.iload_n 3, 1) := by decide +kernel
theorem dX8_number_92 : decode cX8_number 92 = .ok (.iconst 5, 1) := by decide +kernel
theorem dX8_number_93 : decode cX8_number 93 = .ok (.iadd, 1) := by decide +kernel
theorem dX8_number_94 : decode cX8_number 94 = .ok (.if_icmp .ne 28, 3) := by decide +kernel
theorem dX8_number_97 : decode cX8_number 97 = .ok (.iload 5, 2) := by decide +kernel
theorem dX8_number_99 : decode cX8_number 99 = .ok (.bipush 48, 2) := by decide +kernel
theorem dX8_number_101 : decode cX8_number 101 = .ok (.if_icmp .lt 21, 3) := by decide +kernel
theorem dX8_number_104 : decode cX8_number 104 = .ok (.iload 5, 2) := by decide +kernel
theorem dX8_number_106 : decode cX8_number 106 = .ok (.bipush 57, 2) := by decide +kernel
theorem dX8_number_108 : decode cX8_number 108 = .ok (.if_icmp .gt 14, 3) := by decide +kernel
theorem dX8_number_111 : decode cX8_number 111 = .ok (.aload_n 0, 1) := by decide +kernel
theorem dX8_number_112 : decode cX8_number 112 = .ok (.iconst 2, 1) := by decide +kernel
theorem dX8_number_113 : decode cX8_number 113 = .ok (.aload_n 0, 1) := by decide +kernel
theorem dX8_number_114 : decode cX8_number 114 = .ok (.getfield 28, 3) := by decide +kernel
theorem dX8_number_117 : decode cX8_number 117 = .ok (.invokevirtual 41, 3) := by decide +kernel
theorem dX8_number_120 : decode cX8_number 120 = .ok (.iload_n 1, 1) := by decide +kernel
theorem dX8_number_121 : decode cX8_number 121 = .ok (.ireturn, 1) := by decide +kernel
theorem dX8_number_122 : decode cX8_number 122 = .ok (.aload_n 0, 1) := by decide +kernel
theorem dX8_number_123 : decode cX8_number 123 = .ok (.getfield 28, 3) := by decide +kernel
theorem dX8_number_126 : decode cX8_number 126 = .ok (.iload_n 3, 1) := by decide +kernel
theorem dX8_number_127 : decode cX8_number 127 = .ok (.if_icmp .ne 12, 3) := by decide +kernel
theorem dX8_number_130 : decode cX8_number 130 = .ok (.aload_n 0, 1) := by decide +kernel
theorem dX8_number_131 : decode cX8_number 131 = .ok (.iconst 1, 1) := by decide +kernel
theorem dX8_number_132 : decode cX8_number 132 = .ok (.iload_n 3, 1) := by decide +kernel
theorem dX8_number_133 : decode cX8_number 133 = .ok (.invokevirtual 41, 3) := by decide +kernel
theorem dX8_number_136 : decode cX8_number 136 = .ok (.goto 21, 3) := by decide +kernel
theorem dX8_number_139 : decode cX8_number 139 = .ok (.iload 4, 2) := by decide +kernel
theorem dX8_number_141 : decode cX8_number 141 = .ok (.iload_n 1, 1) := by decide +kernel
theorem dX8_number_142 : decode cX8_number 142 = .ok (.if_icmp .lt 9, 3) := by decide +kernel
theorem dX8_number_145 : decode cX8_number 145 = .ok (.iload 4, 2) := by decide +kernel
theorem dX8_number_147 : decode cX8_number 147 = .ok (.iload_n 2, 1) := by decide +kernel
theorem dX8_number_148 : decode cX8_number 148 = .ok (.if_icmp .le 9, 3) := by decide +kernel
theorem dX8_number_151 : decode cX8_number 151 = .ok (.aload_n 0, 1) := by decide +kernel
theorem dX8_number_152 : decode cX8_number 152 = .ok (.iconst 3, 1) := by decide +kernel
theorem dX8_number_153 : decode cX8_number 153 = .ok (.iload_n 3, 1) := by decide +kernel
theorem dX8_number_154 : decode cX8_number 154 = .ok (.invokevirtual 41, 3) := by decide +kernel
theorem dX8_number_157 : decode cX8_number 157 = .ok (.aload_n 0, 1) := by decide +kernel
theorem dX8_number_158 : decode cX8_number 158 = .ok (.getfield 31, 3) := by decide +kernel
theorem dX8_number_161 : decode cX8_number 161 = .ok (.ifCond .ne 8, 3) := by decide +kernel
theorem dX8_number_164 : decode cX8_number 164 = .ok (.iload 4, 2) := by decide +kernel
theorem dX8_number_166 : decode cX8_number 166 = .ok (.goto 4, 3) := by decide +kernel
theorem dX8_number_169 : decode cX8_number 169 = .ok (.iload_n 1, 1) := by decide +kernel
theorem dX8_number_170 : decode cX8_number 170 = .ok (.ireturn, 1) := by decide +kernel
theorem dX9_init_0 : decode cX9_init 0 = .ok (.aload_n 0, 1) := by decide +kernel
theorem dX9_init_1 : decode cX9_init 1 = .ok (.invokespecial 3, 3) := by decide +kernel
theorem dX9_init_4 : decode cX9_init 4 = .ok (.aload_n 0, 1) := by decide +kernel
theorem dX9_init_5 : decode cX9_init 5 = .ok (.bipush 6, 2) := by decide +kernel
theorem dX9_init_7 : decode cX9_init 7 = .ok (.anewarray 9, 3) := by decide +kernel
theorem dX9_init_10 : decode cX9_init 10 = .ok (.putfield 11, 3) := by decide +kernel
theorem dX9_init_13 : decode cX9_init 13 = .ok (.aload_n 0, 1) := by decide +kernel
theorem dX9_init_14 : decode cX9_init 14 = .ok (.iconst 4, 1) := by decide +kernel
theorem dX9_init_15 : decode cX9_init 15 = .ok (.newarray .int, 2) := by decide +kernel
theorem dX9_init_17 : decode cX9_init 17 = .ok (.putfield 17, 3) := by decide +kernel
theorem dX9_init_20 : decode cX9_init 20 = .ok (.aload_n 0, 1) := by decide +kernel
theorem dX9_init_21 : decode cX9_init 21 = .ok (.iconst 4, 1) := by decide +kernel
theorem dX9_init_22 : decode cX9_init 22 = .ok (.newarray .int, 2) := by decide +kernel
theorem dX9_init_24 : decode cX9_init 24 = .ok (.putfield 21, 3) := by decide +kernel
theorem dX9_init_27 : decode cX9_init 27 = .ok (.iconst 0, 1) := by decide +kernel
theorem dX9_init_28 : decode cX9_init 28 = .ok (.istore_n 1, 1) := by decide +kernel
theorem dX9_init_29 : decode cX9_init 29 = .ok (.iload_n 1, 1) := by decide +kernel
theorem dX9_init_30 : decode cX9_init 30 = .ok (.bipush 6, 2) := by decide +kernel
theorem dX9_init_32 : decode cX9_init 32 = .ok (.if_icmp .ge 22, 3) := by decide +kernel
theorem dX9_init_35 : decode cX9_init 35 = .ok (.aload_n 0, 1) := by decide +kernel
theorem dX9_init_36 : decode cX9_init 36 = .ok (.getfield 11, 3) := by decide +kernel
theorem dX9_init_39 : decode cX9_init 39 = .ok (.iload_n 1, 1) := by decide +kernel
theorem dX9_init_40 : decode cX9_init 40 = .ok (.new 9, 3) := by decide +kernel
theorem dX9_init_43 : decode cX9_init 43 = .ok (.dup, 1) := by decide +kernel
theorem dX9_init_44 : decode cX9_init 44 = .ok (.invokespecial 24, 3) := by decide +kernel
theorem dX9_init_47 : decode cX9_init 47 = .ok (.aastore, 1) := by decide +kernel
theorem dX9_init_48 : decode cX9_init 48 = .ok (.iinc 1 1, 3) := by decide +kernel
theorem dX9_init_51 : decode cX9_init 51 = .ok (.goto (-22), 3) := by decide +kernel
theorem dX9_init_54 : decode cX9_init 54 = .ok (.return_, 1) := by decide +kernel
theorem dX9_clear_0 : decode cX9_clear 0 = .ok (.iconst 0, 1) := by decide +kernel
theorem dX9_clear_1 : decode cX9_clear 1 = .ok (.istore_n 1, 1) := by decide +kernel
theorem dX9_clear_2 : decode cX9_clear 2 = .ok (.iload_n 1, 1) := by decide +kernel
theorem dX9_clear_3 : decode cX9_clear 3 = .ok (.bipush 6, 2) := by decide +kernel
theorem dX9_clear_5 : decode cX9_clear 5 = .ok (.if_icmp .ge 18, 3) := by decide +kernel
theorem dX9_clear_8 : decode cX9_clear 8 = .ok (.aload_n 0, 1) := by decide +kernel
theorem dX9_clear_9 : decode cX9_clear 9 = .ok (.getfield 11, 3) := by decide +kernel
theorem dX9_clear_12 : decode cX9_clear 12 = .ok (.iload_n 1, 1) := by decide +kernel
theorem dX9_clear_13 : decode cX9_clear 13 = .ok (.aaload, 1) := by decide +kernel
theorem dX9_clear_14 : decode cX9_clear 14 = .ok (.invokevirtual 25, 3) := by decide +kernel
theorem dX9_clear_17 : decode cX9_clear 17 = .ok (.iinc 1 1, 3) := by decide +kernel
theorem dX9_clear_20 : decode cX9_clear 20 = .ok (.goto (-18), 3) := by decide +kernel
theorem dX9_clear_23 : decode cX9_clear 23 = .ok (.aload_n 0, 1) := by decide +kernel
theorem dX9_clear_24 : decode cX9_clear 24 = .ok (.iconst 0, 1) := by decide +kernel
theorem dX9_clear_25 : decode cX9_clear 25 = .ok (.putfield 28, 3) := by decide +kernel
theorem dX9_clear_28 : decode cX9_clear 28 = .ok (.aload_n 0, 1) := by decide +kernel
theorem dX9_clear_29 : decode cX9_clear 29 = .ok (.iconst 0, 1) := by decide +kernel
theorem dX9_clear_30 : decode cX9_clear 30 = .ok (.putfield 32, 3) := by decide +kernel
theorem dX9_clear_33 : decode cX9_clear 33 = .ok (.aload_n 0, 1) := by decide +kernel
theorem dX9_clear_34 : decode cX9_clear 34 = .ok (.iconst 0, 1) := by decide +kernel
theorem dX9_clear_35 : decode cX9_clear 35 = .ok (.putfield 35, 3) := by decide +kernel
theorem dX9_clear_38 : decode cX9_clear 38 = .ok (.aload_n 0, 1) := by decide +kernel
theorem dX9_clear_39 : decode cX9_clear 39 = .ok (.iconst 0, 1) := by decide +kernel
theorem dX9_clear_40 : decode cX9_clear 40 = .ok (.putfield 38, 3) := by decide +kernel
theorem dX9_clear_43 : decode cX9_clear 43 = .ok (.aload_n 0, 1) := by decide +kernel
theorem dX9_clear_44 : decode cX9_clear 44 = .ok (.iconst 0, 1) := by decide +kernel
theorem dX9_clear_45 : decode cX9_clear 45 = .ok (.putfield 41, 3) := by decide +kernel
theorem dX9_clear_48 : decode cX9_clear 48 = .ok (.return_, 1) := by decide +kernel
theorem dX9_copyFrom_0 : decode cX9_copyFrom 0 = .ok (.iconst 0, 1) := by decide +kernel
theorem dX9_copyFrom_1 : decode cX9_copyFrom 1 = .ok (.istore_n 2, 1) := by decide +kernel
theorem dX9_copyFrom_2 : decode cX9_copyFrom 2 = .ok (.iload_n 2, 1) := by decide +kernel
theorem dX9_copyFrom_3 : decode cX9_copyFrom 3 = .ok (.bipush 6, 2) := by decide +kernel
theorem dX9_copyFrom_5 : decode cX9_copyFrom 5 = .ok (.if_icmp .ge 24, 3) := by decide +kernel
theorem dX9_copyFrom_8 : decode cX9_copyFrom 8 = .ok (.aload_n 0, 1) := by decide +kernel
theorem dX9_copyFrom_9 : decode cX9_copyFrom 9 = .ok (.getfield 11, 3) := by decide +kernel
theorem dX9_copyFrom_12 : decode cX9_copyFrom 12 = .ok (.iload_n 2, 1) := by decide +kernel
theorem dX9_copyFrom_13 : decode cX9_copyFrom 13 = .ok (.aaload, 1) := by decide +kernel
theorem dX9_copyFrom_14 : decode cX9_copyFrom 14 = .ok (.aload_n 1, 1) := by decide +kernel
theorem dX9_copyFrom_15 : decode cX9_copyFrom 15 = .ok (.getfield 11, 3) := by decide +kernel
theorem dX9_copyFrom_18 : decode cX9_copyFrom 18 = .ok (.iload_n 2, 1) := by decide +kernel
theorem dX9_copyFrom_19 : decode cX9_copyFrom 19 = .ok (.aaload, 1) := by decide +kernel
theorem dX9_copyFrom_20 : decode cX9_copyFrom 20 = .ok (.invokevirtual 44, 3) := by decide +kernel
theorem dX9_copyFrom_23 : decode cX9_copyFrom 23 = .ok (.iinc 2 1, 3) := by decide +kernel
theorem dX9_copyFrom_26 : decode cX9_copyFrom 26 = .ok (.goto (-24), 3) := by decide +kernel
theorem dX9_copyFrom_29 : decode cX9_copyFrom 29 = .ok (.aload_n 0, 1) := by decide +kernel
theorem dX9_copyFrom_30 : decode cX9_copyFrom 30 = .ok (.aload_n 1, 1) := by decide +kernel
theorem dX9_copyFrom_31 : decode cX9_copyFrom 31 = .ok (.getfield 28, 3) := by decide +kernel
theorem dX9_copyFrom_34 : decode cX9_copyFrom 34 = .ok (.putfield 28, 3) := by decide +kernel
theorem dX9_copyFrom_37 : decode cX9_copyFrom 37 = .ok (.aload_n 0, 1) := by decide +kernel
theorem dX9_copyFrom_38 : decode cX9_copyFrom 38 = .ok (.aload_n 1, 1) := by decide +kernel
theorem dX9_copyFrom_39 : decode cX9_copyFrom 39 = .ok (.getfield 32, 3) := by decide +kernel
theorem dX9_copyFrom_42 : decode cX9_copyFrom 42 = .ok (.putfield 32, 3) := by decide +kernel
theorem dX9_copyFrom_45 : decode cX9_copyFrom 45 = .ok (.aload_n 0, 1) := by decide +kernel
theorem dX9_copyFrom_46 : decode cX9_copyFrom 46 = .ok (.aload_n 1, 1) := by decide +kernel
theorem dX9_copyFrom_47 : decode cX9_copyFrom 47 = .ok (.getfield 35, 3) := by decide +kernel
theorem dX9_copyFrom_50 : decode cX9_copyFrom 50 = .ok (.putfield 35, 3) := by decide +kernel
theorem dX9_copyFrom_53 : decode cX9_copyFrom 53 = .ok (.aload_n 0, 1) := by decide +kernel
theorem dX9_copyFrom_54 : decode cX9_copyFrom 54 = .ok (.aload_n 1, 1) := by decide +kernel
theorem dX9_copyFrom_55 : decode cX9_copyFrom 55 = .ok (.getfield 38, 3) := by decide +kernel
theorem dX9_copyFrom_58 : decode cX9_copyFrom 58 = .ok (.putfield 38, 3) := by decide +kernel
theorem dX9_copyFrom_61 : decode cX9_copyFrom 61 = .ok (.aload_n 1, 1) := by decide +kernel
theorem dX9_copyFrom_62 : decode cX9_copyFrom 62 = .ok (.getfield 17, 3) := by decide +kernel
theorem dX9_copyFrom_65 : decode cX9_copyFrom 65 = .ok (.iconst 0, 1) := by decide +kernel
theorem dX9_copyFrom_66 : decode cX9_copyFrom 66 = .ok (.aload_n 0, 1) := by decide +kernel
theorem dX9_copyFrom_67 : decode cX9_copyFrom 67 = .ok (.getfield 17, 3) := by decide +kernel
theorem dX9_copyFrom_70 : decode cX9_copyFrom 70 = .ok (.iconst 0, 1) := by decide +kernel
theorem dX9_copyFrom_71 : decode cX9_copyFrom 71 = .ok (.iconst 4, 1) := by decide +kernel
theorem dX9_copyFrom_72 : decode cX9_copyFrom 72 = .ok (.invokestatic 48, 3) := by decide +kernel
theorem dX9_copyFrom_75 : decode cX9_copyFrom 75 = .ok (.aload_n 1, 1) := by decide +kernel
theorem dX9_copyFrom_76 : decode cX9_copyFrom 76 = .ok (.getfield 21, 3) := by decide +kernel
theorem dX9_copyFrom_79 : decode cX9_copyFrom 79 = .ok (.iconst 0, 1) := by decide +kernel
theorem dX9_copyFrom_80 : decode cX9_copyFrom 80 = .ok (.aload_n 0, 1) := by decide +kernel
theorem dX9_copyFrom_81 : decode cX9_copyFrom 81 = .ok (.getfield 21, 3) := by decide +kernel
theorem dX9_copyFrom_84 : decode cX9_copyFrom 84 = .ok (.iconst 0, 1) := by decide +kernel
theorem dX9_copyFrom_85 : decode cX9_copyFrom 85 = .ok (.iconst 4, 1) := by decide +kernel
theorem dX9_copyFrom_86 : decode cX9_copyFrom 86 = .ok (.invokestatic 48, 3) := by decide +kernel
theorem dX9_copyFrom_89 : decode cX9_copyFrom 89 = .ok (.aload_n 0, 1) := by decide +kernel
theorem dX9_copyFrom_90 : decode cX9_copyFrom 90 = .ok (.aload_n 1, 1) := by decide +kernel
theorem dX9_copyFrom_91 : decode cX9_copyFrom 91 = .ok (.getfield 41, 3) := by decide +kernel
theorem dX9_copyFrom_94 : decode cX9_copyFrom 94 = .ok (.putfield 41, 3) := by decide +kernel
theorem dX9_copyFrom_97 : decode cX9_copyFrom 97 = .ok (.return_, 1) := by decide +kernel
theorem dX9_termsOf_0 : decode cX9_termsOf 0 = .ok (.iload_n 1, 1) := by decide +kernel
theorem dX9_termsOf_1 : decode cX9_termsOf 1 = .ok (.ifCond .lt 18, 3) := by decide +kernel
theorem dX9_termsOf_4 : decode cX9_termsOf 4 = .ok (.iload_n 1, 1) := by decide +kernel
theorem dX9_termsOf_5 : decode cX9_termsOf 5 = .ok (.bipush 6, 2) := by decide +kernel
theorem dX9_termsOf_7 : decode cX9_termsOf 7 = .ok (.if_icmp .ge 12, 3) := by decide +kernel
theorem dX9_termsOf_10 : decode cX9_termsOf 10 = .ok (.aload_n 0, 1) := by decide +kernel
theorem dX9_termsOf_11 : decode cX9_termsOf 11 = .ok (.getfield 11, 3) := by decide +kernel
theorem dX9_termsOf_14 : decode cX9_termsOf 14 = .ok (.iload_n 1, 1) := by decide +kernel
theorem dX9_termsOf_15 : decode cX9_termsOf 15 = .ok (.aaload, 1) := by decide +kernel
theorem dX9_termsOf_16 : decode cX9_termsOf 16 = .ok (.goto 9, 3) := by decide +kernel
theorem dX9_termsOf_19 : decode cX9_termsOf 19 = .ok (.aload_n 0, 1) := by decide +kernel
theorem dX9_termsOf_20 : decode cX9_termsOf 20 = .ok (.getfield 11, 3) := by decide +kernel
theorem dX9_termsOf_23 : decode cX9_termsOf 23 = .ok (.iconst 0, 1) := by decide +kernel
theorem dX9_termsOf_24 : decode cX9_termsOf 24 = .ok (.aaload, 1) := by decide +kernel
theorem dX9_termsOf_25 : decode cX9_termsOf 25 = .ok (.areturn, 1) := by decide +kernel
theorem dX9_isAboveTaxes_0 : decode cX9_isAboveTaxes 0 = .ok (.aload_n 0, 1) := by decide +kernel
theorem dX9_isAboveTaxes_1 : decode cX9_isAboveTaxes 1 = .ok (.getfield 38, 3) := by decide +kernel
theorem dX9_isAboveTaxes_4 : decode cX9_isAboveTaxes 4 = .ok (.iconst 1, 1) := by decide +kernel
theorem dX9_isAboveTaxes_5 : decode cX9_isAboveTaxes 5 = .ok (.if_icmp .lt 26, 3) := by decide +kernel
theorem dX9_isAboveTaxes_8 : decode cX9_isAboveTaxes 8 = .ok (.aload_n 0, 1) := by decide +kernel
theorem dX9_isAboveTaxes_9 : decode cX9_isAboveTaxes 9 = .ok (.getfield 38, 3) := by decide +kernel
theorem dX9_isAboveTaxes_12 : decode cX9_isAboveTaxes 12 = .ok (.iconst 4, 1) := by decide +kernel
theorem dX9_isAboveTaxes_13 : decode cX9_isAboveTaxes 13 = .ok (.if_icmp .gt 18, 3) := by decide +kernel
theorem dX9_isAboveTaxes_16 : decode cX9_isAboveTaxes 16 = .ok (.iload_n 1, 1) := by decide +kernel
theorem dX9_isAboveTaxes_17 : decode cX9_isAboveTaxes 17 = .ok (.aload_n 0, 1) := by decide +kernel
theorem dX9_isAboveTaxes_18 : decode cX9_isAboveTaxes 18 = .ok (.getfield 17, 3) := by decide +kernel
theorem dX9_isAboveTaxes_21 : decode cX9_isAboveTaxes 21 = .ok (.aload_n 0, 1) := by decide +kernel
theorem dX9_isAboveTaxes_22 : decode cX9_isAboveTaxes 22 = .ok (.getfield 38, 3) := by decide +kernel
theorem dX9_isAboveTaxes_25 : decode cX9_isAboveTaxes 25 = .ok (.iconst 1, 1) := by decide +kernel
theorem dX9_isAboveTaxes_26 : decode cX9_isAboveTaxes 26 = .ok (.isub, 1) := by decide +kernel
theorem dX9_isAboveTaxes_27 : decode cX9_isAboveTaxes 27 = .ok (.iaload, 1) := by decide +kernel
theorem dX9_isAboveTaxes_28 : decode cX9_isAboveTaxes 28 = .ok (.if_icmp .le 7, 3) := by decide +kernel
theorem dX9_isAboveTaxes_31 : decode cX9_isAboveTaxes 31 = .ok (.iconst 1, 1) := by decide +kernel
theorem dX9_isAboveTaxes_32 : decode cX9_isAboveTaxes 32 = .ok (.goto 4, 3) := by decide +kernel
theorem dX9_isAboveTaxes_35 : decode cX9_isAboveTaxes 35 = .ok (.iconst 0, 1) := by decide +kernel
theorem dX9_isAboveTaxes_36 : decode cX9_isAboveTaxes 36 = .ok (.ireturn, 1) := by decide +kernel
theorem dX9_addTax_0 : decode cX9_addTax 0 = .ok (.aload_n 0, 1) := by decide +kernel
theorem dX9_addTax_1 : decode cX9_addTax 1 = .ok (.getfield 38, 3) := by decide +kernel
theorem dX9_addTax_4 : decode cX9_addTax 4 = .ok (.ifCond .lt 41, 3) := by decide +kernel
theorem dX9_addTax_7 : decode cX9_addTax 7 = .ok (.aload_n 0, 1) := by decide +kernel
theorem dX9_addTax_8 : decode cX9_addTax 8 = .ok (.getfield 38, 3) := by decide +kernel
theorem dX9_addTax_11 : decode cX9_addTax 11 = .ok (.iconst 4, 1) := by decide +kernel
theorem dX9_addTax_12 : decode cX9_addTax 12 = .ok (.if_icmp .ge 33, 3) := by decide +kernel
theorem dX9_addTax_15 : decode cX9_addTax 15 = .ok (.aload_n 0, 1) := by decide +kernel
theorem dX9_addTax_16 : decode cX9_addTax 16 = .ok (.getfield 17, 3) := by decide +kernel
theorem dX9_addTax_19 : decode cX9_addTax 19 = .ok (.aload_n 0, 1) := by decide +kernel
theorem dX9_addTax_20 : decode cX9_addTax 20 = .ok (.getfield 38, 3) := by decide +kernel
theorem dX9_addTax_23 : decode cX9_addTax 23 = .ok (.iload_n 1, 1) := by decide +kernel
theorem dX9_addTax_24 : decode cX9_addTax 24 = .ok (.iastore, 1) := by decide +kernel
theorem dX9_addTax_25 : decode cX9_addTax 25 = .ok (.aload_n 0, 1) := by decide +kernel
theorem dX9_addTax_26 : decode cX9_addTax 26 = .ok (.getfield 21, 3) := by decide +kernel
theorem dX9_addTax_29 : decode cX9_addTax 29 = .ok (.aload_n 0, 1) := by decide +kernel
theorem dX9_addTax_30 : decode cX9_addTax 30 = .ok (.getfield 38, 3) := by decide +kernel
theorem dX9_addTax_33 : decode cX9_addTax 33 = .ok (.iload_n 2, 1) := by decide +kernel
theorem dX9_addTax_34 : decode cX9_addTax 34 = .ok (.iastore, 1) := by decide +kernel
theorem dX9_addTax_35 : decode cX9_addTax 35 = .ok (.aload_n 0, 1) := by decide +kernel
theorem dX9_addTax_36 : decode cX9_addTax 36 = .ok (.dup, 1) := by decide +kernel
theorem dX9_addTax_37 : decode cX9_addTax 37 = .ok (.getfield 38, 3) := by decide +kernel
theorem dX9_addTax_40 : decode cX9_addTax 40 = .ok (.iconst 1, 1) := by decide +kernel
theorem dX9_addTax_41 : decode cX9_addTax 41 = .ok (.iadd, 1) := by decide +kernel
theorem dX9_addTax_42 : decode cX9_addTax 42 = .ok (.putfield 38, 3) := by decide +kernel
theorem dX9_addTax_45 : decode cX9_addTax 45 = .ok (.return_, 1) := by decide +kernel
theorem dX9_rateOn_0 : decode cX9_rateOn 0 = .ok (.iconst 0, 1) := by decide +kernel
theorem dX9_rateOn_1 : decode cX9_rateOn 1 = .ok (.istore_n 2, 1) := by decide +kernel
theorem dX9_rateOn_2 : decode cX9_rateOn 2 = .ok (.iconst 0, 1) := by decide +kernel
theorem dX9_rateOn_3 : decode cX9_rateOn 3 = .ok (.istore_n 3, 1) := by decide +kernel
theorem dX9_rateOn_4 : decode cX9_rateOn 4 = .ok (.iload_n 3, 1) := by decide +kernel
theorem dX9_rateOn_5 : decode cX9_rateOn 5 = .ok (.aload_n 0, 1) := by decide +kernel
theorem dX9_rateOn_6 : decode cX9_rateOn 6 = .ok (.getfield 38, 3) := by decide +kernel
theorem dX9_rateOn_9 : decode cX9_rateOn 9 = .ok (.if_icmp .ge 31, 3) := by decide +kernel
theorem dX9_rateOn_12 : decode cX9_rateOn 12 = .ok (.iload_n 3, 1) := by decide +kernel
theorem dX9_rateOn_13 : decode cX9_rateOn 13 = .ok (.iconst 4, 1) := by decide +kernel
theorem dX9_rateOn_14 : decode cX9_rateOn 14 = .ok (.if_icmp .ge 26, 3) := by decide +kernel
theorem dX9_rateOn_17 : decode cX9_rateOn 17 = .ok (.aload_n 0, 1) := by decide +kernel
theorem dX9_rateOn_18 : decode cX9_rateOn 18 = .ok (.getfield 17, 3) := by decide +kernel
theorem dX9_rateOn_21 : decode cX9_rateOn 21 = .ok (.iload_n 3, 1) := by decide +kernel
theorem dX9_rateOn_22 : decode cX9_rateOn 22 = .ok (.iaload, 1) := by decide +kernel
theorem dX9_rateOn_23 : decode cX9_rateOn 23 = .ok (.iload_n 1, 1) := by decide +kernel
theorem dX9_rateOn_24 : decode cX9_rateOn 24 = .ok (.if_icmp .gt 10, 3) := by decide +kernel
theorem dX9_rateOn_27 : decode cX9_rateOn 27 = .ok (.aload_n 0, 1) := by decide +kernel
theorem dX9_rateOn_28 : decode cX9_rateOn 28 = .ok (.getfield 21, 3) := by decide +kernel
theorem dX9_rateOn_31 : decode cX9_rateOn 31 = .ok (.iload_n 3, 1) := by decide +kernel
theorem dX9_rateOn_32 : decode cX9_rateOn 32 = .ok (.iaload, 1) := by decide +kernel
theorem dX9_rateOn_33 : decode cX9_rateOn 33 = .ok (.istore_n 2, 1) := by decide +kernel
theorem dX9_rateOn_34 : decode cX9_rateOn 34 = .ok (.iinc 3 1, 3) := by decide +kernel
theorem dX9_rateOn_37 : decode cX9_rateOn 37 = .ok (.goto (-33), 3) := by decide +kernel
theorem dX9_rateOn_40 : decode cX9_rateOn 40 = .ok (.iload_n 2, 1) := by decide +kernel
theorem dX9_rateOn_41 : decode cX9_rateOn 41 = .ok (.ireturn, 1) := by decide +kernel
theorem dX9_worth_0 : decode cX9_worth 0 = .ok (.aload_n 0, 1) := by decide +kernel
theorem dX9_worth_1 : decode cX9_worth 1 = .ok (.iload_n 1, 1) := by decide +kernel
theorem dX9_worth_2 : decode cX9_worth 2 = .ok (.invokevirtual 54, 3) := by decide +kernel
theorem dX9_worth_5 : decode cX9_worth 5 = .ok (.astore_n 3, 1) := by decide +kernel
theorem dX9_worth_6 : decode cX9_worth 6 = .ok (.aload_n 3, 1) := by decide +kernel
theorem dX9_worth_7 : decode cX9_worth 7 = .ok (.aload_n 2, 1) := by decide +kernel
theorem dX9_worth_8 : decode cX9_worth 8 = .ok (.getfield 58, 3) := by decide +kernel
theorem dX9_worth_11 : decode cX9_worth 11 = .ok (.invokevirtual 63, 3) := by decide +kernel
theorem dX9_worth_14 : decode cX9_worth 14 = .ok (.istore 4, 2) := by decide +kernel
theorem dX9_worth_16 : decode cX9_worth 16 = .ok (.aload_n 2, 1) := by decide +kernel
theorem dX9_worth_17 : decode cX9_worth 17 = .ok (.getfield 67, 3) := by decide +kernel
theorem dX9_worth_20 : decode cX9_worth 20 = .ok (.aload_n 0, 1) := by decide +kernel
theorem dX9_worth_21 : decode cX9_worth 21 = .ok (.getfield 32, 3) := by decide +kernel
theorem dX9_worth_24 : decode cX9_worth 24 = .ok (.if_icmp .ge 18, 3) := by decide +kernel
theorem dX9_worth_27 : decode cX9_worth 27 = .ok (.iload 4, 2) := by decide +kernel
theorem dX9_worth_29 : decode cX9_worth 29 = .ok (.iload 4, 2) := by decide +kernel
theorem dX9_worth_31 : decode cX9_worth 31 = .ok (.aload_n 0, 1) := by decide +kernel
theorem dX9_worth_32 : decode cX9_worth 32 = .ok (.getfield 28, 3) := by decide +kernel
theorem dX9_worth_35 : decode cX9_worth 35 = .ok (.imul, 1) := by decide +kernel
theorem dX9_worth_36 : decode cX9_worth 36 = .ok (.bipush 100, 2) := by decide +kernel
theorem dX9_worth_38 : decode cX9_worth 38 = .ok (.idiv, 1) := by decide +kernel
theorem dX9_worth_39 : decode cX9_worth 39 = .ok (.isub, 1) := by decide +kernel
theorem dX9_worth_40 : decode cX9_worth 40 = .ok (.istore 4, 2) := by decide +kernel
theorem dX9_worth_42 : decode cX9_worth 42 = .ok (.aload_n 2, 1) := by decide +kernel
theorem dX9_worth_43 : decode cX9_worth 43 = .ok (.getfield 70, 3) := by decide +kernel
theorem dX9_worth_46 : decode cX9_worth 46 = .ok (.ifCond .eq 16, 3) := by decide +kernel
theorem dX9_worth_49 : decode cX9_worth 49 = .ok (.iload 4, 2) := by decide +kernel
theorem dX9_worth_51 : decode cX9_worth 51 = .ok (.aload_n 3, 1) := by decide +kernel
theorem dX9_worth_52 : decode cX9_worth 52 = .ok (.getfield 74, 3) := by decide +kernel
theorem dX9_worth_55 : decode cX9_worth 55 = .ok (.imul, 1) := by decide +kernel
theorem dX9_worth_56 : decode cX9_worth 56 = .ok (.bipush 100, 2) := by decide +kernel
theorem dX9_worth_58 : decode cX9_worth 58 = .ok (.idiv, 1) := by decide +kernel
theorem dX9_worth_59 : decode cX9_worth 59 = .ok (.goto 5, 3) := by decide +kernel
theorem dX9_worth_62 : decode cX9_worth 62 = .ok (.iload 4, 2) := by decide +kernel
theorem dX9_worth_64 : decode cX9_worth 64 = .ok (.ireturn, 1) := by decide +kernel
theorem dX9_cheapestPlan_0 : decode cX9_cheapestPlan 0 = .ok (.iconst 0, 1) := by decide +kernel
theorem dX9_cheapestPlan_1 : decode cX9_cheapestPlan 1 = .ok (.istore_n 2, 1) := by decide +kernel
theorem dX9_cheapestPlan_2 : decode cX9_cheapestPlan 2 = .ok (.iconst 0, 1) := by decide +kernel
theorem dX9_cheapestPlan_3 : decode cX9_cheapestPlan 3 = .ok (.istore_n 3, 1) := by decide +kernel
theorem dX9_cheapestPlan_4 : decode cX9_cheapestPlan 4 = .ok (.iconst 0, 1) := by decide +kernel
theorem dX9_cheapestPlan_5 : decode cX9_cheapestPlan 5 = .ok (.istore 4, 2) := by decide +kernel
theorem dX9_cheapestPlan_7 : decode cX9_cheapestPlan 7 = .ok (.iload 4, 2) := by decide +kernel
theorem dX9_cheapestPlan_9 : decode cX9_cheapestPlan 9 = .ok (.bipush 6, 2) := by decide +kernel
theorem dX9_cheapestPlan_11 : decode cX9_cheapestPlan 11 = .ok (.if_icmp .ge 50, 3) := by decide +kernel
theorem dX9_cheapestPlan_14 : decode cX9_cheapestPlan 14 = .ok (.aload_n 0, 1) := by decide +kernel
theorem dX9_cheapestPlan_15 : decode cX9_cheapestPlan 15 = .ok (.getfield 11, 3) := by decide +kernel
theorem dX9_cheapestPlan_18 : decode cX9_cheapestPlan 18 = .ok (.iload 4, 2) := by decide +kernel
theorem dX9_cheapestPlan_20 : decode cX9_cheapestPlan 20 = .ok (.aaload, 1) := by decide +kernel
theorem dX9_cheapestPlan_21 : decode cX9_cheapestPlan 21 = .ok (.getfield 76, 3) := by decide +kernel
theorem dX9_cheapestPlan_24 : decode cX9_cheapestPlan 24 = .ok (.aload_n 0, 1) := by decide +kernel
theorem dX9_cheapestPlan_25 : decode cX9_cheapestPlan 25 = .ok (.getfield 11, 3) := by decide +kernel
theorem dX9_cheapestPlan_28 : decode cX9_cheapestPlan 28 = .ok (.iload 4, 2) := by decide +kernel
theorem dX9_cheapestPlan_30 : decode cX9_cheapestPlan 30 = .ok (.aaload, 1) := by decide +kernel
theorem dX9_cheapestPlan_31 : decode cX9_cheapestPlan 31 = .ok (.iload_n 1, 1) := by decide +kernel
theorem dX9_cheapestPlan_32 : decode cX9_cheapestPlan 32 = .ok (.invokevirtual 79, 3) := by decide +kernel
theorem dX9_cheapestPlan_35 : decode cX9_cheapestPlan 35 = .ok (.iadd, 1) := by decide +kernel
theorem dX9_cheapestPlan_36 : decode cX9_cheapestPlan 36 = .ok (.istore 5, 2) := by decide +kernel
theorem dX9_cheapestPlan_38 : decode cX9_cheapestPlan 38 = .ok (.iload 4, 2) := by decide +kernel
theorem dX9_cheapestPlan_40 : decode cX9_cheapestPlan 40 = .ok (.ifCond .eq 9, 3) := by decide +kernel
theorem dX9_cheapestPlan_43 : decode cX9_cheapestPlan 43 = .ok (.iload 5, 2) := by decide +kernel
theorem dX9_cheapestPlan_45 : decode cX9_cheapestPlan 45 = .ok (.iload_n 3, 1) := by decide +kernel
theorem dX9_cheapestPlan_46 : decode cX9_cheapestPlan 46 = .ok (.if_icmp .ge 9, 3) := by decide +kernel
theorem dX9_cheapestPlan_49 : decode cX9_cheapestPlan 49 = .ok (.iload 4, 2) := by decide +kernel
theorem dX9_cheapestPlan_51 : decode cX9_cheapestPlan 51 = .ok (.istore_n 2, 1) := by decide +kernel
theorem dX9_cheapestPlan_52 : decode cX9_cheapestPlan 52 = .ok (.iload 5, 2) := by decide +kernel
theorem dX9_cheapestPlan_54 : decode cX9_cheapestPlan 54 = .ok (.istore_n 3, 1) := by decide +kernel
theorem dX9_cheapestPlan_55 : decode cX9_cheapestPlan 55 = .ok (.iinc 4 1, 3) := by decide +kernel
theorem dX9_cheapestPlan_58 : decode cX9_cheapestPlan 58 = .ok (.goto (-51), 3) := by decide +kernel
theorem dX9_cheapestPlan_61 : decode cX9_cheapestPlan 61 = .ok (.iload_n 2, 1) := by decide +kernel
theorem dX9_cheapestPlan_62 : decode cX9_cheapestPlan 62 = .ok (.ireturn, 1) := by decide +kernel
theorem dX9_tell_0 : decode cX9_tell 0 = .ok (.iload_n 1, 1) := by decide +kernel
theorem dX9_tell_1 : decode cX9_tell 1 = .ok (.tableswitch 158 0 23 #[111, 116, 158, 158, 158, 158, 158, 121, 158, 158, 126, 126, 126, 126, 158, 158, 158, 158, 158, 158, 142, 142, 142, 142], 111) := by decide +kernel
theorem dX9_tell_112 : decode cX9_tell 112 = .ok (.aload_n 0, 1) := by decide +kernel
theorem dX9_tell_113 : decode cX9_tell 113 = .ok (.getfield 28, 3) := by decide +kernel
theorem dX9_tell_116 : decode cX9_tell 116 = .ok (.ireturn, 1) := by decide +kernel
theorem dX9_tell_117 : decode cX9_tell 117 = .ok (.aload_n 0, 1) := by decide +kernel
theorem dX9_tell_118 : decode cX9_tell 118 = .ok (.getfield 32, 3) := by decide +kernel
theorem dX9_tell_121 : decode cX9_tell 121 = .ok (.ireturn, 1) := by decide +kernel
theorem dX9_tell_122 : decode cX9_tell 122 = .ok (.aload_n 0, 1) := by decide +kernel
theorem dX9_tell_123 : decode cX9_tell 123 = .ok (.getfield 35, 3) := by decide +kernel
theorem dX9_tell_126 : decode cX9_tell 126 = .ok (.ireturn, 1) := by decide +kernel
theorem dX9_tell_127 : decode cX9_tell 127 = .ok (.aload_n 0, 1) := by decide +kernel
theorem dX9_tell_128 : decode cX9_tell 128 = .ok (.getfield 17, 3) := by decide +kernel
theorem dX9_tell_131 : decode cX9_tell 131 = .ok (.aload_n 0, 1) := by decide +kernel
theorem dX9_tell_132 : decode cX9_tell 132 = .ok (.getfield 38, 3) := by decide +kernel
theorem dX9_tell_135 : decode cX9_tell 135 = .ok (.iload_n 1, 1) := by decide +kernel
theorem dX9_tell_136 : decode cX9_tell 136 = .ok (.bipush 10, 2) := by decide +kernel
theorem dX9_tell_138 : decode cX9_tell 138 = .ok (.isub, 1) := by decide +kernel
theorem dX9_tell_139 : decode cX9_tell 139 = .ok (.invokestatic 82, 3) := by decide +kernel
theorem dX9_tell_142 : decode cX9_tell 142 = .ok (.ireturn, 1) := by decide +kernel
theorem dX9_tell_143 : decode cX9_tell 143 = .ok (.aload_n 0, 1) := by decide +kernel
theorem dX9_tell_144 : decode cX9_tell 144 = .ok (.getfield 21, 3) := by decide +kernel
theorem dX9_tell_147 : decode cX9_tell 147 = .ok (.aload_n 0, 1) := by decide +kernel
theorem dX9_tell_148 : decode cX9_tell 148 = .ok (.getfield 38, 3) := by decide +kernel
theorem dX9_tell_151 : decode cX9_tell 151 = .ok (.iload_n 1, 1) := by decide +kernel
theorem dX9_tell_152 : decode cX9_tell 152 = .ok (.bipush 20, 2) := by decide +kernel
theorem dX9_tell_154 : decode cX9_tell 154 = .ok (.isub, 1) := by decide +kernel
theorem dX9_tell_155 : decode cX9_tell 155 = .ok (.invokestatic 82, 3) := by decide +kernel
theorem dX9_tell_158 : decode cX9_tell 158 = .ok (.ireturn, 1) := by decide +kernel
theorem dX9_tell_159 : decode cX9_tell 159 = .ok (.iconst (-1), 1) := by decide +kernel
theorem dX9_tell_160 : decode cX9_tell 160 = .ok (.ireturn, 1) := by decide +kernel
theorem dX10_init_0 : decode cX10_init 0 = .ok (.aload_n 0, 1) := by decide +kernel
theorem dX10_init_1 : decode cX10_init 1 = .ok (.invokespecial 1, 3) := by decide +kernel
theorem dX10_init_4 : decode cX10_init 4 = .ok (.aload_n 0, 1) := by decide +kernel
theorem dX10_init_5 : decode cX10_init 5 = .ok (.sipush 400, 3) := by decide +kernel
theorem dX10_init_8 : decode cX10_init 8 = .ok (.newarray .byte, 2) := by decide +kernel
theorem dX10_init_10 : decode cX10_init 10 = .ok (.putfield 9, 3) := by decide +kernel
theorem dX10_init_13 : decode cX10_init 13 = .ok (.aload_n 0, 1) := by decide +kernel
theorem dX10_init_14 : decode cX10_init 14 = .ok (.new 13, 3) := by decide +kernel
theorem dX10_init_17 : decode cX10_init 17 = .ok (.dup, 1) := by decide +kernel
theorem dX10_init_18 : decode cX10_init 18 = .ok (.invokespecial 15, 3) := by decide +kernel
theorem dX10_init_21 : decode cX10_init 21 = .ok (.putfield 16, 3) := by decide +kernel
theorem dX10_init_24 : decode cX10_init 24 = .ok (.aload_n 0, 1) := by decide +kernel
theorem dX10_init_25 : decode cX10_init 25 = .ok (.new 20, 3) := by decide +kernel
theorem dX10_init_28 : decode cX10_init 28 = .ok (.dup, 1) := by decide +kernel
theorem dX10_init_29 : decode cX10_init 29 = .ok (.aload_n 0, 1) := by decide +kernel
theorem dX10_init_30 : decode cX10_init 30 = .ok (.getfield 16, 3) := by decide +kernel
theorem dX10_init_33 : decode cX10_init 33 = .ok (.invokespecial 22, 3) := by decide +kernel
theorem dX10_init_36 : decode cX10_init 36 = .ok (.putfield 25, 3) := by decide +kernel
theorem dX10_init_39 : decode cX10_init 39 = .ok (.aload_n 0, 1) := by decide +kernel
theorem dX10_init_40 : decode cX10_init 40 = .ok (.new 20, 3) := by decide +kernel
theorem dX10_init_43 : decode cX10_init 43 = .ok (.dup, 1) := by decide +kernel
theorem dX10_init_44 : decode cX10_init 44 = .ok (.aload_n 0, 1) := by decide +kernel
theorem dX10_init_45 : decode cX10_init 45 = .ok (.getfield 16, 3) := by decide +kernel
theorem dX10_init_48 : decode cX10_init 48 = .ok (.invokespecial 22, 3) := by decide +kernel
theorem dX10_init_51 : decode cX10_init 51 = .ok (.putfield 29, 3) := by decide +kernel
theorem dX10_init_54 : decode cX10_init 54 = .ok (.aload_n 0, 1) := by decide +kernel
theorem dX10_init_55 : decode cX10_init 55 = .ok (.new 20, 3) := by decide +kernel
theorem dX10_init_58 : decode cX10_init 58 = .ok (.dup, 1) := by decide +kernel
theorem dX10_init_59 : decode cX10_init 59 = .ok (.aload_n 0, 1) := by decide +kernel
theorem dX10_init_60 : decode cX10_init 60 = .ok (.getfield 16, 3) := by decide +kernel
theorem dX10_init_63 : decode cX10_init 63 = .ok (.invokespecial 22, 3) := by decide +kernel
theorem dX10_init_66 : decode cX10_init 66 = .ok (.putfield 32, 3) := by decide +kernel
theorem dX10_init_69 : decode cX10_init 69 = .ok (.aload_n 0, 1) := by decide +kernel
theorem dX10_init_70 : decode cX10_init 70 = .ok (.new 35, 3) := by decide +kernel
theorem dX10_init_73 : decode cX10_init 73 = .ok (.dup, 1) := by decide +kernel
theorem dX10_init_74 : decode cX10_init 74 = .ok (.aload_n 0, 1) := by decide +kernel
theorem dX10_init_75 : decode cX10_init 75 = .ok (.getfield 9, 3) := by decide +kernel
theorem dX10_init_78 : decode cX10_init 78 = .ok (.invokespecial 37, 3) := by decide +kernel
theorem dX10_init_81 : decode cX10_init 81 = .ok (.putfield 40, 3) := by decide +kernel
theorem dX10_init_84 : decode cX10_init 84 = .ok (.aload_n 0, 1) := by decide +kernel
theorem dX10_init_85 : decode cX10_init 85 = .ok (.new 44, 3) := by decide +kernel
theorem dX10_init_88 : decode cX10_init 88 = .ok (.dup, 1) := by decide +kernel
theorem dX10_init_89 : decode cX10_init 89 = .ok (.aload_n 0, 1) := by decide +kernel
theorem dX10_init_90 : decode cX10_init 90 = .ok (.getfield 9, 3) := by decide +kernel
theorem dX10_init_93 : decode cX10_init 93 = .ok (.invokespecial 46, 3) := by decide +kernel
theorem dX10_init_96 : decode cX10_init 96 = .ok (.putfield 47, 3) := by decide +kernel
theorem dX10_init_99 : decode cX10_init 99 = .ok (.aload_n 0, 1) := by decide +kernel
theorem dX10_init_100 : decode cX10_init 100 = .ok (.new 51, 3) := by decide +kernel
theorem dX10_init_103 : decode cX10_init 103 = .ok (.dup, 1) := by decide +kernel
theorem dX10_init_104 : decode cX10_init 104 = .ok (.aload_n 0, 1) := by decide +kernel
theorem dX10_init_105 : decode cX10_init 105 = .ok (.getfield 16, 3) := by decide +kernel
theorem dX10_init_108 : decode cX10_init 108 = .ok (.invokespecial 53, 3) := by decide +kernel
theorem dX10_init_111 : decode cX10_init 111 = .ok (.putfield 54, 3) := by decide +kernel
theorem dX10_init_114 : decode cX10_init 114 = .ok (.return_, 1) := by decide +kernel
theorem dX10_feed_0 : decode cX10_feed 0 = .ok (.aload_n 0, 1) := by decide +kernel
theorem dX10_feed_1 : decode cX10_feed 1 = .ok (.getfield 58, 3) := by decide +kernel
theorem dX10_feed_4 : decode cX10_feed 4 = .ok (.bipush 20, 2) := by decide +kernel
theorem dX10_feed_6 : decode cX10_feed 6 = .ok (.iadd, 1) := by decide +kernel
theorem dX10_feed_7 : decode cX10_feed 7 = .ok (.sipush 400, 3) := by decide +kernel
theorem dX10_feed_10 : decode cX10_feed 10 = .ok (.if_icmp .le 5, 3) := by decide +kernel
theorem dX10_feed_13 : decode cX10_feed 13 = .ok (.iconst (-1), 1) := by decide +kernel
theorem dX10_feed_14 : decode cX10_feed 14 = .ok (.ireturn, 1) := by decide +kernel
theorem dX10_feed_15 : decode cX10_feed 15 = .ok (.aload_n 0, 1) := by decide +kernel
theorem dX10_feed_16 : decode cX10_feed 16 = .ok (.iload_n 1, 1) := by decide +kernel
theorem dX10_feed_17 : decode cX10_feed 17 = .ok (.invokevirtual 62, 3) := by decide +kernel
theorem dX10_feed_20 : decode cX10_feed 20 = .ok (.aload_n 0, 1) := by decide +kernel
theorem dX10_feed_21 : decode cX10_feed 21 = .ok (.iload_n 2, 1) := by decide +kernel
theorem dX10_feed_22 : decode cX10_feed 22 = .ok (.invokevirtual 62, 3) := by decide +kernel
theorem dX10_feed_25 : decode cX10_feed 25 = .ok (.aload_n 0, 1) := by decide +kernel
theorem dX10_feed_26 : decode cX10_feed 26 = .ok (.iload_n 3, 1) := by decide +kernel
theorem dX10_feed_27 : decode cX10_feed 27 = .ok (.invokevirtual 62, 3) := by decide +kernel
theorem dX10_feed_30 : decode cX10_feed 30 = .ok (.aload_n 0, 1) := by decide +kernel
theorem dX10_feed_31 : decode cX10_feed 31 = .ok (.iload 4, 2) := by decide +kernel
theorem dX10_feed_33 : decode cX10_feed 33 = .ok (.invokevirtual 62, 3) := by decide +kernel
theorem dX10_feed_36 : decode cX10_feed 36 = .ok (.aload_n 0, 1) := by decide +kernel
theorem dX10_feed_37 : decode cX10_feed 37 = .ok (.iload 5, 2) := by decide +kernel
theorem dX10_feed_39 : decode cX10_feed 39 = .ok (.invokevirtual 62, 3) := by decide +kernel
theorem dX10_feed_42 : decode cX10_feed 42 = .ok (.aload_n 0, 1) := by decide +kernel
theorem dX10_feed_43 : decode cX10_feed 43 = .ok (.getfield 58, 3) := by decide +kernel
theorem dX10_feed_46 : decode cX10_feed 46 = .ok (.ireturn, 1) := by decide +kernel
theorem dX10_putOnTape_0 : decode cX10_putOnTape 0 = .ok (.bipush 24, 2) := by decide +kernel
theorem dX10_putOnTape_2 : decode cX10_putOnTape 2 = .ok (.istore_n 2, 1) := by decide +kernel
theorem dX10_putOnTape_3 : decode cX10_putOnTape 3 = .ok (.iload_n 2, 1) := by decide +kernel
theorem dX10_putOnTape_4 : decode cX10_putOnTape 4 = .ok (.ifCond .lt 51, 3) := by decide +kernel
theorem dX10_putOnTape_7 : decode cX10_putOnTape 7 = .ok (.aload_n 0, 1) := by decide +kernel
theorem dX10_putOnTape_8 : decode cX10_putOnTape 8 = .ok (.getfield 58, 3) := by decide +kernel
theorem dX10_putOnTape_11 : decode cX10_putOnTape 11 = .ok (.ifCond .lt 38, 3) := by decide +kernel
theorem dX10_putOnTape_14 : decode cX10_putOnTape 14 = .ok (.aload_n 0, 1) := by decide +kernel
theorem dX10_putOnTape_15 : decode cX10_putOnTape 15 = .ok (.getfield 58, 3) := by decide +kernel
theorem dX10_putOnTape_18 : decode cX10_putOnTape 18 = .ok (.aload_n 0, 1) := by decide +kernel
theorem dX10_putOnTape_19 : decode cX10_putOnTape 19 = .ok (.getfield 9, 3) := by decide +kernel
theorem dX10_putOnTape_22 : decode cX10_putOnTape 22 = .ok (.arraylength, 1) := by decide +kernel
theorem dX10_putOnTape_23 : decode cX10_putOnTape 23 = .ok (.if_icmp .ge 26, 3) := by decide +kernel
theorem dX10_putOnTape_26 : decode cX10_putOnTape 26 = .ok (.aload_n 0, 1) := by decide +kernel
theorem dX10_putOnTape_27 : decode cX10_putOnTape 27 = .ok (.getfield 9, 3) := by decide +kernel
theorem dX10_putOnTape_30 : decode cX10_putOnTape 30 = .ok (.aload_n 0, 1) := by decide +kernel
theorem dX10_putOnTape_31 : decode cX10_putOnTape 31 = .ok (.getfield 58, 3) := by decide +kernel
theorem dX10_putOnTape_34 : decode cX10_putOnTape 34 = .ok (.iload_n 1, 1) := by decide +kernel
theorem dX10_putOnTape_35 : decode cX10_putOnTape 35 = .ok (.iload_n 2, 1) := by decide +kernel
theorem dX10_putOnTape_36 : decode cX10_putOnTape 36 = .ok (.ishr, 1) := by decide +kernel
theorem dX10_putOnTape_37 : decode cX10_putOnTape 37 = .ok (.i2b, 1) := by decide +kernel
theorem dX10_putOnTape_38 : decode cX10_putOnTape 38 = .ok (.bastore, 1) := by decide +kernel
theorem dX10_putOnTape_39 : decode cX10_putOnTape 39 = .ok (.aload_n 0, 1) := by decide +kernel
theorem dX10_putOnTape_40 : decode cX10_putOnTape 40 = .ok (.dup, 1) := by decide +kernel
theorem dX10_putOnTape_41 : decode cX10_putOnTape 41 = .ok (.getfield 58, 3) := by decide +kernel
theorem dX10_putOnTape_44 : decode cX10_putOnTape 44 = .ok (.iconst 1, 1) := by decide +kernel
theorem dX10_putOnTape_45 : decode cX10_putOnTape 45 = .ok (.iadd, 1) := by decide +kernel
theorem dX10_putOnTape_46 : decode cX10_putOnTape 46 = .ok (.putfield 58, 3) := by decide +kernel
theorem dX10_putOnTape_49 : decode cX10_putOnTape 49 = .ok (.iinc 2 (-8), 3) := by decide +kernel
theorem dX10_putOnTape_52 : decode cX10_putOnTape 52 = .ok (.goto (-49), 3) := by decide +kernel
theorem dX10_putOnTape_55 : decode cX10_putOnTape 55 = .ok (.return_, 1) := by decide +kernel
theorem dX10_hasText_0 : decode cX10_hasText 0 = .ok (.iload_n 1, 1) := by decide +kernel
theorem dX10_hasText_1 : decode cX10_hasText 1 = .ok (.iconst 1, 1) := by decide +kernel
theorem dX10_hasText_2 : decode cX10_hasText 2 = .ok (.if_icmp .lt 22, 3) := by decide +kernel
theorem dX10_hasText_5 : decode cX10_hasText 5 = .ok (.iload_n 1, 1) := by decide +kernel
theorem dX10_hasText_6 : decode cX10_hasText 6 = .ok (.sipush 200, 3) := by decide +kernel
theorem dX10_hasText_9 : decode cX10_hasText 9 = .ok (.if_icmp .gt 15, 3) := by decide +kernel
theorem dX10_hasText_12 : decode cX10_hasText 12 = .ok (.iload_n 1, 1) := by decide +kernel
theorem dX10_hasText_13 : decode cX10_hasText 13 = .ok (.aload_n 0, 1) := by decide +kernel
theorem dX10_hasText_14 : decode cX10_hasText 14 = .ok (.getfield 58, 3) := by decide +kernel
theorem dX10_hasText_17 : decode cX10_hasText 17 = .ok (.if_icmp .gt 7, 3) := by decide +kernel
theorem dX10_hasText_20 : decode cX10_hasText 20 = .ok (.iconst 1, 1) := by decide +kernel
theorem dX10_hasText_21 : decode cX10_hasText 21 = .ok (.goto 4, 3) := by decide +kernel
theorem dX10_hasText_24 : decode cX10_hasText 24 = .ok (.iconst 0, 1) := by decide +kernel
theorem dX10_hasText_25 : decode cX10_hasText 25 = .ok (.ireturn, 1) := by decide +kernel
theorem dX10_book_0 : decode cX10_book 0 = .ok (.aload_n 0, 1) := by decide +kernel
theorem dX10_book_1 : decode cX10_book 1 = .ok (.iload_n 1, 1) := by decide +kernel
theorem dX10_book_2 : decode cX10_book 2 = .ok (.invokevirtual 66, 3) := by decide +kernel
theorem dX10_book_5 : decode cX10_book 5 = .ok (.ifCond .ne 5, 3) := by decide +kernel
theorem dX10_book_8 : decode cX10_book 8 = .ok (.iconst (-1), 1) := by decide +kernel
theorem dX10_book_9 : decode cX10_book 9 = .ok (.ireturn, 1) := by decide +kernel
theorem dX10_book_10 : decode cX10_book 10 = .ok (.aload_n 0, 1) := by decide +kernel
theorem dX10_book_11 : decode cX10_book 11 = .ok (.iconst 0, 1) := by decide +kernel
theorem dX10_book_12 : decode cX10_book 12 = .ok (.putfield 58, 3) := by decide +kernel
theorem dX10_book_15 : decode cX10_book 15 = .ok (.aload_n 0, 1) := by decide +kernel
theorem dX10_book_16 : decode cX10_book 16 = .ok (.getfield 25, 3) := by decide +kernel
theorem dX10_book_19 : decode cX10_book 19 = .ok (.getfield 70, 3) := by decide +kernel
theorem dX10_book_22 : decode cX10_book 22 = .ok (.getfield 74, 3) := by decide +kernel
theorem dX10_book_25 : decode cX10_book 25 = .ok (.ifCond .le 6, 3) := by decide +kernel
theorem dX10_book_28 : decode cX10_book 28 = .ok (.bipush (-3), 2) := by decide +kernel
theorem dX10_book_30 : decode cX10_book 30 = .ok (.ireturn, 1) := by decide +kernel
theorem dX10_book_31 : decode cX10_book 31 = .ok (.aload_n 0, 1) := by decide +kernel
theorem dX10_book_32 : decode cX10_book 32 = .ok (.getfield 40, 3) := by decide +kernel
theorem dX10_book_35 : decode cX10_book 35 = .ok (.iload_n 1, 1) := by decide +kernel
theorem dX10_book_36 : decode cX10_book 36 = .ok (.invokevirtual 79, 3) := by decide +kernel
theorem dX10_book_39 : decode cX10_book 39 = .ok (.istore_n 2, 1) := by decide +kernel
theorem dX10_book_40 : decode cX10_book 40 = .ok (.iload_n 2, 1) := by decide +kernel
theorem dX10_book_41 : decode cX10_book 41 = .ok (.ifCond .eq 5, 3) := by decide +kernel
theorem dX10_book_44 : decode cX10_book 44 = .ok (.iload_n 2, 1) := by decide +kernel
theorem dX10_book_45 : decode cX10_book 45 = .ok (.ireturn, 1) := by decide +kernel
theorem dX10_book_46 : decode cX10_book 46 = .ok (.aload_n 0, 1) := by decide +kernel
theorem dX10_book_47 : decode cX10_book 47 = .ok (.getfield 25, 3) := by decide +kernel
theorem dX10_book_50 : decode cX10_book 50 = .ok (.getfield 83, 3) := by decide +kernel
theorem dX10_book_53 : decode cX10_book 53 = .ok (.aload_n 0, 1) := by decide +kernel
theorem dX10_book_54 : decode cX10_book 54 = .ok (.getfield 40, 3) := by decide +kernel
theorem dX10_book_57 : decode cX10_book 57 = .ok (.getfield 87, 3) := by decide +kernel
theorem dX10_book_60 : decode cX10_book 60 = .ok (.invokevirtual 90, 3) := by decide +kernel
theorem dX10_book_63 : decode cX10_book 63 = .ok (.aload_n 0, 1) := by decide +kernel
theorem dX10_book_64 : decode cX10_book 64 = .ok (.getfield 25, 3) := by decide +kernel
theorem dX10_book_67 : decode cX10_book 67 = .ok (.getfield 83, 3) := by decide +kernel
theorem dX10_book_70 : decode cX10_book 70 = .ok (.getfield 96, 3) := by decide +kernel
theorem dX10_book_73 : decode cX10_book 73 = .ok (.ireturn, 1) := by decide +kernel
theorem dX10_deeds_0 : decode cX10_deeds 0 = .ok (.aload_n 0, 1) := by decide +kernel
theorem dX10_deeds_1 : decode cX10_deeds 1 = .ok (.iload_n 1, 1) := by decide +kernel
theorem dX10_deeds_2 : decode cX10_deeds 2 = .ok (.invokevirtual 66, 3) := by decide +kernel
theorem dX10_deeds_5 : decode cX10_deeds 5 = .ok (.ifCond .ne 5, 3) := by decide +kernel
theorem dX10_deeds_8 : decode cX10_deeds 8 = .ok (.iconst (-1), 1) := by decide +kernel
theorem dX10_deeds_9 : decode cX10_deeds 9 = .ok (.ireturn, 1) := by decide +kernel
theorem dX10_deeds_10 : decode cX10_deeds 10 = .ok (.aload_n 0, 1) := by decide +kernel
theorem dX10_deeds_11 : decode cX10_deeds 11 = .ok (.iconst 0, 1) := by decide +kernel
theorem dX10_deeds_12 : decode cX10_deeds 12 = .ok (.putfield 58, 3) := by decide +kernel
theorem dX10_deeds_15 : decode cX10_deeds 15 = .ok (.aload_n 0, 1) := by decide +kernel
theorem dX10_deeds_16 : decode cX10_deeds 16 = .ok (.getfield 47, 3) := by decide +kernel
theorem dX10_deeds_19 : decode cX10_deeds 19 = .ok (.iload_n 1, 1) := by decide +kernel
theorem dX10_deeds_20 : decode cX10_deeds 20 = .ok (.invokevirtual 99, 3) := by decide +kernel
theorem dX10_deeds_23 : decode cX10_deeds 23 = .ok (.istore_n 2, 1) := by decide +kernel
theorem dX10_deeds_24 : decode cX10_deeds 24 = .ok (.iload_n 2, 1) := by decide +kernel
theorem dX10_deeds_25 : decode cX10_deeds 25 = .ok (.ifCond .eq 5, 3) := by decide +kernel
theorem dX10_deeds_28 : decode cX10_deeds 28 = .ok (.iload_n 2, 1) := by decide +kernel
theorem dX10_deeds_29 : decode cX10_deeds 29 = .ok (.ireturn, 1) := by decide +kernel
theorem dX10_deeds_30 : decode cX10_deeds 30 = .ok (.iconst 0, 1) := by decide +kernel
theorem dX10_deeds_31 : decode cX10_deeds 31 = .ok (.istore_n 3, 1) := by decide +kernel
theorem dX10_deeds_32 : decode cX10_deeds 32 = .ok (.iload_n 3, 1) := by decide +kernel
theorem dX10_deeds_33 : decode cX10_deeds 33 = .ok (.aload_n 0, 1) := by decide +kernel
theorem dX10_deeds_34 : decode cX10_deeds 34 = .ok (.getfield 47, 3) := by decide +kernel
theorem dX10_deeds_37 : decode cX10_deeds 37 = .ok (.getfield 100, 3) := by decide +kernel
theorem dX10_deeds_40 : decode cX10_deeds 40 = .ok (.if_icmp .ge 24, 3) := by decide +kernel
theorem dX10_deeds_43 : decode cX10_deeds 43 = .ok (.aload_n 0, 1) := by decide +kernel
theorem dX10_deeds_44 : decode cX10_deeds 44 = .ok (.getfield 47, 3) := by decide +kernel
theorem dX10_deeds_47 : decode cX10_deeds 47 = .ok (.iload_n 3, 1) := by decide +kernel
theorem dX10_deeds_48 : decode cX10_deeds 48 = .ok (.aload_n 0, 1) := by decide +kernel
theorem dX10_deeds_49 : decode cX10_deeds 49 = .ok (.getfield 25, 3) := by decide +kernel
theorem dX10_deeds_52 : decode cX10_deeds 52 = .ok (.invokevirtual 103, 3) := by decide +kernel
theorem dX10_deeds_55 : decode cX10_deeds 55 = .ok (.ifCond .eq 9, 3) := by decide +kernel
theorem dX10_deeds_58 : decode cX10_deeds 58 = .ok (.iinc 3 1, 3) := by decide +kernel
theorem dX10_deeds_61 : decode cX10_deeds 61 = .ok (.goto (-29), 3) := by decide +kernel
theorem dX10_deeds_64 : decode cX10_deeds 64 = .ok (.iload_n 3, 1) := by decide +kernel
theorem dX10_deeds_65 : decode cX10_deeds 65 = .ok (.ireturn, 1) := by decide +kernel
theorem dX10_tried_0 : decode cX10_tried 0 = .ok (.iload_n 2, 1) := by decide +kernel
theorem dX10_tried_1 : decode cX10_tried 1 = .ok (.invokestatic 107, 3) := by decide +kernel
theorem dX10_tried_4 : decode cX10_tried 4 = .ok (.ifCond .eq 11, 3) := by decide +kernel
theorem dX10_tried_7 : decode cX10_tried 7 = .ok (.aload_n 0, 1) := by decide +kernel
theorem dX10_tried_8 : decode cX10_tried 8 = .ok (.iload_n 1, 1) := by decide +kernel
theorem dX10_tried_9 : decode cX10_tried 9 = .ok (.invokevirtual 66, 3) := by decide +kernel
theorem dX10_tried_12 : decode cX10_tried 12 = .ok (.ifCond .ne 5, 3) := by decide +kernel
theorem dX10_tried_15 : decode cX10_tried 15 = .ok (.iconst (-1), 1) := by decide +kernel
theorem dX10_tried_16 : decode cX10_tried 16 = .ok (.ireturn, 1) := by decide +kernel
theorem dX10_tried_17 : decode cX10_tried 17 = .ok (.aload_n 0, 1) := by decide +kernel
theorem dX10_tried_18 : decode cX10_tried 18 = .ok (.iconst 0, 1) := by decide +kernel
theorem dX10_tried_19 : decode cX10_tried 19 = .ok (.putfield 58, 3) := by decide +kernel
theorem dX10_tried_22 : decode cX10_tried 22 = .ok (.aload_n 0, 1) := by decide +kernel
theorem dX10_tried_23 : decode cX10_tried 23 = .ok (.getfield 47, 3) := by decide +kernel
theorem dX10_tried_26 : decode cX10_tried 26 = .ok (.iload_n 1, 1) := by decide +kernel
theorem dX10_tried_27 : decode cX10_tried 27 = .ok (.invokevirtual 99, 3) := by decide +kernel
theorem dX10_tried_30 : decode cX10_tried 30 = .ok (.istore_n 3, 1) := by decide +kernel
theorem dX10_tried_31 : decode cX10_tried 31 = .ok (.iload_n 3, 1) := by decide +kernel
theorem dX10_tried_32 : decode cX10_tried 32 = .ok (.ifCond .eq 5, 3) := by decide +kernel
theorem dX10_tried_35 : decode cX10_tried 35 = .ok (.iload_n 3, 1) := by decide +kernel
theorem dX10_tried_36 : decode cX10_tried 36 = .ok (.ireturn, 1) := by decide +kernel
theorem dX10_tried_37 : decode cX10_tried 37 = .ok (.aload_n 0, 1) := by decide +kernel
theorem dX10_tried_38 : decode cX10_tried 38 = .ok (.getfield 32, 3) := by decide +kernel
theorem dX10_tried_41 : decode cX10_tried 41 = .ok (.aload_n 0, 1) := by decide +kernel
theorem dX10_tried_42 : decode cX10_tried 42 = .ok (.getfield 25, 3) := by decide +kernel
theorem dX10_tried_45 : decode cX10_tried 45 = .ok (.invokevirtual 110, 3) := by decide +kernel
theorem dX10_tried_48 : decode cX10_tried 48 = .ok (.iconst 0, 1) := by decide +kernel
theorem dX10_tried_49 : decode cX10_tried 49 = .ok (.istore 4, 2) := by decide +kernel
theorem dX10_tried_51 : decode cX10_tried 51 = .ok (.iload 4, 2) := by decide +kernel
theorem dX10_tried_53 : decode cX10_tried 53 = .ok (.aload_n 0, 1) := by decide +kernel
theorem dX10_tried_54 : decode cX10_tried 54 = .ok (.getfield 47, 3) := by decide +kernel
theorem dX10_tried_57 : decode cX10_tried 57 = .ok (.getfield 100, 3) := by decide +kernel
theorem dX10_tried_60 : decode cX10_tried 60 = .ok (.if_icmp .ge 25, 3) := by decide +kernel
theorem dX10_tried_63 : decode cX10_tried 63 = .ok (.aload_n 0, 1) := by decide +kernel
theorem dX10_tried_64 : decode cX10_tried 64 = .ok (.getfield 47, 3) := by decide +kernel
theorem dX10_tried_67 : decode cX10_tried 67 = .ok (.iload 4, 2) := by decide +kernel
theorem dX10_tried_69 : decode cX10_tried 69 = .ok (.aload_n 0, 1) := by decide +kernel
theorem dX10_tried_70 : decode cX10_tried 70 = .ok (.getfield 32, 3) := by decide +kernel
theorem dX10_tried_73 : decode cX10_tried 73 = .ok (.invokevirtual 103, 3) := by decide +kernel
theorem dX10_tried_76 : decode cX10_tried 76 = .ok (.ifCond .eq 9, 3) := by decide +kernel
theorem dX10_tried_79 : decode cX10_tried 79 = .ok (.iinc 4 1, 3) := by decide +kernel
theorem dX10_tried_82 : decode cX10_tried 82 = .ok (.goto (-31), 3) := by decide +kernel
theorem dX10_tried_85 : decode cX10_tried 85 = .ok (.aload_n 0, 1) := by decide +kernel
theorem dX10_tried_86 : decode cX10_tried 86 = .ok (.getfield 32, 3) := by decide +kernel
theorem dX10_tried_89 : decode cX10_tried 89 = .ok (.iload_n 2, 1) := by decide +kernel
theorem dX10_tried_90 : decode cX10_tried 90 = .ok (.invokevirtual 113, 3) := by decide +kernel
theorem dX10_tried_93 : decode cX10_tried 93 = .ok (.ifCond .eq 18, 3) := by decide +kernel
theorem dX10_tried_96 : decode cX10_tried 96 = .ok (.aload_n 0, 1) := by decide +kernel
theorem dX10_tried_97 : decode cX10_tried 97 = .ok (.getfield 32, 3) := by decide +kernel
theorem dX10_tried_100 : decode cX10_tried 100 = .ok (.getfield 116, 3) := by decide +kernel
theorem dX10_tried_103 : decode cX10_tried 103 = .ok (.iload_n 2, 1) := by decide +kernel
theorem dX10_tried_104 : decode cX10_tried 104 = .ok (.aaload, 1) := by decide +kernel
theorem dX10_tried_105 : decode cX10_tried 105 = .ok (.getfield 120, 3) := by decide +kernel
theorem dX10_tried_108 : decode cX10_tried 108 = .ok (.goto 5, 3) := by decide +kernel
theorem dX10_tried_111 : decode cX10_tried 111 = .ok (.ldc 125, 2) := by decide +kernel
theorem dX10_tried_113 : decode cX10_tried 113 = .ok (.ireturn, 1) := by decide +kernel
theorem dX10_check_0 : decode cX10_check 0 = .ok (.iload_n 1, 1) := by decide +kernel
theorem dX10_check_1 : decode cX10_check 1 = .ok (.ifCond .lt 18, 3) := by decide +kernel
theorem dX10_check_4 : decode cX10_check 4 = .ok (.iload_n 1, 1) := by decide +kernel
theorem dX10_check_5 : decode cX10_check 5 = .ok (.sipush 400, 3) := by decide +kernel
theorem dX10_check_8 : decode cX10_check 8 = .ok (.if_icmp .gt 11, 3) := by decide +kernel
theorem dX10_check_11 : decode cX10_check 11 = .ok (.iload_n 1, 1) := by decide +kernel
theorem dX10_check_12 : decode cX10_check 12 = .ok (.aload_n 0, 1) := by decide +kernel
theorem dX10_check_13 : decode cX10_check 13 = .ok (.getfield 58, 3) := by decide +kernel
theorem dX10_check_16 : decode cX10_check 16 = .ok (.if_icmp .le 6, 3) := by decide +kernel
theorem dX10_check_19 : decode cX10_check 19 = .ok (.bipush (-2), 2) := by decide +kernel
theorem dX10_check_21 : decode cX10_check 21 = .ok (.ireturn, 1) := by decide +kernel
theorem dX10_check_22 : decode cX10_check 22 = .ok (.aload_n 0, 1) := by decide +kernel
theorem dX10_check_23 : decode cX10_check 23 = .ok (.iconst 0, 1) := by decide +kernel
theorem dX10_check_24 : decode cX10_check 24 = .ok (.putfield 58, 3) := by decide +kernel
theorem dX10_check_27 : decode cX10_check 27 = .ok (.iconst 0, 1) := by decide +kernel
theorem dX10_check_28 : decode cX10_check 28 = .ok (.istore_n 2, 1) := by decide +kernel
theorem dX10_check_29 : decode cX10_check 29 = .ok (.iload_n 2, 1) := by decide +kernel
theorem dX10_check_30 : decode cX10_check 30 = .ok (.iload_n 1, 1) := by decide +kernel
theorem dX10_check_31 : decode cX10_check 31 = .ok (.if_icmp .ge 63, 3) := by decide +kernel
theorem dX10_check_34 : decode cX10_check 34 = .ok (.iload_n 2, 1) := by decide +kernel
theorem dX10_check_35 : decode cX10_check 35 = .ok (.aload_n 0, 1) := by decide +kernel
theorem dX10_check_36 : decode cX10_check 36 = .ok (.getfield 9, 3) := by decide +kernel
theorem dX10_check_39 : decode cX10_check 39 = .ok (.arraylength, 1) := by decide +kernel
theorem dX10_check_40 : decode cX10_check 40 = .ok (.if_icmp .ge 54, 3) := by decide +kernel
theorem dX10_check_43 : decode cX10_check 43 = .ok (.aload_n 0, 1) := by decide +kernel
theorem dX10_check_44 : decode cX10_check 44 = .ok (.getfield 25, 3) := by decide +kernel
theorem dX10_check_47 : decode cX10_check 47 = .ok (.getfield 70, 3) := by decide +kernel
theorem dX10_check_50 : decode cX10_check 50 = .ok (.iload_n 2, 1) := by decide +kernel
theorem dX10_check_51 : decode cX10_check 51 = .ok (.invokevirtual 126, 3) := by decide +kernel
theorem dX10_check_54 : decode cX10_check 54 = .ok (.ifCond .eq 32, 3) := by decide +kernel
theorem dX10_check_57 : decode cX10_check 57 = .ok (.aload_n 0, 1) := by decide +kernel
theorem dX10_check_58 : decode cX10_check 58 = .ok (.getfield 25, 3) := by decide +kernel
theorem dX10_check_61 : decode cX10_check 61 = .ok (.getfield 70, 3) := by decide +kernel
theorem dX10_check_64 : decode cX10_check 64 = .ok (.getfield 129, 3) := by decide +kernel
theorem dX10_check_67 : decode cX10_check 67 = .ok (.iload_n 2, 1) := by decide +kernel
theorem dX10_check_68 : decode cX10_check 68 = .ok (.iaload, 1) := by decide +kernel
theorem dX10_check_69 : decode cX10_check 69 = .ok (.sipush 255, 3) := by decide +kernel
theorem dX10_check_72 : decode cX10_check 72 = .ok (.iand, 1) := by decide +kernel
theorem dX10_check_73 : decode cX10_check 73 = .ok (.aload_n 0, 1) := by decide +kernel
theorem dX10_check_74 : decode cX10_check 74 = .ok (.getfield 9, 3) := by decide +kernel
theorem dX10_check_77 : decode cX10_check 77 = .ok (.iload_n 2, 1) := by decide +kernel
theorem dX10_check_78 : decode cX10_check 78 = .ok (.baload, 1) := by decide +kernel
theorem dX10_check_79 : decode cX10_check 79 = .ok (.sipush 255, 3) := by decide +kernel
theorem dX10_check_82 : decode cX10_check 82 = .ok (.iand, 1) := by decide +kernel
theorem dX10_check_83 : decode cX10_check 83 = .ok (.if_icmp .eq 5, 3) := by decide +kernel
theorem dX10_check_86 : decode cX10_check 86 = .ok (.iload_n 2, 1) := by decide +kernel
theorem dX10_check_87 : decode cX10_check 87 = .ok (.ireturn, 1) := by decide +kernel
theorem dX10_check_88 : decode cX10_check 88 = .ok (.iinc 2 1, 3) := by decide +kernel
theorem dX10_check_91 : decode cX10_check 91 = .ok (.goto (-62), 3) := by decide +kernel
theorem dX10_check_94 : decode cX10_check 94 = .ok (.iconst (-1), 1) := by decide +kernel
theorem dX10_check_95 : decode cX10_check 95 = .ok (.ireturn, 1) := by decide +kernel
theorem dX10_keep_0 : decode cX10_keep 0 = .ok (.aload_n 0, 1) := by decide +kernel
theorem dX10_keep_1 : decode cX10_keep 1 = .ok (.getfield 29, 3) := by decide +kernel
theorem dX10_keep_4 : decode cX10_keep 4 = .ok (.aload_n 0, 1) := by decide +kernel
theorem dX10_keep_5 : decode cX10_keep 5 = .ok (.getfield 25, 3) := by decide +kernel
theorem dX10_keep_8 : decode cX10_keep 8 = .ok (.invokevirtual 110, 3) := by decide +kernel
theorem dX10_keep_11 : decode cX10_keep 11 = .ok (.aload_n 0, 1) := by decide +kernel
theorem dX10_keep_12 : decode cX10_keep 12 = .ok (.iconst 1, 1) := by decide +kernel
theorem dX10_keep_13 : decode cX10_keep 13 = .ok (.putfield 133, 3) := by decide +kernel
theorem dX10_keep_16 : decode cX10_keep 16 = .ok (.aload_n 0, 1) := by decide +kernel
theorem dX10_keep_17 : decode cX10_keep 17 = .ok (.getfield 25, 3) := by decide +kernel
theorem dX10_keep_20 : decode cX10_keep 20 = .ok (.getfield 70, 3) := by decide +kernel
theorem dX10_keep_23 : decode cX10_keep 23 = .ok (.getfield 74, 3) := by decide +kernel
theorem dX10_keep_26 : decode cX10_keep 26 = .ok (.ireturn, 1) := by decide +kernel
theorem dX10_undo_0 : decode cX10_undo 0 = .ok (.aload_n 0, 1) := by decide +kernel
theorem dX10_undo_1 : decode cX10_undo 1 = .ok (.getfield 133, 3) := by decide +kernel
theorem dX10_undo_4 : decode cX10_undo 4 = .ok (.ifCond .ne 5, 3) := by decide +kernel
theorem dX10_undo_7 : decode cX10_undo 7 = .ok (.iconst 0, 1) := by decide +kernel
theorem dX10_undo_8 : decode cX10_undo 8 = .ok (.ireturn, 1) := by decide +kernel
theorem dX10_undo_9 : decode cX10_undo 9 = .ok (.aload_n 0, 1) := by decide +kernel
theorem dX10_undo_10 : decode cX10_undo 10 = .ok (.getfield 25, 3) := by decide +kernel
theorem dX10_undo_13 : decode cX10_undo 13 = .ok (.aload_n 0, 1) := by decide +kernel
theorem dX10_undo_14 : decode cX10_undo 14 = .ok (.getfield 29, 3) := by decide +kernel
theorem dX10_undo_17 : decode cX10_undo 17 = .ok (.invokevirtual 110, 3) := by decide +kernel
theorem dX10_undo_20 : decode cX10_undo 20 = .ok (.iconst 1, 1) := by decide +kernel
theorem dX10_undo_21 : decode cX10_undo 21 = .ok (.ireturn, 1) := by decide +kernel
theorem dX10_count_0 : decode cX10_count 0 = .ok (.iload_n 1, 1) := by decide +kernel
theorem dX10_count_1 : decode cX10_count 1 = .ok (.tableswitch 66 0 3 #[31, 42, 50, 55], 31) := by decide +kernel
theorem dX10_count_32 : decode cX10_count 32 = .ok (.aload_n 0, 1) := by decide +kernel
theorem dX10_count_33 : decode cX10_count 33 = .ok (.getfield 25, 3) := by decide +kernel
theorem dX10_count_36 : decode cX10_count 36 = .ok (.getfield 70, 3) := by decide +kernel
theorem dX10_count_39 : decode cX10_count 39 = .ok (.getfield 74, 3) := by decide +kernel
theorem dX10_count_42 : decode cX10_count 42 = .ok (.ireturn, 1) := by decide +kernel
theorem dX10_count_43 : decode cX10_count 43 = .ok (.aload_n 0, 1) := by decide +kernel
theorem dX10_count_44 : decode cX10_count 44 = .ok (.getfield 25, 3) := by decide +kernel
theorem dX10_count_47 : decode cX10_count 47 = .ok (.getfield 137, 3) := by decide +kernel
theorem dX10_count_50 : decode cX10_count 50 = .ok (.ireturn, 1) := by decide +kernel
theorem dX10_count_51 : decode cX10_count 51 = .ok (.aload_n 0, 1) := by decide +kernel
theorem dX10_count_52 : decode cX10_count 52 = .ok (.getfield 58, 3) := by decide +kernel
theorem dX10_count_55 : decode cX10_count 55 = .ok (.ireturn, 1) := by decide +kernel
theorem dX10_count_56 : decode cX10_count 56 = .ok (.aload_n 0, 1) := by decide +kernel
theorem dX10_count_57 : decode cX10_count 57 = .ok (.getfield 25, 3) := by decide +kernel
theorem dX10_count_60 : decode cX10_count 60 = .ok (.getfield 83, 3) := by decide +kernel
theorem dX10_count_63 : decode cX10_count 63 = .ok (.getfield 96, 3) := by decide +kernel
theorem dX10_count_66 : decode cX10_count 66 = .ok (.ireturn, 1) := by decide +kernel
theorem dX10_count_67 : decode cX10_count 67 = .ok (.iconst (-1), 1) := by decide +kernel
theorem dX10_count_68 : decode cX10_count 68 = .ok (.ireturn, 1) := by decide +kernel
theorem dX10_begin_0 : decode cX10_begin 0 = .ok (.aload_n 0, 1) := by decide +kernel
theorem dX10_begin_1 : decode cX10_begin 1 = .ok (.getfield 25, 3) := by decide +kernel
theorem dX10_begin_4 : decode cX10_begin 4 = .ok (.iload_n 1, 1) := by decide +kernel
theorem dX10_begin_5 : decode cX10_begin 5 = .ok (.iload_n 2, 1) := by decide +kernel
theorem dX10_begin_6 : decode cX10_begin 6 = .ok (.iload_n 3, 1) := by decide +kernel
theorem dX10_begin_7 : decode cX10_begin 7 = .ok (.invokevirtual 140, 3) := by decide +kernel
theorem dX10_begin_10 : decode cX10_begin 10 = .ok (.ireturn, 1) := by decide +kernel
theorem dX10_change_0 : decode cX10_change 0 = .ok (.aload_n 0, 1) := by decide +kernel
theorem dX10_change_1 : decode cX10_change 1 = .ok (.getfield 25, 3) := by decide +kernel
theorem dX10_change_4 : decode cX10_change 4 = .ok (.iload_n 1, 1) := by decide +kernel
theorem dX10_change_5 : decode cX10_change 5 = .ok (.iload_n 2, 1) := by decide +kernel
theorem dX10_change_6 : decode cX10_change 6 = .ok (.invokevirtual 144, 3) := by decide +kernel
theorem dX10_change_9 : decode cX10_change 9 = .ok (.ireturn, 1) := by decide +kernel
theorem dX10_seats_0 : decode cX10_seats 0 = .ok (.aload_n 0, 1) := by decide +kernel
theorem dX10_seats_1 : decode cX10_seats 1 = .ok (.getfield 25, 3) := by decide +kernel
theorem dX10_seats_4 : decode cX10_seats 4 = .ok (.iload_n 1, 1) := by decide +kernel
theorem dX10_seats_5 : decode cX10_seats 5 = .ok (.iload_n 2, 1) := by decide +kernel
theorem dX10_seats_6 : decode cX10_seats 6 = .ok (.invokevirtual 148, 3) := by decide +kernel
theorem dX10_seats_9 : decode cX10_seats 9 = .ok (.ireturn, 1) := by decide +kernel
theorem dX10_pause_0 : decode cX10_pause 0 = .ok (.aload_n 0, 1) := by decide +kernel
theorem dX10_pause_1 : decode cX10_pause 1 = .ok (.getfield 25, 3) := by decide +kernel
theorem dX10_pause_4 : decode cX10_pause 4 = .ok (.iload_n 1, 1) := by decide +kernel
theorem dX10_pause_5 : decode cX10_pause 5 = .ok (.iload_n 2, 1) := by decide +kernel
theorem dX10_pause_6 : decode cX10_pause 6 = .ok (.invokevirtual 151, 3) := by decide +kernel
theorem dX10_pause_9 : decode cX10_pause 9 = .ok (.ireturn, 1) := by decide +kernel
theorem dX10_giveUp_0 : decode cX10_giveUp 0 = .ok (.aload_n 0, 1) := by decide +kernel
theorem dX10_giveUp_1 : decode cX10_giveUp 1 = .ok (.getfield 25, 3) := by decide +kernel
theorem dX10_giveUp_4 : decode cX10_giveUp 4 = .ok (.iload_n 1, 1) := by decide +kernel
theorem dX10_giveUp_5 : decode cX10_giveUp 5 = .ok (.invokevirtual 155, 3) := by decide +kernel
theorem dX10_giveUp_8 : decode cX10_giveUp 8 = .ok (.ireturn, 1) := by decide +kernel
theorem dX10_move_0 : decode cX10_move 0 = .ok (.aload_n 0, 1) := by decide +kernel
theorem dX10_move_1 : decode cX10_move 1 = .ok (.getfield 25, 3) := by decide +kernel
theorem dX10_move_4 : decode cX10_move 4 = .ok (.iload_n 1, 1) := by decide +kernel
theorem dX10_move_5 : decode cX10_move 5 = .ok (.iload_n 2, 1) := by decide +kernel
theorem dX10_move_6 : decode cX10_move 6 = .ok (.invokevirtual 158, 3) := by decide +kernel
theorem dX10_move_9 : decode cX10_move 9 = .ok (.ireturn, 1) := by decide +kernel
theorem dX10_use_0 : decode cX10_use 0 = .ok (.aload_n 0, 1) := by decide +kernel
theorem dX10_use_1 : decode cX10_use 1 = .ok (.getfield 25, 3) := by decide +kernel
theorem dX10_use_4 : decode cX10_use 4 = .ok (.iload_n 1, 1) := by decide +kernel
theorem dX10_use_5 : decode cX10_use 5 = .ok (.iload_n 2, 1) := by decide +kernel
theorem dX10_use_6 : decode cX10_use 6 = .ok (.invokevirtual 161, 3) := by decide +kernel
theorem dX10_use_9 : decode cX10_use 9 = .ok (.ireturn, 1) := by decide +kernel
theorem dX10_days_0 : decode cX10_days 0 = .ok (.aload_n 0, 1) := by decide +kernel
theorem dX10_days_1 : decode cX10_days 1 = .ok (.getfield 25, 3) := by decide +kernel
theorem dX10_days_4 : decode cX10_days 4 = .ok (.iload_n 1, 1) := by decide +kernel
theorem dX10_days_5 : decode cX10_days 5 = .ok (.invokevirtual 164, 3) := by decide +kernel
theorem dX10_days_8 : decode cX10_days 8 = .ok (.ireturn, 1) := by decide +kernel
theorem dX10_favour_0 : decode cX10_favour 0 = .ok (.aload_n 0, 1) := by decide +kernel
theorem dX10_favour_1 : decode cX10_favour 1 = .ok (.getfield 25, 3) := by decide +kernel
theorem dX10_favour_4 : decode cX10_favour 4 = .ok (.iload_n 1, 1) := by decide +kernel
theorem dX10_favour_5 : decode cX10_favour 5 = .ok (.iload_n 2, 1) := by decide +kernel
theorem dX10_favour_6 : decode cX10_favour 6 = .ok (.invokevirtual 167, 3) := by decide +kernel
theorem dX10_favour_9 : decode cX10_favour 9 = .ok (.ireturn, 1) := by decide +kernel
theorem dX10_pay_0 : decode cX10_pay 0 = .ok (.aload_n 0, 1) := by decide +kernel
theorem dX10_pay_1 : decode cX10_pay 1 = .ok (.getfield 25, 3) := by decide +kernel
theorem dX10_pay_4 : decode cX10_pay 4 = .ok (.iload_n 1, 1) := by decide +kernel
theorem dX10_pay_5 : decode cX10_pay 5 = .ok (.iload_n 2, 1) := by decide +kernel
theorem dX10_pay_6 : decode cX10_pay 6 = .ok (.invokevirtual 170, 3) := by decide +kernel
theorem dX10_pay_9 : decode cX10_pay 9 = .ok (.ireturn, 1) := by decide +kernel
theorem dX10_remind_0 : decode cX10_remind 0 = .ok (.aload_n 0, 1) := by decide +kernel
theorem dX10_remind_1 : decode cX10_remind 1 = .ok (.getfield 25, 3) := by decide +kernel
theorem dX10_remind_4 : decode cX10_remind 4 = .ok (.iload_n 1, 1) := by decide +kernel
theorem dX10_remind_5 : decode cX10_remind 5 = .ok (.invokevirtual 173, 3) := by decide +kernel
theorem dX10_remind_8 : decode cX10_remind 8 = .ok (.ireturn, 1) := by decide +kernel
theorem dX10_turn_0 : decode cX10_turn 0 = .ok (.aload_n 0, 1) := by decide +kernel
theorem dX10_turn_1 : decode cX10_turn 1 = .ok (.getfield 25, 3) := by decide +kernel
theorem dX10_turn_4 : decode cX10_turn 4 = .ok (.iload_n 1, 1) := by decide +kernel
theorem dX10_turn_5 : decode cX10_turn 5 = .ok (.invokevirtual 176, 3) := by decide +kernel
theorem dX10_turn_8 : decode cX10_turn 8 = .ok (.ireturn, 1) := by decide +kernel
theorem dX10_accountIs_0 : decode cX10_accountIs 0 = .ok (.aload_n 0, 1) := by decide +kernel
theorem dX10_accountIs_1 : decode cX10_accountIs 1 = .ok (.getfield 25, 3) := by decide +kernel
theorem dX10_accountIs_4 : decode cX10_accountIs 4 = .ok (.iload_n 1, 1) := by decide +kernel
theorem dX10_accountIs_5 : decode cX10_accountIs 5 = .ok (.invokevirtual 113, 3) := by decide +kernel
theorem dX10_accountIs_8 : decode cX10_accountIs 8 = .ok (.ifCond .ne 6, 3) := by decide +kernel
theorem dX10_accountIs_11 : decode cX10_accountIs 11 = .ok (.ldc 125, 2) := by decide +kernel
theorem dX10_accountIs_13 : decode cX10_accountIs 13 = .ok (.ireturn, 1) := by decide +kernel
theorem dX10_accountIs_14 : decode cX10_accountIs 14 = .ok (.aload_n 0, 1) := by decide +kernel
theorem dX10_accountIs_15 : decode cX10_accountIs 15 = .ok (.getfield 25, 3) := by decide +kernel
theorem dX10_accountIs_18 : decode cX10_accountIs 18 = .ok (.getfield 116, 3) := by decide +kernel
theorem dX10_accountIs_21 : decode cX10_accountIs 21 = .ok (.iload_n 1, 1) := by decide +kernel
theorem dX10_accountIs_22 : decode cX10_accountIs 22 = .ok (.aaload, 1) := by decide +kernel
theorem dX10_accountIs_23 : decode cX10_accountIs 23 = .ok (.astore_n 3, 1) := by decide +kernel
theorem dX10_accountIs_24 : decode cX10_accountIs 24 = .ok (.iload_n 2, 1) := by decide +kernel
theorem dX10_accountIs_25 : decode cX10_accountIs 25 = .ok (.bipush 12, 2) := by decide +kernel
theorem dX10_accountIs_27 : decode cX10_accountIs 27 = .ok (.if_icmp .lt 25, 3) := by decide +kernel
theorem dX10_accountIs_30 : decode cX10_accountIs 30 = .ok (.iload_n 2, 1) := by decide +kernel
theorem dX10_accountIs_31 : decode cX10_accountIs 31 = .ok (.bipush 17, 2) := by decide +kernel
theorem dX10_accountIs_33 : decode cX10_accountIs 33 = .ok (.if_icmp .gt 19, 3) := by decide +kernel
theorem dX10_accountIs_36 : decode cX10_accountIs 36 = .ok (.aload_n 0, 1) := by decide +kernel
theorem dX10_accountIs_37 : decode cX10_accountIs 37 = .ok (.getfield 25, 3) := by decide +kernel
theorem dX10_accountIs_40 : decode cX10_accountIs 40 = .ok (.getfield 70, 3) := by decide +kernel
theorem dX10_accountIs_43 : decode cX10_accountIs 43 = .ok (.iload_n 1, 1) := by decide +kernel
theorem dX10_accountIs_44 : decode cX10_accountIs 44 = .ok (.iload_n 2, 1) := by decide +kernel
theorem dX10_accountIs_45 : decode cX10_accountIs 45 = .ok (.bipush 12, 2) := by decide +kernel
theorem dX10_accountIs_47 : decode cX10_accountIs 47 = .ok (.isub, 1) := by decide +kernel
theorem dX10_accountIs_48 : decode cX10_accountIs 48 = .ok (.invokevirtual 179, 3) := by decide +kernel
theorem dX10_accountIs_51 : decode cX10_accountIs 51 = .ok (.ireturn, 1) := by decide +kernel
theorem dX10_accountIs_52 : decode cX10_accountIs 52 = .ok (.iload_n 2, 1) := by decide +kernel
theorem dX10_accountIs_53 : decode cX10_accountIs 53 = .ok (.lookupswitch 55 #[(6, 27), (11, 43)], 27) := by decide +kernel
theorem dX10_accountIs_80 : decode cX10_accountIs 80 = .ok (.aload_n 0, 1) := by decide +kernel
theorem dX10_accountIs_81 : decode cX10_accountIs 81 = .ok (.getfield 25, 3) := by decide +kernel
theorem dX10_accountIs_84 : decode cX10_accountIs 84 = .ok (.getfield 83, 3) := by decide +kernel
theorem dX10_accountIs_87 : decode cX10_accountIs 87 = .ok (.aload_n 3, 1) := by decide +kernel
theorem dX10_accountIs_88 : decode cX10_accountIs 88 = .ok (.getfield 182, 3) := by decide +kernel
theorem dX10_accountIs_91 : decode cX10_accountIs 91 = .ok (.aload_n 3, 1) := by decide +kernel
theorem dX10_accountIs_92 : decode cX10_accountIs 92 = .ok (.invokevirtual 185, 3) := by decide +kernel
theorem dX10_accountIs_95 : decode cX10_accountIs 95 = .ok (.ireturn, 1) := by decide +kernel
theorem dX10_accountIs_96 : decode cX10_accountIs 96 = .ok (.aload_n 0, 1) := by decide +kernel
theorem dX10_accountIs_97 : decode cX10_accountIs 97 = .ok (.getfield 25, 3) := by decide +kernel
theorem dX10_accountIs_100 : decode cX10_accountIs 100 = .ok (.getfield 70, 3) := by decide +kernel
theorem dX10_accountIs_103 : decode cX10_accountIs 103 = .ok (.iload_n 1, 1) := by decide +kernel
theorem dX10_accountIs_104 : decode cX10_accountIs 104 = .ok (.invokevirtual 189, 3) := by decide +kernel
theorem dX10_accountIs_107 : decode cX10_accountIs 107 = .ok (.ireturn, 1) := by decide +kernel
theorem dX10_accountIs_108 : decode cX10_accountIs 108 = .ok (.aload_n 3, 1) := by decide +kernel
theorem dX10_accountIs_109 : decode cX10_accountIs 109 = .ok (.iload_n 2, 1) := by decide +kernel
theorem dX10_accountIs_110 : decode cX10_accountIs 110 = .ok (.invokevirtual 192, 3) := by decide +kernel
theorem dX10_accountIs_113 : decode cX10_accountIs 113 = .ok (.ireturn, 1) := by decide +kernel
theorem dX10_late_0 : decode cX10_late 0 = .ok (.aload_n 0, 1) := by decide +kernel
theorem dX10_late_1 : decode cX10_late 1 = .ok (.getfield 25, 3) := by decide +kernel
theorem dX10_late_4 : decode cX10_late 4 = .ok (.iload_n 1, 1) := by decide +kernel
theorem dX10_late_5 : decode cX10_late 5 = .ok (.invokevirtual 113, 3) := by decide +kernel
theorem dX10_late_8 : decode cX10_late 8 = .ok (.ifCond .eq 21, 3) := by decide +kernel
theorem dX10_late_11 : decode cX10_late 11 = .ok (.iload_n 2, 1) := by decide +kernel
theorem dX10_late_12 : decode cX10_late 12 = .ok (.aload_n 0, 1) := by decide +kernel
theorem dX10_late_13 : decode cX10_late 13 = .ok (.getfield 25, 3) := by decide +kernel
theorem dX10_late_16 : decode cX10_late 16 = .ok (.getfield 137, 3) := by decide +kernel
theorem dX10_late_19 : decode cX10_late 19 = .ok (.if_icmp .lt 10, 3) := by decide +kernel
theorem dX10_late_22 : decode cX10_late 22 = .ok (.iload_n 2, 1) := by decide +kernel
theorem dX10_late_23 : decode cX10_late 23 = .ok (.sipush 3652, 3) := by decide +kernel
theorem dX10_late_26 : decode cX10_late 26 = .ok (.if_icmp .le 6, 3) := by decide +kernel
theorem dX10_late_29 : decode cX10_late 29 = .ok (.ldc 125, 2) := by decide +kernel
theorem dX10_late_31 : decode cX10_late 31 = .ok (.ireturn, 1) := by decide +kernel
theorem dX10_late_32 : decode cX10_late 32 = .ok (.aload_n 0, 1) := by decide +kernel
theorem dX10_late_33 : decode cX10_late 33 = .ok (.getfield 25, 3) := by decide +kernel
theorem dX10_late_36 : decode cX10_late 36 = .ok (.getfield 70, 3) := by decide +kernel
theorem dX10_late_39 : decode cX10_late 39 = .ok (.iload_n 1, 1) := by decide +kernel
theorem dX10_late_40 : decode cX10_late 40 = .ok (.aload_n 0, 1) := by decide +kernel
theorem dX10_late_41 : decode cX10_late 41 = .ok (.getfield 25, 3) := by decide +kernel
theorem dX10_late_44 : decode cX10_late 44 = .ok (.getfield 116, 3) := by decide +kernel
theorem dX10_late_47 : decode cX10_late 47 = .ok (.iload_n 1, 1) := by decide +kernel
theorem dX10_late_48 : decode cX10_late 48 = .ok (.aaload, 1) := by decide +kernel
theorem dX10_late_49 : decode cX10_late 49 = .ok (.getfield 195, 3) := by decide +kernel
theorem dX10_late_52 : decode cX10_late 52 = .ok (.iload_n 2, 1) := by decide +kernel
theorem dX10_late_53 : decode cX10_late 53 = .ok (.invokevirtual 198, 3) := by decide +kernel
theorem dX10_late_56 : decode cX10_late 56 = .ok (.ireturn, 1) := by decide +kernel
theorem dX10_owes_0 : decode cX10_owes 0 = .ok (.aload_n 0, 1) := by decide +kernel
theorem dX10_owes_1 : decode cX10_owes 1 = .ok (.getfield 25, 3) := by decide +kernel
theorem dX10_owes_4 : decode cX10_owes 4 = .ok (.iload_n 1, 1) := by decide +kernel
theorem dX10_owes_5 : decode cX10_owes 5 = .ok (.invokevirtual 113, 3) := by decide +kernel
theorem dX10_owes_8 : decode cX10_owes 8 = .ok (.ifCond .eq 12, 3) := by decide +kernel
theorem dX10_owes_11 : decode cX10_owes 11 = .ok (.iload_n 2, 1) := by decide +kernel
theorem dX10_owes_12 : decode cX10_owes 12 = .ok (.ifCond .lt 8, 3) := by decide +kernel
theorem dX10_owes_15 : decode cX10_owes 15 = .ok (.iload_n 2, 1) := by decide +kernel
theorem dX10_owes_16 : decode cX10_owes 16 = .ok (.iconst 3, 1) := by decide +kernel
theorem dX10_owes_17 : decode cX10_owes 17 = .ok (.if_icmp .le 5, 3) := by decide +kernel
theorem dX10_owes_20 : decode cX10_owes 20 = .ok (.iconst (-1), 1) := by decide +kernel
theorem dX10_owes_21 : decode cX10_owes 21 = .ok (.ireturn, 1) := by decide +kernel
theorem dX10_owes_22 : decode cX10_owes 22 = .ok (.aload_n 0, 1) := by decide +kernel
theorem dX10_owes_23 : decode cX10_owes 23 = .ok (.getfield 25, 3) := by decide +kernel
theorem dX10_owes_26 : decode cX10_owes 26 = .ok (.getfield 70, 3) := by decide +kernel
theorem dX10_owes_29 : decode cX10_owes 29 = .ok (.iload_n 1, 1) := by decide +kernel
theorem dX10_owes_30 : decode cX10_owes 30 = .ok (.aload_n 0, 1) := by decide +kernel
theorem dX10_owes_31 : decode cX10_owes 31 = .ok (.getfield 25, 3) := by decide +kernel
theorem dX10_owes_34 : decode cX10_owes 34 = .ok (.getfield 116, 3) := by decide +kernel
theorem dX10_owes_37 : decode cX10_owes 37 = .ok (.iload_n 1, 1) := by decide +kernel
theorem dX10_owes_38 : decode cX10_owes 38 = .ok (.aaload, 1) := by decide +kernel
theorem dX10_owes_39 : decode cX10_owes 39 = .ok (.getfield 195, 3) := by decide +kernel
theorem dX10_owes_42 : decode cX10_owes 42 = .ok (.iload_n 2, 1) := by decide +kernel
theorem dX10_owes_43 : decode cX10_owes 43 = .ok (.invokevirtual 201, 3) := by decide +kernel
theorem dX10_owes_46 : decode cX10_owes 46 = .ok (.ireturn, 1) := by decide +kernel
theorem dX10_earned_0 : decode cX10_earned 0 = .ok (.aload_n 0, 1) := by decide +kernel
theorem dX10_earned_1 : decode cX10_earned 1 = .ok (.getfield 25, 3) := by decide +kernel
theorem dX10_earned_4 : decode cX10_earned 4 = .ok (.iload_n 1, 1) := by decide +kernel
theorem dX10_earned_5 : decode cX10_earned 5 = .ok (.invokevirtual 113, 3) := by decide +kernel
theorem dX10_earned_8 : decode cX10_earned 8 = .ok (.ifCond .eq 14, 3) := by decide +kernel
theorem dX10_earned_11 : decode cX10_earned 11 = .ok (.iload_n 2, 1) := by decide +kernel
theorem dX10_earned_12 : decode cX10_earned 12 = .ok (.ifCond .lt 10, 3) := by decide +kernel
theorem dX10_earned_15 : decode cX10_earned 15 = .ok (.iload_n 2, 1) := by decide +kernel
theorem dX10_earned_16 : decode cX10_earned 16 = .ok (.sipush 3653, 3) := by decide +kernel
theorem dX10_earned_19 : decode cX10_earned 19 = .ok (.if_icmp .le 6, 3) := by decide +kernel
theorem dX10_earned_22 : decode cX10_earned 22 = .ok (.ldc 125, 2) := by decide +kernel
theorem dX10_earned_24 : decode cX10_earned 24 = .ok (.ireturn, 1) := by decide +kernel
theorem dX10_earned_25 : decode cX10_earned 25 = .ok (.aload_n 0, 1) := by decide +kernel
theorem dX10_earned_26 : decode cX10_earned 26 = .ok (.getfield 25, 3) := by decide +kernel
theorem dX10_earned_29 : decode cX10_earned 29 = .ok (.getfield 70, 3) := by decide +kernel
theorem dX10_earned_32 : decode cX10_earned 32 = .ok (.iload_n 1, 1) := by decide +kernel
theorem dX10_earned_33 : decode cX10_earned 33 = .ok (.iload_n 2, 1) := by decide +kernel
theorem dX10_earned_34 : decode cX10_earned 34 = .ok (.invokevirtual 204, 3) := by decide +kernel
theorem dX10_earned_37 : decode cX10_earned 37 = .ok (.ireturn, 1) := by decide +kernel
theorem dX10_period_0 : decode cX10_period 0 = .ok (.aload_n 0, 1) := by decide +kernel
theorem dX10_period_1 : decode cX10_period 1 = .ok (.getfield 25, 3) := by decide +kernel
theorem dX10_period_4 : decode cX10_period 4 = .ok (.iload_n 1, 1) := by decide +kernel
theorem dX10_period_5 : decode cX10_period 5 = .ok (.invokevirtual 113, 3) := by decide +kernel
theorem dX10_period_8 : decode cX10_period 8 = .ok (.ifCond .eq 14, 3) := by decide +kernel
theorem dX10_period_11 : decode cX10_period 11 = .ok (.iload_n 2, 1) := by decide +kernel
theorem dX10_period_12 : decode cX10_period 12 = .ok (.ifCond .lt 10, 3) := by decide +kernel
theorem dX10_period_15 : decode cX10_period 15 = .ok (.iload_n 2, 1) := by decide +kernel
theorem dX10_period_16 : decode cX10_period 16 = .ok (.sipush 199, 3) := by decide +kernel
theorem dX10_period_19 : decode cX10_period 19 = .ok (.if_icmp .le 6, 3) := by decide +kernel
theorem dX10_period_22 : decode cX10_period 22 = .ok (.ldc 125, 2) := by decide +kernel
theorem dX10_period_24 : decode cX10_period 24 = .ok (.ireturn, 1) := by decide +kernel
theorem dX10_period_25 : decode cX10_period 25 = .ok (.aload_n 0, 1) := by decide +kernel
theorem dX10_period_26 : decode cX10_period 26 = .ok (.getfield 25, 3) := by decide +kernel
theorem dX10_period_29 : decode cX10_period 29 = .ok (.getfield 70, 3) := by decide +kernel
theorem dX10_period_32 : decode cX10_period 32 = .ok (.iload_n 1, 1) := by decide +kernel
theorem dX10_period_33 : decode cX10_period 33 = .ok (.iload_n 2, 1) := by decide +kernel
theorem dX10_period_34 : decode cX10_period 34 = .ok (.invokevirtual 207, 3) := by decide +kernel
theorem dX10_period_37 : decode cX10_period 37 = .ok (.ireturn, 1) := by decide +kernel
theorem dX10_taxes_0 : decode cX10_taxes 0 = .ok (.aload_n 0, 1) := by decide +kernel
theorem dX10_taxes_1 : decode cX10_taxes 1 = .ok (.getfield 25, 3) := by decide +kernel
theorem dX10_taxes_4 : decode cX10_taxes 4 = .ok (.iload_n 1, 1) := by decide +kernel
theorem dX10_taxes_5 : decode cX10_taxes 5 = .ok (.invokevirtual 113, 3) := by decide +kernel
theorem dX10_taxes_8 : decode cX10_taxes 8 = .ok (.ifCond .eq 13, 3) := by decide +kernel
theorem dX10_taxes_11 : decode cX10_taxes 11 = .ok (.iload_n 2, 1) := by decide +kernel
theorem dX10_taxes_12 : decode cX10_taxes 12 = .ok (.ifCond .lt 9, 3) := by decide +kernel
theorem dX10_taxes_15 : decode cX10_taxes 15 = .ok (.iload_n 2, 1) := by decide +kernel
theorem dX10_taxes_16 : decode cX10_taxes 16 = .ok (.bipush 100, 2) := by decide +kernel
theorem dX10_taxes_18 : decode cX10_taxes 18 = .ok (.if_icmp .le 6, 3) := by decide +kernel
theorem dX10_taxes_21 : decode cX10_taxes 21 = .ok (.ldc 125, 2) := by decide +kernel
theorem dX10_taxes_23 : decode cX10_taxes 23 = .ok (.ireturn, 1) := by decide +kernel
theorem dX10_taxes_24 : decode cX10_taxes 24 = .ok (.aload_n 0, 1) := by decide +kernel
theorem dX10_taxes_25 : decode cX10_taxes 25 = .ok (.getfield 25, 3) := by decide +kernel
theorem dX10_taxes_28 : decode cX10_taxes 28 = .ok (.iload_n 1, 1) := by decide +kernel
theorem dX10_taxes_29 : decode cX10_taxes 29 = .ok (.iload_n 2, 1) := by decide +kernel
theorem dX10_taxes_30 : decode cX10_taxes 30 = .ok (.invokevirtual 210, 3) := by decide +kernel
theorem dX10_taxes_33 : decode cX10_taxes 33 = .ok (.ireturn, 1) := by decide +kernel
theorem dX10_quote_0 : decode cX10_quote 0 = .ok (.aload_n 0, 1) := by decide +kernel
theorem dX10_quote_1 : decode cX10_quote 1 = .ok (.getfield 25, 3) := by decide +kernel
theorem dX10_quote_4 : decode cX10_quote 4 = .ok (.iload_n 1, 1) := by decide +kernel
theorem dX10_quote_5 : decode cX10_quote 5 = .ok (.invokevirtual 213, 3) := by decide +kernel
theorem dX10_quote_8 : decode cX10_quote 8 = .ok (.ifCond .eq 10, 3) := by decide +kernel
theorem dX10_quote_11 : decode cX10_quote 11 = .ok (.iload_n 2, 1) := by decide +kernel
theorem dX10_quote_12 : decode cX10_quote 12 = .ok (.invokestatic 216, 3) := by decide +kernel
theorem dX10_quote_15 : decode cX10_quote 15 = .ok (.ifCond .ne 6, 3) := by decide +kernel
theorem dX10_quote_18 : decode cX10_quote 18 = .ok (.ldc 125, 2) := by decide +kernel
theorem dX10_quote_20 : decode cX10_quote 20 = .ok (.ireturn, 1) := by decide +kernel
theorem dX10_quote_21 : decode cX10_quote 21 = .ok (.aload_n 0, 1) := by decide +kernel
theorem dX10_quote_22 : decode cX10_quote 22 = .ok (.getfield 25, 3) := by decide +kernel
theorem dX10_quote_25 : decode cX10_quote 25 = .ok (.getfield 116, 3) := by decide +kernel
theorem dX10_quote_28 : decode cX10_quote 28 = .ok (.iload_n 1, 1) := by decide +kernel
theorem dX10_quote_29 : decode cX10_quote 29 = .ok (.aaload, 1) := by decide +kernel
theorem dX10_quote_30 : decode cX10_quote 30 = .ok (.astore 4, 2) := by decide +kernel
theorem dX10_quote_32 : decode cX10_quote 32 = .ok (.iload_n 3, 1) := by decide +kernel
theorem dX10_quote_33 : decode cX10_quote 33 = .ok (.aload_n 0, 1) := by decide +kernel
theorem dX10_quote_34 : decode cX10_quote 34 = .ok (.getfield 25, 3) := by decide +kernel
theorem dX10_quote_37 : decode cX10_quote 37 = .ok (.getfield 137, 3) := by decide +kernel
theorem dX10_quote_40 : decode cX10_quote 40 = .ok (.if_icmp .lt 12, 3) := by decide +kernel
theorem dX10_quote_43 : decode cX10_quote 43 = .ok (.iload_n 3, 1) := by decide +kernel
theorem dX10_quote_44 : decode cX10_quote 44 = .ok (.aload 4, 2) := by decide +kernel
theorem dX10_quote_46 : decode cX10_quote 46 = .ok (.getfield 219, 3) := by decide +kernel
theorem dX10_quote_49 : decode cX10_quote 49 = .ok (.if_icmp .lt 6, 3) := by decide +kernel
theorem dX10_quote_52 : decode cX10_quote 52 = .ok (.ldc 125, 2) := by decide +kernel
theorem dX10_quote_54 : decode cX10_quote 54 = .ok (.ireturn, 1) := by decide +kernel
theorem dX10_quote_55 : decode cX10_quote 55 = .ok (.aload_n 0, 1) := by decide +kernel
theorem dX10_quote_56 : decode cX10_quote 56 = .ok (.getfield 25, 3) := by decide +kernel
theorem dX10_quote_59 : decode cX10_quote 59 = .ok (.aload 4, 2) := by decide +kernel
theorem dX10_quote_61 : decode cX10_quote 61 = .ok (.iload_n 2, 1) := by decide +kernel
theorem dX10_quote_62 : decode cX10_quote 62 = .ok (.iload_n 3, 1) := by decide +kernel
theorem dX10_quote_63 : decode cX10_quote 63 = .ok (.invokevirtual 222, 3) := by decide +kernel
theorem dX10_quote_66 : decode cX10_quote 66 = .ok (.ireturn, 1) := by decide +kernel
theorem dX10_best_0 : decode cX10_best 0 = .ok (.aload_n 0, 1) := by decide +kernel
theorem dX10_best_1 : decode cX10_best 1 = .ok (.getfield 25, 3) := by decide +kernel
theorem dX10_best_4 : decode cX10_best 4 = .ok (.iload_n 1, 1) := by decide +kernel
theorem dX10_best_5 : decode cX10_best 5 = .ok (.invokevirtual 213, 3) := by decide +kernel
theorem dX10_best_8 : decode cX10_best 8 = .ok (.ifCond .eq 10, 3) := by decide +kernel
theorem dX10_best_11 : decode cX10_best 11 = .ok (.iload_n 2, 1) := by decide +kernel
theorem dX10_best_12 : decode cX10_best 12 = .ok (.invokestatic 216, 3) := by decide +kernel
theorem dX10_best_15 : decode cX10_best 15 = .ok (.ifCond .ne 6, 3) := by decide +kernel
theorem dX10_best_18 : decode cX10_best 18 = .ok (.ldc 125, 2) := by decide +kernel
theorem dX10_best_20 : decode cX10_best 20 = .ok (.ireturn, 1) := by decide +kernel
theorem dX10_best_21 : decode cX10_best 21 = .ok (.aload_n 0, 1) := by decide +kernel
theorem dX10_best_22 : decode cX10_best 22 = .ok (.getfield 25, 3) := by decide +kernel
theorem dX10_best_25 : decode cX10_best 25 = .ok (.getfield 116, 3) := by decide +kernel
theorem dX10_best_28 : decode cX10_best 28 = .ok (.iload_n 1, 1) := by decide +kernel
theorem dX10_best_29 : decode cX10_best 29 = .ok (.aaload, 1) := by decide +kernel
theorem dX10_best_30 : decode cX10_best 30 = .ok (.astore 4, 2) := by decide +kernel
theorem dX10_best_32 : decode cX10_best 32 = .ok (.iload_n 3, 1) := by decide +kernel
theorem dX10_best_33 : decode cX10_best 33 = .ok (.tableswitch 69 0 2 #[27, 38, 59], 27) := by decide +kernel
theorem dX10_best_60 : decode cX10_best 60 = .ok (.aload_n 0, 1) := by decide +kernel
theorem dX10_best_61 : decode cX10_best 61 = .ok (.getfield 25, 3) := by decide +kernel
theorem dX10_best_64 : decode cX10_best 64 = .ok (.aload 4, 2) := by decide +kernel
theorem dX10_best_66 : decode cX10_best 66 = .ok (.iload_n 2, 1) := by decide +kernel
theorem dX10_best_67 : decode cX10_best 67 = .ok (.invokevirtual 226, 3) := by decide +kernel
theorem dX10_best_70 : decode cX10_best 70 = .ok (.ireturn, 1) := by decide +kernel
theorem dX10_best_71 : decode cX10_best 71 = .ok (.aload_n 0, 1) := by decide +kernel
theorem dX10_best_72 : decode cX10_best 72 = .ok (.getfield 25, 3) := by decide +kernel
theorem dX10_best_75 : decode cX10_best 75 = .ok (.aload 4, 2) := by decide +kernel
theorem dX10_best_77 : decode cX10_best 77 = .ok (.iload_n 2, 1) := by decide +kernel
theorem dX10_best_78 : decode cX10_best 78 = .ok (.aload_n 0, 1) := by decide +kernel
theorem dX10_best_79 : decode cX10_best 79 = .ok (.getfield 25, 3) := by decide +kernel
theorem dX10_best_82 : decode cX10_best 82 = .ok (.aload 4, 2) := by decide +kernel
theorem dX10_best_84 : decode cX10_best 84 = .ok (.iload_n 2, 1) := by decide +kernel
theorem dX10_best_85 : decode cX10_best 85 = .ok (.invokevirtual 226, 3) := by decide +kernel
theorem dX10_best_88 : decode cX10_best 88 = .ok (.invokevirtual 222, 3) := by decide +kernel
theorem dX10_best_91 : decode cX10_best 91 = .ok (.ireturn, 1) := by decide +kernel
theorem dX10_best_92 : decode cX10_best 92 = .ok (.aload_n 0, 1) := by decide +kernel
theorem dX10_best_93 : decode cX10_best 93 = .ok (.getfield 25, 3) := by decide +kernel
theorem dX10_best_96 : decode cX10_best 96 = .ok (.aload 4, 2) := by decide +kernel
theorem dX10_best_98 : decode cX10_best 98 = .ok (.invokevirtual 230, 3) := by decide +kernel
theorem dX10_best_101 : decode cX10_best 101 = .ok (.ireturn, 1) := by decide +kernel
theorem dX10_best_102 : decode cX10_best 102 = .ok (.ldc 125, 2) := by decide +kernel
theorem dX10_best_104 : decode cX10_best 104 = .ok (.ireturn, 1) := by decide +kernel
theorem dX10_ahead_0 : decode cX10_ahead 0 = .ok (.aload_n 0, 1) := by decide +kernel
theorem dX10_ahead_1 : decode cX10_ahead 1 = .ok (.getfield 25, 3) := by decide +kernel
theorem dX10_ahead_4 : decode cX10_ahead 4 = .ok (.iload_n 1, 1) := by decide +kernel
theorem dX10_ahead_5 : decode cX10_ahead 5 = .ok (.invokevirtual 113, 3) := by decide +kernel
theorem dX10_ahead_8 : decode cX10_ahead 8 = .ok (.ifCond .eq 14, 3) := by decide +kernel
theorem dX10_ahead_11 : decode cX10_ahead 11 = .ok (.iload_n 2, 1) := by decide +kernel
theorem dX10_ahead_12 : decode cX10_ahead 12 = .ok (.ifCond .lt 10, 3) := by decide +kernel
theorem dX10_ahead_15 : decode cX10_ahead 15 = .ok (.iload_n 2, 1) := by decide +kernel
theorem dX10_ahead_16 : decode cX10_ahead 16 = .ok (.sipush 400, 3) := by decide +kernel
theorem dX10_ahead_19 : decode cX10_ahead 19 = .ok (.if_icmp .le 6, 3) := by decide +kernel
theorem dX10_ahead_22 : decode cX10_ahead 22 = .ok (.ldc 125, 2) := by decide +kernel
theorem dX10_ahead_24 : decode cX10_ahead 24 = .ok (.ireturn, 1) := by decide +kernel
theorem dX10_ahead_25 : decode cX10_ahead 25 = .ok (.aload_n 0, 1) := by decide +kernel
theorem dX10_ahead_26 : decode cX10_ahead 26 = .ok (.getfield 32, 3) := by decide +kernel
theorem dX10_ahead_29 : decode cX10_ahead 29 = .ok (.aload_n 0, 1) := by decide +kernel
theorem dX10_ahead_30 : decode cX10_ahead 30 = .ok (.getfield 25, 3) := by decide +kernel
theorem dX10_ahead_33 : decode cX10_ahead 33 = .ok (.invokevirtual 110, 3) := by decide +kernel
theorem dX10_ahead_36 : decode cX10_ahead 36 = .ok (.iload_n 2, 1) := by decide +kernel
theorem dX10_ahead_37 : decode cX10_ahead 37 = .ok (.ifCond .le 12, 3) := by decide +kernel
theorem dX10_ahead_40 : decode cX10_ahead 40 = .ok (.aload_n 0, 1) := by decide +kernel
theorem dX10_ahead_41 : decode cX10_ahead 41 = .ok (.getfield 32, 3) := by decide +kernel
theorem dX10_ahead_44 : decode cX10_ahead 44 = .ok (.iload_n 2, 1) := by decide +kernel
theorem dX10_ahead_45 : decode cX10_ahead 45 = .ok (.invokevirtual 164, 3) := by decide +kernel
theorem dX10_ahead_48 : decode cX10_ahead 48 = .ok (.pop, 1) := by decide +kernel
theorem dX10_ahead_49 : decode cX10_ahead 49 = .ok (.aload_n 0, 1) := by decide +kernel
theorem dX10_ahead_50 : decode cX10_ahead 50 = .ok (.getfield 32, 3) := by decide +kernel
theorem dX10_ahead_53 : decode cX10_ahead 53 = .ok (.getfield 116, 3) := by decide +kernel
theorem dX10_ahead_56 : decode cX10_ahead 56 = .ok (.iload_n 1, 1) := by decide +kernel
theorem dX10_ahead_57 : decode cX10_ahead 57 = .ok (.aaload, 1) := by decide +kernel
theorem dX10_ahead_58 : decode cX10_ahead 58 = .ok (.getfield 120, 3) := by decide +kernel
theorem dX10_ahead_61 : decode cX10_ahead 61 = .ok (.ireturn, 1) := by decide +kernel
theorem dX10_when_0 : decode cX10_when 0 = .ok (.aload_n 0, 1) := by decide +kernel
theorem dX10_when_1 : decode cX10_when 1 = .ok (.getfield 25, 3) := by decide +kernel
theorem dX10_when_4 : decode cX10_when 4 = .ok (.iload_n 1, 1) := by decide +kernel
theorem dX10_when_5 : decode cX10_when 5 = .ok (.invokevirtual 113, 3) := by decide +kernel
theorem dX10_when_8 : decode cX10_when 8 = .ok (.ifCond .ne 5, 3) := by decide +kernel
theorem dX10_when_11 : decode cX10_when 11 = .ok (.iconst (-1), 1) := by decide +kernel
theorem dX10_when_12 : decode cX10_when 12 = .ok (.ireturn, 1) := by decide +kernel
theorem dX10_when_13 : decode cX10_when 13 = .ok (.aload_n 0, 1) := by decide +kernel
theorem dX10_when_14 : decode cX10_when 14 = .ok (.getfield 32, 3) := by decide +kernel
theorem dX10_when_17 : decode cX10_when 17 = .ok (.aload_n 0, 1) := by decide +kernel
theorem dX10_when_18 : decode cX10_when 18 = .ok (.getfield 25, 3) := by decide +kernel
theorem dX10_when_21 : decode cX10_when 21 = .ok (.invokevirtual 110, 3) := by decide +kernel
theorem dX10_when_24 : decode cX10_when 24 = .ok (.iconst 0, 1) := by decide +kernel
theorem dX10_when_25 : decode cX10_when 25 = .ok (.istore_n 3, 1) := by decide +kernel
theorem dX10_when_26 : decode cX10_when 26 = .ok (.iload_n 3, 1) := by decide +kernel
theorem dX10_when_27 : decode cX10_when 27 = .ok (.sipush 400, 3) := by decide +kernel
theorem dX10_when_30 : decode cX10_when 30 = .ok (.if_icmp .gt 54, 3) := by decide +kernel
theorem dX10_when_33 : decode cX10_when 33 = .ok (.aload_n 0, 1) := by decide +kernel
theorem dX10_when_34 : decode cX10_when 34 = .ok (.getfield 32, 3) := by decide +kernel
theorem dX10_when_37 : decode cX10_when 37 = .ok (.getfield 116, 3) := by decide +kernel
theorem dX10_when_40 : decode cX10_when 40 = .ok (.iload_n 1, 1) := by decide +kernel
theorem dX10_when_41 : decode cX10_when 41 = .ok (.aaload, 1) := by decide +kernel
theorem dX10_when_42 : decode cX10_when 42 = .ok (.getfield 120, 3) := by decide +kernel
theorem dX10_when_45 : decode cX10_when 45 = .ok (.iload_n 2, 1) := by decide +kernel
theorem dX10_when_46 : decode cX10_when 46 = .ok (.if_icmp .lt 5, 3) := by decide +kernel
theorem dX10_when_49 : decode cX10_when 49 = .ok (.iload_n 3, 1) := by decide +kernel
theorem dX10_when_50 : decode cX10_when 50 = .ok (.ireturn, 1) := by decide +kernel
theorem dX10_when_51 : decode cX10_when 51 = .ok (.iload_n 3, 1) := by decide +kernel
theorem dX10_when_52 : decode cX10_when 52 = .ok (.sipush 400, 3) := by decide +kernel
theorem dX10_when_55 : decode cX10_when 55 = .ok (.if_icmp .eq 13, 3) := by decide +kernel
theorem dX10_when_58 : decode cX10_when 58 = .ok (.aload_n 0, 1) := by decide +kernel
theorem dX10_when_59 : decode cX10_when 59 = .ok (.getfield 32, 3) := by decide +kernel
theorem dX10_when_62 : decode cX10_when 62 = .ok (.invokevirtual 234, 3) := by decide +kernel
theorem dX10_when_65 : decode cX10_when 65 = .ok (.ifCond .ne 6, 3) := by decide +kernel
theorem dX10_when_68 : decode cX10_when 68 = .ok (.bipush (-2), 2) := by decide +kernel
theorem dX10_when_70 : decode cX10_when 70 = .ok (.ireturn, 1) := by decide +kernel
theorem dX10_when_71 : decode cX10_when 71 = .ok (.aload_n 0, 1) := by decide +kernel
theorem dX10_when_72 : decode cX10_when 72 = .ok (.getfield 32, 3) := by decide +kernel
theorem dX10_when_75 : decode cX10_when 75 = .ok (.invokevirtual 238, 3) := by decide +kernel
theorem dX10_when_78 : decode cX10_when 78 = .ok (.iinc 3 1, 3) := by decide +kernel
theorem dX10_when_81 : decode cX10_when 81 = .ok (.goto (-55), 3) := by decide +kernel
theorem dX10_when_84 : decode cX10_when 84 = .ok (.bipush (-2), 2) := by decide +kernel
theorem dX10_when_86 : decode cX10_when 86 = .ok (.ireturn, 1) := by decide +kernel
theorem dX10_tax_0 : decode cX10_tax 0 = .ok (.aload_n 0, 1) := by decide +kernel
theorem dX10_tax_1 : decode cX10_tax 1 = .ok (.getfield 25, 3) := by decide +kernel
theorem dX10_tax_4 : decode cX10_tax 4 = .ok (.iload_n 1, 1) := by decide +kernel
theorem dX10_tax_5 : decode cX10_tax 5 = .ok (.invokevirtual 241, 3) := by decide +kernel
theorem dX10_tax_8 : decode cX10_tax 8 = .ok (.ireturn, 1) := by decide +kernel
theorem dX10_open_0 : decode cX10_open 0 = .ok (.aload_n 0, 1) := by decide +kernel
theorem dX10_open_1 : decode cX10_open 1 = .ok (.getfield 25, 3) := by decide +kernel
theorem dX10_open_4 : decode cX10_open 4 = .ok (.getfield 70, 3) := by decide +kernel
theorem dX10_open_7 : decode cX10_open 7 = .ok (.iload_n 1, 1) := by decide +kernel
theorem dX10_open_8 : decode cX10_open 8 = .ok (.invokevirtual 126, 3) := by decide +kernel
theorem dX10_open_11 : decode cX10_open 11 = .ok (.ifCond .ne 6, 3) := by decide +kernel
theorem dX10_open_14 : decode cX10_open 14 = .ok (.ldc 125, 2) := by decide +kernel
theorem dX10_open_16 : decode cX10_open 16 = .ok (.ireturn, 1) := by decide +kernel
theorem dX10_open_17 : decode cX10_open 17 = .ok (.aload_n 0, 1) := by decide +kernel
theorem dX10_open_18 : decode cX10_open 18 = .ok (.getfield 25, 3) := by decide +kernel
theorem dX10_open_21 : decode cX10_open 21 = .ok (.getfield 70, 3) := by decide +kernel
theorem dX10_open_24 : decode cX10_open 24 = .ok (.getfield 244, 3) := by decide +kernel
theorem dX10_open_27 : decode cX10_open 27 = .ok (.iload_n 1, 1) := by decide +kernel
theorem dX10_open_28 : decode cX10_open 28 = .ok (.iaload, 1) := by decide +kernel
theorem dX10_open_29 : decode cX10_open 29 = .ok (.istore_n 2, 1) := by decide +kernel
theorem dX10_open_30 : decode cX10_open 30 = .ok (.iload_n 2, 1) := by decide +kernel
theorem dX10_open_31 : decode cX10_open 31 = .ok (.invokestatic 107, 3) := by decide +kernel
theorem dX10_open_34 : decode cX10_open 34 = .ok (.ifCond .eq 29, 3) := by decide +kernel
theorem dX10_open_37 : decode cX10_open 37 = .ok (.aload_n 0, 1) := by decide +kernel
theorem dX10_open_38 : decode cX10_open 38 = .ok (.getfield 25, 3) := by decide +kernel
theorem dX10_open_41 : decode cX10_open 41 = .ok (.getfield 70, 3) := by decide +kernel
theorem dX10_open_44 : decode cX10_open 44 = .ok (.iload_n 1, 1) := by decide +kernel
theorem dX10_open_45 : decode cX10_open 45 = .ok (.aload_n 0, 1) := by decide +kernel
theorem dX10_open_46 : decode cX10_open 46 = .ok (.getfield 25, 3) := by decide +kernel
theorem dX10_open_49 : decode cX10_open 49 = .ok (.getfield 116, 3) := by decide +kernel
theorem dX10_open_52 : decode cX10_open 52 = .ok (.iload_n 2, 1) := by decide +kernel
theorem dX10_open_53 : decode cX10_open 53 = .ok (.aaload, 1) := by decide +kernel
theorem dX10_open_54 : decode cX10_open 54 = .ok (.getfield 195, 3) := by decide +kernel
theorem dX10_open_57 : decode cX10_open 57 = .ok (.invokevirtual 247, 3) := by decide +kernel
theorem dX10_open_60 : decode cX10_open 60 = .ok (.goto 5, 3) := by decide +kernel
theorem dX10_open_63 : decode cX10_open 63 = .ok (.ldc 125, 2) := by decide +kernel
theorem dX10_open_65 : decode cX10_open 65 = .ok (.ireturn, 1) := by decide +kernel
theorem dX10_written_0 : decode cX10_written 0 = .ok (.iload_n 1, 1) := by decide +kernel
theorem dX10_written_1 : decode cX10_written 1 = .ok (.ifCond .lt 15, 3) := by decide +kernel
theorem dX10_written_4 : decode cX10_written 4 = .ok (.iload_n 2, 1) := by decide +kernel
theorem dX10_written_5 : decode cX10_written 5 = .ok (.iload_n 1, 1) := by decide +kernel
theorem dX10_written_6 : decode cX10_written 6 = .ok (.if_icmp .lt 10, 3) := by decide +kernel
theorem dX10_written_9 : decode cX10_written 9 = .ok (.iload_n 2, 1) := by decide +kernel
theorem dX10_written_10 : decode cX10_written 10 = .ok (.sipush 3652, 3) := by decide +kernel
theorem dX10_written_13 : decode cX10_written 13 = .ok (.if_icmp .le 6, 3) := by decide +kernel
theorem dX10_written_16 : decode cX10_written 16 = .ok (.ldc 125, 2) := by decide +kernel
theorem dX10_written_18 : decode cX10_written 18 = .ok (.ireturn, 1) := by decide +kernel
theorem dX10_written_19 : decode cX10_written 19 = .ok (.aload_n 0, 1) := by decide +kernel
theorem dX10_written_20 : decode cX10_written 20 = .ok (.getfield 25, 3) := by decide +kernel
theorem dX10_written_23 : decode cX10_written 23 = .ok (.getfield 70, 3) := by decide +kernel
theorem dX10_written_26 : decode cX10_written 26 = .ok (.iload_n 1, 1) := by decide +kernel
theorem dX10_written_27 : decode cX10_written 27 = .ok (.iload_n 2, 1) := by decide +kernel
theorem dX10_written_28 : decode cX10_written 28 = .ok (.invokevirtual 250, 3) := by decide +kernel
theorem dX10_written_31 : decode cX10_written 31 = .ok (.ireturn, 1) := by decide +kernel
theorem dX10_entry_0 : decode cX10_entry 0 = .ok (.aload_n 0, 1) := by decide +kernel
theorem dX10_entry_1 : decode cX10_entry 1 = .ok (.getfield 25, 3) := by decide +kernel
theorem dX10_entry_4 : decode cX10_entry 4 = .ok (.getfield 70, 3) := by decide +kernel
theorem dX10_entry_7 : decode cX10_entry 7 = .ok (.iload_n 1, 1) := by decide +kernel
theorem dX10_entry_8 : decode cX10_entry 8 = .ok (.iload_n 2, 1) := by decide +kernel
theorem dX10_entry_9 : decode cX10_entry 9 = .ok (.invokevirtual 253, 3) := by decide +kernel
theorem dX10_entry_12 : decode cX10_entry 12 = .ok (.ireturn, 1) := by decide +kernel
theorem dX10_line_0 : decode cX10_line 0 = .ok (.aload_n 0, 1) := by decide +kernel
theorem dX10_line_1 : decode cX10_line 1 = .ok (.getfield 25, 3) := by decide +kernel
theorem dX10_line_4 : decode cX10_line 4 = .ok (.getfield 70, 3) := by decide +kernel
theorem dX10_line_7 : decode cX10_line 7 = .ok (.iload_n 1, 1) := by decide +kernel
theorem dX10_line_8 : decode cX10_line 8 = .ok (.invokevirtual 126, 3) := by decide +kernel
theorem dX10_line_11 : decode cX10_line 11 = .ok (.ifCond .ne 5, 3) := by decide +kernel
theorem dX10_line_14 : decode cX10_line 14 = .ok (.iconst (-1), 1) := by decide +kernel
theorem dX10_line_15 : decode cX10_line 15 = .ok (.ireturn, 1) := by decide +kernel
theorem dX10_line_16 : decode cX10_line 16 = .ok (.iload_n 2, 1) := by decide +kernel
theorem dX10_line_17 : decode cX10_line 17 = .ok (.iconst (-1), 1) := by decide +kernel
theorem dX10_line_18 : decode cX10_line 18 = .ok (.if_icmp .ge 6, 3) := by decide +kernel
theorem dX10_line_21 : decode cX10_line 21 = .ok (.bipush (-9), 2) := by decide +kernel
theorem dX10_line_23 : decode cX10_line 23 = .ok (.ireturn, 1) := by decide +kernel
theorem dX10_line_24 : decode cX10_line 24 = .ok (.aload_n 0, 1) := by decide +kernel
theorem dX10_line_25 : decode cX10_line 25 = .ok (.getfield 54, 3) := by decide +kernel
theorem dX10_line_28 : decode cX10_line 28 = .ok (.aload_n 0, 1) := by decide +kernel
theorem dX10_line_29 : decode cX10_line 29 = .ok (.getfield 25, 3) := by decide +kernel
theorem dX10_line_32 : decode cX10_line 32 = .ok (.getfield 70, 3) := by decide +kernel
theorem dX10_line_35 : decode cX10_line 35 = .ok (.iload_n 1, 1) := by decide +kernel
theorem dX10_line_36 : decode cX10_line 36 = .ok (.invokevirtual 255, 3) := by decide +kernel
theorem dX10_line_39 : decode cX10_line 39 = .ok (.iload_n 2, 1) := by decide +kernel
theorem dX10_line_40 : decode cX10_line 40 = .ok (.iconst (-1), 1) := by decide +kernel
theorem dX10_line_41 : decode cX10_line 41 = .ok (.if_icmp .ne 13, 3) := by decide +kernel
theorem dX10_line_44 : decode cX10_line 44 = .ok (.aload_n 0, 1) := by decide +kernel
theorem dX10_line_45 : decode cX10_line 45 = .ok (.getfield 54, 3) := by decide +kernel
theorem dX10_line_48 : decode cX10_line 48 = .ok (.getfield 259, 3) := by decide +kernel
theorem dX10_line_51 : decode cX10_line 51 = .ok (.goto 11, 3) := by decide +kernel
theorem dX10_line_54 : decode cX10_line 54 = .ok (.aload_n 0, 1) := by decide +kernel
theorem dX10_line_55 : decode cX10_line 55 = .ok (.getfield 54, 3) := by decide +kernel
theorem dX10_line_58 : decode cX10_line 58 = .ok (.iload_n 2, 1) := by decide +kernel
theorem dX10_line_59 : decode cX10_line 59 = .ok (.invokevirtual 262, 3) := by decide +kernel
theorem dX10_line_62 : decode cX10_line 62 = .ok (.ireturn, 1) := by decide +kernel
theorem dX10_plan_0 : decode cX10_plan 0 = .ok (.iload_n 1, 1) := by decide +kernel
theorem dX10_plan_1 : decode cX10_plan 1 = .ok (.invokestatic 216, 3) := by decide +kernel
theorem dX10_plan_4 : decode cX10_plan 4 = .ok (.ifCond .eq 21, 3) := by decide +kernel
theorem dX10_plan_7 : decode cX10_plan 7 = .ok (.aload_n 0, 1) := by decide +kernel
theorem dX10_plan_8 : decode cX10_plan 8 = .ok (.getfield 25, 3) := by decide +kernel
theorem dX10_plan_11 : decode cX10_plan 11 = .ok (.getfield 83, 3) := by decide +kernel
theorem dX10_plan_14 : decode cX10_plan 14 = .ok (.iload_n 1, 1) := by decide +kernel
theorem dX10_plan_15 : decode cX10_plan 15 = .ok (.invokevirtual 265, 3) := by decide +kernel
theorem dX10_plan_18 : decode cX10_plan 18 = .ok (.iload_n 2, 1) := by decide +kernel
theorem dX10_plan_19 : decode cX10_plan 19 = .ok (.invokevirtual 269, 3) := by decide +kernel
theorem dX10_plan_22 : decode cX10_plan 22 = .ok (.goto 4, 3) := by decide +kernel
theorem dX10_plan_25 : decode cX10_plan 25 = .ok (.iconst (-1), 1) := by decide +kernel
theorem dX10_plan_26 : decode cX10_plan 26 = .ok (.ireturn, 1) := by decide +kernel
theorem dX10_billIs_0 : decode cX10_billIs 0 = .ok (.iload_n 1, 1) := by decide +kernel
theorem dX10_billIs_1 : decode cX10_billIs 1 = .ok (.tableswitch 78 2 6 #[35, 43, 54, 62, 70], 35) := by decide +kernel
theorem dX10_billIs_36 : decode cX10_billIs 36 = .ok (.aload_n 0, 1) := by decide +kernel
theorem dX10_billIs_37 : decode cX10_billIs 37 = .ok (.getfield 25, 3) := by decide +kernel
theorem dX10_billIs_40 : decode cX10_billIs 40 = .ok (.getfield 137, 3) := by decide +kernel
theorem dX10_billIs_43 : decode cX10_billIs 43 = .ok (.ireturn, 1) := by decide +kernel
theorem dX10_billIs_44 : decode cX10_billIs 44 = .ok (.aload_n 0, 1) := by decide +kernel
theorem dX10_billIs_45 : decode cX10_billIs 45 = .ok (.getfield 25, 3) := by decide +kernel
theorem dX10_billIs_48 : decode cX10_billIs 48 = .ok (.getfield 70, 3) := by decide +kernel
theorem dX10_billIs_51 : decode cX10_billIs 51 = .ok (.getfield 74, 3) := by decide +kernel
theorem dX10_billIs_54 : decode cX10_billIs 54 = .ok (.ireturn, 1) := by decide +kernel
theorem dX10_billIs_55 : decode cX10_billIs 55 = .ok (.aload_n 0, 1) := by decide +kernel
theorem dX10_billIs_56 : decode cX10_billIs 56 = .ok (.getfield 25, 3) := by decide +kernel
theorem dX10_billIs_59 : decode cX10_billIs 59 = .ok (.invokevirtual 272, 3) := by decide +kernel
theorem dX10_billIs_62 : decode cX10_billIs 62 = .ok (.ireturn, 1) := by decide +kernel
theorem dX10_billIs_63 : decode cX10_billIs 63 = .ok (.aload_n 0, 1) := by decide +kernel
theorem dX10_billIs_64 : decode cX10_billIs 64 = .ok (.getfield 25, 3) := by decide +kernel
theorem dX10_billIs_67 : decode cX10_billIs 67 = .ok (.invokevirtual 276, 3) := by decide +kernel
theorem dX10_billIs_70 : decode cX10_billIs 70 = .ok (.ireturn, 1) := by decide +kernel
theorem dX10_billIs_71 : decode cX10_billIs 71 = .ok (.aload_n 0, 1) := by decide +kernel
theorem dX10_billIs_72 : decode cX10_billIs 72 = .ok (.getfield 25, 3) := by decide +kernel
theorem dX10_billIs_75 : decode cX10_billIs 75 = .ok (.invokevirtual 279, 3) := by decide +kernel
theorem dX10_billIs_78 : decode cX10_billIs 78 = .ok (.ireturn, 1) := by decide +kernel
theorem dX10_billIs_79 : decode cX10_billIs 79 = .ok (.aload_n 0, 1) := by decide +kernel
theorem dX10_billIs_80 : decode cX10_billIs 80 = .ok (.getfield 25, 3) := by decide +kernel
theorem dX10_billIs_83 : decode cX10_billIs 83 = .ok (.getfield 83, 3) := by decide +kernel
theorem dX10_billIs_86 : decode cX10_billIs 86 = .ok (.iload_n 1, 1) := by decide +kernel
theorem dX10_billIs_87 : decode cX10_billIs 87 = .ok (.invokevirtual 282, 3) := by decide +kernel
theorem dX10_billIs_90 : decode cX10_billIs 90 = .ok (.ireturn, 1) := by decide +kernel
theorem dX10_usage_0 : decode cX10_usage 0 = .ok (.iload_n 1, 1) := by decide +kernel
theorem dX10_usage_1 : decode cX10_usage 1 = .ok (.invokestatic 216, 3) := by decide +kernel
theorem dX10_usage_4 : decode cX10_usage 4 = .ok (.ifCond .eq 28, 3) := by decide +kernel
theorem dX10_usage_7 : decode cX10_usage 7 = .ok (.iload_n 2, 1) := by decide +kernel
theorem dX10_usage_8 : decode cX10_usage 8 = .ok (.invokestatic 283, 3) := by decide +kernel
theorem dX10_usage_11 : decode cX10_usage 11 = .ok (.ifCond .eq 21, 3) := by decide +kernel
theorem dX10_usage_14 : decode cX10_usage 14 = .ok (.aload_n 0, 1) := by decide +kernel
theorem dX10_usage_15 : decode cX10_usage 15 = .ok (.getfield 25, 3) := by decide +kernel
theorem dX10_usage_18 : decode cX10_usage 18 = .ok (.getfield 83, 3) := by decide +kernel
theorem dX10_usage_21 : decode cX10_usage 21 = .ok (.iload_n 1, 1) := by decide +kernel
theorem dX10_usage_22 : decode cX10_usage 22 = .ok (.invokevirtual 265, 3) := by decide +kernel
theorem dX10_usage_25 : decode cX10_usage 25 = .ok (.iload_n 2, 1) := by decide +kernel
theorem dX10_usage_26 : decode cX10_usage 26 = .ok (.invokevirtual 286, 3) := by decide +kernel
theorem dX10_usage_29 : decode cX10_usage 29 = .ok (.goto 4, 3) := by decide +kernel
theorem dX10_usage_32 : decode cX10_usage 32 = .ok (.iconst (-1), 1) := by decide +kernel
theorem dX10_usage_33 : decode cX10_usage 33 = .ok (.ireturn, 1) := by decide +kernel
theorem dX10_units_0 : decode cX10_units 0 = .ok (.iload_n 1, 1) := by decide +kernel
theorem dX10_units_1 : decode cX10_units 1 = .ok (.invokestatic 216, 3) := by decide +kernel
theorem dX10_units_4 : decode cX10_units 4 = .ok (.ifCond .eq 14, 3) := by decide +kernel
theorem dX10_units_7 : decode cX10_units 7 = .ok (.iload_n 2, 1) := by decide +kernel
theorem dX10_units_8 : decode cX10_units 8 = .ok (.ifCond .lt 10, 3) := by decide +kernel
theorem dX10_units_11 : decode cX10_units 11 = .ok (.iload_n 2, 1) := by decide +kernel
theorem dX10_units_12 : decode cX10_units 12 = .ok (.ldc_w 289, 3) := by decide +kernel
theorem dX10_units_15 : decode cX10_units 15 = .ok (.if_icmp .le 5, 3) := by decide +kernel
theorem dX10_units_18 : decode cX10_units 18 = .ok (.iconst (-1), 1) := by decide +kernel
theorem dX10_units_19 : decode cX10_units 19 = .ok (.ireturn, 1) := by decide +kernel
theorem dX10_units_20 : decode cX10_units 20 = .ok (.aload_n 0, 1) := by decide +kernel
theorem dX10_units_21 : decode cX10_units 21 = .ok (.getfield 25, 3) := by decide +kernel
theorem dX10_units_24 : decode cX10_units 24 = .ok (.getfield 83, 3) := by decide +kernel
theorem dX10_units_27 : decode cX10_units 27 = .ok (.iload_n 1, 1) := by decide +kernel
theorem dX10_units_28 : decode cX10_units 28 = .ok (.invokevirtual 265, 3) := by decide +kernel
theorem dX10_units_31 : decode cX10_units 31 = .ok (.iload_n 2, 1) := by decide +kernel
theorem dX10_units_32 : decode cX10_units 32 = .ok (.invokevirtual 290, 3) := by decide +kernel
theorem dX10_units_35 : decode cX10_units 35 = .ok (.ireturn, 1) := by decide +kernel
theorem dX10_cheapest_0 : decode cX10_cheapest 0 = .ok (.iload_n 1, 1) := by decide +kernel
theorem dX10_cheapest_1 : decode cX10_cheapest 1 = .ok (.invokestatic 283, 3) := by decide +kernel
theorem dX10_cheapest_4 : decode cX10_cheapest 4 = .ok (.ifCond .eq 17, 3) := by decide +kernel
theorem dX10_cheapest_7 : decode cX10_cheapest 7 = .ok (.aload_n 0, 1) := by decide +kernel
theorem dX10_cheapest_8 : decode cX10_cheapest 8 = .ok (.getfield 25, 3) := by decide +kernel
theorem dX10_cheapest_11 : decode cX10_cheapest 11 = .ok (.getfield 83, 3) := by decide +kernel
theorem dX10_cheapest_14 : decode cX10_cheapest 14 = .ok (.iload_n 1, 1) := by decide +kernel
theorem dX10_cheapest_15 : decode cX10_cheapest 15 = .ok (.invokevirtual 293, 3) := by decide +kernel
theorem dX10_cheapest_18 : decode cX10_cheapest 18 = .ok (.goto 4, 3) := by decide +kernel
theorem dX10_cheapest_21 : decode cX10_cheapest 21 = .ok (.iconst (-1), 1) := by decide +kernel
theorem dX10_cheapest_22 : decode cX10_cheapest 22 = .ok (.ireturn, 1) := by decide +kernel
theorem dX10_part_0 : decode cX10_part 0 = .ok (.iload_n 1, 1) := by decide +kernel
theorem dX10_part_1 : decode cX10_part 1 = .ok (.ifCond .lt 38, 3) := by decide +kernel
theorem dX10_part_4 : decode cX10_part 4 = .ok (.iload_n 1, 1) := by decide +kernel
theorem dX10_part_5 : decode cX10_part 5 = .ok (.ldc_w 296, 3) := by decide +kernel
theorem dX10_part_8 : decode cX10_part 8 = .ok (.if_icmp .gt 31, 3) := by decide +kernel
theorem dX10_part_11 : decode cX10_part 11 = .ok (.iload_n 2, 1) := by decide +kernel
theorem dX10_part_12 : decode cX10_part 12 = .ok (.invokestatic 297, 3) := by decide +kernel
theorem dX10_part_15 : decode cX10_part 15 = .ok (.ifCond .eq 24, 3) := by decide +kernel
theorem dX10_part_18 : decode cX10_part 18 = .ok (.iload_n 3, 1) := by decide +kernel
theorem dX10_part_19 : decode cX10_part 19 = .ok (.invokestatic 300, 3) := by decide +kernel
theorem dX10_part_22 : decode cX10_part 22 = .ok (.ifCond .eq 17, 3) := by decide +kernel
theorem dX10_part_25 : decode cX10_part 25 = .ok (.iload 4, 2) := by decide +kernel
theorem dX10_part_27 : decode cX10_part 27 = .ok (.invokestatic 300, 3) := by decide +kernel
theorem dX10_part_30 : decode cX10_part 30 = .ok (.ifCond .eq 9, 3) := by decide +kernel
theorem dX10_part_33 : decode cX10_part 33 = .ok (.iload 4, 2) := by decide +kernel
theorem dX10_part_35 : decode cX10_part 35 = .ok (.iload_n 3, 1) := by decide +kernel
theorem dX10_part_36 : decode cX10_part 36 = .ok (.if_icmp .ge 5, 3) := by decide +kernel
theorem dX10_part_39 : decode cX10_part 39 = .ok (.iconst (-1), 1) := by decide +kernel
theorem dX10_part_40 : decode cX10_part 40 = .ok (.ireturn, 1) := by decide +kernel
theorem dX10_part_41 : decode cX10_part 41 = .ok (.aload_n 0, 1) := by decide +kernel
theorem dX10_part_42 : decode cX10_part 42 = .ok (.getfield 16, 3) := by decide +kernel
theorem dX10_part_45 : decode cX10_part 45 = .ok (.iload_n 2, 1) := by decide +kernel
theorem dX10_part_46 : decode cX10_part 46 = .ok (.iload_n 3, 1) := by decide +kernel
theorem dX10_part_47 : decode cX10_part 47 = .ok (.invokevirtual 303, 3) := by decide +kernel
theorem dX10_part_50 : decode cX10_part 50 = .ok (.istore 5, 2) := by decide +kernel
theorem dX10_part_52 : decode cX10_part 52 = .ok (.aload_n 0, 1) := by decide +kernel
theorem dX10_part_53 : decode cX10_part 53 = .ok (.getfield 16, 3) := by decide +kernel
theorem dX10_part_56 : decode cX10_part 56 = .ok (.iload_n 2, 1) := by decide +kernel
theorem dX10_part_57 : decode cX10_part 57 = .ok (.iload_n 3, 1) := by decide +kernel
theorem dX10_part_58 : decode cX10_part 58 = .ok (.invokevirtual 306, 3) := by decide +kernel
theorem dX10_part_61 : decode cX10_part 61 = .ok (.istore 6, 2) := by decide +kernel
theorem dX10_part_63 : decode cX10_part 63 = .ok (.iload 4, 2) := by decide +kernel
theorem dX10_part_65 : decode cX10_part 65 = .ok (.iload 6, 2) := by decide +kernel
theorem dX10_part_67 : decode cX10_part 67 = .ok (.if_icmp .le 7, 3) := by decide +kernel
theorem dX10_part_70 : decode cX10_part 70 = .ok (.iconst (-1), 1) := by decide +kernel
theorem dX10_part_71 : decode cX10_part 71 = .ok (.goto 21, 3) := by decide +kernel
theorem dX10_part_74 : decode cX10_part 74 = .ok (.iload_n 1, 1) := by decide +kernel
theorem dX10_part_75 : decode cX10_part 75 = .ok (.iload 6, 2) := by decide +kernel
theorem dX10_part_77 : decode cX10_part 77 = .ok (.iload 5, 2) := by decide +kernel
theorem dX10_part_79 : decode cX10_part 79 = .ok (.isub, 1) := by decide +kernel
theorem dX10_part_80 : decode cX10_part 80 = .ok (.iload_n 3, 1) := by decide +kernel
theorem dX10_part_81 : decode cX10_part 81 = .ok (.iload 5, 2) := by decide +kernel
theorem dX10_part_83 : decode cX10_part 83 = .ok (.isub, 1) := by decide +kernel
theorem dX10_part_84 : decode cX10_part 84 = .ok (.iload 4, 2) := by decide +kernel
theorem dX10_part_86 : decode cX10_part 86 = .ok (.iload 5, 2) := by decide +kernel
theorem dX10_part_88 : decode cX10_part 88 = .ok (.isub, 1) := by decide +kernel
theorem dX10_part_89 : decode cX10_part 89 = .ok (.invokestatic 309, 3) := by decide +kernel
theorem dX10_part_92 : decode cX10_part 92 = .ok (.ireturn, 1) := by decide +kernel
theorem dX10_span_0 : decode cX10_span 0 = .ok (.iload_n 1, 1) := by decide +kernel
theorem dX10_span_1 : decode cX10_span 1 = .ok (.invokestatic 297, 3) := by decide +kernel
theorem dX10_span_4 : decode cX10_span 4 = .ok (.ifCond .eq 10, 3) := by decide +kernel
theorem dX10_span_7 : decode cX10_span 7 = .ok (.iload_n 2, 1) := by decide +kernel
theorem dX10_span_8 : decode cX10_span 8 = .ok (.invokestatic 300, 3) := by decide +kernel
theorem dX10_span_11 : decode cX10_span 11 = .ok (.ifCond .ne 5, 3) := by decide +kernel
theorem dX10_span_14 : decode cX10_span 14 = .ok (.iconst (-1), 1) := by decide +kernel
theorem dX10_span_15 : decode cX10_span 15 = .ok (.ireturn, 1) := by decide +kernel
theorem dX10_span_16 : decode cX10_span 16 = .ok (.aload_n 0, 1) := by decide +kernel
theorem dX10_span_17 : decode cX10_span 17 = .ok (.getfield 16, 3) := by decide +kernel
theorem dX10_span_20 : decode cX10_span 20 = .ok (.iload_n 1, 1) := by decide +kernel
theorem dX10_span_21 : decode cX10_span 21 = .ok (.iload_n 2, 1) := by decide +kernel
theorem dX10_span_22 : decode cX10_span 22 = .ok (.invokevirtual 303, 3) := by decide +kernel
theorem dX10_span_25 : decode cX10_span 25 = .ok (.istore 4, 2) := by decide +kernel
theorem dX10_span_27 : decode cX10_span 27 = .ok (.aload_n 0, 1) := by decide +kernel
theorem dX10_span_28 : decode cX10_span 28 = .ok (.getfield 16, 3) := by decide +kernel
theorem dX10_span_31 : decode cX10_span 31 = .ok (.iload_n 1, 1) := by decide +kernel
theorem dX10_span_32 : decode cX10_span 32 = .ok (.iload_n 2, 1) := by decide +kernel
theorem dX10_span_33 : decode cX10_span 33 = .ok (.invokevirtual 306, 3) := by decide +kernel
theorem dX10_span_36 : decode cX10_span 36 = .ok (.istore 5, 2) := by decide +kernel
theorem dX10_span_38 : decode cX10_span 38 = .ok (.iload_n 3, 1) := by decide +kernel
theorem dX10_span_39 : decode cX10_span 39 = .ok (.tableswitch 47 0 2 #[25, 38, 41], 25) := by decide +kernel
theorem dX10_span_64 : decode cX10_span 64 = .ok (.iload 4, 2) := by decide +kernel
theorem dX10_span_66 : decode cX10_span 66 = .ok (.ifCond .ge 8, 3) := by decide +kernel
theorem dX10_span_69 : decode cX10_span 69 = .ok (.bipush (-2), 2) := by decide +kernel
theorem dX10_span_71 : decode cX10_span 71 = .ok (.goto 5, 3) := by decide +kernel
theorem dX10_span_74 : decode cX10_span 74 = .ok (.iload 4, 2) := by decide +kernel
theorem dX10_span_76 : decode cX10_span 76 = .ok (.ireturn, 1) := by decide +kernel
theorem dX10_span_77 : decode cX10_span 77 = .ok (.iload 5, 2) := by decide +kernel
theorem dX10_span_79 : decode cX10_span 79 = .ok (.ireturn, 1) := by decide +kernel
theorem dX10_span_80 : decode cX10_span 80 = .ok (.iload 5, 2) := by decide +kernel
theorem dX10_span_82 : decode cX10_span 82 = .ok (.iload 4, 2) := by decide +kernel
theorem dX10_span_84 : decode cX10_span 84 = .ok (.isub, 1) := by decide +kernel
theorem dX10_span_85 : decode cX10_span 85 = .ok (.ireturn, 1) := by decide +kernel
theorem dX10_span_86 : decode cX10_span 86 = .ok (.iconst (-1), 1) := by decide +kernel
theorem dX10_span_87 : decode cX10_span 87 = .ok (.ireturn, 1) := by decide +kernel
theorem dX10_date_0 : decode cX10_date 0 = .ok (.iload_n 1, 1) := by decide +kernel
theorem dX10_date_1 : decode cX10_date 1 = .ok (.invokestatic 300, 3) := by decide +kernel
theorem dX10_date_4 : decode cX10_date 4 = .ok (.ifCond .ne 5, 3) := by decide +kernel
theorem dX10_date_7 : decode cX10_date 7 = .ok (.iconst (-1), 1) := by decide +kernel
theorem dX10_date_8 : decode cX10_date 8 = .ok (.ireturn, 1) := by decide +kernel
theorem dX10_date_9 : decode cX10_date 9 = .ok (.iload_n 2, 1) := by decide +kernel
theorem dX10_date_10 : decode cX10_date 10 = .ok (.tableswitch 53 0 2 #[26, 35, 44], 26) := by decide +kernel
theorem dX10_date_36 : decode cX10_date 36 = .ok (.aload_n 0, 1) := by decide +kernel
theorem dX10_date_37 : decode cX10_date 37 = .ok (.getfield 16, 3) := by decide +kernel
theorem dX10_date_40 : decode cX10_date 40 = .ok (.iload_n 1, 1) := by decide +kernel
theorem dX10_date_41 : decode cX10_date 41 = .ok (.invokevirtual 313, 3) := by decide +kernel
theorem dX10_date_44 : decode cX10_date 44 = .ok (.ireturn, 1) := by decide +kernel
theorem dX10_date_45 : decode cX10_date 45 = .ok (.aload_n 0, 1) := by decide +kernel
theorem dX10_date_46 : decode cX10_date 46 = .ok (.getfield 16, 3) := by decide +kernel
theorem dX10_date_49 : decode cX10_date 49 = .ok (.iload_n 1, 1) := by decide +kernel
theorem dX10_date_50 : decode cX10_date 50 = .ok (.invokevirtual 316, 3) := by decide +kernel
theorem dX10_date_53 : decode cX10_date 53 = .ok (.ireturn, 1) := by decide +kernel
theorem dX10_date_54 : decode cX10_date 54 = .ok (.aload_n 0, 1) := by decide +kernel
theorem dX10_date_55 : decode cX10_date 55 = .ok (.getfield 16, 3) := by decide +kernel
theorem dX10_date_58 : decode cX10_date 58 = .ok (.iload_n 1, 1) := by decide +kernel
theorem dX10_date_59 : decode cX10_date 59 = .ok (.invokevirtual 319, 3) := by decide +kernel
theorem dX10_date_62 : decode cX10_date 62 = .ok (.ireturn, 1) := by decide +kernel
theorem dX10_date_63 : decode cX10_date 63 = .ok (.iconst (-1), 1) := by decide +kernel
theorem dX10_date_64 : decode cX10_date 64 = .ok (.ireturn, 1) := by decide +kernel
theorem dX10_day_0 : decode cX10_day 0 = .ok (.aload_n 0, 1) := by decide +kernel
theorem dX10_day_1 : decode cX10_day 1 = .ok (.getfield 16, 3) := by decide +kernel
theorem dX10_day_4 : decode cX10_day 4 = .ok (.iload_n 1, 1) := by decide +kernel
theorem dX10_day_5 : decode cX10_day 5 = .ok (.iload_n 2, 1) := by decide +kernel
theorem dX10_day_6 : decode cX10_day 6 = .ok (.iload_n 3, 1) := by decide +kernel
theorem dX10_day_7 : decode cX10_day 7 = .ok (.invokevirtual 322, 3) := by decide +kernel
theorem dX10_day_10 : decode cX10_day 10 = .ok (.ireturn, 1) := by decide +kernel
theorem dX10_isAccount_0 : decode cX10_isAccount 0 = .ok (.iload_n 0, 1) := by decide +kernel
theorem dX10_isAccount_1 : decode cX10_isAccount 1 = .ok (.ifCond .lt 13, 3) := by decide +kernel
theorem dX10_isAccount_4 : decode cX10_isAccount 4 = .ok (.iload_n 0, 1) := by decide +kernel
theorem dX10_isAccount_5 : decode cX10_isAccount 5 = .ok (.bipush 6, 2) := by decide +kernel
theorem dX10_isAccount_7 : decode cX10_isAccount 7 = .ok (.if_icmp .ge 7, 3) := by decide +kernel
theorem dX10_isAccount_10 : decode cX10_isAccount 10 = .ok (.iconst 1, 1) := by decide +kernel
theorem dX10_isAccount_11 : decode cX10_isAccount 11 = .ok (.goto 4, 3) := by decide +kernel
theorem dX10_isAccount_14 : decode cX10_isAccount 14 = .ok (.iconst 0, 1) := by decide +kernel
theorem dX10_isAccount_15 : decode cX10_isAccount 15 = .ok (.ireturn, 1) := by decide +kernel
theorem dX10_isPlan_0 : decode cX10_isPlan 0 = .ok (.iload_n 0, 1) := by decide +kernel
theorem dX10_isPlan_1 : decode cX10_isPlan 1 = .ok (.ifCond .lt 13, 3) := by decide +kernel
theorem dX10_isPlan_4 : decode cX10_isPlan 4 = .ok (.iload_n 0, 1) := by decide +kernel
theorem dX10_isPlan_5 : decode cX10_isPlan 5 = .ok (.bipush 6, 2) := by decide +kernel
theorem dX10_isPlan_7 : decode cX10_isPlan 7 = .ok (.if_icmp .ge 7, 3) := by decide +kernel
theorem dX10_isPlan_10 : decode cX10_isPlan 10 = .ok (.iconst 1, 1) := by decide +kernel
theorem dX10_isPlan_11 : decode cX10_isPlan 11 = .ok (.goto 4, 3) := by decide +kernel
theorem dX10_isPlan_14 : decode cX10_isPlan 14 = .ok (.iconst 0, 1) := by decide +kernel
theorem dX10_isPlan_15 : decode cX10_isPlan 15 = .ok (.ireturn, 1) := by decide +kernel
theorem dX10_isAnchor_0 : decode cX10_isAnchor 0 = .ok (.iload_n 0, 1) := by decide +kernel
theorem dX10_isAnchor_1 : decode cX10_isAnchor 1 = .ok (.iconst 1, 1) := by decide +kernel
theorem dX10_isAnchor_2 : decode cX10_isAnchor 2 = .ok (.if_icmp .lt 13, 3) := by decide +kernel
theorem dX10_isAnchor_5 : decode cX10_isAnchor 5 = .ok (.iload_n 0, 1) := by decide +kernel
theorem dX10_isAnchor_6 : decode cX10_isAnchor 6 = .ok (.bipush 31, 2) := by decide +kernel
theorem dX10_isAnchor_8 : decode cX10_isAnchor 8 = .ok (.if_icmp .gt 7, 3) := by decide +kernel
theorem dX10_isAnchor_11 : decode cX10_isAnchor 11 = .ok (.iconst 1, 1) := by decide +kernel
theorem dX10_isAnchor_12 : decode cX10_isAnchor 12 = .ok (.goto 4, 3) := by decide +kernel
theorem dX10_isAnchor_15 : decode cX10_isAnchor 15 = .ok (.iconst 0, 1) := by decide +kernel
theorem dX10_isAnchor_16 : decode cX10_isAnchor 16 = .ok (.ireturn, 1) := by decide +kernel
theorem dX10_isDay_0 : decode cX10_isDay 0 = .ok (.iload_n 0, 1) := by decide +kernel
theorem dX10_isDay_1 : decode cX10_isDay 1 = .ok (.ifCond .lt 14, 3) := by decide +kernel
theorem dX10_isDay_4 : decode cX10_isDay 4 = .ok (.iload_n 0, 1) := by decide +kernel
theorem dX10_isDay_5 : decode cX10_isDay 5 = .ok (.sipush 3652, 3) := by decide +kernel
theorem dX10_isDay_8 : decode cX10_isDay 8 = .ok (.if_icmp .gt 7, 3) := by decide +kernel
theorem dX10_isDay_11 : decode cX10_isDay 11 = .ok (.iconst 1, 1) := by decide +kernel
theorem dX10_isDay_12 : decode cX10_isDay 12 = .ok (.goto 4, 3) := by decide +kernel
theorem dX10_isDay_15 : decode cX10_isDay 15 = .ok (.iconst 0, 1) := by decide +kernel
theorem dX10_isDay_16 : decode cX10_isDay 16 = .ok (.ireturn, 1) := by decide +kernel
theorem dX10_areUnits_0 : decode cX10_areUnits 0 = .ok (.iload_n 0, 1) := by decide +kernel
theorem dX10_areUnits_1 : decode cX10_areUnits 1 = .ok (.ifCond .lt 14, 3) := by decide +kernel
theorem dX10_areUnits_4 : decode cX10_areUnits 4 = .ok (.iload_n 0, 1) := by decide +kernel
theorem dX10_areUnits_5 : decode cX10_areUnits 5 = .ok (.sipush 9999, 3) := by decide +kernel
theorem dX10_areUnits_8 : decode cX10_areUnits 8 = .ok (.if_icmp .gt 7, 3) := by decide +kernel
theorem dX10_areUnits_11 : decode cX10_areUnits 11 = .ok (.iconst 1, 1) := by decide +kernel
theorem dX10_areUnits_12 : decode cX10_areUnits 12 = .ok (.goto 4, 3) := by decide +kernel
theorem dX10_areUnits_15 : decode cX10_areUnits 15 = .ok (.iconst 0, 1) := by decide +kernel
theorem dX10_areUnits_16 : decode cX10_areUnits 16 = .ok (.ireturn, 1) := by decide +kernel
theorem dX10_tellOf_0 : decode cX10_tellOf 0 = .ok (.iload_n 2, 1) := by decide +kernel
theorem dX10_tellOf_1 : decode cX10_tellOf 1 = .ok (.ifCond .lt 20, 3) := by decide +kernel
theorem dX10_tellOf_4 : decode cX10_tellOf 4 = .ok (.iload_n 2, 1) := by decide +kernel
theorem dX10_tellOf_5 : decode cX10_tellOf 5 = .ok (.iload_n 1, 1) := by decide +kernel
theorem dX10_tellOf_6 : decode cX10_tellOf 6 = .ok (.if_icmp .ge 15, 3) := by decide +kernel
theorem dX10_tellOf_9 : decode cX10_tellOf 9 = .ok (.iload_n 2, 1) := by decide +kernel
theorem dX10_tellOf_10 : decode cX10_tellOf 10 = .ok (.aload_n 0, 1) := by decide +kernel
theorem dX10_tellOf_11 : decode cX10_tellOf 11 = .ok (.arraylength, 1) := by decide +kernel
theorem dX10_tellOf_12 : decode cX10_tellOf 12 = .ok (.if_icmp .ge 9, 3) := by decide +kernel
theorem dX10_tellOf_15 : decode cX10_tellOf 15 = .ok (.aload_n 0, 1) := by decide +kernel
theorem dX10_tellOf_16 : decode cX10_tellOf 16 = .ok (.iload_n 2, 1) := by decide +kernel
theorem dX10_tellOf_17 : decode cX10_tellOf 17 = .ok (.iaload, 1) := by decide +kernel
theorem dX10_tellOf_18 : decode cX10_tellOf 18 = .ok (.goto 5, 3) := by decide +kernel
theorem dX10_tellOf_21 : decode cX10_tellOf 21 = .ok (.bipush (-2), 2) := by decide +kernel
theorem dX10_tellOf_23 : decode cX10_tellOf 23 = .ok (.ireturn, 1) := by decide +kernel
theorem dX11_init_0 : decode cX11_init 0 = .ok (.aload_n 0, 1) := by decide +kernel
theorem dX11_init_1 : decode cX11_init 1 = .ok (.invokespecial 1, 3) := by decide +kernel
theorem dX11_init_4 : decode cX11_init 4 = .ok (.aload_n 0, 1) := by decide +kernel
theorem dX11_init_5 : decode cX11_init 5 = .ok (.bipush 127, 2) := by decide +kernel
theorem dX11_init_7 : decode cX11_init 7 = .ok (.newarray .int, 2) := by decide +kernel
theorem dX11_init_9 : decode cX11_init 9 = .ok (.putfield 7, 3) := by decide +kernel
theorem dX11_init_12 : decode cX11_init 12 = .ok (.aload_n 0, 1) := by decide +kernel
theorem dX11_init_13 : decode cX11_init 13 = .ok (.sipush 12750, 3) := by decide +kernel
theorem dX11_init_16 : decode cX11_init 16 = .ok (.newarray .int, 2) := by decide +kernel
theorem dX11_init_18 : decode cX11_init 18 = .ok (.putfield 13, 3) := by decide +kernel
theorem dX11_init_21 : decode cX11_init 21 = .ok (.aload_n 0, 1) := by decide +kernel
theorem dX11_init_22 : decode cX11_init 22 = .ok (.sipush 400, 3) := by decide +kernel
theorem dX11_init_25 : decode cX11_init 25 = .ok (.newarray .byte, 2) := by decide +kernel
theorem dX11_init_27 : decode cX11_init 27 = .ok (.putfield 16, 3) := by decide +kernel
theorem dX11_init_30 : decode cX11_init 30 = .ok (.aload_n 0, 1) := by decide +kernel
theorem dX11_init_31 : decode cX11_init 31 = .ok (.sipush 164, 3) := by decide +kernel
theorem dX11_init_34 : decode cX11_init 34 = .ok (.newarray .int, 2) := by decide +kernel
theorem dX11_init_36 : decode cX11_init 36 = .ok (.putfield 20, 3) := by decide +kernel
theorem dX11_init_39 : decode cX11_init 39 = .ok (.aload_n 0, 1) := by decide +kernel
theorem dX11_init_40 : decode cX11_init 40 = .ok (.bipush 24, 2) := by decide +kernel
theorem dX11_init_42 : decode cX11_init 42 = .ok (.newarray .long, 2) := by decide +kernel
theorem dX11_init_44 : decode cX11_init 44 = .ok (.putfield 23, 3) := by decide +kernel
theorem dX11_init_47 : decode cX11_init 47 = .ok (.aload_n 0, 1) := by decide +kernel
theorem dX11_init_48 : decode cX11_init 48 = .ok (.bipush 24, 2) := by decide +kernel
theorem dX11_init_50 : decode cX11_init 50 = .ok (.newarray .int, 2) := by decide +kernel
theorem dX11_init_52 : decode cX11_init 52 = .ok (.putfield 27, 3) := by decide +kernel
theorem dX11_init_55 : decode cX11_init 55 = .ok (.aload_n 0, 1) := by decide +kernel
theorem dX11_init_56 : decode cX11_init 56 = .ok (.bipush 24, 2) := by decide +kernel
theorem dX11_init_58 : decode cX11_init 58 = .ok (.newarray .int, 2) := by decide +kernel
theorem dX11_init_60 : decode cX11_init 60 = .ok (.putfield 30, 3) := by decide +kernel
theorem dX11_init_63 : decode cX11_init 63 = .ok (.aload_n 0, 1) := by decide +kernel
theorem dX11_init_64 : decode cX11_init 64 = .ok (.bipush 24, 2) := by decide +kernel
theorem dX11_init_66 : decode cX11_init 66 = .ok (.newarray .int, 2) := by decide +kernel
theorem dX11_init_68 : decode cX11_init 68 = .ok (.putfield 33, 3) := by decide +kernel
theorem dX11_init_71 : decode cX11_init 71 = .ok (.aload_n 0, 1) := by decide +kernel
theorem dX11_init_72 : decode cX11_init 72 = .ok (.bipush 80, 2) := by decide +kernel
theorem dX11_init_74 : decode cX11_init 74 = .ok (.newarray .byte, 2) := by decide +kernel
theorem dX11_init_76 : decode cX11_init 76 = .ok (.putfield 36, 3) := by decide +kernel
theorem dX11_init_79 : decode cX11_init 79 = .ok (.aload_n 0, 1) := by decide +kernel
theorem dX11_init_80 : decode cX11_init 80 = .ok (.sipush 400, 3) := by decide +kernel
theorem dX11_init_83 : decode cX11_init 83 = .ok (.newarray .int, 2) := by decide +kernel
theorem dX11_init_85 : decode cX11_init 85 = .ok (.putfield 39, 3) := by decide +kernel
theorem dX11_init_88 : decode cX11_init 88 = .ok (.bipush (-31), 2) := by decide +kernel
theorem dX11_init_90 : decode cX11_init 90 = .ok (.istore_n 1, 1) := by decide +kernel
theorem dX11_init_91 : decode cX11_init 91 = .ok (.iconst 0, 1) := by decide +kernel
theorem dX11_init_92 : decode cX11_init 92 = .ok (.istore_n 2, 1) := by decide +kernel
theorem dX11_init_93 : decode cX11_init 93 = .ok (.iload_n 2, 1) := by decide +kernel
theorem dX11_init_94 : decode cX11_init 94 = .ok (.bipush 127, 2) := by decide +kernel
theorem dX11_init_96 : decode cX11_init 96 = .ok (.if_icmp .ge 23, 3) := by decide +kernel
theorem dX11_init_99 : decode cX11_init 99 = .ok (.aload_n 0, 1) := by decide +kernel
theorem dX11_init_100 : decode cX11_init 100 = .ok (.getfield 7, 3) := by decide +kernel
theorem dX11_init_103 : decode cX11_init 103 = .ok (.iload_n 2, 1) := by decide +kernel
theorem dX11_init_104 : decode cX11_init 104 = .ok (.iload_n 1, 1) := by decide +kernel
theorem dX11_init_105 : decode cX11_init 105 = .ok (.iastore, 1) := by decide +kernel
theorem dX11_init_106 : decode cX11_init 106 = .ok (.iload_n 1, 1) := by decide +kernel
theorem dX11_init_107 : decode cX11_init 107 = .ok (.iload_n 2, 1) := by decide +kernel
theorem dX11_init_108 : decode cX11_init 108 = .ok (.invokestatic 42, 3) := by decide +kernel
theorem dX11_init_111 : decode cX11_init 111 = .ok (.iadd, 1) := by decide +kernel
theorem dX11_init_112 : decode cX11_init 112 = .ok (.istore_n 1, 1) := by decide +kernel
theorem dX11_init_113 : decode cX11_init 113 = .ok (.iinc 2 1, 3) := by decide +kernel
theorem dX11_init_116 : decode cX11_init 116 = .ok (.goto (-23), 3) := by decide +kernel
theorem dX11_init_119 : decode cX11_init 119 = .ok (.return_, 1) := by decide +kernel
theorem dX11_in_0 : decode cX11_in 0 = .ok (.iload_n 0, 1) := by decide +kernel
theorem dX11_in_1 : decode cX11_in 1 = .ok (.iload_n 1, 1) := by decide +kernel
theorem dX11_in_2 : decode cX11_in 2 = .ok (.if_icmp .lt 12, 3) := by decide +kernel
theorem dX11_in_5 : decode cX11_in 5 = .ok (.iload_n 0, 1) := by decide +kernel
theorem dX11_in_6 : decode cX11_in 6 = .ok (.iload_n 2, 1) := by decide +kernel
theorem dX11_in_7 : decode cX11_in 7 = .ok (.if_icmp .gt 7, 3) := by decide +kernel
theorem dX11_in_10 : decode cX11_in 10 = .ok (.iconst 1, 1) := by decide +kernel
theorem dX11_in_11 : decode cX11_in 11 = .ok (.goto 4, 3) := by decide +kernel
theorem dX11_in_14 : decode cX11_in 14 = .ok (.iconst 0, 1) := by decide +kernel
theorem dX11_in_15 : decode cX11_in 15 = .ok (.ireturn, 1) := by decide +kernel
theorem dX11_min_0 : decode cX11_min 0 = .ok (.iload_n 0, 1) := by decide +kernel
theorem dX11_min_1 : decode cX11_min 1 = .ok (.iload_n 1, 1) := by decide +kernel
theorem dX11_min_2 : decode cX11_min 2 = .ok (.if_icmp .ge 7, 3) := by decide +kernel
theorem dX11_min_5 : decode cX11_min 5 = .ok (.iload_n 0, 1) := by decide +kernel
theorem dX11_min_6 : decode cX11_min 6 = .ok (.goto 4, 3) := by decide +kernel
theorem dX11_min_9 : decode cX11_min 9 = .ok (.iload_n 1, 1) := by decide +kernel
theorem dX11_min_10 : decode cX11_min 10 = .ok (.ireturn, 1) := by decide +kernel
theorem dX11_max_0 : decode cX11_max 0 = .ok (.iload_n 0, 1) := by decide +kernel
theorem dX11_max_1 : decode cX11_max 1 = .ok (.iload_n 1, 1) := by decide +kernel
theorem dX11_max_2 : decode cX11_max 2 = .ok (.if_icmp .le 7, 3) := by decide +kernel
theorem dX11_max_5 : decode cX11_max 5 = .ok (.iload_n 0, 1) := by decide +kernel
theorem dX11_max_6 : decode cX11_max 6 = .ok (.goto 4, 3) := by decide +kernel
theorem dX11_max_9 : decode cX11_max 9 = .ok (.iload_n 1, 1) := by decide +kernel
theorem dX11_max_10 : decode cX11_max 10 = .ok (.ireturn, 1) := by decide +kernel
theorem dX11_copies_0 : decode cX11_copies 0 = .ok (.iconst 0, 1) := by decide +kernel
theorem dX11_copies_1 : decode cX11_copies 1 = .ok (.istore_n 3, 1) := by decide +kernel
theorem dX11_copies_2 : decode cX11_copies 2 = .ok (.iload_n 3, 1) := by decide +kernel
theorem dX11_copies_3 : decode cX11_copies 3 = .ok (.sipush 4250, 3) := by decide +kernel
theorem dX11_copies_6 : decode cX11_copies 6 = .ok (.if_icmp .ge 33, 3) := by decide +kernel
theorem dX11_copies_9 : decode cX11_copies 9 = .ok (.aload_n 0, 1) := by decide +kernel
theorem dX11_copies_10 : decode cX11_copies 10 = .ok (.getfield 13, 3) := by decide +kernel
theorem dX11_copies_13 : decode cX11_copies 13 = .ok (.sipush 4250, 3) := by decide +kernel
theorem dX11_copies_16 : decode cX11_copies 16 = .ok (.iload_n 2, 1) := by decide +kernel
theorem dX11_copies_17 : decode cX11_copies 17 = .ok (.imul, 1) := by decide +kernel
theorem dX11_copies_18 : decode cX11_copies 18 = .ok (.iload_n 3, 1) := by decide +kernel
theorem dX11_copies_19 : decode cX11_copies 19 = .ok (.iadd, 1) := by decide +kernel
theorem dX11_copies_20 : decode cX11_copies 20 = .ok (.aload_n 0, 1) := by decide +kernel
theorem dX11_copies_21 : decode cX11_copies 21 = .ok (.getfield 13, 3) := by decide +kernel
theorem dX11_copies_24 : decode cX11_copies 24 = .ok (.sipush 4250, 3) := by decide +kernel
theorem dX11_copies_27 : decode cX11_copies 27 = .ok (.iload_n 1, 1) := by decide +kernel
theorem dX11_copies_28 : decode cX11_copies 28 = .ok (.imul, 1) := by decide +kernel
theorem dX11_copies_29 : decode cX11_copies 29 = .ok (.iload_n 3, 1) := by decide +kernel
theorem dX11_copies_30 : decode cX11_copies 30 = .ok (.iadd, 1) := by decide +kernel
theorem dX11_copies_31 : decode cX11_copies 31 = .ok (.iaload, 1) := by decide +kernel
theorem dX11_copies_32 : decode cX11_copies 32 = .ok (.iastore, 1) := by decide +kernel
theorem dX11_copies_33 : decode cX11_copies 33 = .ok (.iinc 3 1, 3) := by decide +kernel
theorem dX11_copies_36 : decode cX11_copies 36 = .ok (.goto (-34), 3) := by decide +kernel
theorem dX11_copies_39 : decode cX11_copies 39 = .ok (.return_, 1) := by decide +kernel
theorem dX11_lengthOf_0 : decode cX11_lengthOf 0 = .ok (.iload_n 0, 1) := by decide +kernel
theorem dX11_lengthOf_1 : decode cX11_lengthOf 1 = .ok (.bipush 11, 2) := by decide +kernel
theorem dX11_lengthOf_3 : decode cX11_lengthOf 3 = .ok (.iadd, 1) := by decide +kernel
theorem dX11_lengthOf_4 : decode cX11_lengthOf 4 = .ok (.bipush 12, 2) := by decide +kernel
theorem dX11_lengthOf_6 : decode cX11_lengthOf 6 = .ok (.irem, 1) := by decide +kernel
theorem dX11_lengthOf_7 : decode cX11_lengthOf 7 = .ok (.iconst 1, 1) := by decide +kernel
theorem dX11_lengthOf_8 : decode cX11_lengthOf 8 = .ok (.iadd, 1) := by decide +kernel
theorem dX11_lengthOf_9 : decode cX11_lengthOf 9 = .ok (.istore_n 1, 1) := by decide +kernel
theorem dX11_lengthOf_10 : decode cX11_lengthOf 10 = .ok (.iload_n 1, 1) := by decide +kernel
theorem dX11_lengthOf_11 : decode cX11_lengthOf 11 = .ok (.iconst 2, 1) := by decide +kernel
theorem dX11_lengthOf_12 : decode cX11_lengthOf 12 = .ok (.if_icmp .ne 24, 3) := by decide +kernel
theorem dX11_lengthOf_15 : decode cX11_lengthOf 15 = .ok (.iload_n 0, 1) := by decide +kernel
theorem dX11_lengthOf_16 : decode cX11_lengthOf 16 = .ok (.bipush 11, 2) := by decide +kernel
theorem dX11_lengthOf_18 : decode cX11_lengthOf 18 = .ok (.iadd, 1) := by decide +kernel
theorem dX11_lengthOf_19 : decode cX11_lengthOf 19 = .ok (.bipush 12, 2) := by decide +kernel
theorem dX11_lengthOf_21 : decode cX11_lengthOf 21 = .ok (.idiv, 1) := by decide +kernel
theorem dX11_lengthOf_22 : decode cX11_lengthOf 22 = .ok (.iconst 4, 1) := by decide +kernel
theorem dX11_lengthOf_23 : decode cX11_lengthOf 23 = .ok (.irem, 1) := by decide +kernel
theorem dX11_lengthOf_24 : decode cX11_lengthOf 24 = .ok (.iconst 1, 1) := by decide +kernel
theorem dX11_lengthOf_25 : decode cX11_lengthOf 25 = .ok (.if_icmp .ne 8, 3) := by decide +kernel
theorem dX11_lengthOf_28 : decode cX11_lengthOf 28 = .ok (.bipush 29, 2) := by decide +kernel
theorem dX11_lengthOf_30 : decode cX11_lengthOf 30 = .ok (.goto 5, 3) := by decide +kernel
theorem dX11_lengthOf_33 : decode cX11_lengthOf 33 = .ok (.bipush 28, 2) := by decide +kernel
theorem dX11_lengthOf_35 : decode cX11_lengthOf 35 = .ok (.ireturn, 1) := by decide +kernel
theorem dX11_lengthOf_36 : decode cX11_lengthOf 36 = .ok (.iload_n 1, 1) := by decide +kernel
theorem dX11_lengthOf_37 : decode cX11_lengthOf 37 = .ok (.iconst 4, 1) := by decide +kernel
theorem dX11_lengthOf_38 : decode cX11_lengthOf 38 = .ok (.if_icmp .eq 21, 3) := by decide +kernel
theorem dX11_lengthOf_41 : decode cX11_lengthOf 41 = .ok (.iload_n 1, 1) := by decide +kernel
theorem dX11_lengthOf_42 : decode cX11_lengthOf 42 = .ok (.bipush 6, 2) := by decide +kernel
theorem dX11_lengthOf_44 : decode cX11_lengthOf 44 = .ok (.if_icmp .eq 15, 3) := by decide +kernel
theorem dX11_lengthOf_47 : decode cX11_lengthOf 47 = .ok (.iload_n 1, 1) := by decide +kernel
theorem dX11_lengthOf_48 : decode cX11_lengthOf 48 = .ok (.bipush 9, 2) := by decide +kernel
theorem dX11_lengthOf_50 : decode cX11_lengthOf 50 = .ok (.if_icmp .eq 9, 3) := by decide +kernel
theorem dX11_lengthOf_53 : decode cX11_lengthOf 53 = .ok (.iload_n 1, 1) := by decide +kernel
theorem dX11_lengthOf_54 : decode cX11_lengthOf 54 = .ok (.bipush 11, 2) := by decide +kernel
theorem dX11_lengthOf_56 : decode cX11_lengthOf 56 = .ok (.if_icmp .ne 8, 3) := by decide +kernel
theorem dX11_lengthOf_59 : decode cX11_lengthOf 59 = .ok (.bipush 30, 2) := by decide +kernel
theorem dX11_lengthOf_61 : decode cX11_lengthOf 61 = .ok (.goto 5, 3) := by decide +kernel
theorem dX11_lengthOf_64 : decode cX11_lengthOf 64 = .ok (.bipush 31, 2) := by decide +kernel
theorem dX11_lengthOf_66 : decode cX11_lengthOf 66 = .ok (.ireturn, 1) := by decide +kernel
theorem dX11_monthOf_0 : decode cX11_monthOf 0 = .ok (.iconst 0, 1) := by decide +kernel
theorem dX11_monthOf_1 : decode cX11_monthOf 1 = .ok (.istore_n 2, 1) := by decide +kernel
theorem dX11_monthOf_2 : decode cX11_monthOf 2 = .ok (.aload_n 0, 1) := by decide +kernel
theorem dX11_monthOf_3 : decode cX11_monthOf 3 = .ok (.getfield 7, 3) := by decide +kernel
theorem dX11_monthOf_6 : decode cX11_monthOf 6 = .ok (.iload_n 2, 1) := by decide +kernel
theorem dX11_monthOf_7 : decode cX11_monthOf 7 = .ok (.iconst 1, 1) := by decide +kernel
theorem dX11_monthOf_8 : decode cX11_monthOf 8 = .ok (.iadd, 1) := by decide +kernel
theorem dX11_monthOf_9 : decode cX11_monthOf 9 = .ok (.iaload, 1) := by decide +kernel
theorem dX11_monthOf_10 : decode cX11_monthOf 10 = .ok (.iload_n 1, 1) := by decide +kernel
theorem dX11_monthOf_11 : decode cX11_monthOf 11 = .ok (.if_icmp .gt 10, 3) := by decide +kernel
theorem dX11_monthOf_14 : decode cX11_monthOf 14 = .ok (.iload_n 2, 1) := by decide +kernel
theorem dX11_monthOf_15 : decode cX11_monthOf 15 = .ok (.iconst 1, 1) := by decide +kernel
theorem dX11_monthOf_16 : decode cX11_monthOf 16 = .ok (.iadd, 1) := by decide +kernel
theorem dX11_monthOf_17 : decode cX11_monthOf 17 = .ok (.istore_n 2, 1) := by decide +kernel
theorem dX11_monthOf_18 : decode cX11_monthOf 18 = .ok (.goto (-16), 3) := by decide +kernel
theorem dX11_monthOf_21 : decode cX11_monthOf 21 = .ok (.iload_n 2, 1) := by decide +kernel
theorem dX11_monthOf_22 : decode cX11_monthOf 22 = .ok (.ireturn, 1) := by decide +kernel
theorem dX11_turnIn_0 : decode cX11_turnIn 0 = .ok (.aload_n 0, 1) := by decide +kernel
theorem dX11_turnIn_1 : decode cX11_turnIn 1 = .ok (.getfield 7, 3) := by decide +kernel
theorem dX11_turnIn_4 : decode cX11_turnIn 4 = .ok (.iload_n 1, 1) := by decide +kernel
theorem dX11_turnIn_5 : decode cX11_turnIn 5 = .ok (.iaload, 1) := by decide +kernel
theorem dX11_turnIn_6 : decode cX11_turnIn 6 = .ok (.iload_n 2, 1) := by decide +kernel
theorem dX11_turnIn_7 : decode cX11_turnIn 7 = .ok (.aload_n 0, 1) := by decide +kernel
theorem dX11_turnIn_8 : decode cX11_turnIn 8 = .ok (.getfield 7, 3) := by decide +kernel
theorem dX11_turnIn_11 : decode cX11_turnIn 11 = .ok (.iload_n 1, 1) := by decide +kernel
theorem dX11_turnIn_12 : decode cX11_turnIn 12 = .ok (.iconst 1, 1) := by decide +kernel
theorem dX11_turnIn_13 : decode cX11_turnIn 13 = .ok (.iadd, 1) := by decide +kernel
theorem dX11_turnIn_14 : decode cX11_turnIn 14 = .ok (.iaload, 1) := by decide +kernel
theorem dX11_turnIn_15 : decode cX11_turnIn 15 = .ok (.aload_n 0, 1) := by decide +kernel
theorem dX11_turnIn_16 : decode cX11_turnIn 16 = .ok (.getfield 7, 3) := by decide +kernel
theorem dX11_turnIn_19 : decode cX11_turnIn 19 = .ok (.iload_n 1, 1) := by decide +kernel
theorem dX11_turnIn_20 : decode cX11_turnIn 20 = .ok (.iaload, 1) := by decide +kernel
theorem dX11_turnIn_21 : decode cX11_turnIn 21 = .ok (.isub, 1) := by decide +kernel
theorem dX11_turnIn_22 : decode cX11_turnIn 22 = .ok (.invokestatic 46, 3) := by decide +kernel
theorem dX11_turnIn_25 : decode cX11_turnIn 25 = .ok (.iadd, 1) := by decide +kernel
theorem dX11_turnIn_26 : decode cX11_turnIn 26 = .ok (.iconst 1, 1) := by decide +kernel
theorem dX11_turnIn_27 : decode cX11_turnIn 27 = .ok (.isub, 1) := by decide +kernel
theorem dX11_turnIn_28 : decode cX11_turnIn 28 = .ok (.ireturn, 1) := by decide +kernel
theorem dX11_lastTurn_0 : decode cX11_lastTurn 0 = .ok (.aload_n 0, 1) := by decide +kernel
theorem dX11_lastTurn_1 : decode cX11_lastTurn 1 = .ok (.iload_n 2, 1) := by decide +kernel
theorem dX11_lastTurn_2 : decode cX11_lastTurn 2 = .ok (.invokevirtual 50, 3) := by decide +kernel
theorem dX11_lastTurn_5 : decode cX11_lastTurn 5 = .ok (.istore_n 3, 1) := by decide +kernel
theorem dX11_lastTurn_6 : decode cX11_lastTurn 6 = .ok (.aload_n 0, 1) := by decide +kernel
theorem dX11_lastTurn_7 : decode cX11_lastTurn 7 = .ok (.iload_n 3, 1) := by decide +kernel
theorem dX11_lastTurn_8 : decode cX11_lastTurn 8 = .ok (.iload_n 1, 1) := by decide +kernel
theorem dX11_lastTurn_9 : decode cX11_lastTurn 9 = .ok (.invokevirtual 53, 3) := by decide +kernel
theorem dX11_lastTurn_12 : decode cX11_lastTurn 12 = .ok (.iload_n 2, 1) := by decide +kernel
theorem dX11_lastTurn_13 : decode cX11_lastTurn 13 = .ok (.if_icmp .gt 12, 3) := by decide +kernel
theorem dX11_lastTurn_16 : decode cX11_lastTurn 16 = .ok (.aload_n 0, 1) := by decide +kernel
theorem dX11_lastTurn_17 : decode cX11_lastTurn 17 = .ok (.iload_n 3, 1) := by decide +kernel
theorem dX11_lastTurn_18 : decode cX11_lastTurn 18 = .ok (.iload_n 1, 1) := by decide +kernel
theorem dX11_lastTurn_19 : decode cX11_lastTurn 19 = .ok (.invokevirtual 53, 3) := by decide +kernel
theorem dX11_lastTurn_22 : decode cX11_lastTurn 22 = .ok (.goto 11, 3) := by decide +kernel
theorem dX11_lastTurn_25 : decode cX11_lastTurn 25 = .ok (.aload_n 0, 1) := by decide +kernel
theorem dX11_lastTurn_26 : decode cX11_lastTurn 26 = .ok (.iload_n 3, 1) := by decide +kernel
theorem dX11_lastTurn_27 : decode cX11_lastTurn 27 = .ok (.iconst 1, 1) := by decide +kernel
theorem dX11_lastTurn_28 : decode cX11_lastTurn 28 = .ok (.isub, 1) := by decide +kernel
theorem dX11_lastTurn_29 : decode cX11_lastTurn 29 = .ok (.iload_n 1, 1) := by decide +kernel
theorem dX11_lastTurn_30 : decode cX11_lastTurn 30 = .ok (.invokevirtual 53, 3) := by decide +kernel
theorem dX11_lastTurn_33 : decode cX11_lastTurn 33 = .ok (.ireturn, 1) := by decide +kernel
theorem dX11_nextTurn_0 : decode cX11_nextTurn 0 = .ok (.aload_n 0, 1) := by decide +kernel
theorem dX11_nextTurn_1 : decode cX11_nextTurn 1 = .ok (.iload_n 2, 1) := by decide +kernel
theorem dX11_nextTurn_2 : decode cX11_nextTurn 2 = .ok (.invokevirtual 50, 3) := by decide +kernel
theorem dX11_nextTurn_5 : decode cX11_nextTurn 5 = .ok (.istore_n 3, 1) := by decide +kernel
theorem dX11_nextTurn_6 : decode cX11_nextTurn 6 = .ok (.aload_n 0, 1) := by decide +kernel
theorem dX11_nextTurn_7 : decode cX11_nextTurn 7 = .ok (.iload_n 3, 1) := by decide +kernel
theorem dX11_nextTurn_8 : decode cX11_nextTurn 8 = .ok (.iload_n 1, 1) := by decide +kernel
theorem dX11_nextTurn_9 : decode cX11_nextTurn 9 = .ok (.invokevirtual 53, 3) := by decide +kernel
theorem dX11_nextTurn_12 : decode cX11_nextTurn 12 = .ok (.iload_n 2, 1) := by decide +kernel
theorem dX11_nextTurn_13 : decode cX11_nextTurn 13 = .ok (.if_icmp .le 12, 3) := by decide +kernel
theorem dX11_nextTurn_16 : decode cX11_nextTurn 16 = .ok (.aload_n 0, 1) := by decide +kernel
theorem dX11_nextTurn_17 : decode cX11_nextTurn 17 = .ok (.iload_n 3, 1) := by decide +kernel
theorem dX11_nextTurn_18 : decode cX11_nextTurn 18 = .ok (.iload_n 1, 1) := by decide +kernel
theorem dX11_nextTurn_19 : decode cX11_nextTurn 19 = .ok (.invokevirtual 53, 3) := by decide +kernel
theorem dX11_nextTurn_22 : decode cX11_nextTurn 22 = .ok (.goto 11, 3) := by decide +kernel
theorem dX11_nextTurn_25 : decode cX11_nextTurn 25 = .ok (.aload_n 0, 1) := by decide +kernel
theorem dX11_nextTurn_26 : decode cX11_nextTurn 26 = .ok (.iload_n 3, 1) := by decide +kernel
theorem dX11_nextTurn_27 : decode cX11_nextTurn 27 = .ok (.iconst 1, 1) := by decide +kernel
theorem dX11_nextTurn_28 : decode cX11_nextTurn 28 = .ok (.iadd, 1) := by decide +kernel
theorem dX11_nextTurn_29 : decode cX11_nextTurn 29 = .ok (.iload_n 1, 1) := by decide +kernel
theorem dX11_nextTurn_30 : decode cX11_nextTurn 30 = .ok (.invokevirtual 53, 3) := by decide +kernel
theorem dX11_nextTurn_33 : decode cX11_nextTurn 33 = .ok (.ireturn, 1) := by decide +kernel
theorem dX11_isDay_0 : decode cX11_isDay 0 = .ok (.iload_n 0, 1) := by decide +kernel
theorem dX11_isDay_1 : decode cX11_isDay 1 = .ok (.iconst 0, 1) := by decide +kernel
theorem dX11_isDay_2 : decode cX11_isDay 2 = .ok (.sipush 3652, 3) := by decide +kernel
theorem dX11_isDay_5 : decode cX11_isDay 5 = .ok (.invokestatic 56, 3) := by decide +kernel
theorem dX11_isDay_8 : decode cX11_isDay 8 = .ok (.ireturn, 1) := by decide +kernel
theorem dX11_isAnchor_0 : decode cX11_isAnchor 0 = .ok (.iload_n 0, 1) := by decide +kernel
theorem dX11_isAnchor_1 : decode cX11_isAnchor 1 = .ok (.iconst 1, 1) := by decide +kernel
theorem dX11_isAnchor_2 : decode cX11_isAnchor 2 = .ok (.bipush 31, 2) := by decide +kernel
theorem dX11_isAnchor_4 : decode cX11_isAnchor 4 = .ok (.invokestatic 56, 3) := by decide +kernel
theorem dX11_isAnchor_7 : decode cX11_isAnchor 7 = .ok (.ireturn, 1) := by decide +kernel
theorem dX11_span_0 : decode cX11_span 0 = .ok (.iload_n 1, 1) := by decide +kernel
theorem dX11_span_1 : decode cX11_span 1 = .ok (.invokestatic 60, 3) := by decide +kernel
theorem dX11_span_4 : decode cX11_span 4 = .ok (.ifCond .eq 19, 3) := by decide +kernel
theorem dX11_span_7 : decode cX11_span 7 = .ok (.iload_n 2, 1) := by decide +kernel
theorem dX11_span_8 : decode cX11_span 8 = .ok (.invokestatic 64, 3) := by decide +kernel
theorem dX11_span_11 : decode cX11_span 11 = .ok (.ifCond .eq 12, 3) := by decide +kernel
theorem dX11_span_14 : decode cX11_span 14 = .ok (.iload_n 3, 1) := by decide +kernel
theorem dX11_span_15 : decode cX11_span 15 = .ok (.iconst 0, 1) := by decide +kernel
theorem dX11_span_16 : decode cX11_span 16 = .ok (.iconst 2, 1) := by decide +kernel
theorem dX11_span_17 : decode cX11_span 17 = .ok (.invokestatic 56, 3) := by decide +kernel
theorem dX11_span_20 : decode cX11_span 20 = .ok (.ifCond .ne 5, 3) := by decide +kernel
theorem dX11_span_23 : decode cX11_span 23 = .ok (.iconst (-1), 1) := by decide +kernel
theorem dX11_span_24 : decode cX11_span 24 = .ok (.ireturn, 1) := by decide +kernel
theorem dX11_span_25 : decode cX11_span 25 = .ok (.aload_n 0, 1) := by decide +kernel
theorem dX11_span_26 : decode cX11_span 26 = .ok (.iload_n 1, 1) := by decide +kernel
theorem dX11_span_27 : decode cX11_span 27 = .ok (.iload_n 2, 1) := by decide +kernel
theorem dX11_span_28 : decode cX11_span 28 = .ok (.invokevirtual 67, 3) := by decide +kernel
theorem dX11_span_31 : decode cX11_span 31 = .ok (.istore 4, 2) := by decide +kernel
theorem dX11_span_33 : decode cX11_span 33 = .ok (.aload_n 0, 1) := by decide +kernel
theorem dX11_span_34 : decode cX11_span 34 = .ok (.iload_n 1, 1) := by decide +kernel
theorem dX11_span_35 : decode cX11_span 35 = .ok (.iload_n 2, 1) := by decide +kernel
theorem dX11_span_36 : decode cX11_span 36 = .ok (.invokevirtual 70, 3) := by decide +kernel
theorem dX11_span_39 : decode cX11_span 39 = .ok (.istore 5, 2) := by decide +kernel
theorem dX11_span_41 : decode cX11_span 41 = .ok (.iload_n 3, 1) := by decide +kernel
theorem dX11_span_42 : decode cX11_span 42 = .ok (.ifCond .ne 18, 3) := by decide +kernel
theorem dX11_span_45 : decode cX11_span 45 = .ok (.iload 4, 2) := by decide +kernel
theorem dX11_span_47 : decode cX11_span 47 = .ok (.ifCond .ge 8, 3) := by decide +kernel
theorem dX11_span_50 : decode cX11_span 50 = .ok (.bipush (-2), 2) := by decide +kernel
theorem dX11_span_52 : decode cX11_span 52 = .ok (.goto 23, 3) := by decide +kernel
theorem dX11_span_55 : decode cX11_span 55 = .ok (.iload 4, 2) := by decide +kernel
theorem dX11_span_57 : decode cX11_span 57 = .ok (.goto 18, 3) := by decide +kernel
theorem dX11_span_60 : decode cX11_span 60 = .ok (.iload_n 3, 1) := by decide +kernel
theorem dX11_span_61 : decode cX11_span 61 = .ok (.iconst 1, 1) := by decide +kernel
theorem dX11_span_62 : decode cX11_span 62 = .ok (.if_icmp .ne 8, 3) := by decide +kernel
theorem dX11_span_65 : decode cX11_span 65 = .ok (.iload 5, 2) := by decide +kernel
theorem dX11_span_67 : decode cX11_span 67 = .ok (.goto 8, 3) := by decide +kernel
theorem dX11_span_70 : decode cX11_span 70 = .ok (.iload 5, 2) := by decide +kernel
theorem dX11_span_72 : decode cX11_span 72 = .ok (.iload 4, 2) := by decide +kernel
theorem dX11_span_74 : decode cX11_span 74 = .ok (.isub, 1) := by decide +kernel
theorem dX11_span_75 : decode cX11_span 75 = .ok (.ireturn, 1) := by decide +kernel
theorem dX11_yearOf_0 : decode cX11_yearOf 0 = .ok (.sipush 2023, 3) := by decide +kernel
theorem dX11_yearOf_3 : decode cX11_yearOf 3 = .ok (.iload_n 1, 1) := by decide +kernel
theorem dX11_yearOf_4 : decode cX11_yearOf 4 = .ok (.bipush 11, 2) := by decide +kernel
theorem dX11_yearOf_6 : decode cX11_yearOf 6 = .ok (.iadd, 1) := by decide +kernel
theorem dX11_yearOf_7 : decode cX11_yearOf 7 = .ok (.bipush 12, 2) := by decide +kernel
theorem dX11_yearOf_9 : decode cX11_yearOf 9 = .ok (.idiv, 1) := by decide +kernel
theorem dX11_yearOf_10 : decode cX11_yearOf 10 = .ok (.iadd, 1) := by decide +kernel
theorem dX11_yearOf_11 : decode cX11_yearOf 11 = .ok (.ireturn, 1) := by decide +kernel
theorem dX11_dateOf_0 : decode cX11_dateOf 0 = .ok (.aload_n 0, 1) := by decide +kernel
theorem dX11_dateOf_1 : decode cX11_dateOf 1 = .ok (.iload_n 1, 1) := by decide +kernel
theorem dX11_dateOf_2 : decode cX11_dateOf 2 = .ok (.invokevirtual 50, 3) := by decide +kernel
theorem dX11_dateOf_5 : decode cX11_dateOf 5 = .ok (.istore_n 3, 1) := by decide +kernel
theorem dX11_dateOf_6 : decode cX11_dateOf 6 = .ok (.iload_n 2, 1) := by decide +kernel
theorem dX11_dateOf_7 : decode cX11_dateOf 7 = .ok (.ifCond .ne 11, 3) := by decide +kernel
theorem dX11_dateOf_10 : decode cX11_dateOf 10 = .ok (.aload_n 0, 1) := by decide +kernel
theorem dX11_dateOf_11 : decode cX11_dateOf 11 = .ok (.iload_n 3, 1) := by decide +kernel
theorem dX11_dateOf_12 : decode cX11_dateOf 12 = .ok (.invokevirtual 73, 3) := by decide +kernel
theorem dX11_dateOf_15 : decode cX11_dateOf 15 = .ok (.goto 30, 3) := by decide +kernel
theorem dX11_dateOf_18 : decode cX11_dateOf 18 = .ok (.iload_n 2, 1) := by decide +kernel
theorem dX11_dateOf_19 : decode cX11_dateOf 19 = .ok (.iconst 1, 1) := by decide +kernel
theorem dX11_dateOf_20 : decode cX11_dateOf 20 = .ok (.if_icmp .ne 15, 3) := by decide +kernel
theorem dX11_dateOf_23 : decode cX11_dateOf 23 = .ok (.iload_n 3, 1) := by decide +kernel
theorem dX11_dateOf_24 : decode cX11_dateOf 24 = .ok (.bipush 11, 2) := by decide +kernel
theorem dX11_dateOf_26 : decode cX11_dateOf 26 = .ok (.iadd, 1) := by decide +kernel
theorem dX11_dateOf_27 : decode cX11_dateOf 27 = .ok (.bipush 12, 2) := by decide +kernel
theorem dX11_dateOf_29 : decode cX11_dateOf 29 = .ok (.irem, 1) := by decide +kernel
theorem dX11_dateOf_30 : decode cX11_dateOf 30 = .ok (.iconst 1, 1) := by decide +kernel
theorem dX11_dateOf_31 : decode cX11_dateOf 31 = .ok (.iadd, 1) := by decide +kernel
theorem dX11_dateOf_32 : decode cX11_dateOf 32 = .ok (.goto 13, 3) := by decide +kernel
theorem dX11_dateOf_35 : decode cX11_dateOf 35 = .ok (.iload_n 1, 1) := by decide +kernel
theorem dX11_dateOf_36 : decode cX11_dateOf 36 = .ok (.aload_n 0, 1) := by decide +kernel
theorem dX11_dateOf_37 : decode cX11_dateOf 37 = .ok (.getfield 7, 3) := by decide +kernel
theorem dX11_dateOf_40 : decode cX11_dateOf 40 = .ok (.iload_n 3, 1) := by decide +kernel
theorem dX11_dateOf_41 : decode cX11_dateOf 41 = .ok (.iaload, 1) := by decide +kernel
theorem dX11_dateOf_42 : decode cX11_dateOf 42 = .ok (.isub, 1) := by decide +kernel
theorem dX11_dateOf_43 : decode cX11_dateOf 43 = .ok (.iconst 1, 1) := by decide +kernel
theorem dX11_dateOf_44 : decode cX11_dateOf 44 = .ok (.iadd, 1) := by decide +kernel
theorem dX11_dateOf_45 : decode cX11_dateOf 45 = .ok (.ireturn, 1) := by decide +kernel
theorem dX11_date_0 : decode cX11_date 0 = .ok (.iload_n 1, 1) := by decide +kernel
theorem dX11_date_1 : decode cX11_date 1 = .ok (.invokestatic 64, 3) := by decide +kernel
theorem dX11_date_4 : decode cX11_date 4 = .ok (.ifCond .eq 21, 3) := by decide +kernel
theorem dX11_date_7 : decode cX11_date 7 = .ok (.iload_n 2, 1) := by decide +kernel
theorem dX11_date_8 : decode cX11_date 8 = .ok (.iconst 0, 1) := by decide +kernel
theorem dX11_date_9 : decode cX11_date 9 = .ok (.iconst 2, 1) := by decide +kernel
theorem dX11_date_10 : decode cX11_date 10 = .ok (.invokestatic 56, 3) := by decide +kernel
theorem dX11_date_13 : decode cX11_date 13 = .ok (.ifCond .eq 12, 3) := by decide +kernel
theorem dX11_date_16 : decode cX11_date 16 = .ok (.aload_n 0, 1) := by decide +kernel
theorem dX11_date_17 : decode cX11_date 17 = .ok (.iload_n 1, 1) := by decide +kernel
theorem dX11_date_18 : decode cX11_date 18 = .ok (.iload_n 2, 1) := by decide +kernel
theorem dX11_date_19 : decode cX11_date 19 = .ok (.invokevirtual 76, 3) := by decide +kernel
theorem dX11_date_22 : decode cX11_date 22 = .ok (.goto 4, 3) := by decide +kernel
theorem dX11_date_25 : decode cX11_date 25 = .ok (.iconst (-1), 1) := by decide +kernel
theorem dX11_date_26 : decode cX11_date 26 = .ok (.ireturn, 1) := by decide +kernel
theorem dX11_day_0 : decode cX11_day 0 = .ok (.iload_n 1, 1) := by decide +kernel
theorem dX11_day_1 : decode cX11_day 1 = .ok (.sipush 2024, 3) := by decide +kernel
theorem dX11_day_4 : decode cX11_day 4 = .ok (.sipush 2033, 3) := by decide +kernel
theorem dX11_day_7 : decode cX11_day 7 = .ok (.invokestatic 56, 3) := by decide +kernel
theorem dX11_day_10 : decode cX11_day 10 = .ok (.ifCond .eq 13, 3) := by decide +kernel
theorem dX11_day_13 : decode cX11_day 13 = .ok (.iload_n 2, 1) := by decide +kernel
theorem dX11_day_14 : decode cX11_day 14 = .ok (.iconst 1, 1) := by decide +kernel
theorem dX11_day_15 : decode cX11_day 15 = .ok (.bipush 12, 2) := by decide +kernel
theorem dX11_day_17 : decode cX11_day 17 = .ok (.invokestatic 56, 3) := by decide +kernel
theorem dX11_day_20 : decode cX11_day 20 = .ok (.ifCond .ne 5, 3) := by decide +kernel
theorem dX11_day_23 : decode cX11_day 23 = .ok (.iconst (-1), 1) := by decide +kernel
theorem dX11_day_24 : decode cX11_day 24 = .ok (.ireturn, 1) := by decide +kernel
theorem dX11_day_25 : decode cX11_day 25 = .ok (.bipush 12, 2) := by decide +kernel
theorem dX11_day_27 : decode cX11_day 27 = .ok (.iload_n 1, 1) := by decide +kernel
theorem dX11_day_28 : decode cX11_day 28 = .ok (.sipush 2024, 3) := by decide +kernel
theorem dX11_day_31 : decode cX11_day 31 = .ok (.isub, 1) := by decide +kernel
theorem dX11_day_32 : decode cX11_day 32 = .ok (.imul, 1) := by decide +kernel
theorem dX11_day_33 : decode cX11_day 33 = .ok (.iload_n 2, 1) := by decide +kernel
theorem dX11_day_34 : decode cX11_day 34 = .ok (.iadd, 1) := by decide +kernel
theorem dX11_day_35 : decode cX11_day 35 = .ok (.istore 4, 2) := by decide +kernel
theorem dX11_day_37 : decode cX11_day 37 = .ok (.iload_n 3, 1) := by decide +kernel
theorem dX11_day_38 : decode cX11_day 38 = .ok (.iconst 1, 1) := by decide +kernel
theorem dX11_day_39 : decode cX11_day 39 = .ok (.iload 4, 2) := by decide +kernel
theorem dX11_day_41 : decode cX11_day 41 = .ok (.invokestatic 42, 3) := by decide +kernel
theorem dX11_day_44 : decode cX11_day 44 = .ok (.invokestatic 56, 3) := by decide +kernel
theorem dX11_day_47 : decode cX11_day 47 = .ok (.ifCond .eq 17, 3) := by decide +kernel
theorem dX11_day_50 : decode cX11_day 50 = .ok (.aload_n 0, 1) := by decide +kernel
theorem dX11_day_51 : decode cX11_day 51 = .ok (.getfield 7, 3) := by decide +kernel
theorem dX11_day_54 : decode cX11_day 54 = .ok (.iload 4, 2) := by decide +kernel
theorem dX11_day_56 : decode cX11_day 56 = .ok (.iaload, 1) := by decide +kernel
theorem dX11_day_57 : decode cX11_day 57 = .ok (.iload_n 3, 1) := by decide +kernel
theorem dX11_day_58 : decode cX11_day 58 = .ok (.iadd, 1) := by decide +kernel
theorem dX11_day_59 : decode cX11_day 59 = .ok (.iconst 1, 1) := by decide +kernel
theorem dX11_day_60 : decode cX11_day 60 = .ok (.isub, 1) := by decide +kernel
theorem dX11_day_61 : decode cX11_day 61 = .ok (.goto 4, 3) := by decide +kernel
theorem dX11_day_64 : decode cX11_day 64 = .ok (.iconst (-1), 1) := by decide +kernel
theorem dX11_day_65 : decode cX11_day 65 = .ok (.ireturn, 1) := by decide +kernel
theorem dX11_slice_0 : decode cX11_slice 0 = .ok (.aload_n 0, 1) := by decide +kernel
theorem dX11_slice_1 : decode cX11_slice 1 = .ok (.iload_n 2, 1) := by decide +kernel
theorem dX11_slice_2 : decode cX11_slice 2 = .ok (.iload_n 3, 1) := by decide +kernel
theorem dX11_slice_3 : decode cX11_slice 3 = .ok (.invokevirtual 67, 3) := by decide +kernel
theorem dX11_slice_6 : decode cX11_slice 6 = .ok (.istore 5, 2) := by decide +kernel
theorem dX11_slice_8 : decode cX11_slice 8 = .ok (.aload_n 0, 1) := by decide +kernel
theorem dX11_slice_9 : decode cX11_slice 9 = .ok (.iload_n 2, 1) := by decide +kernel
theorem dX11_slice_10 : decode cX11_slice 10 = .ok (.iload_n 3, 1) := by decide +kernel
theorem dX11_slice_11 : decode cX11_slice 11 = .ok (.invokevirtual 70, 3) := by decide +kernel
theorem dX11_slice_14 : decode cX11_slice 14 = .ok (.iload 5, 2) := by decide +kernel
theorem dX11_slice_16 : decode cX11_slice 16 = .ok (.isub, 1) := by decide +kernel
theorem dX11_slice_17 : decode cX11_slice 17 = .ok (.istore 6, 2) := by decide +kernel
theorem dX11_slice_19 : decode cX11_slice 19 = .ok (.iload_n 1, 1) := by decide +kernel
theorem dX11_slice_20 : decode cX11_slice 20 = .ok (.iload 4, 2) := by decide +kernel
theorem dX11_slice_22 : decode cX11_slice 22 = .ok (.iload 5, 2) := by decide +kernel
theorem dX11_slice_24 : decode cX11_slice 24 = .ok (.isub, 1) := by decide +kernel
theorem dX11_slice_25 : decode cX11_slice 25 = .ok (.imul, 1) := by decide +kernel
theorem dX11_slice_26 : decode cX11_slice 26 = .ok (.iload 6, 2) := by decide +kernel
theorem dX11_slice_28 : decode cX11_slice 28 = .ok (.idiv, 1) := by decide +kernel
theorem dX11_slice_29 : decode cX11_slice 29 = .ok (.iload_n 1, 1) := by decide +kernel
theorem dX11_slice_30 : decode cX11_slice 30 = .ok (.iload_n 3, 1) := by decide +kernel
theorem dX11_slice_31 : decode cX11_slice 31 = .ok (.iload 5, 2) := by decide +kernel
theorem dX11_slice_33 : decode cX11_slice 33 = .ok (.isub, 1) := by decide +kernel
theorem dX11_slice_34 : decode cX11_slice 34 = .ok (.imul, 1) := by decide +kernel
theorem dX11_slice_35 : decode cX11_slice 35 = .ok (.iload 6, 2) := by decide +kernel
theorem dX11_slice_37 : decode cX11_slice 37 = .ok (.idiv, 1) := by decide +kernel
theorem dX11_slice_38 : decode cX11_slice 38 = .ok (.isub, 1) := by decide +kernel
theorem dX11_slice_39 : decode cX11_slice 39 = .ok (.ireturn, 1) := by decide +kernel
theorem dX11_part_0 : decode cX11_part 0 = .ok (.iload_n 1, 1) := by decide +kernel
theorem dX11_part_1 : decode cX11_part 1 = .ok (.iconst 0, 1) := by decide +kernel
theorem dX11_part_2 : decode cX11_part 2 = .ok (.ldc 79, 2) := by decide +kernel
theorem dX11_part_4 : decode cX11_part 4 = .ok (.invokestatic 56, 3) := by decide +kernel
theorem dX11_part_7 : decode cX11_part 7 = .ok (.ifCond .eq 42, 3) := by decide +kernel
theorem dX11_part_10 : decode cX11_part 10 = .ok (.iload_n 2, 1) := by decide +kernel
theorem dX11_part_11 : decode cX11_part 11 = .ok (.invokestatic 60, 3) := by decide +kernel
theorem dX11_part_14 : decode cX11_part 14 = .ok (.ifCond .eq 35, 3) := by decide +kernel
theorem dX11_part_17 : decode cX11_part 17 = .ok (.iload_n 3, 1) := by decide +kernel
theorem dX11_part_18 : decode cX11_part 18 = .ok (.invokestatic 64, 3) := by decide +kernel
theorem dX11_part_21 : decode cX11_part 21 = .ok (.ifCond .eq 28, 3) := by decide +kernel
theorem dX11_part_24 : decode cX11_part 24 = .ok (.iload 4, 2) := by decide +kernel
theorem dX11_part_26 : decode cX11_part 26 = .ok (.invokestatic 64, 3) := by decide +kernel
theorem dX11_part_29 : decode cX11_part 29 = .ok (.ifCond .eq 20, 3) := by decide +kernel
theorem dX11_part_32 : decode cX11_part 32 = .ok (.iload 4, 2) := by decide +kernel
theorem dX11_part_34 : decode cX11_part 34 = .ok (.iload_n 3, 1) := by decide +kernel
theorem dX11_part_35 : decode cX11_part 35 = .ok (.if_icmp .lt 14, 3) := by decide +kernel
theorem dX11_part_38 : decode cX11_part 38 = .ok (.iload 4, 2) := by decide +kernel
theorem dX11_part_40 : decode cX11_part 40 = .ok (.aload_n 0, 1) := by decide +kernel
theorem dX11_part_41 : decode cX11_part 41 = .ok (.iload_n 2, 1) := by decide +kernel
theorem dX11_part_42 : decode cX11_part 42 = .ok (.iload_n 3, 1) := by decide +kernel
theorem dX11_part_43 : decode cX11_part 43 = .ok (.invokevirtual 70, 3) := by decide +kernel
theorem dX11_part_46 : decode cX11_part 46 = .ok (.if_icmp .le 5, 3) := by decide +kernel
theorem dX11_part_49 : decode cX11_part 49 = .ok (.iconst (-1), 1) := by decide +kernel
theorem dX11_part_50 : decode cX11_part 50 = .ok (.ireturn, 1) := by decide +kernel
theorem dX11_part_51 : decode cX11_part 51 = .ok (.aload_n 0, 1) := by decide +kernel
theorem dX11_part_52 : decode cX11_part 52 = .ok (.iload_n 1, 1) := by decide +kernel
theorem dX11_part_53 : decode cX11_part 53 = .ok (.iload_n 2, 1) := by decide +kernel
theorem dX11_part_54 : decode cX11_part 54 = .ok (.iload_n 3, 1) := by decide +kernel
theorem dX11_part_55 : decode cX11_part 55 = .ok (.iload 4, 2) := by decide +kernel
theorem dX11_part_57 : decode cX11_part 57 = .ok (.invokevirtual 80, 3) := by decide +kernel
theorem dX11_part_60 : decode cX11_part 60 = .ok (.ireturn, 1) := by decide +kernel
theorem dX11_types_0 : decode cX11_types 0 = .ok (.iconst 3, 1) := by decide +kernel
theorem dX11_types_1 : decode cX11_types 1 = .ok (.istore_n 2, 1) := by decide +kernel
theorem dX11_types_2 : decode cX11_types 2 = .ok (.iload_n 2, 1) := by decide +kernel
theorem dX11_types_3 : decode cX11_types 3 = .ok (.ifCond .lt 35, 3) := by decide +kernel
theorem dX11_types_6 : decode cX11_types 6 = .ok (.aload_n 0, 1) := by decide +kernel
theorem dX11_types_7 : decode cX11_types 7 = .ok (.getfield 16, 3) := by decide +kernel
theorem dX11_types_10 : decode cX11_types 10 = .ok (.aload_n 0, 1) := by decide +kernel
theorem dX11_types_11 : decode cX11_types 11 = .ok (.getfield 84, 3) := by decide +kernel
theorem dX11_types_14 : decode cX11_types 14 = .ok (.iload_n 1, 1) := by decide +kernel
theorem dX11_types_15 : decode cX11_types 15 = .ok (.bipush 8, 2) := by decide +kernel
theorem dX11_types_17 : decode cX11_types 17 = .ok (.iload_n 2, 1) := by decide +kernel
theorem dX11_types_18 : decode cX11_types 18 = .ok (.imul, 1) := by decide +kernel
theorem dX11_types_19 : decode cX11_types 19 = .ok (.ishr, 1) := by decide +kernel
theorem dX11_types_20 : decode cX11_types 20 = .ok (.i2b, 1) := by decide +kernel
theorem dX11_types_21 : decode cX11_types 21 = .ok (.bastore, 1) := by decide +kernel
theorem dX11_types_22 : decode cX11_types 22 = .ok (.aload_n 0, 1) := by decide +kernel
theorem dX11_types_23 : decode cX11_types 23 = .ok (.aload_n 0, 1) := by decide +kernel
theorem dX11_types_24 : decode cX11_types 24 = .ok (.getfield 84, 3) := by decide +kernel
theorem dX11_types_27 : decode cX11_types 27 = .ok (.iconst 1, 1) := by decide +kernel
theorem dX11_types_28 : decode cX11_types 28 = .ok (.iadd, 1) := by decide +kernel
theorem dX11_types_29 : decode cX11_types 29 = .ok (.putfield 84, 3) := by decide +kernel
theorem dX11_types_32 : decode cX11_types 32 = .ok (.iinc 2 (-1), 3) := by decide +kernel
theorem dX11_types_35 : decode cX11_types 35 = .ok (.goto (-33), 3) := by decide +kernel
theorem dX11_types_38 : decode cX11_types 38 = .ok (.return_, 1) := by decide +kernel
theorem dX11_feed_0 : decode cX11_feed 0 = .ok (.aload_n 0, 1) := by decide +kernel
theorem dX11_feed_1 : decode cX11_feed 1 = .ok (.getfield 84, 3) := by decide +kernel
theorem dX11_feed_4 : decode cX11_feed 4 = .ok (.bipush 20, 2) := by decide +kernel
theorem dX11_feed_6 : decode cX11_feed 6 = .ok (.iadd, 1) := by decide +kernel
theorem dX11_feed_7 : decode cX11_feed 7 = .ok (.sipush 400, 3) := by decide +kernel
theorem dX11_feed_10 : decode cX11_feed 10 = .ok (.if_icmp .le 5, 3) := by decide +kernel
theorem dX11_feed_13 : decode cX11_feed 13 = .ok (.iconst (-1), 1) := by decide +kernel
theorem dX11_feed_14 : decode cX11_feed 14 = .ok (.ireturn, 1) := by decide +kernel
theorem dX11_feed_15 : decode cX11_feed 15 = .ok (.aload_n 0, 1) := by decide +kernel
theorem dX11_feed_16 : decode cX11_feed 16 = .ok (.iload_n 1, 1) := by decide +kernel
theorem dX11_feed_17 : decode cX11_feed 17 = .ok (.invokevirtual 88, 3) := by decide +kernel
theorem dX11_feed_20 : decode cX11_feed 20 = .ok (.aload_n 0, 1) := by decide +kernel
theorem dX11_feed_21 : decode cX11_feed 21 = .ok (.iload_n 2, 1) := by decide +kernel
theorem dX11_feed_22 : decode cX11_feed 22 = .ok (.invokevirtual 88, 3) := by decide +kernel
theorem dX11_feed_25 : decode cX11_feed 25 = .ok (.aload_n 0, 1) := by decide +kernel
theorem dX11_feed_26 : decode cX11_feed 26 = .ok (.iload_n 3, 1) := by decide +kernel
theorem dX11_feed_27 : decode cX11_feed 27 = .ok (.invokevirtual 88, 3) := by decide +kernel
theorem dX11_feed_30 : decode cX11_feed 30 = .ok (.aload_n 0, 1) := by decide +kernel
theorem dX11_feed_31 : decode cX11_feed 31 = .ok (.iload 4, 2) := by decide +kernel
theorem dX11_feed_33 : decode cX11_feed 33 = .ok (.invokevirtual 88, 3) := by decide +kernel
theorem dX11_feed_36 : decode cX11_feed 36 = .ok (.aload_n 0, 1) := by decide +kernel
theorem dX11_feed_37 : decode cX11_feed 37 = .ok (.iload 5, 2) := by decide +kernel
theorem dX11_feed_39 : decode cX11_feed 39 = .ok (.invokevirtual 88, 3) := by decide +kernel
theorem dX11_feed_42 : decode cX11_feed 42 = .ok (.aload_n 0, 1) := by decide +kernel
theorem dX11_feed_43 : decode cX11_feed 43 = .ok (.getfield 84, 3) := by decide +kernel
theorem dX11_feed_46 : decode cX11_feed 46 = .ok (.ireturn, 1) := by decide +kernel
theorem dX11_here_0 : decode cX11_here 0 = .ok (.aload_n 0, 1) := by decide +kernel
theorem dX11_here_1 : decode cX11_here 1 = .ok (.getfield 92, 3) := by decide +kernel
theorem dX11_here_4 : decode cX11_here 4 = .ok (.aload_n 0, 1) := by decide +kernel
theorem dX11_here_5 : decode cX11_here 5 = .ok (.getfield 95, 3) := by decide +kernel
theorem dX11_here_8 : decode cX11_here 8 = .ok (.if_icmp .ge 19, 3) := by decide +kernel
theorem dX11_here_11 : decode cX11_here 11 = .ok (.aload_n 0, 1) := by decide +kernel
theorem dX11_here_12 : decode cX11_here 12 = .ok (.getfield 16, 3) := by decide +kernel
theorem dX11_here_15 : decode cX11_here 15 = .ok (.aload_n 0, 1) := by decide +kernel
theorem dX11_here_16 : decode cX11_here 16 = .ok (.getfield 92, 3) := by decide +kernel
theorem dX11_here_19 : decode cX11_here 19 = .ok (.baload, 1) := by decide +kernel
theorem dX11_here_20 : decode cX11_here 20 = .ok (.sipush 255, 3) := by decide +kernel
theorem dX11_here_23 : decode cX11_here 23 = .ok (.iand, 1) := by decide +kernel
theorem dX11_here_24 : decode cX11_here 24 = .ok (.goto 4, 3) := by decide +kernel
theorem dX11_here_27 : decode cX11_here 27 = .ok (.iconst (-1), 1) := by decide +kernel
theorem dX11_here_28 : decode cX11_here 28 = .ok (.ireturn, 1) := by decide +kernel
theorem dX11_wrongAt_0 : decode cX11_wrongAt 0 = .ok (.aload_n 0, 1) := by decide +kernel
theorem dX11_wrongAt_1 : decode cX11_wrongAt 1 = .ok (.sipush (-1000), 3) := by decide +kernel
theorem dX11_wrongAt_4 : decode cX11_wrongAt 4 = .ok (.iload_n 1, 1) := by decide +kernel
theorem dX11_wrongAt_5 : decode cX11_wrongAt 5 = .ok (.imul, 1) := by decide +kernel
theorem dX11_wrongAt_6 : decode cX11_wrongAt 6 = .ok (.iload_n 2, 1) := by decide +kernel
theorem dX11_wrongAt_7 : decode cX11_wrongAt 7 = .ok (.isub, 1) := by decide +kernel
theorem dX11_wrongAt_8 : decode cX11_wrongAt 8 = .ok (.putfield 98, 3) := by decide +kernel
theorem dX11_wrongAt_11 : decode cX11_wrongAt 11 = .ok (.iconst 0, 1) := by decide +kernel
theorem dX11_wrongAt_12 : decode cX11_wrongAt 12 = .ok (.ireturn, 1) := by decide +kernel
theorem dX11_takesSign_0 : decode cX11_takesSign 0 = .ok (.aload_n 0, 1) := by decide +kernel
theorem dX11_takesSign_1 : decode cX11_takesSign 1 = .ok (.invokevirtual 101, 3) := by decide +kernel
theorem dX11_takesSign_4 : decode cX11_takesSign 4 = .ok (.iload_n 1, 1) := by decide +kernel
theorem dX11_takesSign_5 : decode cX11_takesSign 5 = .ok (.if_icmp .eq 13, 3) := by decide +kernel
theorem dX11_takesSign_8 : decode cX11_takesSign 8 = .ok (.aload_n 0, 1) := by decide +kernel
theorem dX11_takesSign_9 : decode cX11_takesSign 9 = .ok (.iconst 1, 1) := by decide +kernel
theorem dX11_takesSign_10 : decode cX11_takesSign 10 = .ok (.aload_n 0, 1) := by decide +kernel
theorem dX11_takesSign_11 : decode cX11_takesSign 11 = .ok (.getfield 92, 3) := by decide +kernel
theorem dX11_takesSign_14 : decode cX11_takesSign 14 = .ok (.invokevirtual 105, 3) := by decide +kernel
theorem dX11_takesSign_17 : decode cX11_takesSign 17 = .ok (.ireturn, 1) := by decide +kernel
theorem dX11_takesSign_18 : decode cX11_takesSign 18 = .ok (.aload_n 0, 1) := by decide +kernel
theorem dX11_takesSign_19 : decode cX11_takesSign 19 = .ok (.aload_n 0, 1) := by decide +kernel
theorem dX11_takesSign_20 : decode cX11_takesSign 20 = .ok (.getfield 92, 3) := by decide +kernel
theorem dX11_takesSign_23 : decode cX11_takesSign 23 = .ok (.iconst 1, 1) := by decide +kernel
theorem dX11_takesSign_24 : decode cX11_takesSign 24 = .ok (.iadd, 1) := by decide +kernel
theorem dX11_takesSign_25 : decode cX11_takesSign 25 = .ok (.putfield 92, 3) := by decide +kernel
theorem dX11_takesSign_28 : decode cX11_takesSign 28 = .ok (.iconst 1, 1) := by decide +kernel
theorem dX11_takesSign_29 : decode cX11_takesSign 29 = .ok (.ireturn, 1) := by decide +kernel
theorem dX11_isDigit_0 : decode cX11_isDigit 0 = .ok (.iload_n 0, 1) := by decide +kernel
theorem dX11_isDigit_1 : decode cX11_isDigit 1 = .ok (.bipush 48, 2) := by decide +kernel
theorem dX11_isDigit_3 : decode cX11_isDigit 3 = .ok (.bipush 57, 2) := by decide +kernel
theorem dX11_isDigit_5 : decode cX11_isDigit 5 = .ok (.invokestatic 56, 3) := by decide +kernel
theorem dX11_isDigit_8 : decode cX11_isDigit 8 = .ok (.ireturn, 1) := by decide +kernel
theorem dX11_readsWord_0 : decode cX11_readsWord 0 = .ok (.aload_n 0, 1) := by decide +kernel
theorem dX11_readsWord_1 : decode cX11_readsWord 1 = .ok (.aload_n 0, 1) := by decide +kernel
theorem dX11_readsWord_2 : decode cX11_readsWord 2 = .ok (.getfield 92, 3) := by decide +kernel
theorem dX11_readsWord_5 : decode cX11_readsWord 5 = .ok (.putfield 109, 3) := by decide +kernel
theorem dX11_readsWord_8 : decode cX11_readsWord 8 = .ok (.aload_n 0, 1) := by decide +kernel
theorem dX11_readsWord_9 : decode cX11_readsWord 9 = .ok (.lconst 0, 1) := by decide +kernel
theorem dX11_readsWord_10 : decode cX11_readsWord 10 = .ok (.putfield 112, 3) := by decide +kernel
theorem dX11_readsWord_13 : decode cX11_readsWord 13 = .ok (.aload_n 0, 1) := by decide +kernel
theorem dX11_readsWord_14 : decode cX11_readsWord 14 = .ok (.invokevirtual 101, 3) := by decide +kernel
theorem dX11_readsWord_17 : decode cX11_readsWord 17 = .ok (.bipush 97, 2) := by decide +kernel
theorem dX11_readsWord_19 : decode cX11_readsWord 19 = .ok (.bipush 122, 2) := by decide +kernel
theorem dX11_readsWord_21 : decode cX11_readsWord 21 = .ok (.invokestatic 56, 3) := by decide +kernel
theorem dX11_readsWord_24 : decode cX11_readsWord 24 = .ok (.ifCond .eq 54, 3) := by decide +kernel
theorem dX11_readsWord_27 : decode cX11_readsWord 27 = .ok (.aload_n 0, 1) := by decide +kernel
theorem dX11_readsWord_28 : decode cX11_readsWord 28 = .ok (.getfield 92, 3) := by decide +kernel
theorem dX11_readsWord_31 : decode cX11_readsWord 31 = .ok (.aload_n 0, 1) := by decide +kernel
theorem dX11_readsWord_32 : decode cX11_readsWord 32 = .ok (.getfield 109, 3) := by decide +kernel
theorem dX11_readsWord_35 : decode cX11_readsWord 35 = .ok (.isub, 1) := by decide +kernel
theorem dX11_readsWord_36 : decode cX11_readsWord 36 = .ok (.bipush 8, 2) := by decide +kernel
theorem dX11_readsWord_38 : decode cX11_readsWord 38 = .ok (.if_icmp .ge 27, 3) := by decide +kernel
theorem dX11_readsWord_41 : decode cX11_readsWord 41 = .ok (.aload_n 0, 1) := by decide +kernel
theorem dX11_readsWord_42 : decode cX11_readsWord 42 = .ok (.ldc2_w 116, 3) := by decide +kernel
theorem dX11_readsWord_45 : decode cX11_readsWord 45 = .ok (.aload_n 0, 1) := by decide +kernel
theorem dX11_readsWord_46 : decode cX11_readsWord 46 = .ok (.getfield 112, 3) := by decide +kernel
theorem dX11_readsWord_49 : decode cX11_readsWord 49 = .ok (.lmul, 1) := by decide +kernel
theorem dX11_readsWord_50 : decode cX11_readsWord 50 = .ok (.aload_n 0, 1) := by decide +kernel
theorem dX11_readsWord_51 : decode cX11_readsWord 51 = .ok (.invokevirtual 101, 3) := by decide +kernel
theorem dX11_readsWord_54 : decode cX11_readsWord 54 = .ok (.i2l, 1) := by decide +kernel
theorem dX11_readsWord_55 : decode cX11_readsWord 55 = .ok (.ladd, 1) := by decide +kernel
theorem dX11_readsWord_56 : decode cX11_readsWord 56 = .ok (.ldc2_w 118, 3) := by decide +kernel
theorem dX11_readsWord_59 : decode cX11_readsWord 59 = .ok (.lsub, 1) := by decide +kernel
theorem dX11_readsWord_60 : decode cX11_readsWord 60 = .ok (.lconst 1, 1) := by decide +kernel
theorem dX11_readsWord_61 : decode cX11_readsWord 61 = .ok (.ladd, 1) := by decide +kernel
theorem dX11_readsWord_62 : decode cX11_readsWord 62 = .ok (.putfield 112, 3) := by decide +kernel
theorem dX11_readsWord_65 : decode cX11_readsWord 65 = .ok (.aload_n 0, 1) := by decide +kernel
theorem dX11_readsWord_66 : decode cX11_readsWord 66 = .ok (.aload_n 0, 1) := by decide +kernel
theorem dX11_readsWord_67 : decode cX11_readsWord 67 = .ok (.getfield 92, 3) := by decide +kernel
theorem dX11_readsWord_70 : decode cX11_readsWord 70 = .ok (.iconst 1, 1) := by decide +kernel
theorem dX11_readsWord_71 : decode cX11_readsWord 71 = .ok (.iadd, 1) := by decide +kernel
theorem dX11_readsWord_72 : decode cX11_readsWord 72 = .ok (.putfield 92, 3) := by decide +kernel
theorem dX11_readsWord_75 : decode cX11_readsWord 75 = .ok (.goto (-62), 3) := by decide +kernel
theorem dX11_readsWord_78 : decode cX11_readsWord 78 = .ok (.aload_n 0, 1) := by decide +kernel
theorem dX11_readsWord_79 : decode cX11_readsWord 79 = .ok (.getfield 92, 3) := by decide +kernel
theorem dX11_readsWord_82 : decode cX11_readsWord 82 = .ok (.aload_n 0, 1) := by decide +kernel
theorem dX11_readsWord_83 : decode cX11_readsWord 83 = .ok (.getfield 109, 3) := by decide +kernel
theorem dX11_readsWord_86 : decode cX11_readsWord 86 = .ok (.isub, 1) := by decide +kernel
theorem dX11_readsWord_87 : decode cX11_readsWord 87 = .ok (.bipush 8, 2) := by decide +kernel
theorem dX11_readsWord_89 : decode cX11_readsWord 89 = .ok (.if_icmp .le 10, 3) := by decide +kernel
theorem dX11_readsWord_92 : decode cX11_readsWord 92 = .ok (.aload_n 0, 1) := by decide +kernel
theorem dX11_readsWord_93 : decode cX11_readsWord 93 = .ok (.ldc2_w 120, 3) := by decide +kernel
theorem dX11_readsWord_96 : decode cX11_readsWord 96 = .ok (.putfield 112, 3) := by decide +kernel
theorem dX11_readsWord_99 : decode cX11_readsWord 99 = .ok (.return_, 1) := by decide +kernel
theorem dX11_readsNumber_0 : decode cX11_readsNumber 0 = .ok (.aload_n 0, 1) := by decide +kernel
theorem dX11_readsNumber_1 : decode cX11_readsNumber 1 = .ok (.bipush 32, 2) := by decide +kernel
theorem dX11_readsNumber_3 : decode cX11_readsNumber 3 = .ok (.invokevirtual 122, 3) := by decide +kernel
theorem dX11_readsNumber_6 : decode cX11_readsNumber 6 = .ok (.ifCond .ne 5, 3) := by decide +kernel
theorem dX11_readsNumber_9 : decode cX11_readsNumber 9 = .ok (.iconst 0, 1) := by decide +kernel
theorem dX11_readsNumber_10 : decode cX11_readsNumber 10 = .ok (.ireturn, 1) := by decide +kernel
theorem dX11_readsNumber_11 : decode cX11_readsNumber 11 = .ok (.aload_n 0, 1) := by decide +kernel
theorem dX11_readsNumber_12 : decode cX11_readsNumber 12 = .ok (.getfield 92, 3) := by decide +kernel
theorem dX11_readsNumber_15 : decode cX11_readsNumber 15 = .ok (.istore_n 3, 1) := by decide +kernel
theorem dX11_readsNumber_16 : decode cX11_readsNumber 16 = .ok (.aload_n 0, 1) := by decide +kernel
theorem dX11_readsNumber_17 : decode cX11_readsNumber 17 = .ok (.invokevirtual 101, 3) := by decide +kernel
theorem dX11_readsNumber_20 : decode cX11_readsNumber 20 = .ok (.invokestatic 125, 3) := by decide +kernel
theorem dX11_readsNumber_23 : decode cX11_readsNumber 23 = .ok (.ifCond .ne 13, 3) := by decide +kernel
theorem dX11_readsNumber_26 : decode cX11_readsNumber 26 = .ok (.aload_n 0, 1) := by decide +kernel
theorem dX11_readsNumber_27 : decode cX11_readsNumber 27 = .ok (.iconst 1, 1) := by decide +kernel
theorem dX11_readsNumber_28 : decode cX11_readsNumber 28 = .ok (.aload_n 0, 1) := by decide +kernel
theorem dX11_readsNumber_29 : decode cX11_readsNumber 29 = .ok (.getfield 92, 3) := by decide +kernel
theorem dX11_readsNumber_32 : decode cX11_readsNumber 32 = .ok (.invokevirtual 105, 3) := by decide +kernel
theorem dX11_readsNumber_35 : decode cX11_readsNumber 35 = .ok (.ireturn, 1) := by decide +kernel
theorem dX11_readsNumber_36 : decode cX11_readsNumber 36 = .ok (.aload_n 0, 1) := by decide +kernel
theorem dX11_readsNumber_37 : decode cX11_readsNumber 37 = .ok (.iconst 0, 1) := by decide +kernel
theorem dX11_readsNumber_38 : decode cX11_readsNumber 38 = .ok (.putfield 128, 3) := by decide +kernel
theorem dX11_readsNumber_41 : decode cX11_readsNumber 41 = .ok (.aload_n 0, 1) := by decide +kernel
theorem dX11_readsNumber_42 : decode cX11_readsNumber 42 = .ok (.invokevirtual 101, 3) := by decide +kernel
theorem dX11_readsNumber_45 : decode cX11_readsNumber 45 = .ok (.invokestatic 125, 3) := by decide +kernel
theorem dX11_readsNumber_48 : decode cX11_readsNumber 48 = .ok (.ifCond .eq 55, 3) := by decide +kernel
theorem dX11_readsNumber_51 : decode cX11_readsNumber 51 = .ok (.aload_n 0, 1) := by decide +kernel
theorem dX11_readsNumber_52 : decode cX11_readsNumber 52 = .ok (.getfield 92, 3) := by decide +kernel
theorem dX11_readsNumber_55 : decode cX11_readsNumber 55 = .ok (.iload_n 3, 1) := by decide +kernel
theorem dX11_readsNumber_56 : decode cX11_readsNumber 56 = .ok (.iconst 5, 1) := by decide +kernel
theorem dX11_readsNumber_57 : decode cX11_readsNumber 57 = .ok (.iadd, 1) := by decide +kernel
theorem dX11_readsNumber_58 : decode cX11_readsNumber 58 = .ok (.if_icmp .ne 13, 3) := by decide +kernel
theorem dX11_readsNumber_61 : decode cX11_readsNumber 61 = .ok (.aload_n 0, 1) := by decide +kernel
theorem dX11_readsNumber_62 : decode cX11_readsNumber 62 = .ok (.iconst 2, 1) := by decide +kernel
theorem dX11_readsNumber_63 : decode cX11_readsNumber 63 = .ok (.aload_n 0, 1) := by decide +kernel
theorem dX11_readsNumber_64 : decode cX11_readsNumber 64 = .ok (.getfield 92, 3) := by decide +kernel
theorem dX11_readsNumber_67 : decode cX11_readsNumber 67 = .ok (.invokevirtual 105, 3) := by decide +kernel
theorem dX11_readsNumber_70 : decode cX11_readsNumber 70 = .ok (.ireturn, 1) := by decide +kernel
theorem dX11_readsNumber_71 : decode cX11_readsNumber 71 = .ok (.aload_n 0, 1) := by decide +kernel
theorem dX11_readsNumber_72 : decode cX11_readsNumber 72 = .ok (.bipush 10, 2) := by decide +kernel
theorem dX11_readsNumber_74 : decode cX11_readsNumber 74 = .ok (.aload_n 0, 1) := by decide +kernel
theorem dX11_readsNumber_75 : decode cX11_readsNumber 75 = .ok (.getfield 128, 3) := by decide +kernel
theorem dX11_readsNumber_78 : decode cX11_readsNumber 78 = .ok (.imul, 1) := by decide +kernel
theorem dX11_readsNumber_79 : decode cX11_readsNumber 79 = .ok (.aload_n 0, 1) := by decide +kernel
theorem dX11_readsNumber_80 : decode cX11_readsNumber 80 = .ok (.invokevirtual 101, 3) := by decide +kernel
theorem dX11_readsNumber_83 : decode cX11_readsNumber 83 = .ok (.iadd, 1) := by decide +kernel
theorem dX11_readsNumber_84 : decode cX11_readsNumber 84 = .ok (.bipush 48, 2) := by decide +kernel
theorem dX11_readsNumber_86 : decode cX11_readsNumber 86 = .ok (.isub, 1) := by decide +kernel
theorem dX11_readsNumber_87 : decode cX11_readsNumber 87 = .ok (.putfield 128, 3) := by decide +kernel
theorem dX11_readsNumber_90 : decode cX11_readsNumber 90 = .ok (.aload_n 0, 1) := by decide +kernel
theorem dX11_readsNumber_91 : decode cX11_readsNumber 91 = .ok (.aload_n 0, 1) := by decide +kernel
theorem dX11_readsNumber_92 : decode cX11_readsNumber 92 = .ok (.getfield 92, 3) := by decide +kernel
theorem dX11_readsNumber_95 : decode cX11_readsNumber 95 = .ok (.iconst 1, 1) := by decide +kernel
theorem dX11_readsNumber_96 : decode cX11_readsNumber 96 = .ok (.iadd, 1) := by decide +kernel
theorem dX11_readsNumber_97 : decode cX11_readsNumber 97 = .ok (.putfield 92, 3) := by decide +kernel
theorem dX11_readsNumber_100 : decode cX11_readsNumber 100 = .ok (.goto (-59), 3) := by decide +kernel
theorem dX11_readsNumber_103 : decode cX11_readsNumber 103 = .ok (.aload_n 0, 1) := by decide +kernel
theorem dX11_readsNumber_104 : decode cX11_readsNumber 104 = .ok (.getfield 128, 3) := by decide +kernel
theorem dX11_readsNumber_107 : decode cX11_readsNumber 107 = .ok (.iload_n 1, 1) := by decide +kernel
theorem dX11_readsNumber_108 : decode cX11_readsNumber 108 = .ok (.iload_n 2, 1) := by decide +kernel
theorem dX11_readsNumber_109 : decode cX11_readsNumber 109 = .ok (.invokestatic 56, 3) := by decide +kernel
theorem dX11_readsNumber_112 : decode cX11_readsNumber 112 = .ok (.ifCond .ne 12, 3) := by decide +kernel
theorem dX11_readsNumber_115 : decode cX11_readsNumber 115 = .ok (.aload_n 0, 1) := by decide +kernel
theorem dX11_readsNumber_116 : decode cX11_readsNumber 116 = .ok (.iconst 3, 1) := by decide +kernel
theorem dX11_readsNumber_117 : decode cX11_readsNumber 117 = .ok (.iload_n 3, 1) := by decide +kernel
theorem dX11_readsNumber_118 : decode cX11_readsNumber 118 = .ok (.invokevirtual 105, 3) := by decide +kernel
theorem dX11_readsNumber_121 : decode cX11_readsNumber 121 = .ok (.ifCond .eq 7, 3) := by decide +kernel
theorem dX11_readsNumber_124 : decode cX11_readsNumber 124 = .ok (.iconst 1, 1) := by decide +kernel
theorem dX11_readsNumber_125 : decode cX11_readsNumber 125 = .ok (.goto 4, 3) := by decide +kernel
theorem dX11_readsNumber_128 : decode cX11_readsNumber 128 = .ok (.iconst 0, 1) := by decide +kernel
theorem dX11_readsNumber_129 : decode cX11_readsNumber 129 = .ok (.ireturn, 1) := by decide +kernel
theorem dX11_readsPlan_0 : decode cX11_readsPlan 0 = .ok (.aload_n 0, 1) := by decide +kernel
theorem dX11_readsPlan_1 : decode cX11_readsPlan 1 = .ok (.bipush 32, 2) := by decide +kernel
theorem dX11_readsPlan_3 : decode cX11_readsPlan 3 = .ok (.invokevirtual 122, 3) := by decide +kernel
theorem dX11_readsPlan_6 : decode cX11_readsPlan 6 = .ok (.ifCond .ne 5, 3) := by decide +kernel
theorem dX11_readsPlan_9 : decode cX11_readsPlan 9 = .ok (.iconst 0, 1) := by decide +kernel
theorem dX11_readsPlan_10 : decode cX11_readsPlan 10 = .ok (.ireturn, 1) := by decide +kernel
theorem dX11_readsPlan_11 : decode cX11_readsPlan 11 = .ok (.aload_n 0, 1) := by decide +kernel
theorem dX11_readsPlan_12 : decode cX11_readsPlan 12 = .ok (.invokevirtual 101, 3) := by decide +kernel
theorem dX11_readsPlan_15 : decode cX11_readsPlan 15 = .ok (.bipush 65, 2) := by decide +kernel
theorem dX11_readsPlan_17 : decode cX11_readsPlan 17 = .ok (.bipush 70, 2) := by decide +kernel
theorem dX11_readsPlan_19 : decode cX11_readsPlan 19 = .ok (.invokestatic 56, 3) := by decide +kernel
theorem dX11_readsPlan_22 : decode cX11_readsPlan 22 = .ok (.ifCond .ne 13, 3) := by decide +kernel
theorem dX11_readsPlan_25 : decode cX11_readsPlan 25 = .ok (.aload_n 0, 1) := by decide +kernel
theorem dX11_readsPlan_26 : decode cX11_readsPlan 26 = .ok (.iconst 1, 1) := by decide +kernel
theorem dX11_readsPlan_27 : decode cX11_readsPlan 27 = .ok (.aload_n 0, 1) := by decide +kernel
theorem dX11_readsPlan_28 : decode cX11_readsPlan 28 = .ok (.getfield 92, 3) := by decide +kernel
theorem dX11_readsPlan_31 : decode cX11_readsPlan 31 = .ok (.invokevirtual 105, 3) := by decide +kernel
theorem dX11_readsPlan_34 : decode cX11_readsPlan 34 = .ok (.ireturn, 1) := by decide +kernel
theorem dX11_readsPlan_35 : decode cX11_readsPlan 35 = .ok (.aload_n 0, 1) := by decide +kernel
theorem dX11_readsPlan_36 : decode cX11_readsPlan 36 = .ok (.aload_n 0, 1) := by decide +kernel
theorem dX11_readsPlan_37 : decode cX11_readsPlan 37 = .ok (.invokevirtual 101, 3) := by decide +kernel
theorem dX11_readsPlan_40 : decode cX11_readsPlan 40 = .ok (.bipush 65, 2) := by decide +kernel
theorem dX11_readsPlan_42 : decode cX11_readsPlan 42 = .ok (.isub, 1) := by decide +kernel
theorem dX11_readsPlan_43 : decode cX11_readsPlan 43 = .ok (.putfield 128, 3) := by decide +kernel
theorem dX11_readsPlan_46 : decode cX11_readsPlan 46 = .ok (.aload_n 0, 1) := by decide +kernel
theorem dX11_readsPlan_47 : decode cX11_readsPlan 47 = .ok (.aload_n 0, 1) := by decide +kernel
theorem dX11_readsPlan_48 : decode cX11_readsPlan 48 = .ok (.getfield 92, 3) := by decide +kernel
theorem dX11_readsPlan_51 : decode cX11_readsPlan 51 = .ok (.iconst 1, 1) := by decide +kernel
theorem dX11_readsPlan_52 : decode cX11_readsPlan 52 = .ok (.iadd, 1) := by decide +kernel
theorem dX11_readsPlan_53 : decode cX11_readsPlan 53 = .ok (.putfield 92, 3) := by decide +kernel
theorem dX11_readsPlan_56 : decode cX11_readsPlan 56 = .ok (.iconst 1, 1) := by decide +kernel
theorem dX11_readsPlan_57 : decode cX11_readsPlan 57 = .ok (.ireturn, 1) := by decide +kernel
theorem dX11_keepsNumber_0 : decode cX11_keepsNumber 0 = .ok (.aload_n 0, 1) := by decide +kernel
theorem dX11_keepsNumber_1 : decode cX11_keepsNumber 1 = .ok (.getfield 20, 3) := by decide +kernel
theorem dX11_keepsNumber_4 : decode cX11_keepsNumber 4 = .ok (.iload_n 1, 1) := by decide +kernel
theorem dX11_keepsNumber_5 : decode cX11_keepsNumber 5 = .ok (.aload_n 0, 1) := by decide +kernel
theorem dX11_keepsNumber_6 : decode cX11_keepsNumber 6 = .ok (.getfield 128, 3) := by decide +kernel
theorem dX11_keepsNumber_9 : decode cX11_keepsNumber 9 = .ok (.iastore, 1) := by decide +kernel
theorem dX11_keepsNumber_10 : decode cX11_keepsNumber 10 = .ok (.iconst 1, 1) := by decide +kernel
theorem dX11_keepsNumber_11 : decode cX11_keepsNumber 11 = .ok (.ireturn, 1) := by decide +kernel
theorem dX11_readsTier_0 : decode cX11_readsTier 0 = .ok (.aload_n 0, 1) := by decide +kernel
theorem dX11_readsTier_1 : decode cX11_readsTier 1 = .ok (.getfield 20, 3) := by decide +kernel
theorem dX11_readsTier_4 : decode cX11_readsTier 4 = .ok (.iload_n 1, 1) := by decide +kernel
theorem dX11_readsTier_5 : decode cX11_readsTier 5 = .ok (.iconst 2, 1) := by decide +kernel
theorem dX11_readsTier_6 : decode cX11_readsTier 6 = .ok (.iadd, 1) := by decide +kernel
theorem dX11_readsTier_7 : decode cX11_readsTier 7 = .ok (.iaload, 1) := by decide +kernel
theorem dX11_readsTier_8 : decode cX11_readsTier 8 = .ok (.istore_n 2, 1) := by decide +kernel
theorem dX11_readsTier_9 : decode cX11_readsTier 9 = .ok (.iload_n 2, 1) := by decide +kernel
theorem dX11_readsTier_10 : decode cX11_readsTier 10 = .ok (.iconst 4, 1) := by decide +kernel
theorem dX11_readsTier_11 : decode cX11_readsTier 11 = .ok (.if_icmp .ne 16, 3) := by decide +kernel
theorem dX11_readsTier_14 : decode cX11_readsTier 14 = .ok (.aload_n 0, 1) := by decide +kernel
theorem dX11_readsTier_15 : decode cX11_readsTier 15 = .ok (.bipush 6, 2) := by decide +kernel
theorem dX11_readsTier_17 : decode cX11_readsTier 17 = .ok (.aload_n 0, 1) := by decide +kernel
theorem dX11_readsTier_18 : decode cX11_readsTier 18 = .ok (.getfield 92, 3) := by decide +kernel
theorem dX11_readsTier_21 : decode cX11_readsTier 21 = .ok (.iconst 1, 1) := by decide +kernel
theorem dX11_readsTier_22 : decode cX11_readsTier 22 = .ok (.isub, 1) := by decide +kernel
theorem dX11_readsTier_23 : decode cX11_readsTier 23 = .ok (.invokevirtual 105, 3) := by decide +kernel
theorem dX11_readsTier_26 : decode cX11_readsTier 26 = .ok (.ireturn, 1) := by decide +kernel
theorem dX11_readsTier_27 : decode cX11_readsTier 27 = .ok (.aload_n 0, 1) := by decide +kernel
theorem dX11_readsTier_28 : decode cX11_readsTier 28 = .ok (.getfield 92, 3) := by decide +kernel
theorem dX11_readsTier_31 : decode cX11_readsTier 31 = .ok (.iconst 1, 1) := by decide +kernel
theorem dX11_readsTier_32 : decode cX11_readsTier 32 = .ok (.iadd, 1) := by decide +kernel
theorem dX11_readsTier_33 : decode cX11_readsTier 33 = .ok (.istore_n 3, 1) := by decide +kernel
theorem dX11_readsTier_34 : decode cX11_readsTier 34 = .ok (.aload_n 0, 1) := by decide +kernel
theorem dX11_readsTier_35 : decode cX11_readsTier 35 = .ok (.iconst 1, 1) := by decide +kernel
theorem dX11_readsTier_36 : decode cX11_readsTier 36 = .ok (.sipush 9999, 3) := by decide +kernel
theorem dX11_readsTier_39 : decode cX11_readsTier 39 = .ok (.invokevirtual 131, 3) := by decide +kernel
theorem dX11_readsTier_42 : decode cX11_readsTier 42 = .ok (.ifCond .ne 5, 3) := by decide +kernel
theorem dX11_readsTier_45 : decode cX11_readsTier 45 = .ok (.iconst 0, 1) := by decide +kernel
theorem dX11_readsTier_46 : decode cX11_readsTier 46 = .ok (.ireturn, 1) := by decide +kernel
theorem dX11_readsTier_47 : decode cX11_readsTier 47 = .ok (.iload_n 2, 1) := by decide +kernel
theorem dX11_readsTier_48 : decode cX11_readsTier 48 = .ok (.ifCond .le 31, 3) := by decide +kernel
theorem dX11_readsTier_51 : decode cX11_readsTier 51 = .ok (.aload_n 0, 1) := by decide +kernel
theorem dX11_readsTier_52 : decode cX11_readsTier 52 = .ok (.getfield 128, 3) := by decide +kernel
theorem dX11_readsTier_55 : decode cX11_readsTier 55 = .ok (.aload_n 0, 1) := by decide +kernel
theorem dX11_readsTier_56 : decode cX11_readsTier 56 = .ok (.getfield 20, 3) := by decide +kernel
theorem dX11_readsTier_59 : decode cX11_readsTier 59 = .ok (.iload_n 1, 1) := by decide +kernel
theorem dX11_readsTier_60 : decode cX11_readsTier 60 = .ok (.bipush 6, 2) := by decide +kernel
theorem dX11_readsTier_62 : decode cX11_readsTier 62 = .ok (.iadd, 1) := by decide +kernel
theorem dX11_readsTier_63 : decode cX11_readsTier 63 = .ok (.iload_n 2, 1) := by decide +kernel
theorem dX11_readsTier_64 : decode cX11_readsTier 64 = .ok (.iadd, 1) := by decide +kernel
theorem dX11_readsTier_65 : decode cX11_readsTier 65 = .ok (.iconst 1, 1) := by decide +kernel
theorem dX11_readsTier_66 : decode cX11_readsTier 66 = .ok (.isub, 1) := by decide +kernel
theorem dX11_readsTier_67 : decode cX11_readsTier 67 = .ok (.iaload, 1) := by decide +kernel
theorem dX11_readsTier_68 : decode cX11_readsTier 68 = .ok (.if_icmp .gt 11, 3) := by decide +kernel
theorem dX11_readsTier_71 : decode cX11_readsTier 71 = .ok (.aload_n 0, 1) := by decide +kernel
theorem dX11_readsTier_72 : decode cX11_readsTier 72 = .ok (.bipush 6, 2) := by decide +kernel
theorem dX11_readsTier_74 : decode cX11_readsTier 74 = .ok (.iload_n 3, 1) := by decide +kernel
theorem dX11_readsTier_75 : decode cX11_readsTier 75 = .ok (.invokevirtual 105, 3) := by decide +kernel
theorem dX11_readsTier_78 : decode cX11_readsTier 78 = .ok (.ireturn, 1) := by decide +kernel
theorem dX11_readsTier_79 : decode cX11_readsTier 79 = .ok (.aload_n 0, 1) := by decide +kernel
theorem dX11_readsTier_80 : decode cX11_readsTier 80 = .ok (.getfield 20, 3) := by decide +kernel
theorem dX11_readsTier_83 : decode cX11_readsTier 83 = .ok (.iload_n 1, 1) := by decide +kernel
theorem dX11_readsTier_84 : decode cX11_readsTier 84 = .ok (.bipush 6, 2) := by decide +kernel
theorem dX11_readsTier_86 : decode cX11_readsTier 86 = .ok (.iadd, 1) := by decide +kernel
theorem dX11_readsTier_87 : decode cX11_readsTier 87 = .ok (.iload_n 2, 1) := by decide +kernel
theorem dX11_readsTier_88 : decode cX11_readsTier 88 = .ok (.iadd, 1) := by decide +kernel
theorem dX11_readsTier_89 : decode cX11_readsTier 89 = .ok (.aload_n 0, 1) := by decide +kernel
theorem dX11_readsTier_90 : decode cX11_readsTier 90 = .ok (.getfield 128, 3) := by decide +kernel
theorem dX11_readsTier_93 : decode cX11_readsTier 93 = .ok (.iastore, 1) := by decide +kernel
theorem dX11_readsTier_94 : decode cX11_readsTier 94 = .ok (.aload_n 0, 1) := by decide +kernel
theorem dX11_readsTier_95 : decode cX11_readsTier 95 = .ok (.iconst 0, 1) := by decide +kernel
theorem dX11_readsTier_96 : decode cX11_readsTier 96 = .ok (.bipush 99, 2) := by decide +kernel
theorem dX11_readsTier_98 : decode cX11_readsTier 98 = .ok (.invokevirtual 131, 3) := by decide +kernel
theorem dX11_readsTier_101 : decode cX11_readsTier 101 = .ok (.ifCond .ne 5, 3) := by decide +kernel
theorem dX11_readsTier_104 : decode cX11_readsTier 104 = .ok (.iconst 0, 1) := by decide +kernel
theorem dX11_readsTier_105 : decode cX11_readsTier 105 = .ok (.ireturn, 1) := by decide +kernel
theorem dX11_readsTier_106 : decode cX11_readsTier 106 = .ok (.aload_n 0, 1) := by decide +kernel
theorem dX11_readsTier_107 : decode cX11_readsTier 107 = .ok (.getfield 20, 3) := by decide +kernel
theorem dX11_readsTier_110 : decode cX11_readsTier 110 = .ok (.iload_n 1, 1) := by decide +kernel
theorem dX11_readsTier_111 : decode cX11_readsTier 111 = .ok (.bipush 10, 2) := by decide +kernel
theorem dX11_readsTier_113 : decode cX11_readsTier 113 = .ok (.iadd, 1) := by decide +kernel
theorem dX11_readsTier_114 : decode cX11_readsTier 114 = .ok (.iload_n 2, 1) := by decide +kernel
theorem dX11_readsTier_115 : decode cX11_readsTier 115 = .ok (.iadd, 1) := by decide +kernel
theorem dX11_readsTier_116 : decode cX11_readsTier 116 = .ok (.aload_n 0, 1) := by decide +kernel
theorem dX11_readsTier_117 : decode cX11_readsTier 117 = .ok (.getfield 128, 3) := by decide +kernel
theorem dX11_readsTier_120 : decode cX11_readsTier 120 = .ok (.iastore, 1) := by decide +kernel
theorem dX11_readsTier_121 : decode cX11_readsTier 121 = .ok (.aload_n 0, 1) := by decide +kernel
theorem dX11_readsTier_122 : decode cX11_readsTier 122 = .ok (.getfield 20, 3) := by decide +kernel
theorem dX11_readsTier_125 : decode cX11_readsTier 125 = .ok (.iload_n 1, 1) := by decide +kernel
theorem dX11_readsTier_126 : decode cX11_readsTier 126 = .ok (.iconst 2, 1) := by decide +kernel
theorem dX11_readsTier_127 : decode cX11_readsTier 127 = .ok (.iadd, 1) := by decide +kernel
theorem dX11_readsTier_128 : decode cX11_readsTier 128 = .ok (.iload_n 2, 1) := by decide +kernel
theorem dX11_readsTier_129 : decode cX11_readsTier 129 = .ok (.iconst 1, 1) := by decide +kernel
theorem dX11_readsTier_130 : decode cX11_readsTier 130 = .ok (.iadd, 1) := by decide +kernel
theorem dX11_readsTier_131 : decode cX11_readsTier 131 = .ok (.iastore, 1) := by decide +kernel
theorem dX11_readsTier_132 : decode cX11_readsTier 132 = .ok (.iconst 1, 1) := by decide +kernel
theorem dX11_readsTier_133 : decode cX11_readsTier 133 = .ok (.ireturn, 1) := by decide +kernel
theorem dX11_readsMode_0 : decode cX11_readsMode 0 = .ok (.aload_n 0, 1) := by decide +kernel
theorem dX11_readsMode_1 : decode cX11_readsMode 1 = .ok (.bipush 32, 2) := by decide +kernel
theorem dX11_readsMode_3 : decode cX11_readsMode 3 = .ok (.invokevirtual 122, 3) := by decide +kernel
theorem dX11_readsMode_6 : decode cX11_readsMode 6 = .ok (.ifCond .ne 5, 3) := by decide +kernel
theorem dX11_readsMode_9 : decode cX11_readsMode 9 = .ok (.iconst 0, 1) := by decide +kernel
theorem dX11_readsMode_10 : decode cX11_readsMode 10 = .ok (.ireturn, 1) := by decide +kernel
theorem dX11_readsMode_11 : decode cX11_readsMode 11 = .ok (.aload_n 0, 1) := by decide +kernel
theorem dX11_readsMode_12 : decode cX11_readsMode 12 = .ok (.invokevirtual 134, 3) := by decide +kernel
theorem dX11_readsMode_15 : decode cX11_readsMode 15 = .ok (.aload_n 0, 1) := by decide +kernel
theorem dX11_readsMode_16 : decode cX11_readsMode 16 = .ok (.getfield 112, 3) := by decide +kernel
theorem dX11_readsMode_19 : decode cX11_readsMode 19 = .ok (.ldc2_w 137, 3) := by decide +kernel
theorem dX11_readsMode_22 : decode cX11_readsMode 22 = .ok (.lcmp, 1) := by decide +kernel
theorem dX11_readsMode_23 : decode cX11_readsMode 23 = .ok (.ifCond .eq 24, 3) := by decide +kernel
theorem dX11_readsMode_26 : decode cX11_readsMode 26 = .ok (.aload_n 0, 1) := by decide +kernel
theorem dX11_readsMode_27 : decode cX11_readsMode 27 = .ok (.getfield 112, 3) := by decide +kernel
theorem dX11_readsMode_30 : decode cX11_readsMode 30 = .ok (.ldc2_w 139, 3) := by decide +kernel
theorem dX11_readsMode_33 : decode cX11_readsMode 33 = .ok (.lcmp, 1) := by decide +kernel
theorem dX11_readsMode_34 : decode cX11_readsMode 34 = .ok (.ifCond .eq 13, 3) := by decide +kernel
theorem dX11_readsMode_37 : decode cX11_readsMode 37 = .ok (.aload_n 0, 1) := by decide +kernel
theorem dX11_readsMode_38 : decode cX11_readsMode 38 = .ok (.iconst 1, 1) := by decide +kernel
theorem dX11_readsMode_39 : decode cX11_readsMode 39 = .ok (.aload_n 0, 1) := by decide +kernel
theorem dX11_readsMode_40 : decode cX11_readsMode 40 = .ok (.getfield 109, 3) := by decide +kernel
theorem dX11_readsMode_43 : decode cX11_readsMode 43 = .ok (.invokevirtual 105, 3) := by decide +kernel
theorem dX11_readsMode_46 : decode cX11_readsMode 46 = .ok (.ireturn, 1) := by decide +kernel
theorem dX11_readsMode_47 : decode cX11_readsMode 47 = .ok (.aload_n 0, 1) := by decide +kernel
theorem dX11_readsMode_48 : decode cX11_readsMode 48 = .ok (.getfield 20, 3) := by decide +kernel
theorem dX11_readsMode_51 : decode cX11_readsMode 51 = .ok (.iload_n 1, 1) := by decide +kernel
theorem dX11_readsMode_52 : decode cX11_readsMode 52 = .ok (.iconst 4, 1) := by decide +kernel
theorem dX11_readsMode_53 : decode cX11_readsMode 53 = .ok (.iadd, 1) := by decide +kernel
theorem dX11_readsMode_54 : decode cX11_readsMode 54 = .ok (.aload_n 0, 1) := by decide +kernel
theorem dX11_readsMode_55 : decode cX11_readsMode 55 = .ok (.getfield 112, 3) := by decide +kernel
theorem dX11_readsMode_58 : decode cX11_readsMode 58 = .ok (.ldc2_w 139, 3) := by decide +kernel
theorem dX11_readsMode_61 : decode cX11_readsMode 61 = .ok (.lcmp, 1) := by decide +kernel
theorem dX11_readsMode_62 : decode cX11_readsMode 62 = .ok (.ifCond .ne 7, 3) := by decide +kernel
theorem dX11_readsMode_65 : decode cX11_readsMode 65 = .ok (.iconst 1, 1) := by decide +kernel
theorem dX11_readsMode_66 : decode cX11_readsMode 66 = .ok (.goto 4, 3) := by decide +kernel
theorem dX11_readsMode_69 : decode cX11_readsMode 69 = .ok (.iconst 0, 1) := by decide +kernel
theorem dX11_readsMode_70 : decode cX11_readsMode 70 = .ok (.iastore, 1) := by decide +kernel
theorem dX11_readsMode_71 : decode cX11_readsMode 71 = .ok (.iconst 1, 1) := by decide +kernel
theorem dX11_readsMode_72 : decode cX11_readsMode 72 = .ok (.ireturn, 1) := by decide +kernel
theorem dX11_readsLess_0 : decode cX11_readsLess 0 = .ok (.aload_n 0, 1) := by decide +kernel
theorem dX11_readsLess_1 : decode cX11_readsLess 1 = .ok (.iconst 0, 1) := by decide +kernel
theorem dX11_readsLess_2 : decode cX11_readsLess 2 = .ok (.bipush 100, 2) := by decide +kernel
theorem dX11_readsLess_4 : decode cX11_readsLess 4 = .ok (.invokevirtual 131, 3) := by decide +kernel
theorem dX11_readsLess_7 : decode cX11_readsLess 7 = .ok (.ifCond .eq 33, 3) := by decide +kernel
theorem dX11_readsLess_10 : decode cX11_readsLess 10 = .ok (.aload_n 0, 1) := by decide +kernel
theorem dX11_readsLess_11 : decode cX11_readsLess 11 = .ok (.iconst 2, 1) := by decide +kernel
theorem dX11_readsLess_12 : decode cX11_readsLess 12 = .ok (.invokevirtual 141, 3) := by decide +kernel
theorem dX11_readsLess_15 : decode cX11_readsLess 15 = .ok (.ifCond .eq 25, 3) := by decide +kernel
theorem dX11_readsLess_18 : decode cX11_readsLess 18 = .ok (.aload_n 0, 1) := by decide +kernel
theorem dX11_readsLess_19 : decode cX11_readsLess 19 = .ok (.iconst 0, 1) := by decide +kernel
theorem dX11_readsLess_20 : decode cX11_readsLess 20 = .ok (.bipush 99, 2) := by decide +kernel
theorem dX11_readsLess_22 : decode cX11_readsLess 22 = .ok (.invokevirtual 131, 3) := by decide +kernel
theorem dX11_readsLess_25 : decode cX11_readsLess 25 = .ok (.ifCond .eq 15, 3) := by decide +kernel
theorem dX11_readsLess_28 : decode cX11_readsLess 28 = .ok (.aload_n 0, 1) := by decide +kernel
theorem dX11_readsLess_29 : decode cX11_readsLess 29 = .ok (.iconst 3, 1) := by decide +kernel
theorem dX11_readsLess_30 : decode cX11_readsLess 30 = .ok (.invokevirtual 141, 3) := by decide +kernel
theorem dX11_readsLess_33 : decode cX11_readsLess 33 = .ok (.ifCond .eq 7, 3) := by decide +kernel
theorem dX11_readsLess_36 : decode cX11_readsLess 36 = .ok (.iconst 1, 1) := by decide +kernel
theorem dX11_readsLess_37 : decode cX11_readsLess 37 = .ok (.goto 4, 3) := by decide +kernel
theorem dX11_readsLess_40 : decode cX11_readsLess 40 = .ok (.iconst 0, 1) := by decide +kernel
theorem dX11_readsLess_41 : decode cX11_readsLess 41 = .ok (.ireturn, 1) := by decide +kernel
theorem dX11_readsBulk_0 : decode cX11_readsBulk 0 = .ok (.aload_n 0, 1) := by decide +kernel
theorem dX11_readsBulk_1 : decode cX11_readsBulk 1 = .ok (.getfield 20, 3) := by decide +kernel
theorem dX11_readsBulk_4 : decode cX11_readsBulk 4 = .ok (.iload_n 1, 1) := by decide +kernel
theorem dX11_readsBulk_5 : decode cX11_readsBulk 5 = .ok (.bipush 14, 2) := by decide +kernel
theorem dX11_readsBulk_7 : decode cX11_readsBulk 7 = .ok (.iadd, 1) := by decide +kernel
theorem dX11_readsBulk_8 : decode cX11_readsBulk 8 = .ok (.iaload, 1) := by decide +kernel
theorem dX11_readsBulk_9 : decode cX11_readsBulk 9 = .ok (.istore_n 2, 1) := by decide +kernel
theorem dX11_readsBulk_10 : decode cX11_readsBulk 10 = .ok (.iload_n 2, 1) := by decide +kernel
theorem dX11_readsBulk_11 : decode cX11_readsBulk 11 = .ok (.iconst 3, 1) := by decide +kernel
theorem dX11_readsBulk_12 : decode cX11_readsBulk 12 = .ok (.if_icmp .ne 16, 3) := by decide +kernel
theorem dX11_readsBulk_15 : decode cX11_readsBulk 15 = .ok (.aload_n 0, 1) := by decide +kernel
theorem dX11_readsBulk_16 : decode cX11_readsBulk 16 = .ok (.bipush 6, 2) := by decide +kernel
theorem dX11_readsBulk_18 : decode cX11_readsBulk 18 = .ok (.aload_n 0, 1) := by decide +kernel
theorem dX11_readsBulk_19 : decode cX11_readsBulk 19 = .ok (.getfield 92, 3) := by decide +kernel
theorem dX11_readsBulk_22 : decode cX11_readsBulk 22 = .ok (.iconst 1, 1) := by decide +kernel
theorem dX11_readsBulk_23 : decode cX11_readsBulk 23 = .ok (.isub, 1) := by decide +kernel
theorem dX11_readsBulk_24 : decode cX11_readsBulk 24 = .ok (.invokevirtual 105, 3) := by decide +kernel
theorem dX11_readsBulk_27 : decode cX11_readsBulk 27 = .ok (.ireturn, 1) := by decide +kernel
theorem dX11_readsBulk_28 : decode cX11_readsBulk 28 = .ok (.aload_n 0, 1) := by decide +kernel
theorem dX11_readsBulk_29 : decode cX11_readsBulk 29 = .ok (.getfield 92, 3) := by decide +kernel
theorem dX11_readsBulk_32 : decode cX11_readsBulk 32 = .ok (.iconst 1, 1) := by decide +kernel
theorem dX11_readsBulk_33 : decode cX11_readsBulk 33 = .ok (.iadd, 1) := by decide +kernel
theorem dX11_readsBulk_34 : decode cX11_readsBulk 34 = .ok (.istore_n 3, 1) := by decide +kernel
theorem dX11_readsBulk_35 : decode cX11_readsBulk 35 = .ok (.aload_n 0, 1) := by decide +kernel
theorem dX11_readsBulk_36 : decode cX11_readsBulk 36 = .ok (.iconst 2, 1) := by decide +kernel
theorem dX11_readsBulk_37 : decode cX11_readsBulk 37 = .ok (.bipush 9, 2) := by decide +kernel
theorem dX11_readsBulk_39 : decode cX11_readsBulk 39 = .ok (.invokevirtual 131, 3) := by decide +kernel
theorem dX11_readsBulk_42 : decode cX11_readsBulk 42 = .ok (.ifCond .ne 5, 3) := by decide +kernel
theorem dX11_readsBulk_45 : decode cX11_readsBulk 45 = .ok (.iconst 0, 1) := by decide +kernel
theorem dX11_readsBulk_46 : decode cX11_readsBulk 46 = .ok (.ireturn, 1) := by decide +kernel
theorem dX11_readsBulk_47 : decode cX11_readsBulk 47 = .ok (.iload_n 2, 1) := by decide +kernel
theorem dX11_readsBulk_48 : decode cX11_readsBulk 48 = .ok (.ifCond .le 31, 3) := by decide +kernel
theorem dX11_readsBulk_51 : decode cX11_readsBulk 51 = .ok (.aload_n 0, 1) := by decide +kernel
theorem dX11_readsBulk_52 : decode cX11_readsBulk 52 = .ok (.getfield 128, 3) := by decide +kernel
theorem dX11_readsBulk_55 : decode cX11_readsBulk 55 = .ok (.aload_n 0, 1) := by decide +kernel
theorem dX11_readsBulk_56 : decode cX11_readsBulk 56 = .ok (.getfield 20, 3) := by decide +kernel
theorem dX11_readsBulk_59 : decode cX11_readsBulk 59 = .ok (.iload_n 1, 1) := by decide +kernel
theorem dX11_readsBulk_60 : decode cX11_readsBulk 60 = .ok (.bipush 15, 2) := by decide +kernel
theorem dX11_readsBulk_62 : decode cX11_readsBulk 62 = .ok (.iadd, 1) := by decide +kernel
theorem dX11_readsBulk_63 : decode cX11_readsBulk 63 = .ok (.iload_n 2, 1) := by decide +kernel
theorem dX11_readsBulk_64 : decode cX11_readsBulk 64 = .ok (.iadd, 1) := by decide +kernel
theorem dX11_readsBulk_65 : decode cX11_readsBulk 65 = .ok (.iconst 1, 1) := by decide +kernel
theorem dX11_readsBulk_66 : decode cX11_readsBulk 66 = .ok (.isub, 1) := by decide +kernel
theorem dX11_readsBulk_67 : decode cX11_readsBulk 67 = .ok (.iaload, 1) := by decide +kernel
theorem dX11_readsBulk_68 : decode cX11_readsBulk 68 = .ok (.if_icmp .gt 11, 3) := by decide +kernel
theorem dX11_readsBulk_71 : decode cX11_readsBulk 71 = .ok (.aload_n 0, 1) := by decide +kernel
theorem dX11_readsBulk_72 : decode cX11_readsBulk 72 = .ok (.bipush 6, 2) := by decide +kernel
theorem dX11_readsBulk_74 : decode cX11_readsBulk 74 = .ok (.iload_n 3, 1) := by decide +kernel
theorem dX11_readsBulk_75 : decode cX11_readsBulk 75 = .ok (.invokevirtual 105, 3) := by decide +kernel
theorem dX11_readsBulk_78 : decode cX11_readsBulk 78 = .ok (.ireturn, 1) := by decide +kernel
theorem dX11_readsBulk_79 : decode cX11_readsBulk 79 = .ok (.aload_n 0, 1) := by decide +kernel
theorem dX11_readsBulk_80 : decode cX11_readsBulk 80 = .ok (.getfield 20, 3) := by decide +kernel
theorem dX11_readsBulk_83 : decode cX11_readsBulk 83 = .ok (.iload_n 1, 1) := by decide +kernel
theorem dX11_readsBulk_84 : decode cX11_readsBulk 84 = .ok (.bipush 15, 2) := by decide +kernel
theorem dX11_readsBulk_86 : decode cX11_readsBulk 86 = .ok (.iadd, 1) := by decide +kernel
theorem dX11_readsBulk_87 : decode cX11_readsBulk 87 = .ok (.iload_n 2, 1) := by decide +kernel
theorem dX11_readsBulk_88 : decode cX11_readsBulk 88 = .ok (.iadd, 1) := by decide +kernel
theorem dX11_readsBulk_89 : decode cX11_readsBulk 89 = .ok (.aload_n 0, 1) := by decide +kernel
theorem dX11_readsBulk_90 : decode cX11_readsBulk 90 = .ok (.getfield 128, 3) := by decide +kernel
theorem dX11_readsBulk_93 : decode cX11_readsBulk 93 = .ok (.iastore, 1) := by decide +kernel
theorem dX11_readsBulk_94 : decode cX11_readsBulk 94 = .ok (.aload_n 0, 1) := by decide +kernel
theorem dX11_readsBulk_95 : decode cX11_readsBulk 95 = .ok (.iconst 0, 1) := by decide +kernel
theorem dX11_readsBulk_96 : decode cX11_readsBulk 96 = .ok (.bipush 100, 2) := by decide +kernel
theorem dX11_readsBulk_98 : decode cX11_readsBulk 98 = .ok (.invokevirtual 131, 3) := by decide +kernel
theorem dX11_readsBulk_101 : decode cX11_readsBulk 101 = .ok (.ifCond .ne 5, 3) := by decide +kernel
theorem dX11_readsBulk_104 : decode cX11_readsBulk 104 = .ok (.iconst 0, 1) := by decide +kernel
theorem dX11_readsBulk_105 : decode cX11_readsBulk 105 = .ok (.ireturn, 1) := by decide +kernel
theorem dX11_readsBulk_106 : decode cX11_readsBulk 106 = .ok (.aload_n 0, 1) := by decide +kernel
theorem dX11_readsBulk_107 : decode cX11_readsBulk 107 = .ok (.getfield 20, 3) := by decide +kernel
theorem dX11_readsBulk_110 : decode cX11_readsBulk 110 = .ok (.iload_n 1, 1) := by decide +kernel
theorem dX11_readsBulk_111 : decode cX11_readsBulk 111 = .ok (.bipush 18, 2) := by decide +kernel
theorem dX11_readsBulk_113 : decode cX11_readsBulk 113 = .ok (.iadd, 1) := by decide +kernel
theorem dX11_readsBulk_114 : decode cX11_readsBulk 114 = .ok (.iload_n 2, 1) := by decide +kernel
theorem dX11_readsBulk_115 : decode cX11_readsBulk 115 = .ok (.iadd, 1) := by decide +kernel
theorem dX11_readsBulk_116 : decode cX11_readsBulk 116 = .ok (.aload_n 0, 1) := by decide +kernel
theorem dX11_readsBulk_117 : decode cX11_readsBulk 117 = .ok (.getfield 128, 3) := by decide +kernel
theorem dX11_readsBulk_120 : decode cX11_readsBulk 120 = .ok (.iastore, 1) := by decide +kernel
theorem dX11_readsBulk_121 : decode cX11_readsBulk 121 = .ok (.aload_n 0, 1) := by decide +kernel
theorem dX11_readsBulk_122 : decode cX11_readsBulk 122 = .ok (.getfield 20, 3) := by decide +kernel
theorem dX11_readsBulk_125 : decode cX11_readsBulk 125 = .ok (.iload_n 1, 1) := by decide +kernel
theorem dX11_readsBulk_126 : decode cX11_readsBulk 126 = .ok (.bipush 14, 2) := by decide +kernel
theorem dX11_readsBulk_128 : decode cX11_readsBulk 128 = .ok (.iadd, 1) := by decide +kernel
theorem dX11_readsBulk_129 : decode cX11_readsBulk 129 = .ok (.iload_n 2, 1) := by decide +kernel
theorem dX11_readsBulk_130 : decode cX11_readsBulk 130 = .ok (.iconst 1, 1) := by decide +kernel
theorem dX11_readsBulk_131 : decode cX11_readsBulk 131 = .ok (.iadd, 1) := by decide +kernel
theorem dX11_readsBulk_132 : decode cX11_readsBulk 132 = .ok (.iastore, 1) := by decide +kernel
theorem dX11_readsBulk_133 : decode cX11_readsBulk 133 = .ok (.iconst 1, 1) := by decide +kernel
theorem dX11_readsBulk_134 : decode cX11_readsBulk 134 = .ok (.ireturn, 1) := by decide +kernel
theorem dX11_readsTax_0 : decode cX11_readsTax 0 = .ok (.aload_n 0, 1) := by decide +kernel
theorem dX11_readsTax_1 : decode cX11_readsTax 1 = .ok (.getfield 20, 3) := by decide +kernel
theorem dX11_readsTax_4 : decode cX11_readsTax 4 = .ok (.bipush 6, 2) := by decide +kernel
theorem dX11_readsTax_6 : decode cX11_readsTax 6 = .ok (.iaload, 1) := by decide +kernel
theorem dX11_readsTax_7 : decode cX11_readsTax 7 = .ok (.istore_n 1, 1) := by decide +kernel
theorem dX11_readsTax_8 : decode cX11_readsTax 8 = .ok (.iload_n 1, 1) := by decide +kernel
theorem dX11_readsTax_9 : decode cX11_readsTax 9 = .ok (.iconst 4, 1) := by decide +kernel
theorem dX11_readsTax_10 : decode cX11_readsTax 10 = .ok (.if_icmp .ne 14, 3) := by decide +kernel
theorem dX11_readsTax_13 : decode cX11_readsTax 13 = .ok (.aload_n 0, 1) := by decide +kernel
theorem dX11_readsTax_14 : decode cX11_readsTax 14 = .ok (.bipush 6, 2) := by decide +kernel
theorem dX11_readsTax_16 : decode cX11_readsTax 16 = .ok (.aload_n 0, 1) := by decide +kernel
theorem dX11_readsTax_17 : decode cX11_readsTax 17 = .ok (.getfield 109, 3) := by decide +kernel
theorem dX11_readsTax_20 : decode cX11_readsTax 20 = .ok (.invokevirtual 105, 3) := by decide +kernel
theorem dX11_readsTax_23 : decode cX11_readsTax 23 = .ok (.ireturn, 1) := by decide +kernel
theorem dX11_readsTax_24 : decode cX11_readsTax 24 = .ok (.aload_n 0, 1) := by decide +kernel
theorem dX11_readsTax_25 : decode cX11_readsTax 25 = .ok (.getfield 92, 3) := by decide +kernel
theorem dX11_readsTax_28 : decode cX11_readsTax 28 = .ok (.iconst 1, 1) := by decide +kernel
theorem dX11_readsTax_29 : decode cX11_readsTax 29 = .ok (.iadd, 1) := by decide +kernel
theorem dX11_readsTax_30 : decode cX11_readsTax 30 = .ok (.istore_n 2, 1) := by decide +kernel
theorem dX11_readsTax_31 : decode cX11_readsTax 31 = .ok (.aload_n 0, 1) := by decide +kernel
theorem dX11_readsTax_32 : decode cX11_readsTax 32 = .ok (.iconst 0, 1) := by decide +kernel
theorem dX11_readsTax_33 : decode cX11_readsTax 33 = .ok (.sipush 3652, 3) := by decide +kernel
theorem dX11_readsTax_36 : decode cX11_readsTax 36 = .ok (.invokevirtual 131, 3) := by decide +kernel
theorem dX11_readsTax_39 : decode cX11_readsTax 39 = .ok (.ifCond .ne 5, 3) := by decide +kernel
theorem dX11_readsTax_42 : decode cX11_readsTax 42 = .ok (.iconst 0, 1) := by decide +kernel
theorem dX11_readsTax_43 : decode cX11_readsTax 43 = .ok (.ireturn, 1) := by decide +kernel
theorem dX11_readsTax_44 : decode cX11_readsTax 44 = .ok (.iload_n 1, 1) := by decide +kernel
theorem dX11_readsTax_45 : decode cX11_readsTax 45 = .ok (.ifCond .le 29, 3) := by decide +kernel
theorem dX11_readsTax_48 : decode cX11_readsTax 48 = .ok (.aload_n 0, 1) := by decide +kernel
theorem dX11_readsTax_49 : decode cX11_readsTax 49 = .ok (.getfield 128, 3) := by decide +kernel
theorem dX11_readsTax_52 : decode cX11_readsTax 52 = .ok (.aload_n 0, 1) := by decide +kernel
theorem dX11_readsTax_53 : decode cX11_readsTax 53 = .ok (.getfield 20, 3) := by decide +kernel
theorem dX11_readsTax_56 : decode cX11_readsTax 56 = .ok (.bipush 7, 2) := by decide +kernel
theorem dX11_readsTax_58 : decode cX11_readsTax 58 = .ok (.iload_n 1, 1) := by decide +kernel
theorem dX11_readsTax_59 : decode cX11_readsTax 59 = .ok (.iadd, 1) := by decide +kernel
theorem dX11_readsTax_60 : decode cX11_readsTax 60 = .ok (.iconst 1, 1) := by decide +kernel
theorem dX11_readsTax_61 : decode cX11_readsTax 61 = .ok (.isub, 1) := by decide +kernel
theorem dX11_readsTax_62 : decode cX11_readsTax 62 = .ok (.iaload, 1) := by decide +kernel
theorem dX11_readsTax_63 : decode cX11_readsTax 63 = .ok (.if_icmp .gt 11, 3) := by decide +kernel
theorem dX11_readsTax_66 : decode cX11_readsTax 66 = .ok (.aload_n 0, 1) := by decide +kernel
theorem dX11_readsTax_67 : decode cX11_readsTax 67 = .ok (.bipush 6, 2) := by decide +kernel
theorem dX11_readsTax_69 : decode cX11_readsTax 69 = .ok (.iload_n 2, 1) := by decide +kernel
theorem dX11_readsTax_70 : decode cX11_readsTax 70 = .ok (.invokevirtual 105, 3) := by decide +kernel
theorem dX11_readsTax_73 : decode cX11_readsTax 73 = .ok (.ireturn, 1) := by decide +kernel
theorem dX11_readsTax_74 : decode cX11_readsTax 74 = .ok (.aload_n 0, 1) := by decide +kernel
theorem dX11_readsTax_75 : decode cX11_readsTax 75 = .ok (.getfield 20, 3) := by decide +kernel
theorem dX11_readsTax_78 : decode cX11_readsTax 78 = .ok (.bipush 7, 2) := by decide +kernel
theorem dX11_readsTax_80 : decode cX11_readsTax 80 = .ok (.iload_n 1, 1) := by decide +kernel
theorem dX11_readsTax_81 : decode cX11_readsTax 81 = .ok (.iadd, 1) := by decide +kernel
theorem dX11_readsTax_82 : decode cX11_readsTax 82 = .ok (.aload_n 0, 1) := by decide +kernel
theorem dX11_readsTax_83 : decode cX11_readsTax 83 = .ok (.getfield 128, 3) := by decide +kernel
theorem dX11_readsTax_86 : decode cX11_readsTax 86 = .ok (.iastore, 1) := by decide +kernel
theorem dX11_readsTax_87 : decode cX11_readsTax 87 = .ok (.aload_n 0, 1) := by decide +kernel
theorem dX11_readsTax_88 : decode cX11_readsTax 88 = .ok (.iconst 0, 1) := by decide +kernel
theorem dX11_readsTax_89 : decode cX11_readsTax 89 = .ok (.bipush 100, 2) := by decide +kernel
theorem dX11_readsTax_91 : decode cX11_readsTax 91 = .ok (.invokevirtual 131, 3) := by decide +kernel
theorem dX11_readsTax_94 : decode cX11_readsTax 94 = .ok (.ifCond .ne 5, 3) := by decide +kernel
theorem dX11_readsTax_97 : decode cX11_readsTax 97 = .ok (.iconst 0, 1) := by decide +kernel
theorem dX11_readsTax_98 : decode cX11_readsTax 98 = .ok (.ireturn, 1) := by decide +kernel
theorem dX11_readsTax_99 : decode cX11_readsTax 99 = .ok (.aload_n 0, 1) := by decide +kernel
theorem dX11_readsTax_100 : decode cX11_readsTax 100 = .ok (.getfield 20, 3) := by decide +kernel
theorem dX11_readsTax_103 : decode cX11_readsTax 103 = .ok (.bipush 11, 2) := by decide +kernel
theorem dX11_readsTax_105 : decode cX11_readsTax 105 = .ok (.iload_n 1, 1) := by decide +kernel
theorem dX11_readsTax_106 : decode cX11_readsTax 106 = .ok (.iadd, 1) := by decide +kernel
theorem dX11_readsTax_107 : decode cX11_readsTax 107 = .ok (.aload_n 0, 1) := by decide +kernel
theorem dX11_readsTax_108 : decode cX11_readsTax 108 = .ok (.getfield 128, 3) := by decide +kernel
theorem dX11_readsTax_111 : decode cX11_readsTax 111 = .ok (.iastore, 1) := by decide +kernel
theorem dX11_readsTax_112 : decode cX11_readsTax 112 = .ok (.aload_n 0, 1) := by decide +kernel
theorem dX11_readsTax_113 : decode cX11_readsTax 113 = .ok (.getfield 20, 3) := by decide +kernel
theorem dX11_readsTax_116 : decode cX11_readsTax 116 = .ok (.bipush 6, 2) := by decide +kernel
theorem dX11_readsTax_118 : decode cX11_readsTax 118 = .ok (.iload_n 1, 1) := by decide +kernel
theorem dX11_readsTax_119 : decode cX11_readsTax 119 = .ok (.iconst 1, 1) := by decide +kernel
theorem dX11_readsTax_120 : decode cX11_readsTax 120 = .ok (.iadd, 1) := by decide +kernel
theorem dX11_readsTax_121 : decode cX11_readsTax 121 = .ok (.iastore, 1) := by decide +kernel
theorem dX11_readsTax_122 : decode cX11_readsTax 122 = .ok (.iconst 1, 1) := by decide +kernel
theorem dX11_readsTax_123 : decode cX11_readsTax 123 = .ok (.ireturn, 1) := by decide +kernel
theorem dX11_readsOfAll_0 : decode cX11_readsOfAll 0 = .ok (.lload_n 1, 1) := by decide +kernel
theorem dX11_readsOfAll_1 : decode cX11_readsOfAll 1 = .ok (.ldc2_w 144, 3) := by decide +kernel
theorem dX11_readsOfAll_4 : decode cX11_readsOfAll 4 = .ok (.lcmp, 1) := by decide +kernel
theorem dX11_readsOfAll_5 : decode cX11_readsOfAll 5 = .ok (.ifCond .ne 10, 3) := by decide +kernel
theorem dX11_readsOfAll_8 : decode cX11_readsOfAll 8 = .ok (.aload_n 0, 1) := by decide +kernel
theorem dX11_readsOfAll_9 : decode cX11_readsOfAll 9 = .ok (.invokevirtual 146, 3) := by decide +kernel
theorem dX11_readsOfAll_12 : decode cX11_readsOfAll 12 = .ok (.goto 41, 3) := by decide +kernel
theorem dX11_readsOfAll_15 : decode cX11_readsOfAll 15 = .ok (.lload_n 1, 1) := by decide +kernel
theorem dX11_readsOfAll_16 : decode cX11_readsOfAll 16 = .ok (.ldc2_w 150, 3) := by decide +kernel
theorem dX11_readsOfAll_19 : decode cX11_readsOfAll 19 = .ok (.lcmp, 1) := by decide +kernel
theorem dX11_readsOfAll_20 : decode cX11_readsOfAll 20 = .ok (.ifCond .ne 10, 3) := by decide +kernel
theorem dX11_readsOfAll_23 : decode cX11_readsOfAll 23 = .ok (.aload_n 0, 1) := by decide +kernel
theorem dX11_readsOfAll_24 : decode cX11_readsOfAll 24 = .ok (.invokevirtual 152, 3) := by decide +kernel
theorem dX11_readsOfAll_27 : decode cX11_readsOfAll 27 = .ok (.goto 26, 3) := by decide +kernel
theorem dX11_readsOfAll_30 : decode cX11_readsOfAll 30 = .ok (.aload_n 0, 1) := by decide +kernel
theorem dX11_readsOfAll_31 : decode cX11_readsOfAll 31 = .ok (.iconst 0, 1) := by decide +kernel
theorem dX11_readsOfAll_32 : decode cX11_readsOfAll 32 = .ok (.bipush 20, 2) := by decide +kernel
theorem dX11_readsOfAll_34 : decode cX11_readsOfAll 34 = .ok (.invokevirtual 131, 3) := by decide +kernel
theorem dX11_readsOfAll_37 : decode cX11_readsOfAll 37 = .ok (.ifCond .eq 15, 3) := by decide +kernel
theorem dX11_readsOfAll_40 : decode cX11_readsOfAll 40 = .ok (.aload_n 0, 1) := by decide +kernel
theorem dX11_readsOfAll_41 : decode cX11_readsOfAll 41 = .ok (.iconst 5, 1) := by decide +kernel
theorem dX11_readsOfAll_42 : decode cX11_readsOfAll 42 = .ok (.invokevirtual 141, 3) := by decide +kernel
theorem dX11_readsOfAll_45 : decode cX11_readsOfAll 45 = .ok (.ifCond .eq 7, 3) := by decide +kernel
theorem dX11_readsOfAll_48 : decode cX11_readsOfAll 48 = .ok (.iconst 1, 1) := by decide +kernel
theorem dX11_readsOfAll_49 : decode cX11_readsOfAll 49 = .ok (.goto 4, 3) := by decide +kernel
theorem dX11_readsOfAll_52 : decode cX11_readsOfAll 52 = .ok (.iconst 0, 1) := by decide +kernel
theorem dX11_readsOfAll_53 : decode cX11_readsOfAll 53 = .ok (.ireturn, 1) := by decide +kernel
theorem dX11_isClauseWord_0 : decode cX11_isClauseWord 0 = .ok (.lload_n 0, 1) := by decide +kernel
theorem dX11_isClauseWord_1 : decode cX11_isClauseWord 1 = .ok (.ldc2_w 155, 3) := by decide +kernel
theorem dX11_isClauseWord_4 : decode cX11_isClauseWord 4 = .ok (.lcmp, 1) := by decide +kernel
theorem dX11_isClauseWord_5 : decode cX11_isClauseWord 5 = .ok (.ifCond .eq 75, 3) := by decide +kernel
theorem dX11_isClauseWord_8 : decode cX11_isClauseWord 8 = .ok (.lload_n 0, 1) := by decide +kernel
theorem dX11_isClauseWord_9 : decode cX11_isClauseWord 9 = .ok (.ldc2_w 157, 3) := by decide +kernel
theorem dX11_isClauseWord_12 : decode cX11_isClauseWord 12 = .ok (.lcmp, 1) := by decide +kernel
theorem dX11_isClauseWord_13 : decode cX11_isClauseWord 13 = .ok (.ifCond .eq 67, 3) := by decide +kernel
theorem dX11_isClauseWord_16 : decode cX11_isClauseWord 16 = .ok (.lload_n 0, 1) := by decide +kernel
theorem dX11_isClauseWord_17 : decode cX11_isClauseWord 17 = .ok (.ldc2_w 159, 3) := by decide +kernel
theorem dX11_isClauseWord_20 : decode cX11_isClauseWord 20 = .ok (.lcmp, 1) := by decide +kernel
theorem dX11_isClauseWord_21 : decode cX11_isClauseWord 21 = .ok (.ifCond .eq 59, 3) := by decide +kernel
theorem dX11_isClauseWord_24 : decode cX11_isClauseWord 24 = .ok (.lload_n 0, 1) := by decide +kernel
theorem dX11_isClauseWord_25 : decode cX11_isClauseWord 25 = .ok (.ldc2_w 161, 3) := by decide +kernel
theorem dX11_isClauseWord_28 : decode cX11_isClauseWord 28 = .ok (.lcmp, 1) := by decide +kernel
theorem dX11_isClauseWord_29 : decode cX11_isClauseWord 29 = .ok (.ifCond .eq 51, 3) := by decide +kernel
theorem dX11_isClauseWord_32 : decode cX11_isClauseWord 32 = .ok (.lload_n 0, 1) := by decide +kernel
theorem dX11_isClauseWord_33 : decode cX11_isClauseWord 33 = .ok (.ldc2_w 163, 3) := by decide +kernel
theorem dX11_isClauseWord_36 : decode cX11_isClauseWord 36 = .ok (.lcmp, 1) := by decide +kernel
theorem dX11_isClauseWord_37 : decode cX11_isClauseWord 37 = .ok (.ifCond .eq 43, 3) := by decide +kernel
theorem dX11_isClauseWord_40 : decode cX11_isClauseWord 40 = .ok (.lload_n 0, 1) := by decide +kernel
theorem dX11_isClauseWord_41 : decode cX11_isClauseWord 41 = .ok (.ldc2_w 165, 3) := by decide +kernel
theorem dX11_isClauseWord_44 : decode cX11_isClauseWord 44 = .ok (.lcmp, 1) := by decide +kernel
theorem dX11_isClauseWord_45 : decode cX11_isClauseWord 45 = .ok (.ifCond .eq 35, 3) := by decide +kernel
theorem dX11_isClauseWord_48 : decode cX11_isClauseWord 48 = .ok (.lload_n 0, 1) := by decide +kernel
theorem dX11_isClauseWord_49 : decode cX11_isClauseWord 49 = .ok (.ldc2_w 144, 3) := by decide +kernel
theorem dX11_isClauseWord_52 : decode cX11_isClauseWord 52 = .ok (.lcmp, 1) := by decide +kernel
theorem dX11_isClauseWord_53 : decode cX11_isClauseWord 53 = .ok (.ifCond .eq 27, 3) := by decide +kernel
theorem dX11_isClauseWord_56 : decode cX11_isClauseWord 56 = .ok (.lload_n 0, 1) := by decide +kernel
theorem dX11_isClauseWord_57 : decode cX11_isClauseWord 57 = .ok (.ldc2_w 167, 3) := by decide +kernel
theorem dX11_isClauseWord_60 : decode cX11_isClauseWord 60 = .ok (.lcmp, 1) := by decide +kernel
theorem dX11_isClauseWord_61 : decode cX11_isClauseWord 61 = .ok (.ifCond .eq 19, 3) := by decide +kernel
theorem dX11_isClauseWord_64 : decode cX11_isClauseWord 64 = .ok (.lload_n 0, 1) := by decide +kernel
theorem dX11_isClauseWord_65 : decode cX11_isClauseWord 65 = .ok (.ldc2_w 169, 3) := by decide +kernel
theorem dX11_isClauseWord_68 : decode cX11_isClauseWord 68 = .ok (.lcmp, 1) := by decide +kernel
theorem dX11_isClauseWord_69 : decode cX11_isClauseWord 69 = .ok (.ifCond .eq 11, 3) := by decide +kernel
theorem dX11_isClauseWord_72 : decode cX11_isClauseWord 72 = .ok (.lload_n 0, 1) := by decide +kernel
theorem dX11_isClauseWord_73 : decode cX11_isClauseWord 73 = .ok (.ldc2_w 150, 3) := by decide +kernel
theorem dX11_isClauseWord_76 : decode cX11_isClauseWord 76 = .ok (.lcmp, 1) := by decide +kernel
theorem dX11_isClauseWord_77 : decode cX11_isClauseWord 77 = .ok (.ifCond .ne 7, 3) := by decide +kernel
theorem dX11_isClauseWord_80 : decode cX11_isClauseWord 80 = .ok (.iconst 1, 1) := by decide +kernel
theorem dX11_isClauseWord_81 : decode cX11_isClauseWord 81 = .ok (.goto 4, 3) := by decide +kernel
theorem dX11_isClauseWord_84 : decode cX11_isClauseWord 84 = .ok (.iconst 0, 1) := by decide +kernel
theorem dX11_isClauseWord_85 : decode cX11_isClauseWord 85 = .ok (.ireturn, 1) := by decide +kernel
theorem dX11_readsClause_0 : decode cX11_readsClause 0 = .ok (.aload_n 0, 1) := by decide +kernel
theorem dX11_readsClause_1 : decode cX11_readsClause 1 = .ok (.getfield 171, 3) := by decide +kernel
theorem dX11_readsClause_4 : decode cX11_readsClause 4 = .ok (.bipush 20, 2) := by decide +kernel
theorem dX11_readsClause_6 : decode cX11_readsClause 6 = .ok (.if_icmp .ne 13, 3) := by decide +kernel
theorem dX11_readsClause_9 : decode cX11_readsClause 9 = .ok (.aload_n 0, 1) := by decide +kernel
theorem dX11_readsClause_10 : decode cX11_readsClause 10 = .ok (.iconst 4, 1) := by decide +kernel
theorem dX11_readsClause_11 : decode cX11_readsClause 11 = .ok (.aload_n 0, 1) := by decide +kernel
theorem dX11_readsClause_12 : decode cX11_readsClause 12 = .ok (.getfield 92, 3) := by decide +kernel
theorem dX11_readsClause_15 : decode cX11_readsClause 15 = .ok (.invokevirtual 105, 3) := by decide +kernel
theorem dX11_readsClause_18 : decode cX11_readsClause 18 = .ok (.ireturn, 1) := by decide +kernel
theorem dX11_readsClause_19 : decode cX11_readsClause 19 = .ok (.aload_n 0, 1) := by decide +kernel
theorem dX11_readsClause_20 : decode cX11_readsClause 20 = .ok (.invokevirtual 134, 3) := by decide +kernel
theorem dX11_readsClause_23 : decode cX11_readsClause 23 = .ok (.aload_n 0, 1) := by decide +kernel
theorem dX11_readsClause_24 : decode cX11_readsClause 24 = .ok (.getfield 112, 3) := by decide +kernel
theorem dX11_readsClause_27 : decode cX11_readsClause 27 = .ok (.lstore_n 1, 1) := by decide +kernel
theorem dX11_readsClause_28 : decode cX11_readsClause 28 = .ok (.lload_n 1, 1) := by decide +kernel
theorem dX11_readsClause_29 : decode cX11_readsClause 29 = .ok (.invokestatic 174, 3) := by decide +kernel
theorem dX11_readsClause_32 : decode cX11_readsClause 32 = .ok (.ifCond .ne 13, 3) := by decide +kernel
theorem dX11_readsClause_35 : decode cX11_readsClause 35 = .ok (.aload_n 0, 1) := by decide +kernel
theorem dX11_readsClause_36 : decode cX11_readsClause 36 = .ok (.iconst 1, 1) := by decide +kernel
theorem dX11_readsClause_37 : decode cX11_readsClause 37 = .ok (.aload_n 0, 1) := by decide +kernel
theorem dX11_readsClause_38 : decode cX11_readsClause 38 = .ok (.getfield 109, 3) := by decide +kernel
theorem dX11_readsClause_41 : decode cX11_readsClause 41 = .ok (.invokevirtual 105, 3) := by decide +kernel
theorem dX11_readsClause_44 : decode cX11_readsClause 44 = .ok (.ireturn, 1) := by decide +kernel
theorem dX11_readsClause_45 : decode cX11_readsClause 45 = .ok (.aload_n 0, 1) := by decide +kernel
theorem dX11_readsClause_46 : decode cX11_readsClause 46 = .ok (.aload_n 0, 1) := by decide +kernel
theorem dX11_readsClause_47 : decode cX11_readsClause 47 = .ok (.getfield 171, 3) := by decide +kernel
theorem dX11_readsClause_50 : decode cX11_readsClause 50 = .ok (.iconst 1, 1) := by decide +kernel
theorem dX11_readsClause_51 : decode cX11_readsClause 51 = .ok (.iadd, 1) := by decide +kernel
theorem dX11_readsClause_52 : decode cX11_readsClause 52 = .ok (.putfield 171, 3) := by decide +kernel
theorem dX11_readsClause_55 : decode cX11_readsClause 55 = .ok (.lload_n 1, 1) := by decide +kernel
theorem dX11_readsClause_56 : decode cX11_readsClause 56 = .ok (.ldc2_w 144, 3) := by decide +kernel
theorem dX11_readsClause_59 : decode cX11_readsClause 59 = .ok (.lcmp, 1) := by decide +kernel
theorem dX11_readsClause_60 : decode cX11_readsClause 60 = .ok (.ifCond .eq 19, 3) := by decide +kernel
theorem dX11_readsClause_63 : decode cX11_readsClause 63 = .ok (.lload_n 1, 1) := by decide +kernel
theorem dX11_readsClause_64 : decode cX11_readsClause 64 = .ok (.ldc2_w 167, 3) := by decide +kernel
theorem dX11_readsClause_67 : decode cX11_readsClause 67 = .ok (.lcmp, 1) := by decide +kernel
theorem dX11_readsClause_68 : decode cX11_readsClause 68 = .ok (.ifCond .eq 11, 3) := by decide +kernel
theorem dX11_readsClause_71 : decode cX11_readsClause 71 = .ok (.lload_n 1, 1) := by decide +kernel
theorem dX11_readsClause_72 : decode cX11_readsClause 72 = .ok (.ldc2_w 150, 3) := by decide +kernel
theorem dX11_readsClause_75 : decode cX11_readsClause 75 = .ok (.lcmp, 1) := by decide +kernel
theorem dX11_readsClause_76 : decode cX11_readsClause 76 = .ok (.ifCond .ne 9, 3) := by decide +kernel
theorem dX11_readsClause_79 : decode cX11_readsClause 79 = .ok (.aload_n 0, 1) := by decide +kernel
theorem dX11_readsClause_80 : decode cX11_readsClause 80 = .ok (.lload_n 1, 1) := by decide +kernel
theorem dX11_readsClause_81 : decode cX11_readsClause 81 = .ok (.invokevirtual 178, 3) := by decide +kernel
theorem dX11_readsClause_84 : decode cX11_readsClause 84 = .ok (.ireturn, 1) := by decide +kernel
theorem dX11_readsClause_85 : decode cX11_readsClause 85 = .ok (.aload_n 0, 1) := by decide +kernel
theorem dX11_readsClause_86 : decode cX11_readsClause 86 = .ok (.invokevirtual 181, 3) := by decide +kernel
theorem dX11_readsClause_89 : decode cX11_readsClause 89 = .ok (.ifCond .ne 5, 3) := by decide +kernel
theorem dX11_readsClause_92 : decode cX11_readsClause 92 = .ok (.iconst 0, 1) := by decide +kernel
theorem dX11_readsClause_93 : decode cX11_readsClause 93 = .ok (.ireturn, 1) := by decide +kernel
theorem dX11_readsClause_94 : decode cX11_readsClause 94 = .ok (.bipush 20, 2) := by decide +kernel
theorem dX11_readsClause_96 : decode cX11_readsClause 96 = .ok (.bipush 24, 2) := by decide +kernel
theorem dX11_readsClause_98 : decode cX11_readsClause 98 = .ok (.aload_n 0, 1) := by decide +kernel
theorem dX11_readsClause_99 : decode cX11_readsClause 99 = .ok (.getfield 128, 3) := by decide +kernel
theorem dX11_readsClause_102 : decode cX11_readsClause 102 = .ok (.imul, 1) := by decide +kernel
theorem dX11_readsClause_103 : decode cX11_readsClause 103 = .ok (.iadd, 1) := by decide +kernel
theorem dX11_readsClause_104 : decode cX11_readsClause 104 = .ok (.istore_n 3, 1) := by decide +kernel
theorem dX11_readsClause_105 : decode cX11_readsClause 105 = .ok (.lload_n 1, 1) := by decide +kernel
theorem dX11_readsClause_106 : decode cX11_readsClause 106 = .ok (.ldc2_w 159, 3) := by decide +kernel
theorem dX11_readsClause_109 : decode cX11_readsClause 109 = .ok (.lcmp, 1) := by decide +kernel
theorem dX11_readsClause_110 : decode cX11_readsClause 110 = .ok (.ifCond .ne 9, 3) := by decide +kernel
theorem dX11_readsClause_113 : decode cX11_readsClause 113 = .ok (.aload_n 0, 1) := by decide +kernel
theorem dX11_readsClause_114 : decode cX11_readsClause 114 = .ok (.iload_n 3, 1) := by decide +kernel
theorem dX11_readsClause_115 : decode cX11_readsClause 115 = .ok (.invokevirtual 184, 3) := by decide +kernel
theorem dX11_readsClause_118 : decode cX11_readsClause 118 = .ok (.ireturn, 1) := by decide +kernel
theorem dX11_readsClause_119 : decode cX11_readsClause 119 = .ok (.lload_n 1, 1) := by decide +kernel
theorem dX11_readsClause_120 : decode cX11_readsClause 120 = .ok (.ldc2_w 169, 3) := by decide +kernel
theorem dX11_readsClause_123 : decode cX11_readsClause 123 = .ok (.lcmp, 1) := by decide +kernel
theorem dX11_readsClause_124 : decode cX11_readsClause 124 = .ok (.ifCond .ne 9, 3) := by decide +kernel
theorem dX11_readsClause_127 : decode cX11_readsClause 127 = .ok (.aload_n 0, 1) := by decide +kernel
theorem dX11_readsClause_128 : decode cX11_readsClause 128 = .ok (.iload_n 3, 1) := by decide +kernel
theorem dX11_readsClause_129 : decode cX11_readsClause 129 = .ok (.invokevirtual 187, 3) := by decide +kernel
theorem dX11_readsClause_132 : decode cX11_readsClause 132 = .ok (.ireturn, 1) := by decide +kernel
theorem dX11_readsClause_133 : decode cX11_readsClause 133 = .ok (.lload_n 1, 1) := by decide +kernel
theorem dX11_readsClause_134 : decode cX11_readsClause 134 = .ok (.ldc2_w 163, 3) := by decide +kernel
theorem dX11_readsClause_137 : decode cX11_readsClause 137 = .ok (.lcmp, 1) := by decide +kernel
theorem dX11_readsClause_138 : decode cX11_readsClause 138 = .ok (.ifCond .ne 9, 3) := by decide +kernel
theorem dX11_readsClause_141 : decode cX11_readsClause 141 = .ok (.aload_n 0, 1) := by decide +kernel
theorem dX11_readsClause_142 : decode cX11_readsClause 142 = .ok (.iload_n 3, 1) := by decide +kernel
theorem dX11_readsClause_143 : decode cX11_readsClause 143 = .ok (.invokevirtual 190, 3) := by decide +kernel
theorem dX11_readsClause_146 : decode cX11_readsClause 146 = .ok (.ireturn, 1) := by decide +kernel
theorem dX11_readsClause_147 : decode cX11_readsClause 147 = .ok (.lload_n 1, 1) := by decide +kernel
theorem dX11_readsClause_148 : decode cX11_readsClause 148 = .ok (.ldc2_w 155, 3) := by decide +kernel
theorem dX11_readsClause_151 : decode cX11_readsClause 151 = .ok (.lcmp, 1) := by decide +kernel
theorem dX11_readsClause_152 : decode cX11_readsClause 152 = .ok (.ifCond .ne 29, 3) := by decide +kernel
theorem dX11_readsClause_155 : decode cX11_readsClause 155 = .ok (.aload_n 0, 1) := by decide +kernel
theorem dX11_readsClause_156 : decode cX11_readsClause 156 = .ok (.iconst 0, 1) := by decide +kernel
theorem dX11_readsClause_157 : decode cX11_readsClause 157 = .ok (.ldc 193, 2) := by decide +kernel
theorem dX11_readsClause_159 : decode cX11_readsClause 159 = .ok (.invokevirtual 131, 3) := by decide +kernel
theorem dX11_readsClause_162 : decode cX11_readsClause 162 = .ok (.ifCond .eq 17, 3) := by decide +kernel
theorem dX11_readsClause_165 : decode cX11_readsClause 165 = .ok (.aload_n 0, 1) := by decide +kernel
theorem dX11_readsClause_166 : decode cX11_readsClause 166 = .ok (.iload_n 3, 1) := by decide +kernel
theorem dX11_readsClause_167 : decode cX11_readsClause 167 = .ok (.iconst 0, 1) := by decide +kernel
theorem dX11_readsClause_168 : decode cX11_readsClause 168 = .ok (.iadd, 1) := by decide +kernel
theorem dX11_readsClause_169 : decode cX11_readsClause 169 = .ok (.invokevirtual 141, 3) := by decide +kernel
theorem dX11_readsClause_172 : decode cX11_readsClause 172 = .ok (.ifCond .eq 7, 3) := by decide +kernel
theorem dX11_readsClause_175 : decode cX11_readsClause 175 = .ok (.iconst 1, 1) := by decide +kernel
theorem dX11_readsClause_176 : decode cX11_readsClause 176 = .ok (.goto 4, 3) := by decide +kernel
theorem dX11_readsClause_179 : decode cX11_readsClause 179 = .ok (.iconst 0, 1) := by decide +kernel
theorem dX11_readsClause_180 : decode cX11_readsClause 180 = .ok (.ireturn, 1) := by decide +kernel
theorem dX11_readsClause_181 : decode cX11_readsClause 181 = .ok (.lload_n 1, 1) := by decide +kernel
theorem dX11_readsClause_182 : decode cX11_readsClause 182 = .ok (.ldc2_w 157, 3) := by decide +kernel
theorem dX11_readsClause_185 : decode cX11_readsClause 185 = .ok (.lcmp, 1) := by decide +kernel
theorem dX11_readsClause_186 : decode cX11_readsClause 186 = .ok (.ifCond .ne 30, 3) := by decide +kernel
theorem dX11_readsClause_189 : decode cX11_readsClause 189 = .ok (.aload_n 0, 1) := by decide +kernel
theorem dX11_readsClause_190 : decode cX11_readsClause 190 = .ok (.iconst 0, 1) := by decide +kernel
theorem dX11_readsClause_191 : decode cX11_readsClause 191 = .ok (.sipush 9999, 3) := by decide +kernel
theorem dX11_readsClause_194 : decode cX11_readsClause 194 = .ok (.invokevirtual 131, 3) := by decide +kernel
theorem dX11_readsClause_197 : decode cX11_readsClause 197 = .ok (.ifCond .eq 17, 3) := by decide +kernel
theorem dX11_readsClause_200 : decode cX11_readsClause 200 = .ok (.aload_n 0, 1) := by decide +kernel
theorem dX11_readsClause_201 : decode cX11_readsClause 201 = .ok (.iload_n 3, 1) := by decide +kernel
theorem dX11_readsClause_202 : decode cX11_readsClause 202 = .ok (.iconst 1, 1) := by decide +kernel
theorem dX11_readsClause_203 : decode cX11_readsClause 203 = .ok (.iadd, 1) := by decide +kernel
theorem dX11_readsClause_204 : decode cX11_readsClause 204 = .ok (.invokevirtual 141, 3) := by decide +kernel
theorem dX11_readsClause_207 : decode cX11_readsClause 207 = .ok (.ifCond .eq 7, 3) := by decide +kernel
theorem dX11_readsClause_210 : decode cX11_readsClause 210 = .ok (.iconst 1, 1) := by decide +kernel
theorem dX11_readsClause_211 : decode cX11_readsClause 211 = .ok (.goto 4, 3) := by decide +kernel
theorem dX11_readsClause_214 : decode cX11_readsClause 214 = .ok (.iconst 0, 1) := by decide +kernel
theorem dX11_readsClause_215 : decode cX11_readsClause 215 = .ok (.ireturn, 1) := by decide +kernel
theorem dX11_readsClause_216 : decode cX11_readsClause 216 = .ok (.lload_n 1, 1) := by decide +kernel
theorem dX11_readsClause_217 : decode cX11_readsClause 217 = .ok (.ldc2_w 161, 3) := by decide +kernel
theorem dX11_readsClause_220 : decode cX11_readsClause 220 = .ok (.lcmp, 1) := by decide +kernel
theorem dX11_readsClause_221 : decode cX11_readsClause 221 = .ok (.ifCond .ne 31, 3) := by decide +kernel
theorem dX11_readsClause_224 : decode cX11_readsClause 224 = .ok (.aload_n 0, 1) := by decide +kernel
theorem dX11_readsClause_225 : decode cX11_readsClause 225 = .ok (.iconst 0, 1) := by decide +kernel
theorem dX11_readsClause_226 : decode cX11_readsClause 226 = .ok (.bipush 99, 2) := by decide +kernel
theorem dX11_readsClause_228 : decode cX11_readsClause 228 = .ok (.invokevirtual 131, 3) := by decide +kernel
theorem dX11_readsClause_231 : decode cX11_readsClause 231 = .ok (.ifCond .eq 17, 3) := by decide +kernel
theorem dX11_readsClause_234 : decode cX11_readsClause 234 = .ok (.aload_n 0, 1) := by decide +kernel
theorem dX11_readsClause_235 : decode cX11_readsClause 235 = .ok (.iload_n 3, 1) := by decide +kernel
theorem dX11_readsClause_236 : decode cX11_readsClause 236 = .ok (.iconst 3, 1) := by decide +kernel
theorem dX11_readsClause_237 : decode cX11_readsClause 237 = .ok (.iadd, 1) := by decide +kernel
theorem dX11_readsClause_238 : decode cX11_readsClause 238 = .ok (.invokevirtual 141, 3) := by decide +kernel
theorem dX11_readsClause_241 : decode cX11_readsClause 241 = .ok (.ifCond .eq 7, 3) := by decide +kernel
theorem dX11_readsClause_244 : decode cX11_readsClause 244 = .ok (.iconst 1, 1) := by decide +kernel
theorem dX11_readsClause_245 : decode cX11_readsClause 245 = .ok (.goto 32, 3) := by decide +kernel
theorem dX11_readsClause_248 : decode cX11_readsClause 248 = .ok (.iconst 0, 1) := by decide +kernel
theorem dX11_readsClause_249 : decode cX11_readsClause 249 = .ok (.goto 28, 3) := by decide +kernel
theorem dX11_readsClause_252 : decode cX11_readsClause 252 = .ok (.aload_n 0, 1) := by decide +kernel
theorem dX11_readsClause_253 : decode cX11_readsClause 253 = .ok (.iconst 0, 1) := by decide +kernel
theorem dX11_readsClause_254 : decode cX11_readsClause 254 = .ok (.bipush 100, 2) := by decide +kernel
theorem dX11_readsClause_256 : decode cX11_readsClause 256 = .ok (.invokevirtual 131, 3) := by decide +kernel
theorem dX11_readsClause_259 : decode cX11_readsClause 259 = .ok (.ifCond .eq 17, 3) := by decide +kernel
theorem dX11_readsClause_262 : decode cX11_readsClause 262 = .ok (.aload_n 0, 1) := by decide +kernel
theorem dX11_readsClause_263 : decode cX11_readsClause 263 = .ok (.iload_n 3, 1) := by decide +kernel
theorem dX11_readsClause_264 : decode cX11_readsClause 264 = .ok (.iconst 5, 1) := by decide +kernel
theorem dX11_readsClause_265 : decode cX11_readsClause 265 = .ok (.iadd, 1) := by decide +kernel
theorem dX11_readsClause_266 : decode cX11_readsClause 266 = .ok (.invokevirtual 141, 3) := by decide +kernel
theorem dX11_readsClause_269 : decode cX11_readsClause 269 = .ok (.ifCond .eq 7, 3) := by decide +kernel
theorem dX11_readsClause_272 : decode cX11_readsClause 272 = .ok (.iconst 1, 1) := by decide +kernel
theorem dX11_readsClause_273 : decode cX11_readsClause 273 = .ok (.goto 4, 3) := by decide +kernel
theorem dX11_readsClause_276 : decode cX11_readsClause 276 = .ok (.iconst 0, 1) := by decide +kernel
theorem dX11_readsClause_277 : decode cX11_readsClause 277 = .ok (.ireturn, 1) := by decide +kernel
theorem dX11_book_0 : decode cX11_book 0 = .ok (.iload_n 1, 1) := by decide +kernel
theorem dX11_book_1 : decode cX11_book 1 = .ok (.iconst 1, 1) := by decide +kernel
theorem dX11_book_2 : decode cX11_book 2 = .ok (.sipush 200, 3) := by decide +kernel
theorem dX11_book_5 : decode cX11_book 5 = .ok (.invokestatic 56, 3) := by decide +kernel
theorem dX11_book_8 : decode cX11_book 8 = .ok (.ifCond .eq 11, 3) := by decide +kernel
theorem dX11_book_11 : decode cX11_book 11 = .ok (.iload_n 1, 1) := by decide +kernel
theorem dX11_book_12 : decode cX11_book 12 = .ok (.aload_n 0, 1) := by decide +kernel
theorem dX11_book_13 : decode cX11_book 13 = .ok (.getfield 84, 3) := by decide +kernel
theorem dX11_book_16 : decode cX11_book 16 = .ok (.if_icmp .le 5, 3) := by decide +kernel
theorem dX11_book_19 : decode cX11_book 19 = .ok (.iconst (-1), 1) := by decide +kernel
theorem dX11_book_20 : decode cX11_book 20 = .ok (.ireturn, 1) := by decide +kernel
theorem dX11_book_21 : decode cX11_book 21 = .ok (.aload_n 0, 1) := by decide +kernel
theorem dX11_book_22 : decode cX11_book 22 = .ok (.iconst 0, 1) := by decide +kernel
theorem dX11_book_23 : decode cX11_book 23 = .ok (.putfield 92, 3) := by decide +kernel
theorem dX11_book_26 : decode cX11_book 26 = .ok (.aload_n 0, 1) := by decide +kernel
theorem dX11_book_27 : decode cX11_book 27 = .ok (.iload_n 1, 1) := by decide +kernel
theorem dX11_book_28 : decode cX11_book 28 = .ok (.putfield 95, 3) := by decide +kernel
theorem dX11_book_31 : decode cX11_book 31 = .ok (.aload_n 0, 1) := by decide +kernel
theorem dX11_book_32 : decode cX11_book 32 = .ok (.iconst 0, 1) := by decide +kernel
theorem dX11_book_33 : decode cX11_book 33 = .ok (.putfield 84, 3) := by decide +kernel
theorem dX11_book_36 : decode cX11_book 36 = .ok (.aload_n 0, 1) := by decide +kernel
theorem dX11_book_37 : decode cX11_book 37 = .ok (.getfield 13, 3) := by decide +kernel
theorem dX11_book_40 : decode cX11_book 40 = .ok (.iconst 1, 1) := by decide +kernel
theorem dX11_book_41 : decode cX11_book 41 = .ok (.iaload, 1) := by decide +kernel
theorem dX11_book_42 : decode cX11_book 42 = .ok (.ifCond .le 6, 3) := by decide +kernel
theorem dX11_book_45 : decode cX11_book 45 = .ok (.bipush (-3), 2) := by decide +kernel
theorem dX11_book_47 : decode cX11_book 47 = .ok (.ireturn, 1) := by decide +kernel
theorem dX11_book_48 : decode cX11_book 48 = .ok (.iconst 0, 1) := by decide +kernel
theorem dX11_book_49 : decode cX11_book 49 = .ok (.istore_n 2, 1) := by decide +kernel
theorem dX11_book_50 : decode cX11_book 50 = .ok (.iload_n 2, 1) := by decide +kernel
theorem dX11_book_51 : decode cX11_book 51 = .ok (.aload_n 0, 1) := by decide +kernel
theorem dX11_book_52 : decode cX11_book 52 = .ok (.getfield 20, 3) := by decide +kernel
theorem dX11_book_55 : decode cX11_book 55 = .ok (.arraylength, 1) := by decide +kernel
theorem dX11_book_56 : decode cX11_book 56 = .ok (.if_icmp .ge 16, 3) := by decide +kernel
theorem dX11_book_59 : decode cX11_book 59 = .ok (.aload_n 0, 1) := by decide +kernel
theorem dX11_book_60 : decode cX11_book 60 = .ok (.getfield 20, 3) := by decide +kernel
theorem dX11_book_63 : decode cX11_book 63 = .ok (.iload_n 2, 1) := by decide +kernel
theorem dX11_book_64 : decode cX11_book 64 = .ok (.iconst 0, 1) := by decide +kernel
theorem dX11_book_65 : decode cX11_book 65 = .ok (.iastore, 1) := by decide +kernel
theorem dX11_book_66 : decode cX11_book 66 = .ok (.iinc 2 1, 3) := by decide +kernel
theorem dX11_book_69 : decode cX11_book 69 = .ok (.goto (-19), 3) := by decide +kernel
theorem dX11_book_72 : decode cX11_book 72 = .ok (.aload_n 0, 1) := by decide +kernel
theorem dX11_book_73 : decode cX11_book 73 = .ok (.iconst 0, 1) := by decide +kernel
theorem dX11_book_74 : decode cX11_book 74 = .ok (.putfield 171, 3) := by decide +kernel
theorem dX11_book_77 : decode cX11_book 77 = .ok (.aload_n 0, 1) := by decide +kernel
theorem dX11_book_78 : decode cX11_book 78 = .ok (.invokevirtual 194, 3) := by decide +kernel
theorem dX11_book_81 : decode cX11_book 81 = .ok (.istore_n 2, 1) := by decide +kernel
theorem dX11_book_82 : decode cX11_book 82 = .ok (.iload_n 2, 1) := by decide +kernel
theorem dX11_book_83 : decode cX11_book 83 = .ok (.ifCond .eq 39, 3) := by decide +kernel
theorem dX11_book_86 : decode cX11_book 86 = .ok (.aload_n 0, 1) := by decide +kernel
theorem dX11_book_87 : decode cX11_book 87 = .ok (.getfield 92, 3) := by decide +kernel
theorem dX11_book_90 : decode cX11_book 90 = .ok (.aload_n 0, 1) := by decide +kernel
theorem dX11_book_91 : decode cX11_book 91 = .ok (.getfield 95, 3) := by decide +kernel
theorem dX11_book_94 : decode cX11_book 94 = .ok (.if_icmp .ge 28, 3) := by decide +kernel
theorem dX11_book_97 : decode cX11_book 97 = .ok (.aload_n 0, 1) := by decide +kernel
theorem dX11_book_98 : decode cX11_book 98 = .ok (.bipush 59, 2) := by decide +kernel
theorem dX11_book_100 : decode cX11_book 100 = .ok (.invokevirtual 122, 3) := by decide +kernel
theorem dX11_book_103 : decode cX11_book 103 = .ok (.ifCond .eq 14, 3) := by decide +kernel
theorem dX11_book_106 : decode cX11_book 106 = .ok (.aload_n 0, 1) := by decide +kernel
theorem dX11_book_107 : decode cX11_book 107 = .ok (.invokevirtual 194, 3) := by decide +kernel
theorem dX11_book_110 : decode cX11_book 110 = .ok (.ifCond .eq 7, 3) := by decide +kernel
theorem dX11_book_113 : decode cX11_book 113 = .ok (.iconst 1, 1) := by decide +kernel
theorem dX11_book_114 : decode cX11_book 114 = .ok (.goto 4, 3) := by decide +kernel
theorem dX11_book_117 : decode cX11_book 117 = .ok (.iconst 0, 1) := by decide +kernel
theorem dX11_book_118 : decode cX11_book 118 = .ok (.istore_n 2, 1) := by decide +kernel
theorem dX11_book_119 : decode cX11_book 119 = .ok (.goto (-37), 3) := by decide +kernel
theorem dX11_book_122 : decode cX11_book 122 = .ok (.iload_n 2, 1) := by decide +kernel
theorem dX11_book_123 : decode cX11_book 123 = .ok (.ifCond .ne 8, 3) := by decide +kernel
theorem dX11_book_126 : decode cX11_book 126 = .ok (.aload_n 0, 1) := by decide +kernel
theorem dX11_book_127 : decode cX11_book 127 = .ok (.getfield 98, 3) := by decide +kernel
theorem dX11_book_130 : decode cX11_book 130 = .ok (.ireturn, 1) := by decide +kernel
theorem dX11_book_131 : decode cX11_book 131 = .ok (.iconst 2, 1) := by decide +kernel
theorem dX11_book_132 : decode cX11_book 132 = .ok (.istore_n 3, 1) := by decide +kernel
theorem dX11_book_133 : decode cX11_book 133 = .ok (.iload_n 3, 1) := by decide +kernel
theorem dX11_book_134 : decode cX11_book 134 = .ok (.aload_n 0, 1) := by decide +kernel
theorem dX11_book_135 : decode cX11_book 135 = .ok (.getfield 20, 3) := by decide +kernel
theorem dX11_book_138 : decode cX11_book 138 = .ok (.arraylength, 1) := by decide +kernel
theorem dX11_book_139 : decode cX11_book 139 = .ok (.if_icmp .ge 21, 3) := by decide +kernel
theorem dX11_book_142 : decode cX11_book 142 = .ok (.aload_n 0, 1) := by decide +kernel
theorem dX11_book_143 : decode cX11_book 143 = .ok (.getfield 13, 3) := by decide +kernel
theorem dX11_book_146 : decode cX11_book 146 = .ok (.iload_n 3, 1) := by decide +kernel
theorem dX11_book_147 : decode cX11_book 147 = .ok (.aload_n 0, 1) := by decide +kernel
theorem dX11_book_148 : decode cX11_book 148 = .ok (.getfield 20, 3) := by decide +kernel
theorem dX11_book_151 : decode cX11_book 151 = .ok (.iload_n 3, 1) := by decide +kernel
theorem dX11_book_152 : decode cX11_book 152 = .ok (.iaload, 1) := by decide +kernel
theorem dX11_book_153 : decode cX11_book 153 = .ok (.iastore, 1) := by decide +kernel
theorem dX11_book_154 : decode cX11_book 154 = .ok (.iinc 3 1, 3) := by decide +kernel
theorem dX11_book_157 : decode cX11_book 157 = .ok (.goto (-24), 3) := by decide +kernel
theorem dX11_book_160 : decode cX11_book 160 = .ok (.aload_n 0, 1) := by decide +kernel
theorem dX11_book_161 : decode cX11_book 161 = .ok (.getfield 13, 3) := by decide +kernel
theorem dX11_book_164 : decode cX11_book 164 = .ok (.iconst 4, 1) := by decide +kernel
theorem dX11_book_165 : decode cX11_book 165 = .ok (.aload_n 0, 1) := by decide +kernel
theorem dX11_book_166 : decode cX11_book 166 = .ok (.getfield 171, 3) := by decide +kernel
theorem dX11_book_169 : decode cX11_book 169 = .ok (.iastore, 1) := by decide +kernel
theorem dX11_book_170 : decode cX11_book 170 = .ok (.aload_n 0, 1) := by decide +kernel
theorem dX11_book_171 : decode cX11_book 171 = .ok (.getfield 171, 3) := by decide +kernel
theorem dX11_book_174 : decode cX11_book 174 = .ok (.ireturn, 1) := by decide +kernel
theorem dX11_planOf_0 : decode cX11_planOf 0 = .ok (.aload_n 0, 1) := by decide +kernel
theorem dX11_planOf_1 : decode cX11_planOf 1 = .ok (.getfield 13, 3) := by decide +kernel
theorem dX11_planOf_4 : decode cX11_planOf 4 = .ok (.bipush 20, 2) := by decide +kernel
theorem dX11_planOf_6 : decode cX11_planOf 6 = .ok (.bipush 24, 2) := by decide +kernel
theorem dX11_planOf_8 : decode cX11_planOf 8 = .ok (.iload_n 1, 1) := by decide +kernel
theorem dX11_planOf_9 : decode cX11_planOf 9 = .ok (.imul, 1) := by decide +kernel
theorem dX11_planOf_10 : decode cX11_planOf 10 = .ok (.iadd, 1) := by decide +kernel
theorem dX11_planOf_11 : decode cX11_planOf 11 = .ok (.iload_n 2, 1) := by decide +kernel
theorem dX11_planOf_12 : decode cX11_planOf 12 = .ok (.iadd, 1) := by decide +kernel
theorem dX11_planOf_13 : decode cX11_planOf 13 = .ok (.iaload, 1) := by decide +kernel
theorem dX11_planOf_14 : decode cX11_planOf 14 = .ok (.ireturn, 1) := by decide +kernel
theorem dX11_isPlan_0 : decode cX11_isPlan 0 = .ok (.iload_n 0, 1) := by decide +kernel
theorem dX11_isPlan_1 : decode cX11_isPlan 1 = .ok (.iconst 0, 1) := by decide +kernel
theorem dX11_isPlan_2 : decode cX11_isPlan 2 = .ok (.iconst 5, 1) := by decide +kernel
theorem dX11_isPlan_3 : decode cX11_isPlan 3 = .ok (.invokestatic 56, 3) := by decide +kernel
theorem dX11_isPlan_6 : decode cX11_isPlan 6 = .ok (.ireturn, 1) := by decide +kernel
theorem dX11_plan_0 : decode cX11_plan 0 = .ok (.iload_n 1, 1) := by decide +kernel
theorem dX11_plan_1 : decode cX11_plan 1 = .ok (.invokestatic 197, 3) := by decide +kernel
theorem dX11_plan_4 : decode cX11_plan 4 = .ok (.ifCond .ne 5, 3) := by decide +kernel
theorem dX11_plan_7 : decode cX11_plan 7 = .ok (.iconst (-1), 1) := by decide +kernel
theorem dX11_plan_8 : decode cX11_plan 8 = .ok (.ireturn, 1) := by decide +kernel
theorem dX11_plan_9 : decode cX11_plan 9 = .ok (.iload_n 2, 1) := by decide +kernel
theorem dX11_plan_10 : decode cX11_plan 10 = .ok (.iconst 0, 1) := by decide +kernel
theorem dX11_plan_11 : decode cX11_plan 11 = .ok (.iconst 5, 1) := by decide +kernel
theorem dX11_plan_12 : decode cX11_plan 12 = .ok (.invokestatic 56, 3) := by decide +kernel
theorem dX11_plan_15 : decode cX11_plan 15 = .ok (.ifCond .eq 10, 3) := by decide +kernel
theorem dX11_plan_18 : decode cX11_plan 18 = .ok (.aload_n 0, 1) := by decide +kernel
theorem dX11_plan_19 : decode cX11_plan 19 = .ok (.iload_n 1, 1) := by decide +kernel
theorem dX11_plan_20 : decode cX11_plan 20 = .ok (.iload_n 2, 1) := by decide +kernel
theorem dX11_plan_21 : decode cX11_plan 21 = .ok (.invokevirtual 200, 3) := by decide +kernel
theorem dX11_plan_24 : decode cX11_plan 24 = .ok (.ireturn, 1) := by decide +kernel
theorem dX11_plan_25 : decode cX11_plan 25 = .ok (.iload_n 2, 1) := by decide +kernel
theorem dX11_plan_26 : decode cX11_plan 26 = .ok (.bipush 10, 2) := by decide +kernel
theorem dX11_plan_28 : decode cX11_plan 28 = .ok (.bipush 13, 2) := by decide +kernel
theorem dX11_plan_30 : decode cX11_plan 30 = .ok (.invokestatic 56, 3) := by decide +kernel
theorem dX11_plan_33 : decode cX11_plan 33 = .ok (.ifCond .ne 38, 3) := by decide +kernel
theorem dX11_plan_36 : decode cX11_plan 36 = .ok (.iload_n 2, 1) := by decide +kernel
theorem dX11_plan_37 : decode cX11_plan 37 = .ok (.bipush 20, 2) := by decide +kernel
theorem dX11_plan_39 : decode cX11_plan 39 = .ok (.bipush 23, 2) := by decide +kernel
theorem dX11_plan_41 : decode cX11_plan 41 = .ok (.invokestatic 56, 3) := by decide +kernel
theorem dX11_plan_44 : decode cX11_plan 44 = .ok (.ifCond .ne 27, 3) := by decide +kernel
theorem dX11_plan_47 : decode cX11_plan 47 = .ok (.iload_n 2, 1) := by decide +kernel
theorem dX11_plan_48 : decode cX11_plan 48 = .ok (.bipush 30, 2) := by decide +kernel
theorem dX11_plan_50 : decode cX11_plan 50 = .ok (.bipush 32, 2) := by decide +kernel
theorem dX11_plan_52 : decode cX11_plan 52 = .ok (.invokestatic 56, 3) := by decide +kernel
theorem dX11_plan_55 : decode cX11_plan 55 = .ok (.ifCond .ne 16, 3) := by decide +kernel
theorem dX11_plan_58 : decode cX11_plan 58 = .ok (.iload_n 2, 1) := by decide +kernel
theorem dX11_plan_59 : decode cX11_plan 59 = .ok (.bipush 40, 2) := by decide +kernel
theorem dX11_plan_61 : decode cX11_plan 61 = .ok (.bipush 42, 2) := by decide +kernel
theorem dX11_plan_63 : decode cX11_plan 63 = .ok (.invokestatic 56, 3) := by decide +kernel
theorem dX11_plan_66 : decode cX11_plan 66 = .ok (.ifCond .ne 5, 3) := by decide +kernel
theorem dX11_plan_69 : decode cX11_plan 69 = .ok (.iconst (-1), 1) := by decide +kernel
theorem dX11_plan_70 : decode cX11_plan 70 = .ok (.ireturn, 1) := by decide +kernel
theorem dX11_plan_71 : decode cX11_plan 71 = .ok (.iload_n 2, 1) := by decide +kernel
theorem dX11_plan_72 : decode cX11_plan 72 = .ok (.bipush 10, 2) := by decide +kernel
theorem dX11_plan_74 : decode cX11_plan 74 = .ok (.irem, 1) := by decide +kernel
theorem dX11_plan_75 : decode cX11_plan 75 = .ok (.aload_n 0, 1) := by decide +kernel
theorem dX11_plan_76 : decode cX11_plan 76 = .ok (.iload_n 1, 1) := by decide +kernel
theorem dX11_plan_77 : decode cX11_plan 77 = .ok (.iload_n 2, 1) := by decide +kernel
theorem dX11_plan_78 : decode cX11_plan 78 = .ok (.bipush 30, 2) := by decide +kernel
theorem dX11_plan_80 : decode cX11_plan 80 = .ok (.if_icmp .ge 7, 3) := by decide +kernel
theorem dX11_plan_83 : decode cX11_plan 83 = .ok (.iconst 2, 1) := by decide +kernel
theorem dX11_plan_84 : decode cX11_plan 84 = .ok (.goto 5, 3) := by decide +kernel
theorem dX11_plan_87 : decode cX11_plan 87 = .ok (.bipush 14, 2) := by decide +kernel
theorem dX11_plan_89 : decode cX11_plan 89 = .ok (.invokevirtual 200, 3) := by decide +kernel
theorem dX11_plan_92 : decode cX11_plan 92 = .ok (.if_icmp .lt 6, 3) := by decide +kernel
theorem dX11_plan_95 : decode cX11_plan 95 = .ok (.bipush (-2), 2) := by decide +kernel
theorem dX11_plan_97 : decode cX11_plan 97 = .ok (.ireturn, 1) := by decide +kernel
theorem dX11_plan_98 : decode cX11_plan 98 = .ok (.iload_n 2, 1) := by decide +kernel
theorem dX11_plan_99 : decode cX11_plan 99 = .ok (.bipush 20, 2) := by decide +kernel
theorem dX11_plan_101 : decode cX11_plan 101 = .ok (.if_icmp .ge 8, 3) := by decide +kernel
theorem dX11_plan_104 : decode cX11_plan 104 = .ok (.bipush 6, 2) := by decide +kernel
theorem dX11_plan_106 : decode cX11_plan 106 = .ok (.goto 27, 3) := by decide +kernel
theorem dX11_plan_109 : decode cX11_plan 109 = .ok (.iload_n 2, 1) := by decide +kernel
theorem dX11_plan_110 : decode cX11_plan 110 = .ok (.bipush 30, 2) := by decide +kernel
theorem dX11_plan_112 : decode cX11_plan 112 = .ok (.if_icmp .ge 8, 3) := by decide +kernel
theorem dX11_plan_115 : decode cX11_plan 115 = .ok (.bipush 10, 2) := by decide +kernel
theorem dX11_plan_117 : decode cX11_plan 117 = .ok (.goto 16, 3) := by decide +kernel
theorem dX11_plan_120 : decode cX11_plan 120 = .ok (.iload_n 2, 1) := by decide +kernel
theorem dX11_plan_121 : decode cX11_plan 121 = .ok (.bipush 40, 2) := by decide +kernel
theorem dX11_plan_123 : decode cX11_plan 123 = .ok (.if_icmp .ge 8, 3) := by decide +kernel
theorem dX11_plan_126 : decode cX11_plan 126 = .ok (.bipush 15, 2) := by decide +kernel
theorem dX11_plan_128 : decode cX11_plan 128 = .ok (.goto 5, 3) := by decide +kernel
theorem dX11_plan_131 : decode cX11_plan 131 = .ok (.bipush 18, 2) := by decide +kernel
theorem dX11_plan_133 : decode cX11_plan 133 = .ok (.istore_n 3, 1) := by decide +kernel
theorem dX11_plan_134 : decode cX11_plan 134 = .ok (.aload_n 0, 1) := by decide +kernel
theorem dX11_plan_135 : decode cX11_plan 135 = .ok (.iload_n 1, 1) := by decide +kernel
theorem dX11_plan_136 : decode cX11_plan 136 = .ok (.iload_n 3, 1) := by decide +kernel
theorem dX11_plan_137 : decode cX11_plan 137 = .ok (.iload_n 2, 1) := by decide +kernel
theorem dX11_plan_138 : decode cX11_plan 138 = .ok (.bipush 10, 2) := by decide +kernel
theorem dX11_plan_140 : decode cX11_plan 140 = .ok (.irem, 1) := by decide +kernel
theorem dX11_plan_141 : decode cX11_plan 141 = .ok (.iadd, 1) := by decide +kernel
theorem dX11_plan_142 : decode cX11_plan 142 = .ok (.invokevirtual 200, 3) := by decide +kernel
theorem dX11_plan_145 : decode cX11_plan 145 = .ok (.ireturn, 1) := by decide +kernel
theorem dX11_usageOf_0 : decode cX11_usageOf 0 = .ok (.iconst 0, 1) := by decide +kernel
theorem dX11_usageOf_1 : decode cX11_usageOf 1 = .ok (.iload_n 2, 1) := by decide +kernel
theorem dX11_usageOf_2 : decode cX11_usageOf 2 = .ok (.aload_n 0, 1) := by decide +kernel
theorem dX11_usageOf_3 : decode cX11_usageOf 3 = .ok (.iload_n 1, 1) := by decide +kernel
theorem dX11_usageOf_4 : decode cX11_usageOf 4 = .ok (.iconst 1, 1) := by decide +kernel
theorem dX11_usageOf_5 : decode cX11_usageOf 5 = .ok (.invokevirtual 200, 3) := by decide +kernel
theorem dX11_usageOf_8 : decode cX11_usageOf 8 = .ok (.isub, 1) := by decide +kernel
theorem dX11_usageOf_9 : decode cX11_usageOf 9 = .ok (.invokestatic 203, 3) := by decide +kernel
theorem dX11_usageOf_12 : decode cX11_usageOf 12 = .ok (.istore_n 3, 1) := by decide +kernel
theorem dX11_usageOf_13 : decode cX11_usageOf 13 = .ok (.iconst 0, 1) := by decide +kernel
theorem dX11_usageOf_14 : decode cX11_usageOf 14 = .ok (.istore 4, 2) := by decide +kernel
theorem dX11_usageOf_16 : decode cX11_usageOf 16 = .ok (.iconst 0, 1) := by decide +kernel
theorem dX11_usageOf_17 : decode cX11_usageOf 17 = .ok (.istore 5, 2) := by decide +kernel
theorem dX11_usageOf_19 : decode cX11_usageOf 19 = .ok (.iconst 0, 1) := by decide +kernel
theorem dX11_usageOf_20 : decode cX11_usageOf 20 = .ok (.istore 6, 2) := by decide +kernel
theorem dX11_usageOf_22 : decode cX11_usageOf 22 = .ok (.iload 6, 2) := by decide +kernel
theorem dX11_usageOf_24 : decode cX11_usageOf 24 = .ok (.aload_n 0, 1) := by decide +kernel
theorem dX11_usageOf_25 : decode cX11_usageOf 25 = .ok (.iload_n 1, 1) := by decide +kernel
theorem dX11_usageOf_26 : decode cX11_usageOf 26 = .ok (.iconst 2, 1) := by decide +kernel
theorem dX11_usageOf_27 : decode cX11_usageOf 27 = .ok (.invokevirtual 200, 3) := by decide +kernel
theorem dX11_usageOf_30 : decode cX11_usageOf 30 = .ok (.if_icmp .ge 83, 3) := by decide +kernel
theorem dX11_usageOf_33 : decode cX11_usageOf 33 = .ok (.aload_n 0, 1) := by decide +kernel
theorem dX11_usageOf_34 : decode cX11_usageOf 34 = .ok (.iload_n 1, 1) := by decide +kernel
theorem dX11_usageOf_35 : decode cX11_usageOf 35 = .ok (.bipush 6, 2) := by decide +kernel
theorem dX11_usageOf_37 : decode cX11_usageOf 37 = .ok (.iload 6, 2) := by decide +kernel
theorem dX11_usageOf_39 : decode cX11_usageOf 39 = .ok (.iadd, 1) := by decide +kernel
theorem dX11_usageOf_40 : decode cX11_usageOf 40 = .ok (.invokevirtual 200, 3) := by decide +kernel
theorem dX11_usageOf_43 : decode cX11_usageOf 43 = .ok (.istore 7, 2) := by decide +kernel
theorem dX11_usageOf_45 : decode cX11_usageOf 45 = .ok (.aload_n 0, 1) := by decide +kernel
theorem dX11_usageOf_46 : decode cX11_usageOf 46 = .ok (.iload_n 1, 1) := by decide +kernel
theorem dX11_usageOf_47 : decode cX11_usageOf 47 = .ok (.iconst 4, 1) := by decide +kernel
theorem dX11_usageOf_48 : decode cX11_usageOf 48 = .ok (.invokevirtual 200, 3) := by decide +kernel
theorem dX11_usageOf_51 : decode cX11_usageOf 51 = .ok (.iconst 1, 1) := by decide +kernel
theorem dX11_usageOf_52 : decode cX11_usageOf 52 = .ok (.if_icmp .ne 22, 3) := by decide +kernel
theorem dX11_usageOf_55 : decode cX11_usageOf 55 = .ok (.iload_n 3, 1) := by decide +kernel
theorem dX11_usageOf_56 : decode cX11_usageOf 56 = .ok (.iload 7, 2) := by decide +kernel
theorem dX11_usageOf_58 : decode cX11_usageOf 58 = .ok (.if_icmp .gt 16, 3) := by decide +kernel
theorem dX11_usageOf_61 : decode cX11_usageOf 61 = .ok (.iload_n 3, 1) := by decide +kernel
theorem dX11_usageOf_62 : decode cX11_usageOf 62 = .ok (.aload_n 0, 1) := by decide +kernel
theorem dX11_usageOf_63 : decode cX11_usageOf 63 = .ok (.iload_n 1, 1) := by decide +kernel
theorem dX11_usageOf_64 : decode cX11_usageOf 64 = .ok (.bipush 10, 2) := by decide +kernel
theorem dX11_usageOf_66 : decode cX11_usageOf 66 = .ok (.iload 6, 2) := by decide +kernel
theorem dX11_usageOf_68 : decode cX11_usageOf 68 = .ok (.iadd, 1) := by decide +kernel
theorem dX11_usageOf_69 : decode cX11_usageOf 69 = .ok (.invokevirtual 200, 3) := by decide +kernel
theorem dX11_usageOf_72 : decode cX11_usageOf 72 = .ok (.imul, 1) := by decide +kernel
theorem dX11_usageOf_73 : decode cX11_usageOf 73 = .ok (.ireturn, 1) := by decide +kernel
theorem dX11_usageOf_74 : decode cX11_usageOf 74 = .ok (.iload 4, 2) := by decide +kernel
theorem dX11_usageOf_76 : decode cX11_usageOf 76 = .ok (.iconst 0, 1) := by decide +kernel
theorem dX11_usageOf_77 : decode cX11_usageOf 77 = .ok (.iload_n 3, 1) := by decide +kernel
theorem dX11_usageOf_78 : decode cX11_usageOf 78 = .ok (.iload 7, 2) := by decide +kernel
theorem dX11_usageOf_80 : decode cX11_usageOf 80 = .ok (.invokestatic 46, 3) := by decide +kernel
theorem dX11_usageOf_83 : decode cX11_usageOf 83 = .ok (.iload 5, 2) := by decide +kernel
theorem dX11_usageOf_85 : decode cX11_usageOf 85 = .ok (.isub, 1) := by decide +kernel
theorem dX11_usageOf_86 : decode cX11_usageOf 86 = .ok (.invokestatic 203, 3) := by decide +kernel
theorem dX11_usageOf_89 : decode cX11_usageOf 89 = .ok (.aload_n 0, 1) := by decide +kernel
theorem dX11_usageOf_90 : decode cX11_usageOf 90 = .ok (.iload_n 1, 1) := by decide +kernel
theorem dX11_usageOf_91 : decode cX11_usageOf 91 = .ok (.bipush 10, 2) := by decide +kernel
theorem dX11_usageOf_93 : decode cX11_usageOf 93 = .ok (.iload 6, 2) := by decide +kernel
theorem dX11_usageOf_95 : decode cX11_usageOf 95 = .ok (.iadd, 1) := by decide +kernel
theorem dX11_usageOf_96 : decode cX11_usageOf 96 = .ok (.invokevirtual 200, 3) := by decide +kernel
theorem dX11_usageOf_99 : decode cX11_usageOf 99 = .ok (.imul, 1) := by decide +kernel
theorem dX11_usageOf_100 : decode cX11_usageOf 100 = .ok (.iadd, 1) := by decide +kernel
theorem dX11_usageOf_101 : decode cX11_usageOf 101 = .ok (.istore 4, 2) := by decide +kernel
theorem dX11_usageOf_103 : decode cX11_usageOf 103 = .ok (.iload 7, 2) := by decide +kernel
theorem dX11_usageOf_105 : decode cX11_usageOf 105 = .ok (.istore 5, 2) := by decide +kernel
theorem dX11_usageOf_107 : decode cX11_usageOf 107 = .ok (.iinc 6 1, 3) := by decide +kernel
theorem dX11_usageOf_110 : decode cX11_usageOf 110 = .ok (.goto (-88), 3) := by decide +kernel
theorem dX11_usageOf_113 : decode cX11_usageOf 113 = .ok (.aload_n 0, 1) := by decide +kernel
theorem dX11_usageOf_114 : decode cX11_usageOf 114 = .ok (.iload_n 1, 1) := by decide +kernel
theorem dX11_usageOf_115 : decode cX11_usageOf 115 = .ok (.iconst 4, 1) := by decide +kernel
theorem dX11_usageOf_116 : decode cX11_usageOf 116 = .ok (.invokevirtual 200, 3) := by decide +kernel
theorem dX11_usageOf_119 : decode cX11_usageOf 119 = .ok (.iconst 1, 1) := by decide +kernel
theorem dX11_usageOf_120 : decode cX11_usageOf 120 = .ok (.if_icmp .ne 14, 3) := by decide +kernel
theorem dX11_usageOf_123 : decode cX11_usageOf 123 = .ok (.iload_n 3, 1) := by decide +kernel
theorem dX11_usageOf_124 : decode cX11_usageOf 124 = .ok (.aload_n 0, 1) := by decide +kernel
theorem dX11_usageOf_125 : decode cX11_usageOf 125 = .ok (.iload_n 1, 1) := by decide +kernel
theorem dX11_usageOf_126 : decode cX11_usageOf 126 = .ok (.iconst 3, 1) := by decide +kernel
theorem dX11_usageOf_127 : decode cX11_usageOf 127 = .ok (.invokevirtual 200, 3) := by decide +kernel
theorem dX11_usageOf_130 : decode cX11_usageOf 130 = .ok (.imul, 1) := by decide +kernel
theorem dX11_usageOf_131 : decode cX11_usageOf 131 = .ok (.goto 21, 3) := by decide +kernel
theorem dX11_usageOf_134 : decode cX11_usageOf 134 = .ok (.iload 4, 2) := by decide +kernel
theorem dX11_usageOf_136 : decode cX11_usageOf 136 = .ok (.iconst 0, 1) := by decide +kernel
theorem dX11_usageOf_137 : decode cX11_usageOf 137 = .ok (.iload_n 3, 1) := by decide +kernel
theorem dX11_usageOf_138 : decode cX11_usageOf 138 = .ok (.iload 5, 2) := by decide +kernel
theorem dX11_usageOf_140 : decode cX11_usageOf 140 = .ok (.isub, 1) := by decide +kernel
theorem dX11_usageOf_141 : decode cX11_usageOf 141 = .ok (.invokestatic 203, 3) := by decide +kernel
theorem dX11_usageOf_144 : decode cX11_usageOf 144 = .ok (.aload_n 0, 1) := by decide +kernel
theorem dX11_usageOf_145 : decode cX11_usageOf 145 = .ok (.iload_n 1, 1) := by decide +kernel
theorem dX11_usageOf_146 : decode cX11_usageOf 146 = .ok (.iconst 3, 1) := by decide +kernel
theorem dX11_usageOf_147 : decode cX11_usageOf 147 = .ok (.invokevirtual 200, 3) := by decide +kernel
theorem dX11_usageOf_150 : decode cX11_usageOf 150 = .ok (.imul, 1) := by decide +kernel
theorem dX11_usageOf_151 : decode cX11_usageOf 151 = .ok (.iadd, 1) := by decide +kernel
theorem dX11_usageOf_152 : decode cX11_usageOf 152 = .ok (.ireturn, 1) := by decide +kernel
theorem dX11_usage_0 : decode cX11_usage 0 = .ok (.iload_n 1, 1) := by decide +kernel
theorem dX11_usage_1 : decode cX11_usage 1 = .ok (.invokestatic 197, 3) := by decide +kernel
theorem dX11_usage_4 : decode cX11_usage 4 = .ok (.ifCond .eq 23, 3) := by decide +kernel
theorem dX11_usage_7 : decode cX11_usage 7 = .ok (.iload_n 2, 1) := by decide +kernel
theorem dX11_usage_8 : decode cX11_usage 8 = .ok (.iconst 0, 1) := by decide +kernel
theorem dX11_usage_9 : decode cX11_usage 9 = .ok (.sipush 9999, 3) := by decide +kernel
theorem dX11_usage_12 : decode cX11_usage 12 = .ok (.invokestatic 56, 3) := by decide +kernel
theorem dX11_usage_15 : decode cX11_usage 15 = .ok (.ifCond .eq 12, 3) := by decide +kernel
theorem dX11_usage_18 : decode cX11_usage 18 = .ok (.aload_n 0, 1) := by decide +kernel
theorem dX11_usage_19 : decode cX11_usage 19 = .ok (.iload_n 1, 1) := by decide +kernel
theorem dX11_usage_20 : decode cX11_usage 20 = .ok (.iload_n 2, 1) := by decide +kernel
theorem dX11_usage_21 : decode cX11_usage 21 = .ok (.invokevirtual 206, 3) := by decide +kernel
theorem dX11_usage_24 : decode cX11_usage 24 = .ok (.goto 4, 3) := by decide +kernel
theorem dX11_usage_27 : decode cX11_usage 27 = .ok (.iconst (-1), 1) := by decide +kernel
theorem dX11_usage_28 : decode cX11_usage 28 = .ok (.ireturn, 1) := by decide +kernel
theorem dX11_units_0 : decode cX11_units 0 = .ok (.iload_n 1, 1) := by decide +kernel
theorem dX11_units_1 : decode cX11_units 1 = .ok (.invokestatic 197, 3) := by decide +kernel
theorem dX11_units_4 : decode cX11_units 4 = .ok (.ifCond .eq 13, 3) := by decide +kernel
theorem dX11_units_7 : decode cX11_units 7 = .ok (.iload_n 2, 1) := by decide +kernel
theorem dX11_units_8 : decode cX11_units 8 = .ok (.iconst 0, 1) := by decide +kernel
theorem dX11_units_9 : decode cX11_units 9 = .ok (.ldc 209, 2) := by decide +kernel
theorem dX11_units_11 : decode cX11_units 11 = .ok (.invokestatic 56, 3) := by decide +kernel
theorem dX11_units_14 : decode cX11_units 14 = .ok (.ifCond .ne 5, 3) := by decide +kernel
theorem dX11_units_17 : decode cX11_units 17 = .ok (.iconst (-1), 1) := by decide +kernel
theorem dX11_units_18 : decode cX11_units 18 = .ok (.ireturn, 1) := by decide +kernel
theorem dX11_units_19 : decode cX11_units 19 = .ok (.iconst 0, 1) := by decide +kernel
theorem dX11_units_20 : decode cX11_units 20 = .ok (.istore_n 3, 1) := by decide +kernel
theorem dX11_units_21 : decode cX11_units 21 = .ok (.iload_n 3, 1) := by decide +kernel
theorem dX11_units_22 : decode cX11_units 22 = .ok (.sipush 9999, 3) := by decide +kernel
theorem dX11_units_25 : decode cX11_units 25 = .ok (.if_icmp .ge 22, 3) := by decide +kernel
theorem dX11_units_28 : decode cX11_units 28 = .ok (.aload_n 0, 1) := by decide +kernel
theorem dX11_units_29 : decode cX11_units 29 = .ok (.iload_n 1, 1) := by decide +kernel
theorem dX11_units_30 : decode cX11_units 30 = .ok (.iload_n 3, 1) := by decide +kernel
theorem dX11_units_31 : decode cX11_units 31 = .ok (.iconst 1, 1) := by decide +kernel
theorem dX11_units_32 : decode cX11_units 32 = .ok (.iadd, 1) := by decide +kernel
theorem dX11_units_33 : decode cX11_units 33 = .ok (.invokevirtual 206, 3) := by decide +kernel
theorem dX11_units_36 : decode cX11_units 36 = .ok (.iload_n 2, 1) := by decide +kernel
theorem dX11_units_37 : decode cX11_units 37 = .ok (.if_icmp .gt 10, 3) := by decide +kernel
theorem dX11_units_40 : decode cX11_units 40 = .ok (.iload_n 3, 1) := by decide +kernel
theorem dX11_units_41 : decode cX11_units 41 = .ok (.iconst 1, 1) := by decide +kernel
theorem dX11_units_42 : decode cX11_units 42 = .ok (.iadd, 1) := by decide +kernel
theorem dX11_units_43 : decode cX11_units 43 = .ok (.istore_n 3, 1) := by decide +kernel
theorem dX11_units_44 : decode cX11_units 44 = .ok (.goto (-23), 3) := by decide +kernel
theorem dX11_units_47 : decode cX11_units 47 = .ok (.iload_n 3, 1) := by decide +kernel
theorem dX11_units_48 : decode cX11_units 48 = .ok (.ireturn, 1) := by decide +kernel
theorem dX11_cheapest_0 : decode cX11_cheapest 0 = .ok (.iload_n 1, 1) := by decide +kernel
theorem dX11_cheapest_1 : decode cX11_cheapest 1 = .ok (.iconst 0, 1) := by decide +kernel
theorem dX11_cheapest_2 : decode cX11_cheapest 2 = .ok (.sipush 9999, 3) := by decide +kernel
theorem dX11_cheapest_5 : decode cX11_cheapest 5 = .ok (.invokestatic 56, 3) := by decide +kernel
theorem dX11_cheapest_8 : decode cX11_cheapest 8 = .ok (.ifCond .ne 5, 3) := by decide +kernel
theorem dX11_cheapest_11 : decode cX11_cheapest 11 = .ok (.iconst (-1), 1) := by decide +kernel
theorem dX11_cheapest_12 : decode cX11_cheapest 12 = .ok (.ireturn, 1) := by decide +kernel
theorem dX11_cheapest_13 : decode cX11_cheapest 13 = .ok (.iconst 0, 1) := by decide +kernel
theorem dX11_cheapest_14 : decode cX11_cheapest 14 = .ok (.istore_n 2, 1) := by decide +kernel
theorem dX11_cheapest_15 : decode cX11_cheapest 15 = .ok (.iconst 1, 1) := by decide +kernel
theorem dX11_cheapest_16 : decode cX11_cheapest 16 = .ok (.istore_n 3, 1) := by decide +kernel
theorem dX11_cheapest_17 : decode cX11_cheapest 17 = .ok (.iload_n 3, 1) := by decide +kernel
theorem dX11_cheapest_18 : decode cX11_cheapest 18 = .ok (.bipush 6, 2) := by decide +kernel
theorem dX11_cheapest_20 : decode cX11_cheapest 20 = .ok (.if_icmp .ge 40, 3) := by decide +kernel
theorem dX11_cheapest_23 : decode cX11_cheapest 23 = .ok (.aload_n 0, 1) := by decide +kernel
theorem dX11_cheapest_24 : decode cX11_cheapest 24 = .ok (.iload_n 3, 1) := by decide +kernel
theorem dX11_cheapest_25 : decode cX11_cheapest 25 = .ok (.iload_n 1, 1) := by decide +kernel
theorem dX11_cheapest_26 : decode cX11_cheapest 26 = .ok (.invokevirtual 206, 3) := by decide +kernel
theorem dX11_cheapest_29 : decode cX11_cheapest 29 = .ok (.aload_n 0, 1) := by decide +kernel
theorem dX11_cheapest_30 : decode cX11_cheapest 30 = .ok (.iload_n 3, 1) := by decide +kernel
theorem dX11_cheapest_31 : decode cX11_cheapest 31 = .ok (.iconst 0, 1) := by decide +kernel
theorem dX11_cheapest_32 : decode cX11_cheapest 32 = .ok (.invokevirtual 200, 3) := by decide +kernel
theorem dX11_cheapest_35 : decode cX11_cheapest 35 = .ok (.iadd, 1) := by decide +kernel
theorem dX11_cheapest_36 : decode cX11_cheapest 36 = .ok (.aload_n 0, 1) := by decide +kernel
theorem dX11_cheapest_37 : decode cX11_cheapest 37 = .ok (.iload_n 2, 1) := by decide +kernel
theorem dX11_cheapest_38 : decode cX11_cheapest 38 = .ok (.iload_n 1, 1) := by decide +kernel
theorem dX11_cheapest_39 : decode cX11_cheapest 39 = .ok (.invokevirtual 206, 3) := by decide +kernel
theorem dX11_cheapest_42 : decode cX11_cheapest 42 = .ok (.aload_n 0, 1) := by decide +kernel
theorem dX11_cheapest_43 : decode cX11_cheapest 43 = .ok (.iload_n 2, 1) := by decide +kernel
theorem dX11_cheapest_44 : decode cX11_cheapest 44 = .ok (.iconst 0, 1) := by decide +kernel
theorem dX11_cheapest_45 : decode cX11_cheapest 45 = .ok (.invokevirtual 200, 3) := by decide +kernel
theorem dX11_cheapest_48 : decode cX11_cheapest 48 = .ok (.iadd, 1) := by decide +kernel
theorem dX11_cheapest_49 : decode cX11_cheapest 49 = .ok (.if_icmp .ge 5, 3) := by decide +kernel
theorem dX11_cheapest_52 : decode cX11_cheapest 52 = .ok (.iload_n 3, 1) := by decide +kernel
theorem dX11_cheapest_53 : decode cX11_cheapest 53 = .ok (.istore_n 2, 1) := by decide +kernel
theorem dX11_cheapest_54 : decode cX11_cheapest 54 = .ok (.iinc 3 1, 3) := by decide +kernel
theorem dX11_cheapest_57 : decode cX11_cheapest 57 = .ok (.goto (-40), 3) := by decide +kernel
theorem dX11_cheapest_60 : decode cX11_cheapest 60 = .ok (.iload_n 2, 1) := by decide +kernel
theorem dX11_cheapest_61 : decode cX11_cheapest 61 = .ok (.ireturn, 1) := by decide +kernel
theorem dX11_of_0 : decode cX11_of 0 = .ok (.aload_n 0, 1) := by decide +kernel
theorem dX11_of_1 : decode cX11_of 1 = .ok (.getfield 13, 3) := by decide +kernel
theorem dX11_of_4 : decode cX11_of 4 = .ok (.sipush 170, 3) := by decide +kernel
theorem dX11_of_7 : decode cX11_of 7 = .ok (.bipush 12, 2) := by decide +kernel
theorem dX11_of_9 : decode cX11_of 9 = .ok (.iload_n 1, 1) := by decide +kernel
theorem dX11_of_10 : decode cX11_of 10 = .ok (.imul, 1) := by decide +kernel
theorem dX11_of_11 : decode cX11_of 11 = .ok (.iadd, 1) := by decide +kernel
theorem dX11_of_12 : decode cX11_of 12 = .ok (.iload_n 2, 1) := by decide +kernel
theorem dX11_of_13 : decode cX11_of 13 = .ok (.iadd, 1) := by decide +kernel
theorem dX11_of_14 : decode cX11_of 14 = .ok (.iaload, 1) := by decide +kernel
theorem dX11_of_15 : decode cX11_of 15 = .ok (.ireturn, 1) := by decide +kernel
theorem dX11_sets_0 : decode cX11_sets 0 = .ok (.aload_n 0, 1) := by decide +kernel
theorem dX11_sets_1 : decode cX11_sets 1 = .ok (.getfield 13, 3) := by decide +kernel
theorem dX11_sets_4 : decode cX11_sets 4 = .ok (.sipush 170, 3) := by decide +kernel
theorem dX11_sets_7 : decode cX11_sets 7 = .ok (.bipush 12, 2) := by decide +kernel
theorem dX11_sets_9 : decode cX11_sets 9 = .ok (.iload_n 1, 1) := by decide +kernel
theorem dX11_sets_10 : decode cX11_sets 10 = .ok (.imul, 1) := by decide +kernel
theorem dX11_sets_11 : decode cX11_sets 11 = .ok (.iadd, 1) := by decide +kernel
theorem dX11_sets_12 : decode cX11_sets 12 = .ok (.iload_n 2, 1) := by decide +kernel
theorem dX11_sets_13 : decode cX11_sets 13 = .ok (.iadd, 1) := by decide +kernel
theorem dX11_sets_14 : decode cX11_sets 14 = .ok (.iload_n 3, 1) := by decide +kernel
theorem dX11_sets_15 : decode cX11_sets 15 = .ok (.iastore, 1) := by decide +kernel
theorem dX11_sets_16 : decode cX11_sets 16 = .ok (.return_, 1) := by decide +kernel
theorem dX11_isNumber_0 : decode cX11_isNumber 0 = .ok (.iload_n 0, 1) := by decide +kernel
theorem dX11_isNumber_1 : decode cX11_isNumber 1 = .ok (.iconst 0, 1) := by decide +kernel
theorem dX11_isNumber_2 : decode cX11_isNumber 2 = .ok (.iconst 5, 1) := by decide +kernel
theorem dX11_isNumber_3 : decode cX11_isNumber 3 = .ok (.invokestatic 56, 3) := by decide +kernel
theorem dX11_isNumber_6 : decode cX11_isNumber 6 = .ok (.ireturn, 1) := by decide +kernel
theorem dX11_isBegun_0 : decode cX11_isBegun 0 = .ok (.iload_n 1, 1) := by decide +kernel
theorem dX11_isBegun_1 : decode cX11_isBegun 1 = .ok (.invokestatic 210, 3) := by decide +kernel
theorem dX11_isBegun_4 : decode cX11_isBegun 4 = .ok (.ifCond .eq 17, 3) := by decide +kernel
theorem dX11_isBegun_7 : decode cX11_isBegun 7 = .ok (.aload_n 0, 1) := by decide +kernel
theorem dX11_isBegun_8 : decode cX11_isBegun 8 = .ok (.iload_n 1, 1) := by decide +kernel
theorem dX11_isBegun_9 : decode cX11_isBegun 9 = .ok (.iconst 0, 1) := by decide +kernel
theorem dX11_isBegun_10 : decode cX11_isBegun 10 = .ok (.invokevirtual 213, 3) := by decide +kernel
theorem dX11_isBegun_13 : decode cX11_isBegun 13 = .ok (.iconst 1, 1) := by decide +kernel
theorem dX11_isBegun_14 : decode cX11_isBegun 14 = .ok (.if_icmp .ne 7, 3) := by decide +kernel
theorem dX11_isBegun_17 : decode cX11_isBegun 17 = .ok (.iconst 1, 1) := by decide +kernel
theorem dX11_isBegun_18 : decode cX11_isBegun 18 = .ok (.goto 4, 3) := by decide +kernel
theorem dX11_isBegun_21 : decode cX11_isBegun 21 = .ok (.iconst 0, 1) := by decide +kernel
theorem dX11_isBegun_22 : decode cX11_isBegun 22 = .ok (.ireturn, 1) := by decide +kernel
theorem dX11_isOn_0 : decode cX11_isOn 0 = .ok (.aload_n 0, 1) := by decide +kernel
theorem dX11_isOn_1 : decode cX11_isOn 1 = .ok (.iload_n 1, 1) := by decide +kernel
theorem dX11_isOn_2 : decode cX11_isOn 2 = .ok (.invokevirtual 216, 3) := by decide +kernel
theorem dX11_isOn_5 : decode cX11_isOn 5 = .ok (.ifCond .eq 17, 3) := by decide +kernel
theorem dX11_isOn_8 : decode cX11_isOn 8 = .ok (.aload_n 0, 1) := by decide +kernel
theorem dX11_isOn_9 : decode cX11_isOn 9 = .ok (.iload_n 1, 1) := by decide +kernel
theorem dX11_isOn_10 : decode cX11_isOn 10 = .ok (.bipush 8, 2) := by decide +kernel
theorem dX11_isOn_12 : decode cX11_isOn 12 = .ok (.invokevirtual 213, 3) := by decide +kernel
theorem dX11_isOn_15 : decode cX11_isOn 15 = .ok (.ifCond .ne 7, 3) := by decide +kernel
theorem dX11_isOn_18 : decode cX11_isOn 18 = .ok (.iconst 1, 1) := by decide +kernel
theorem dX11_isOn_19 : decode cX11_isOn 19 = .ok (.goto 4, 3) := by decide +kernel
theorem dX11_isOn_22 : decode cX11_isOn 22 = .ok (.iconst 0, 1) := by decide +kernel
theorem dX11_isOn_23 : decode cX11_isOn 23 = .ok (.ireturn, 1) := by decide +kernel
theorem dX11_entryOf_0 : decode cX11_entryOf 0 = .ok (.aload_n 0, 1) := by decide +kernel
theorem dX11_entryOf_1 : decode cX11_entryOf 1 = .ok (.getfield 13, 3) := by decide +kernel
theorem dX11_entryOf_4 : decode cX11_entryOf 4 = .ok (.sipush 250, 3) := by decide +kernel
theorem dX11_entryOf_7 : decode cX11_entryOf 7 = .ok (.bipush 10, 2) := by decide +kernel
theorem dX11_entryOf_9 : decode cX11_entryOf 9 = .ok (.iload_n 1, 1) := by decide +kernel
theorem dX11_entryOf_10 : decode cX11_entryOf 10 = .ok (.imul, 1) := by decide +kernel
theorem dX11_entryOf_11 : decode cX11_entryOf 11 = .ok (.iadd, 1) := by decide +kernel
theorem dX11_entryOf_12 : decode cX11_entryOf 12 = .ok (.iload_n 2, 1) := by decide +kernel
theorem dX11_entryOf_13 : decode cX11_entryOf 13 = .ok (.iadd, 1) := by decide +kernel
theorem dX11_entryOf_14 : decode cX11_entryOf 14 = .ok (.iaload, 1) := by decide +kernel
theorem dX11_entryOf_15 : decode cX11_entryOf 15 = .ok (.ireturn, 1) := by decide +kernel
theorem dX11_writes_0 : decode cX11_writes 0 = .ok (.sipush 250, 3) := by decide +kernel
theorem dX11_writes_3 : decode cX11_writes 3 = .ok (.bipush 10, 2) := by decide +kernel
theorem dX11_writes_5 : decode cX11_writes 5 = .ok (.aload_n 0, 1) := by decide +kernel
theorem dX11_writes_6 : decode cX11_writes 6 = .ok (.getfield 13, 3) := by decide +kernel
theorem dX11_writes_9 : decode cX11_writes 9 = .ok (.iconst 1, 1) := by decide +kernel
theorem dX11_writes_10 : decode cX11_writes 10 = .ok (.iaload, 1) := by decide +kernel
theorem dX11_writes_11 : decode cX11_writes 11 = .ok (.imul, 1) := by decide +kernel
theorem dX11_writes_12 : decode cX11_writes 12 = .ok (.iadd, 1) := by decide +kernel
theorem dX11_writes_13 : decode cX11_writes 13 = .ok (.istore 6, 2) := by decide +kernel
theorem dX11_writes_15 : decode cX11_writes 15 = .ok (.aload_n 0, 1) := by decide +kernel
theorem dX11_writes_16 : decode cX11_writes 16 = .ok (.getfield 13, 3) := by decide +kernel
theorem dX11_writes_19 : decode cX11_writes 19 = .ok (.iload 6, 2) := by decide +kernel
theorem dX11_writes_21 : decode cX11_writes 21 = .ok (.iload_n 1, 1) := by decide +kernel
theorem dX11_writes_22 : decode cX11_writes 22 = .ok (.iastore, 1) := by decide +kernel
theorem dX11_writes_23 : decode cX11_writes 23 = .ok (.aload_n 0, 1) := by decide +kernel
theorem dX11_writes_24 : decode cX11_writes 24 = .ok (.getfield 13, 3) := by decide +kernel
theorem dX11_writes_27 : decode cX11_writes 27 = .ok (.iload 6, 2) := by decide +kernel
theorem dX11_writes_29 : decode cX11_writes 29 = .ok (.iconst 1, 1) := by decide +kernel
theorem dX11_writes_30 : decode cX11_writes 30 = .ok (.iadd, 1) := by decide +kernel
theorem dX11_writes_31 : decode cX11_writes 31 = .ok (.iload_n 2, 1) := by decide +kernel
theorem dX11_writes_32 : decode cX11_writes 32 = .ok (.iastore, 1) := by decide +kernel
theorem dX11_writes_33 : decode cX11_writes 33 = .ok (.aload_n 0, 1) := by decide +kernel
theorem dX11_writes_34 : decode cX11_writes 34 = .ok (.getfield 13, 3) := by decide +kernel
theorem dX11_writes_37 : decode cX11_writes 37 = .ok (.iload 6, 2) := by decide +kernel
theorem dX11_writes_39 : decode cX11_writes 39 = .ok (.iconst 2, 1) := by decide +kernel
theorem dX11_writes_40 : decode cX11_writes 40 = .ok (.iadd, 1) := by decide +kernel
theorem dX11_writes_41 : decode cX11_writes 41 = .ok (.aload_n 0, 1) := by decide +kernel
theorem dX11_writes_42 : decode cX11_writes 42 = .ok (.getfield 13, 3) := by decide +kernel
theorem dX11_writes_45 : decode cX11_writes 45 = .ok (.iconst 0, 1) := by decide +kernel
theorem dX11_writes_46 : decode cX11_writes 46 = .ok (.iaload, 1) := by decide +kernel
theorem dX11_writes_47 : decode cX11_writes 47 = .ok (.iastore, 1) := by decide +kernel
theorem dX11_writes_48 : decode cX11_writes 48 = .ok (.aload_n 0, 1) := by decide +kernel
theorem dX11_writes_49 : decode cX11_writes 49 = .ok (.getfield 13, 3) := by decide +kernel
theorem dX11_writes_52 : decode cX11_writes 52 = .ok (.iload 6, 2) := by decide +kernel
theorem dX11_writes_54 : decode cX11_writes 54 = .ok (.iconst 3, 1) := by decide +kernel
theorem dX11_writes_55 : decode cX11_writes 55 = .ok (.iadd, 1) := by decide +kernel
theorem dX11_writes_56 : decode cX11_writes 56 = .ok (.aload_n 0, 1) := by decide +kernel
theorem dX11_writes_57 : decode cX11_writes 57 = .ok (.iload_n 2, 1) := by decide +kernel
theorem dX11_writes_58 : decode cX11_writes 58 = .ok (.iconst 3, 1) := by decide +kernel
theorem dX11_writes_59 : decode cX11_writes 59 = .ok (.invokevirtual 213, 3) := by decide +kernel
theorem dX11_writes_62 : decode cX11_writes 62 = .ok (.iastore, 1) := by decide +kernel
theorem dX11_writes_63 : decode cX11_writes 63 = .ok (.aload_n 0, 1) := by decide +kernel
theorem dX11_writes_64 : decode cX11_writes 64 = .ok (.getfield 13, 3) := by decide +kernel
theorem dX11_writes_67 : decode cX11_writes 67 = .ok (.iload 6, 2) := by decide +kernel
theorem dX11_writes_69 : decode cX11_writes 69 = .ok (.iconst 4, 1) := by decide +kernel
theorem dX11_writes_70 : decode cX11_writes 70 = .ok (.iadd, 1) := by decide +kernel
theorem dX11_writes_71 : decode cX11_writes 71 = .ok (.iload_n 3, 1) := by decide +kernel
theorem dX11_writes_72 : decode cX11_writes 72 = .ok (.iastore, 1) := by decide +kernel
theorem dX11_writes_73 : decode cX11_writes 73 = .ok (.aload_n 0, 1) := by decide +kernel
theorem dX11_writes_74 : decode cX11_writes 74 = .ok (.getfield 13, 3) := by decide +kernel
theorem dX11_writes_77 : decode cX11_writes 77 = .ok (.iload 6, 2) := by decide +kernel
theorem dX11_writes_79 : decode cX11_writes 79 = .ok (.iconst 5, 1) := by decide +kernel
theorem dX11_writes_80 : decode cX11_writes 80 = .ok (.iadd, 1) := by decide +kernel
theorem dX11_writes_81 : decode cX11_writes 81 = .ok (.iload 4, 2) := by decide +kernel
theorem dX11_writes_83 : decode cX11_writes 83 = .ok (.iastore, 1) := by decide +kernel
theorem dX11_writes_84 : decode cX11_writes 84 = .ok (.aload_n 0, 1) := by decide +kernel
theorem dX11_writes_85 : decode cX11_writes 85 = .ok (.getfield 13, 3) := by decide +kernel
theorem dX11_writes_88 : decode cX11_writes 88 = .ok (.iload 6, 2) := by decide +kernel
theorem dX11_writes_90 : decode cX11_writes 90 = .ok (.bipush 6, 2) := by decide +kernel
theorem dX11_writes_92 : decode cX11_writes 92 = .ok (.iadd, 1) := by decide +kernel
theorem dX11_writes_93 : decode cX11_writes 93 = .ok (.aload_n 0, 1) := by decide +kernel
theorem dX11_writes_94 : decode cX11_writes 94 = .ok (.iload_n 2, 1) := by decide +kernel
theorem dX11_writes_95 : decode cX11_writes 95 = .ok (.iconst 1, 1) := by decide +kernel
theorem dX11_writes_96 : decode cX11_writes 96 = .ok (.invokevirtual 213, 3) := by decide +kernel
theorem dX11_writes_99 : decode cX11_writes 99 = .ok (.iastore, 1) := by decide +kernel
theorem dX11_writes_100 : decode cX11_writes 100 = .ok (.aload_n 0, 1) := by decide +kernel
theorem dX11_writes_101 : decode cX11_writes 101 = .ok (.getfield 13, 3) := by decide +kernel
theorem dX11_writes_104 : decode cX11_writes 104 = .ok (.iload 6, 2) := by decide +kernel
theorem dX11_writes_106 : decode cX11_writes 106 = .ok (.bipush 7, 2) := by decide +kernel
theorem dX11_writes_108 : decode cX11_writes 108 = .ok (.iadd, 1) := by decide +kernel
theorem dX11_writes_109 : decode cX11_writes 109 = .ok (.iload 5, 2) := by decide +kernel
theorem dX11_writes_111 : decode cX11_writes 111 = .ok (.iastore, 1) := by decide +kernel
theorem dX11_writes_112 : decode cX11_writes 112 = .ok (.aload_n 0, 1) := by decide +kernel
theorem dX11_writes_113 : decode cX11_writes 113 = .ok (.getfield 13, 3) := by decide +kernel
theorem dX11_writes_116 : decode cX11_writes 116 = .ok (.iload 6, 2) := by decide +kernel
theorem dX11_writes_118 : decode cX11_writes 118 = .ok (.bipush 8, 2) := by decide +kernel
theorem dX11_writes_120 : decode cX11_writes 120 = .ok (.iadd, 1) := by decide +kernel
theorem dX11_writes_121 : decode cX11_writes 121 = .ok (.bipush (-2), 2) := by decide +kernel
theorem dX11_writes_123 : decode cX11_writes 123 = .ok (.iastore, 1) := by decide +kernel
theorem dX11_writes_124 : decode cX11_writes 124 = .ok (.aload_n 0, 1) := by decide +kernel
theorem dX11_writes_125 : decode cX11_writes 125 = .ok (.getfield 13, 3) := by decide +kernel
theorem dX11_writes_128 : decode cX11_writes 128 = .ok (.iload 6, 2) := by decide +kernel
theorem dX11_writes_130 : decode cX11_writes 130 = .ok (.bipush 9, 2) := by decide +kernel
theorem dX11_writes_132 : decode cX11_writes 132 = .ok (.iadd, 1) := by decide +kernel
theorem dX11_writes_133 : decode cX11_writes 133 = .ok (.bipush (-2), 2) := by decide +kernel
theorem dX11_writes_135 : decode cX11_writes 135 = .ok (.iastore, 1) := by decide +kernel
theorem dX11_writes_136 : decode cX11_writes 136 = .ok (.aload_n 0, 1) := by decide +kernel
theorem dX11_writes_137 : decode cX11_writes 137 = .ok (.getfield 13, 3) := by decide +kernel
theorem dX11_writes_140 : decode cX11_writes 140 = .ok (.iconst 1, 1) := by decide +kernel
theorem dX11_writes_141 : decode cX11_writes 141 = .ok (.aload_n 0, 1) := by decide +kernel
theorem dX11_writes_142 : decode cX11_writes 142 = .ok (.getfield 13, 3) := by decide +kernel
theorem dX11_writes_145 : decode cX11_writes 145 = .ok (.iconst 1, 1) := by decide +kernel
theorem dX11_writes_146 : decode cX11_writes 146 = .ok (.iaload, 1) := by decide +kernel
theorem dX11_writes_147 : decode cX11_writes 147 = .ok (.iconst 1, 1) := by decide +kernel
theorem dX11_writes_148 : decode cX11_writes 148 = .ok (.iadd, 1) := by decide +kernel
theorem dX11_writes_149 : decode cX11_writes 149 = .ok (.iastore, 1) := by decide +kernel
theorem dX11_writes_150 : decode cX11_writes 150 = .ok (.iload 5, 2) := by decide +kernel
theorem dX11_writes_152 : decode cX11_writes 152 = .ok (.ireturn, 1) := by decide +kernel
theorem dX11_allOf_0 : decode cX11_allOf 0 = .ok (.iconst 0, 1) := by decide +kernel
theorem dX11_allOf_1 : decode cX11_allOf 1 = .ok (.istore_n 2, 1) := by decide +kernel
theorem dX11_allOf_2 : decode cX11_allOf 2 = .ok (.iconst 0, 1) := by decide +kernel
theorem dX11_allOf_3 : decode cX11_allOf 3 = .ok (.istore_n 3, 1) := by decide +kernel
theorem dX11_allOf_4 : decode cX11_allOf 4 = .ok (.iload_n 3, 1) := by decide +kernel
theorem dX11_allOf_5 : decode cX11_allOf 5 = .ok (.aload_n 0, 1) := by decide +kernel
theorem dX11_allOf_6 : decode cX11_allOf 6 = .ok (.getfield 13, 3) := by decide +kernel
theorem dX11_allOf_9 : decode cX11_allOf 9 = .ok (.iconst 1, 1) := by decide +kernel
theorem dX11_allOf_10 : decode cX11_allOf 10 = .ok (.iaload, 1) := by decide +kernel
theorem dX11_allOf_11 : decode cX11_allOf 11 = .ok (.if_icmp .ge 29, 3) := by decide +kernel
theorem dX11_allOf_14 : decode cX11_allOf 14 = .ok (.aload_n 0, 1) := by decide +kernel
theorem dX11_allOf_15 : decode cX11_allOf 15 = .ok (.iload_n 3, 1) := by decide +kernel
theorem dX11_allOf_16 : decode cX11_allOf 16 = .ok (.iconst 1, 1) := by decide +kernel
theorem dX11_allOf_17 : decode cX11_allOf 17 = .ok (.invokevirtual 219, 3) := by decide +kernel
theorem dX11_allOf_20 : decode cX11_allOf 20 = .ok (.iload_n 1, 1) := by decide +kernel
theorem dX11_allOf_21 : decode cX11_allOf 21 = .ok (.if_icmp .ne 13, 3) := by decide +kernel
theorem dX11_allOf_24 : decode cX11_allOf 24 = .ok (.iload_n 2, 1) := by decide +kernel
theorem dX11_allOf_25 : decode cX11_allOf 25 = .ok (.aload_n 0, 1) := by decide +kernel
theorem dX11_allOf_26 : decode cX11_allOf 26 = .ok (.iload_n 3, 1) := by decide +kernel
theorem dX11_allOf_27 : decode cX11_allOf 27 = .ok (.bipush 7, 2) := by decide +kernel
theorem dX11_allOf_29 : decode cX11_allOf 29 = .ok (.invokevirtual 219, 3) := by decide +kernel
theorem dX11_allOf_32 : decode cX11_allOf 32 = .ok (.iadd, 1) := by decide +kernel
theorem dX11_allOf_33 : decode cX11_allOf 33 = .ok (.istore_n 2, 1) := by decide +kernel
theorem dX11_allOf_34 : decode cX11_allOf 34 = .ok (.iinc 3 1, 3) := by decide +kernel
theorem dX11_allOf_37 : decode cX11_allOf 37 = .ok (.goto (-33), 3) := by decide +kernel
theorem dX11_allOf_40 : decode cX11_allOf 40 = .ok (.iload_n 2, 1) := by decide +kernel
theorem dX11_allOf_41 : decode cX11_allOf 41 = .ok (.ireturn, 1) := by decide +kernel
theorem dX11_worthBy_0 : decode cX11_worthBy 0 = .ok (.aload_n 0, 1) := by decide +kernel
theorem dX11_worthBy_1 : decode cX11_worthBy 1 = .ok (.iload_n 2, 1) := by decide +kernel
theorem dX11_worthBy_2 : decode cX11_worthBy 2 = .ok (.iconst 0, 1) := by decide +kernel
theorem dX11_worthBy_3 : decode cX11_worthBy 3 = .ok (.invokevirtual 200, 3) := by decide +kernel
theorem dX11_worthBy_6 : decode cX11_worthBy 6 = .ok (.aload_n 0, 1) := by decide +kernel
theorem dX11_worthBy_7 : decode cX11_worthBy 7 = .ok (.iload_n 1, 1) := by decide +kernel
theorem dX11_worthBy_8 : decode cX11_worthBy 8 = .ok (.bipush 10, 2) := by decide +kernel
theorem dX11_worthBy_10 : decode cX11_worthBy 10 = .ok (.invokevirtual 213, 3) := by decide +kernel
theorem dX11_worthBy_13 : decode cX11_worthBy 13 = .ok (.imul, 1) := by decide +kernel
theorem dX11_worthBy_14 : decode cX11_worthBy 14 = .ok (.istore_n 3, 1) := by decide +kernel
theorem dX11_worthBy_15 : decode cX11_worthBy 15 = .ok (.iconst 0, 1) := by decide +kernel
theorem dX11_worthBy_16 : decode cX11_worthBy 16 = .ok (.istore 4, 2) := by decide +kernel
theorem dX11_worthBy_18 : decode cX11_worthBy 18 = .ok (.iconst 0, 1) := by decide +kernel
theorem dX11_worthBy_19 : decode cX11_worthBy 19 = .ok (.istore 5, 2) := by decide +kernel
theorem dX11_worthBy_21 : decode cX11_worthBy 21 = .ok (.iload 5, 2) := by decide +kernel
theorem dX11_worthBy_23 : decode cX11_worthBy 23 = .ok (.aload_n 0, 1) := by decide +kernel
theorem dX11_worthBy_24 : decode cX11_worthBy 24 = .ok (.iload_n 2, 1) := by decide +kernel
theorem dX11_worthBy_25 : decode cX11_worthBy 25 = .ok (.bipush 14, 2) := by decide +kernel
theorem dX11_worthBy_27 : decode cX11_worthBy 27 = .ok (.invokevirtual 200, 3) := by decide +kernel
theorem dX11_worthBy_30 : decode cX11_worthBy 30 = .ok (.if_icmp .ge 41, 3) := by decide +kernel
theorem dX11_worthBy_33 : decode cX11_worthBy 33 = .ok (.aload_n 0, 1) := by decide +kernel
theorem dX11_worthBy_34 : decode cX11_worthBy 34 = .ok (.iload_n 2, 1) := by decide +kernel
theorem dX11_worthBy_35 : decode cX11_worthBy 35 = .ok (.bipush 15, 2) := by decide +kernel
theorem dX11_worthBy_37 : decode cX11_worthBy 37 = .ok (.iload 5, 2) := by decide +kernel
theorem dX11_worthBy_39 : decode cX11_worthBy 39 = .ok (.iadd, 1) := by decide +kernel
theorem dX11_worthBy_40 : decode cX11_worthBy 40 = .ok (.invokevirtual 200, 3) := by decide +kernel
theorem dX11_worthBy_43 : decode cX11_worthBy 43 = .ok (.aload_n 0, 1) := by decide +kernel
theorem dX11_worthBy_44 : decode cX11_worthBy 44 = .ok (.iload_n 1, 1) := by decide +kernel
theorem dX11_worthBy_45 : decode cX11_worthBy 45 = .ok (.bipush 10, 2) := by decide +kernel
theorem dX11_worthBy_47 : decode cX11_worthBy 47 = .ok (.invokevirtual 213, 3) := by decide +kernel
theorem dX11_worthBy_50 : decode cX11_worthBy 50 = .ok (.if_icmp .gt 15, 3) := by decide +kernel
theorem dX11_worthBy_53 : decode cX11_worthBy 53 = .ok (.aload_n 0, 1) := by decide +kernel
theorem dX11_worthBy_54 : decode cX11_worthBy 54 = .ok (.iload_n 2, 1) := by decide +kernel
theorem dX11_worthBy_55 : decode cX11_worthBy 55 = .ok (.bipush 18, 2) := by decide +kernel
theorem dX11_worthBy_57 : decode cX11_worthBy 57 = .ok (.iload 5, 2) := by decide +kernel
theorem dX11_worthBy_59 : decode cX11_worthBy 59 = .ok (.iadd, 1) := by decide +kernel
theorem dX11_worthBy_60 : decode cX11_worthBy 60 = .ok (.invokevirtual 200, 3) := by decide +kernel
theorem dX11_worthBy_63 : decode cX11_worthBy 63 = .ok (.istore 4, 2) := by decide +kernel
theorem dX11_worthBy_65 : decode cX11_worthBy 65 = .ok (.iinc 5 1, 3) := by decide +kernel
theorem dX11_worthBy_68 : decode cX11_worthBy 68 = .ok (.goto (-47), 3) := by decide +kernel
theorem dX11_worthBy_71 : decode cX11_worthBy 71 = .ok (.iload_n 3, 1) := by decide +kernel
theorem dX11_worthBy_72 : decode cX11_worthBy 72 = .ok (.iload_n 3, 1) := by decide +kernel
theorem dX11_worthBy_73 : decode cX11_worthBy 73 = .ok (.iload 4, 2) := by decide +kernel
theorem dX11_worthBy_75 : decode cX11_worthBy 75 = .ok (.imul, 1) := by decide +kernel
theorem dX11_worthBy_76 : decode cX11_worthBy 76 = .ok (.bipush 100, 2) := by decide +kernel
theorem dX11_worthBy_78 : decode cX11_worthBy 78 = .ok (.idiv, 1) := by decide +kernel
theorem dX11_worthBy_79 : decode cX11_worthBy 79 = .ok (.isub, 1) := by decide +kernel
theorem dX11_worthBy_80 : decode cX11_worthBy 80 = .ok (.istore_n 3, 1) := by decide +kernel
theorem dX11_worthBy_81 : decode cX11_worthBy 81 = .ok (.aload_n 0, 1) := by decide +kernel
theorem dX11_worthBy_82 : decode cX11_worthBy 82 = .ok (.iload_n 1, 1) := by decide +kernel
theorem dX11_worthBy_83 : decode cX11_worthBy 83 = .ok (.iconst 3, 1) := by decide +kernel
theorem dX11_worthBy_84 : decode cX11_worthBy 84 = .ok (.invokevirtual 213, 3) := by decide +kernel
theorem dX11_worthBy_87 : decode cX11_worthBy 87 = .ok (.aload_n 0, 1) := by decide +kernel
theorem dX11_worthBy_88 : decode cX11_worthBy 88 = .ok (.getfield 13, 3) := by decide +kernel
theorem dX11_worthBy_91 : decode cX11_worthBy 91 = .ok (.iconst 3, 1) := by decide +kernel
theorem dX11_worthBy_92 : decode cX11_worthBy 92 = .ok (.iaload, 1) := by decide +kernel
theorem dX11_worthBy_93 : decode cX11_worthBy 93 = .ok (.if_icmp .ge 17, 3) := by decide +kernel
theorem dX11_worthBy_96 : decode cX11_worthBy 96 = .ok (.iload_n 3, 1) := by decide +kernel
theorem dX11_worthBy_97 : decode cX11_worthBy 97 = .ok (.iload_n 3, 1) := by decide +kernel
theorem dX11_worthBy_98 : decode cX11_worthBy 98 = .ok (.aload_n 0, 1) := by decide +kernel
theorem dX11_worthBy_99 : decode cX11_worthBy 99 = .ok (.getfield 13, 3) := by decide +kernel
theorem dX11_worthBy_102 : decode cX11_worthBy 102 = .ok (.iconst 2, 1) := by decide +kernel
theorem dX11_worthBy_103 : decode cX11_worthBy 103 = .ok (.iaload, 1) := by decide +kernel
theorem dX11_worthBy_104 : decode cX11_worthBy 104 = .ok (.imul, 1) := by decide +kernel
theorem dX11_worthBy_105 : decode cX11_worthBy 105 = .ok (.bipush 100, 2) := by decide +kernel
theorem dX11_worthBy_107 : decode cX11_worthBy 107 = .ok (.idiv, 1) := by decide +kernel
theorem dX11_worthBy_108 : decode cX11_worthBy 108 = .ok (.isub, 1) := by decide +kernel
theorem dX11_worthBy_109 : decode cX11_worthBy 109 = .ok (.istore_n 3, 1) := by decide +kernel
theorem dX11_worthBy_110 : decode cX11_worthBy 110 = .ok (.aload_n 0, 1) := by decide +kernel
theorem dX11_worthBy_111 : decode cX11_worthBy 111 = .ok (.iload_n 1, 1) := by decide +kernel
theorem dX11_worthBy_112 : decode cX11_worthBy 112 = .ok (.bipush 7, 2) := by decide +kernel
theorem dX11_worthBy_114 : decode cX11_worthBy 114 = .ok (.invokevirtual 213, 3) := by decide +kernel
theorem dX11_worthBy_117 : decode cX11_worthBy 117 = .ok (.iconst 1, 1) := by decide +kernel
theorem dX11_worthBy_118 : decode cX11_worthBy 118 = .ok (.if_icmp .ne 17, 3) := by decide +kernel
theorem dX11_worthBy_121 : decode cX11_worthBy 121 = .ok (.iload_n 3, 1) := by decide +kernel
theorem dX11_worthBy_122 : decode cX11_worthBy 122 = .ok (.aload_n 0, 1) := by decide +kernel
theorem dX11_worthBy_123 : decode cX11_worthBy 123 = .ok (.iload_n 2, 1) := by decide +kernel
theorem dX11_worthBy_124 : decode cX11_worthBy 124 = .ok (.iconst 5, 1) := by decide +kernel
theorem dX11_worthBy_125 : decode cX11_worthBy 125 = .ok (.invokevirtual 200, 3) := by decide +kernel
theorem dX11_worthBy_128 : decode cX11_worthBy 128 = .ok (.imul, 1) := by decide +kernel
theorem dX11_worthBy_129 : decode cX11_worthBy 129 = .ok (.bipush 100, 2) := by decide +kernel
theorem dX11_worthBy_131 : decode cX11_worthBy 131 = .ok (.idiv, 1) := by decide +kernel
theorem dX11_worthBy_132 : decode cX11_worthBy 132 = .ok (.goto 4, 3) := by decide +kernel
theorem dX11_worthBy_135 : decode cX11_worthBy 135 = .ok (.iload_n 3, 1) := by decide +kernel
theorem dX11_worthBy_136 : decode cX11_worthBy 136 = .ok (.ireturn, 1) := by decide +kernel
theorem dX11_worth_0 : decode cX11_worth 0 = .ok (.aload_n 0, 1) := by decide +kernel
theorem dX11_worth_1 : decode cX11_worth 1 = .ok (.iload_n 1, 1) := by decide +kernel
theorem dX11_worth_2 : decode cX11_worth 2 = .ok (.aload_n 0, 1) := by decide +kernel
theorem dX11_worth_3 : decode cX11_worth 3 = .ok (.iload_n 1, 1) := by decide +kernel
theorem dX11_worth_4 : decode cX11_worth 4 = .ok (.iconst 1, 1) := by decide +kernel
theorem dX11_worth_5 : decode cX11_worth 5 = .ok (.invokevirtual 213, 3) := by decide +kernel
theorem dX11_worth_8 : decode cX11_worth 8 = .ok (.invokevirtual 222, 3) := by decide +kernel
theorem dX11_worth_11 : decode cX11_worth 11 = .ok (.ireturn, 1) := by decide +kernel
theorem dX11_leftBy_0 : decode cX11_leftBy 0 = .ok (.aload_n 0, 1) := by decide +kernel
theorem dX11_leftBy_1 : decode cX11_leftBy 1 = .ok (.aload_n 0, 1) := by decide +kernel
theorem dX11_leftBy_2 : decode cX11_leftBy 2 = .ok (.iload_n 1, 1) := by decide +kernel
theorem dX11_leftBy_3 : decode cX11_leftBy 3 = .ok (.iload_n 2, 1) := by decide +kernel
theorem dX11_leftBy_4 : decode cX11_leftBy 4 = .ok (.invokevirtual 222, 3) := by decide +kernel
theorem dX11_leftBy_7 : decode cX11_leftBy 7 = .ok (.aload_n 0, 1) := by decide +kernel
theorem dX11_leftBy_8 : decode cX11_leftBy 8 = .ok (.iload_n 1, 1) := by decide +kernel
theorem dX11_leftBy_9 : decode cX11_leftBy 9 = .ok (.iconst 2, 1) := by decide +kernel
theorem dX11_leftBy_10 : decode cX11_leftBy 10 = .ok (.invokevirtual 213, 3) := by decide +kernel
theorem dX11_leftBy_13 : decode cX11_leftBy 13 = .ok (.iload_n 3, 1) := by decide +kernel
theorem dX11_leftBy_14 : decode cX11_leftBy 14 = .ok (.aload_n 0, 1) := by decide +kernel
theorem dX11_leftBy_15 : decode cX11_leftBy 15 = .ok (.iload_n 1, 1) := by decide +kernel
theorem dX11_leftBy_16 : decode cX11_leftBy 16 = .ok (.iconst 5, 1) := by decide +kernel
theorem dX11_leftBy_17 : decode cX11_leftBy 17 = .ok (.invokevirtual 213, 3) := by decide +kernel
theorem dX11_leftBy_20 : decode cX11_leftBy 20 = .ok (.invokevirtual 80, 3) := by decide +kernel
theorem dX11_leftBy_23 : decode cX11_leftBy 23 = .ok (.ireturn, 1) := by decide +kernel
theorem dX11_charges_0 : decode cX11_charges 0 = .ok (.aload_n 0, 1) := by decide +kernel
theorem dX11_charges_1 : decode cX11_charges 1 = .ok (.iconst 0, 1) := by decide +kernel
theorem dX11_charges_2 : decode cX11_charges 2 = .ok (.iload_n 1, 1) := by decide +kernel
theorem dX11_charges_3 : decode cX11_charges 3 = .ok (.aload_n 0, 1) := by decide +kernel
theorem dX11_charges_4 : decode cX11_charges 4 = .ok (.getfield 13, 3) := by decide +kernel
theorem dX11_charges_7 : decode cX11_charges 7 = .ok (.iconst 0, 1) := by decide +kernel
theorem dX11_charges_8 : decode cX11_charges 8 = .ok (.iaload, 1) := by decide +kernel
theorem dX11_charges_9 : decode cX11_charges 9 = .ok (.aload_n 0, 1) := by decide +kernel
theorem dX11_charges_10 : decode cX11_charges 10 = .ok (.iload_n 1, 1) := by decide +kernel
theorem dX11_charges_11 : decode cX11_charges 11 = .ok (.iconst 5, 1) := by decide +kernel
theorem dX11_charges_12 : decode cX11_charges 12 = .ok (.invokevirtual 213, 3) := by decide +kernel
theorem dX11_charges_15 : decode cX11_charges 15 = .ok (.aload_n 0, 1) := by decide +kernel
theorem dX11_charges_16 : decode cX11_charges 16 = .ok (.iload_n 1, 1) := by decide +kernel
theorem dX11_charges_17 : decode cX11_charges 17 = .ok (.aload_n 0, 1) := by decide +kernel
theorem dX11_charges_18 : decode cX11_charges 18 = .ok (.iload_n 1, 1) := by decide +kernel
theorem dX11_charges_19 : decode cX11_charges 19 = .ok (.iconst 1, 1) := by decide +kernel
theorem dX11_charges_20 : decode cX11_charges 20 = .ok (.invokevirtual 213, 3) := by decide +kernel
theorem dX11_charges_23 : decode cX11_charges 23 = .ok (.aload_n 0, 1) := by decide +kernel
theorem dX11_charges_24 : decode cX11_charges 24 = .ok (.getfield 13, 3) := by decide +kernel
theorem dX11_charges_27 : decode cX11_charges 27 = .ok (.iconst 0, 1) := by decide +kernel
theorem dX11_charges_28 : decode cX11_charges 28 = .ok (.iaload, 1) := by decide +kernel
theorem dX11_charges_29 : decode cX11_charges 29 = .ok (.invokevirtual 225, 3) := by decide +kernel
theorem dX11_charges_32 : decode cX11_charges 32 = .ok (.invokevirtual 229, 3) := by decide +kernel
theorem dX11_charges_35 : decode cX11_charges 35 = .ok (.ireturn, 1) := by decide +kernel
theorem dX11_credits_0 : decode cX11_credits 0 = .ok (.aload_n 0, 1) := by decide +kernel
theorem dX11_credits_1 : decode cX11_credits 1 = .ok (.iconst 1, 1) := by decide +kernel
theorem dX11_credits_2 : decode cX11_credits 2 = .ok (.iload_n 1, 1) := by decide +kernel
theorem dX11_credits_3 : decode cX11_credits 3 = .ok (.aload_n 0, 1) := by decide +kernel
theorem dX11_credits_4 : decode cX11_credits 4 = .ok (.getfield 13, 3) := by decide +kernel
theorem dX11_credits_7 : decode cX11_credits 7 = .ok (.iconst 0, 1) := by decide +kernel
theorem dX11_credits_8 : decode cX11_credits 8 = .ok (.iaload, 1) := by decide +kernel
theorem dX11_credits_9 : decode cX11_credits 9 = .ok (.aload_n 0, 1) := by decide +kernel
theorem dX11_credits_10 : decode cX11_credits 10 = .ok (.iload_n 1, 1) := by decide +kernel
theorem dX11_credits_11 : decode cX11_credits 11 = .ok (.iconst 5, 1) := by decide +kernel
theorem dX11_credits_12 : decode cX11_credits 12 = .ok (.invokevirtual 213, 3) := by decide +kernel
theorem dX11_credits_15 : decode cX11_credits 15 = .ok (.aload_n 0, 1) := by decide +kernel
theorem dX11_credits_16 : decode cX11_credits 16 = .ok (.iload_n 1, 1) := by decide +kernel
theorem dX11_credits_17 : decode cX11_credits 17 = .ok (.aload_n 0, 1) := by decide +kernel
theorem dX11_credits_18 : decode cX11_credits 18 = .ok (.iload_n 1, 1) := by decide +kernel
theorem dX11_credits_19 : decode cX11_credits 19 = .ok (.iconst 1, 1) := by decide +kernel
theorem dX11_credits_20 : decode cX11_credits 20 = .ok (.invokevirtual 213, 3) := by decide +kernel
theorem dX11_credits_23 : decode cX11_credits 23 = .ok (.aload_n 0, 1) := by decide +kernel
theorem dX11_credits_24 : decode cX11_credits 24 = .ok (.getfield 13, 3) := by decide +kernel
theorem dX11_credits_27 : decode cX11_credits 27 = .ok (.iconst 0, 1) := by decide +kernel
theorem dX11_credits_28 : decode cX11_credits 28 = .ok (.iaload, 1) := by decide +kernel
theorem dX11_credits_29 : decode cX11_credits 29 = .ok (.invokevirtual 225, 3) := by decide +kernel
theorem dX11_credits_32 : decode cX11_credits 32 = .ok (.ineg, 1) := by decide +kernel
theorem dX11_credits_33 : decode cX11_credits 33 = .ok (.invokevirtual 229, 3) := by decide +kernel
theorem dX11_credits_36 : decode cX11_credits 36 = .ok (.ireturn, 1) := by decide +kernel
theorem dX11_uses_0 : decode cX11_uses 0 = .ok (.aload_n 0, 1) := by decide +kernel
theorem dX11_uses_1 : decode cX11_uses 1 = .ok (.iconst 2, 1) := by decide +kernel
theorem dX11_uses_2 : decode cX11_uses 2 = .ok (.iload_n 1, 1) := by decide +kernel
theorem dX11_uses_3 : decode cX11_uses 3 = .ok (.aload_n 0, 1) := by decide +kernel
theorem dX11_uses_4 : decode cX11_uses 4 = .ok (.iload_n 1, 1) := by decide +kernel
theorem dX11_uses_5 : decode cX11_uses 5 = .ok (.iconst 4, 1) := by decide +kernel
theorem dX11_uses_6 : decode cX11_uses 6 = .ok (.invokevirtual 213, 3) := by decide +kernel
theorem dX11_uses_9 : decode cX11_uses 9 = .ok (.aload_n 0, 1) := by decide +kernel
theorem dX11_uses_10 : decode cX11_uses 10 = .ok (.getfield 13, 3) := by decide +kernel
theorem dX11_uses_13 : decode cX11_uses 13 = .ok (.iconst 0, 1) := by decide +kernel
theorem dX11_uses_14 : decode cX11_uses 14 = .ok (.iaload, 1) := by decide +kernel
theorem dX11_uses_15 : decode cX11_uses 15 = .ok (.aload_n 0, 1) := by decide +kernel
theorem dX11_uses_16 : decode cX11_uses 16 = .ok (.aload_n 0, 1) := by decide +kernel
theorem dX11_uses_17 : decode cX11_uses 17 = .ok (.iload_n 1, 1) := by decide +kernel
theorem dX11_uses_18 : decode cX11_uses 18 = .ok (.iconst 1, 1) := by decide +kernel
theorem dX11_uses_19 : decode cX11_uses 19 = .ok (.invokevirtual 213, 3) := by decide +kernel
theorem dX11_uses_22 : decode cX11_uses 22 = .ok (.aload_n 0, 1) := by decide +kernel
theorem dX11_uses_23 : decode cX11_uses 23 = .ok (.iload_n 1, 1) := by decide +kernel
theorem dX11_uses_24 : decode cX11_uses 24 = .ok (.bipush 6, 2) := by decide +kernel
theorem dX11_uses_26 : decode cX11_uses 26 = .ok (.invokevirtual 213, 3) := by decide +kernel
theorem dX11_uses_29 : decode cX11_uses 29 = .ok (.invokevirtual 206, 3) := by decide +kernel
theorem dX11_uses_32 : decode cX11_uses 32 = .ok (.invokevirtual 229, 3) := by decide +kernel
theorem dX11_uses_35 : decode cX11_uses 35 = .ok (.istore_n 2, 1) := by decide +kernel
theorem dX11_uses_36 : decode cX11_uses 36 = .ok (.aload_n 0, 1) := by decide +kernel
theorem dX11_uses_37 : decode cX11_uses 37 = .ok (.iload_n 1, 1) := by decide +kernel
theorem dX11_uses_38 : decode cX11_uses 38 = .ok (.bipush 6, 2) := by decide +kernel
theorem dX11_uses_40 : decode cX11_uses 40 = .ok (.iconst 0, 1) := by decide +kernel
theorem dX11_uses_41 : decode cX11_uses 41 = .ok (.invokevirtual 233, 3) := by decide +kernel
theorem dX11_uses_44 : decode cX11_uses 44 = .ok (.iload_n 2, 1) := by decide +kernel
theorem dX11_uses_45 : decode cX11_uses 45 = .ok (.ireturn, 1) := by decide +kernel
theorem dX11_opens_0 : decode cX11_opens 0 = .ok (.aload_n 0, 1) := by decide +kernel
theorem dX11_opens_1 : decode cX11_opens 1 = .ok (.iload_n 1, 1) := by decide +kernel
theorem dX11_opens_2 : decode cX11_opens 2 = .ok (.iconst 3, 1) := by decide +kernel
theorem dX11_opens_3 : decode cX11_opens 3 = .ok (.iload_n 2, 1) := by decide +kernel
theorem dX11_opens_4 : decode cX11_opens 4 = .ok (.invokevirtual 233, 3) := by decide +kernel
theorem dX11_opens_7 : decode cX11_opens 7 = .ok (.aload_n 0, 1) := by decide +kernel
theorem dX11_opens_8 : decode cX11_opens 8 = .ok (.iload_n 1, 1) := by decide +kernel
theorem dX11_opens_9 : decode cX11_opens 9 = .ok (.iconst 4, 1) := by decide +kernel
theorem dX11_opens_10 : decode cX11_opens 10 = .ok (.aload_n 0, 1) := by decide +kernel
theorem dX11_opens_11 : decode cX11_opens 11 = .ok (.getfield 13, 3) := by decide +kernel
theorem dX11_opens_14 : decode cX11_opens 14 = .ok (.iconst 0, 1) := by decide +kernel
theorem dX11_opens_15 : decode cX11_opens 15 = .ok (.iaload, 1) := by decide +kernel
theorem dX11_opens_16 : decode cX11_opens 16 = .ok (.invokevirtual 233, 3) := by decide +kernel
theorem dX11_opens_19 : decode cX11_opens 19 = .ok (.aload_n 0, 1) := by decide +kernel
theorem dX11_opens_20 : decode cX11_opens 20 = .ok (.iload_n 1, 1) := by decide +kernel
theorem dX11_opens_21 : decode cX11_opens 21 = .ok (.iconst 5, 1) := by decide +kernel
theorem dX11_opens_22 : decode cX11_opens 22 = .ok (.aload_n 0, 1) := by decide +kernel
theorem dX11_opens_23 : decode cX11_opens 23 = .ok (.aload_n 0, 1) := by decide +kernel
theorem dX11_opens_24 : decode cX11_opens 24 = .ok (.iload_n 1, 1) := by decide +kernel
theorem dX11_opens_25 : decode cX11_opens 25 = .ok (.iconst 2, 1) := by decide +kernel
theorem dX11_opens_26 : decode cX11_opens 26 = .ok (.invokevirtual 213, 3) := by decide +kernel
theorem dX11_opens_29 : decode cX11_opens 29 = .ok (.aload_n 0, 1) := by decide +kernel
theorem dX11_opens_30 : decode cX11_opens 30 = .ok (.getfield 13, 3) := by decide +kernel
theorem dX11_opens_33 : decode cX11_opens 33 = .ok (.iconst 0, 1) := by decide +kernel
theorem dX11_opens_34 : decode cX11_opens 34 = .ok (.iaload, 1) := by decide +kernel
theorem dX11_opens_35 : decode cX11_opens 35 = .ok (.invokevirtual 70, 3) := by decide +kernel
theorem dX11_opens_38 : decode cX11_opens 38 = .ok (.invokevirtual 233, 3) := by decide +kernel
theorem dX11_opens_41 : decode cX11_opens 41 = .ok (.return_, 1) := by decide +kernel
theorem dX11_begin_0 : decode cX11_begin 0 = .ok (.iload_n 1, 1) := by decide +kernel
theorem dX11_begin_1 : decode cX11_begin 1 = .ok (.invokestatic 210, 3) := by decide +kernel
theorem dX11_begin_4 : decode cX11_begin 4 = .ok (.ifCond .eq 17, 3) := by decide +kernel
theorem dX11_begin_7 : decode cX11_begin 7 = .ok (.iload_n 2, 1) := by decide +kernel
theorem dX11_begin_8 : decode cX11_begin 8 = .ok (.invokestatic 197, 3) := by decide +kernel
theorem dX11_begin_11 : decode cX11_begin 11 = .ok (.ifCond .eq 10, 3) := by decide +kernel
theorem dX11_begin_14 : decode cX11_begin 14 = .ok (.iload_n 3, 1) := by decide +kernel
theorem dX11_begin_15 : decode cX11_begin 15 = .ok (.invokestatic 60, 3) := by decide +kernel
theorem dX11_begin_18 : decode cX11_begin 18 = .ok (.ifCond .ne 5, 3) := by decide +kernel
theorem dX11_begin_21 : decode cX11_begin 21 = .ok (.iconst (-1), 1) := by decide +kernel
theorem dX11_begin_22 : decode cX11_begin 22 = .ok (.ireturn, 1) := by decide +kernel
theorem dX11_begin_23 : decode cX11_begin 23 = .ok (.aload_n 0, 1) := by decide +kernel
theorem dX11_begin_24 : decode cX11_begin 24 = .ok (.getfield 13, 3) := by decide +kernel
theorem dX11_begin_27 : decode cX11_begin 27 = .ok (.iconst 1, 1) := by decide +kernel
theorem dX11_begin_28 : decode cX11_begin 28 = .ok (.iaload, 1) := by decide +kernel
theorem dX11_begin_29 : decode cX11_begin 29 = .ok (.sipush 400, 3) := by decide +kernel
theorem dX11_begin_32 : decode cX11_begin 32 = .ok (.if_icmp .ne 6, 3) := by decide +kernel
theorem dX11_begin_35 : decode cX11_begin 35 = .ok (.bipush (-3), 2) := by decide +kernel
theorem dX11_begin_37 : decode cX11_begin 37 = .ok (.ireturn, 1) := by decide +kernel
theorem dX11_begin_38 : decode cX11_begin 38 = .ok (.aload_n 0, 1) := by decide +kernel
theorem dX11_begin_39 : decode cX11_begin 39 = .ok (.iload_n 1, 1) := by decide +kernel
theorem dX11_begin_40 : decode cX11_begin 40 = .ok (.invokevirtual 216, 3) := by decide +kernel
theorem dX11_begin_43 : decode cX11_begin 43 = .ok (.ifCond .eq 6, 3) := by decide +kernel
theorem dX11_begin_46 : decode cX11_begin 46 = .ok (.bipush (-4), 2) := by decide +kernel
theorem dX11_begin_48 : decode cX11_begin 48 = .ok (.ireturn, 1) := by decide +kernel
theorem dX11_begin_49 : decode cX11_begin 49 = .ok (.aload_n 0, 1) := by decide +kernel
theorem dX11_begin_50 : decode cX11_begin 50 = .ok (.iload_n 3, 1) := by decide +kernel
theorem dX11_begin_51 : decode cX11_begin 51 = .ok (.aload_n 0, 1) := by decide +kernel
theorem dX11_begin_52 : decode cX11_begin 52 = .ok (.getfield 13, 3) := by decide +kernel
theorem dX11_begin_55 : decode cX11_begin 55 = .ok (.iconst 0, 1) := by decide +kernel
theorem dX11_begin_56 : decode cX11_begin 56 = .ok (.iaload, 1) := by decide +kernel
theorem dX11_begin_57 : decode cX11_begin 57 = .ok (.invokevirtual 70, 3) := by decide +kernel
theorem dX11_begin_60 : decode cX11_begin 60 = .ok (.sipush 3652, 3) := by decide +kernel
theorem dX11_begin_63 : decode cX11_begin 63 = .ok (.if_icmp .le 6, 3) := by decide +kernel
theorem dX11_begin_66 : decode cX11_begin 66 = .ok (.bipush (-5), 2) := by decide +kernel
theorem dX11_begin_68 : decode cX11_begin 68 = .ok (.ireturn, 1) := by decide +kernel
theorem dX11_begin_69 : decode cX11_begin 69 = .ok (.iconst 0, 1) := by decide +kernel
theorem dX11_begin_70 : decode cX11_begin 70 = .ok (.istore 4, 2) := by decide +kernel
theorem dX11_begin_72 : decode cX11_begin 72 = .ok (.iload 4, 2) := by decide +kernel
theorem dX11_begin_74 : decode cX11_begin 74 = .ok (.bipush 12, 2) := by decide +kernel
theorem dX11_begin_76 : decode cX11_begin 76 = .ok (.if_icmp .ge 17, 3) := by decide +kernel
theorem dX11_begin_79 : decode cX11_begin 79 = .ok (.aload_n 0, 1) := by decide +kernel
theorem dX11_begin_80 : decode cX11_begin 80 = .ok (.iload_n 1, 1) := by decide +kernel
theorem dX11_begin_81 : decode cX11_begin 81 = .ok (.iload 4, 2) := by decide +kernel
theorem dX11_begin_83 : decode cX11_begin 83 = .ok (.iconst 0, 1) := by decide +kernel
theorem dX11_begin_84 : decode cX11_begin 84 = .ok (.invokevirtual 233, 3) := by decide +kernel
theorem dX11_begin_87 : decode cX11_begin 87 = .ok (.iinc 4 1, 3) := by decide +kernel
theorem dX11_begin_90 : decode cX11_begin 90 = .ok (.goto (-18), 3) := by decide +kernel
theorem dX11_begin_93 : decode cX11_begin 93 = .ok (.aload_n 0, 1) := by decide +kernel
theorem dX11_begin_94 : decode cX11_begin 94 = .ok (.iload_n 1, 1) := by decide +kernel
theorem dX11_begin_95 : decode cX11_begin 95 = .ok (.iconst 0, 1) := by decide +kernel
theorem dX11_begin_96 : decode cX11_begin 96 = .ok (.iconst 1, 1) := by decide +kernel
theorem dX11_begin_97 : decode cX11_begin 97 = .ok (.invokevirtual 233, 3) := by decide +kernel
theorem dX11_begin_100 : decode cX11_begin 100 = .ok (.aload_n 0, 1) := by decide +kernel
theorem dX11_begin_101 : decode cX11_begin 101 = .ok (.iload_n 1, 1) := by decide +kernel
theorem dX11_begin_102 : decode cX11_begin 102 = .ok (.iconst 1, 1) := by decide +kernel
theorem dX11_begin_103 : decode cX11_begin 103 = .ok (.iload_n 2, 1) := by decide +kernel
theorem dX11_begin_104 : decode cX11_begin 104 = .ok (.invokevirtual 233, 3) := by decide +kernel
theorem dX11_begin_107 : decode cX11_begin 107 = .ok (.aload_n 0, 1) := by decide +kernel
theorem dX11_begin_108 : decode cX11_begin 108 = .ok (.iload_n 1, 1) := by decide +kernel
theorem dX11_begin_109 : decode cX11_begin 109 = .ok (.iconst 2, 1) := by decide +kernel
theorem dX11_begin_110 : decode cX11_begin 110 = .ok (.iload_n 3, 1) := by decide +kernel
theorem dX11_begin_111 : decode cX11_begin 111 = .ok (.invokevirtual 233, 3) := by decide +kernel
theorem dX11_begin_114 : decode cX11_begin 114 = .ok (.aload_n 0, 1) := by decide +kernel
theorem dX11_begin_115 : decode cX11_begin 115 = .ok (.iload_n 1, 1) := by decide +kernel
theorem dX11_begin_116 : decode cX11_begin 116 = .ok (.bipush 10, 2) := by decide +kernel
theorem dX11_begin_118 : decode cX11_begin 118 = .ok (.iconst 1, 1) := by decide +kernel
theorem dX11_begin_119 : decode cX11_begin 119 = .ok (.invokevirtual 233, 3) := by decide +kernel
theorem dX11_begin_122 : decode cX11_begin 122 = .ok (.aload_n 0, 1) := by decide +kernel
theorem dX11_begin_123 : decode cX11_begin 123 = .ok (.iload_n 1, 1) := by decide +kernel
theorem dX11_begin_124 : decode cX11_begin 124 = .ok (.iconst 0, 1) := by decide +kernel
theorem dX11_begin_125 : decode cX11_begin 125 = .ok (.invokevirtual 237, 3) := by decide +kernel
theorem dX11_begin_128 : decode cX11_begin 128 = .ok (.aload_n 0, 1) := by decide +kernel
theorem dX11_begin_129 : decode cX11_begin 129 = .ok (.iload_n 1, 1) := by decide +kernel
theorem dX11_begin_130 : decode cX11_begin 130 = .ok (.invokevirtual 241, 3) := by decide +kernel
theorem dX11_begin_133 : decode cX11_begin 133 = .ok (.ireturn, 1) := by decide +kernel
theorem dX11_change_0 : decode cX11_change 0 = .ok (.aload_n 0, 1) := by decide +kernel
theorem dX11_change_1 : decode cX11_change 1 = .ok (.iload_n 1, 1) := by decide +kernel
theorem dX11_change_2 : decode cX11_change 2 = .ok (.invokevirtual 244, 3) := by decide +kernel
theorem dX11_change_5 : decode cX11_change 5 = .ok (.ifCond .eq 20, 3) := by decide +kernel
theorem dX11_change_8 : decode cX11_change 8 = .ok (.iload_n 2, 1) := by decide +kernel
theorem dX11_change_9 : decode cX11_change 9 = .ok (.invokestatic 197, 3) := by decide +kernel
theorem dX11_change_12 : decode cX11_change 12 = .ok (.ifCond .eq 13, 3) := by decide +kernel
theorem dX11_change_15 : decode cX11_change 15 = .ok (.iload_n 2, 1) := by decide +kernel
theorem dX11_change_16 : decode cX11_change 16 = .ok (.aload_n 0, 1) := by decide +kernel
theorem dX11_change_17 : decode cX11_change 17 = .ok (.iload_n 1, 1) := by decide +kernel
theorem dX11_change_18 : decode cX11_change 18 = .ok (.iconst 1, 1) := by decide +kernel
theorem dX11_change_19 : decode cX11_change 19 = .ok (.invokevirtual 213, 3) := by decide +kernel
theorem dX11_change_22 : decode cX11_change 22 = .ok (.if_icmp .ne 6, 3) := by decide +kernel
theorem dX11_change_25 : decode cX11_change 25 = .ok (.ldc 247, 2) := by decide +kernel
theorem dX11_change_27 : decode cX11_change 27 = .ok (.ireturn, 1) := by decide +kernel
theorem dX11_change_28 : decode cX11_change 28 = .ok (.aload_n 0, 1) := by decide +kernel
theorem dX11_change_29 : decode cX11_change 29 = .ok (.getfield 13, 3) := by decide +kernel
theorem dX11_change_32 : decode cX11_change 32 = .ok (.iconst 1, 1) := by decide +kernel
theorem dX11_change_33 : decode cX11_change 33 = .ok (.iaload, 1) := by decide +kernel
theorem dX11_change_34 : decode cX11_change 34 = .ok (.sipush 398, 3) := by decide +kernel
theorem dX11_change_37 : decode cX11_change 37 = .ok (.if_icmp .le 6, 3) := by decide +kernel
theorem dX11_change_40 : decode cX11_change 40 = .ok (.ldc 248, 2) := by decide +kernel
theorem dX11_change_42 : decode cX11_change 42 = .ok (.ireturn, 1) := by decide +kernel
theorem dX11_change_43 : decode cX11_change 43 = .ok (.aload_n 0, 1) := by decide +kernel
theorem dX11_change_44 : decode cX11_change 44 = .ok (.iload_n 1, 1) := by decide +kernel
theorem dX11_change_45 : decode cX11_change 45 = .ok (.invokevirtual 249, 3) := by decide +kernel
theorem dX11_change_48 : decode cX11_change 48 = .ok (.istore_n 3, 1) := by decide +kernel
theorem dX11_change_49 : decode cX11_change 49 = .ok (.aload_n 0, 1) := by decide +kernel
theorem dX11_change_50 : decode cX11_change 50 = .ok (.iload_n 1, 1) := by decide +kernel
theorem dX11_change_51 : decode cX11_change 51 = .ok (.iconst 1, 1) := by decide +kernel
theorem dX11_change_52 : decode cX11_change 52 = .ok (.iload_n 2, 1) := by decide +kernel
theorem dX11_change_53 : decode cX11_change 53 = .ok (.invokevirtual 233, 3) := by decide +kernel
theorem dX11_change_56 : decode cX11_change 56 = .ok (.iload_n 3, 1) := by decide +kernel
theorem dX11_change_57 : decode cX11_change 57 = .ok (.aload_n 0, 1) := by decide +kernel
theorem dX11_change_58 : decode cX11_change 58 = .ok (.iload_n 1, 1) := by decide +kernel
theorem dX11_change_59 : decode cX11_change 59 = .ok (.invokevirtual 241, 3) := by decide +kernel
theorem dX11_change_62 : decode cX11_change 62 = .ok (.iadd, 1) := by decide +kernel
theorem dX11_change_63 : decode cX11_change 63 = .ok (.ireturn, 1) := by decide +kernel
theorem dX11_seats_0 : decode cX11_seats 0 = .ok (.aload_n 0, 1) := by decide +kernel
theorem dX11_seats_1 : decode cX11_seats 1 = .ok (.iload_n 1, 1) := by decide +kernel
theorem dX11_seats_2 : decode cX11_seats 2 = .ok (.invokevirtual 244, 3) := by decide +kernel
theorem dX11_seats_5 : decode cX11_seats 5 = .ok (.ifCond .eq 24, 3) := by decide +kernel
theorem dX11_seats_8 : decode cX11_seats 8 = .ok (.iload_n 2, 1) := by decide +kernel
theorem dX11_seats_9 : decode cX11_seats 9 = .ok (.iconst 1, 1) := by decide +kernel
theorem dX11_seats_10 : decode cX11_seats 10 = .ok (.bipush 9, 2) := by decide +kernel
theorem dX11_seats_12 : decode cX11_seats 12 = .ok (.invokestatic 56, 3) := by decide +kernel
theorem dX11_seats_15 : decode cX11_seats 15 = .ok (.ifCond .eq 14, 3) := by decide +kernel
theorem dX11_seats_18 : decode cX11_seats 18 = .ok (.iload_n 2, 1) := by decide +kernel
theorem dX11_seats_19 : decode cX11_seats 19 = .ok (.aload_n 0, 1) := by decide +kernel
theorem dX11_seats_20 : decode cX11_seats 20 = .ok (.iload_n 1, 1) := by decide +kernel
theorem dX11_seats_21 : decode cX11_seats 21 = .ok (.bipush 10, 2) := by decide +kernel
theorem dX11_seats_23 : decode cX11_seats 23 = .ok (.invokevirtual 213, 3) := by decide +kernel
theorem dX11_seats_26 : decode cX11_seats 26 = .ok (.if_icmp .ne 6, 3) := by decide +kernel
theorem dX11_seats_29 : decode cX11_seats 29 = .ok (.ldc 247, 2) := by decide +kernel
theorem dX11_seats_31 : decode cX11_seats 31 = .ok (.ireturn, 1) := by decide +kernel
theorem dX11_seats_32 : decode cX11_seats 32 = .ok (.aload_n 0, 1) := by decide +kernel
theorem dX11_seats_33 : decode cX11_seats 33 = .ok (.getfield 13, 3) := by decide +kernel
theorem dX11_seats_36 : decode cX11_seats 36 = .ok (.iconst 1, 1) := by decide +kernel
theorem dX11_seats_37 : decode cX11_seats 37 = .ok (.iaload, 1) := by decide +kernel
theorem dX11_seats_38 : decode cX11_seats 38 = .ok (.sipush 398, 3) := by decide +kernel
theorem dX11_seats_41 : decode cX11_seats 41 = .ok (.if_icmp .le 6, 3) := by decide +kernel
theorem dX11_seats_44 : decode cX11_seats 44 = .ok (.ldc 248, 2) := by decide +kernel
theorem dX11_seats_46 : decode cX11_seats 46 = .ok (.ireturn, 1) := by decide +kernel
theorem dX11_seats_47 : decode cX11_seats 47 = .ok (.aload_n 0, 1) := by decide +kernel
theorem dX11_seats_48 : decode cX11_seats 48 = .ok (.iload_n 1, 1) := by decide +kernel
theorem dX11_seats_49 : decode cX11_seats 49 = .ok (.invokevirtual 249, 3) := by decide +kernel
theorem dX11_seats_52 : decode cX11_seats 52 = .ok (.istore_n 3, 1) := by decide +kernel
theorem dX11_seats_53 : decode cX11_seats 53 = .ok (.aload_n 0, 1) := by decide +kernel
theorem dX11_seats_54 : decode cX11_seats 54 = .ok (.iload_n 1, 1) := by decide +kernel
theorem dX11_seats_55 : decode cX11_seats 55 = .ok (.bipush 10, 2) := by decide +kernel
theorem dX11_seats_57 : decode cX11_seats 57 = .ok (.iload_n 2, 1) := by decide +kernel
theorem dX11_seats_58 : decode cX11_seats 58 = .ok (.invokevirtual 233, 3) := by decide +kernel
theorem dX11_seats_61 : decode cX11_seats 61 = .ok (.iload_n 3, 1) := by decide +kernel
theorem dX11_seats_62 : decode cX11_seats 62 = .ok (.aload_n 0, 1) := by decide +kernel
theorem dX11_seats_63 : decode cX11_seats 63 = .ok (.iload_n 1, 1) := by decide +kernel
theorem dX11_seats_64 : decode cX11_seats 64 = .ok (.invokevirtual 241, 3) := by decide +kernel
theorem dX11_seats_67 : decode cX11_seats 67 = .ok (.iadd, 1) := by decide +kernel
theorem dX11_seats_68 : decode cX11_seats 68 = .ok (.ireturn, 1) := by decide +kernel
theorem dX11_pause_0 : decode cX11_pause 0 = .ok (.aload_n 0, 1) := by decide +kernel
theorem dX11_pause_1 : decode cX11_pause 1 = .ok (.iload_n 1, 1) := by decide +kernel
theorem dX11_pause_2 : decode cX11_pause 2 = .ok (.invokevirtual 244, 3) := by decide +kernel
theorem dX11_pause_5 : decode cX11_pause 5 = .ok (.ifCond .eq 22, 3) := by decide +kernel
theorem dX11_pause_8 : decode cX11_pause 8 = .ok (.aload_n 0, 1) := by decide +kernel
theorem dX11_pause_9 : decode cX11_pause 9 = .ok (.iload_n 1, 1) := by decide +kernel
theorem dX11_pause_10 : decode cX11_pause 10 = .ok (.bipush 7, 2) := by decide +kernel
theorem dX11_pause_12 : decode cX11_pause 12 = .ok (.invokevirtual 213, 3) := by decide +kernel
theorem dX11_pause_15 : decode cX11_pause 15 = .ok (.iload_n 2, 1) := by decide +kernel
theorem dX11_pause_16 : decode cX11_pause 16 = .ok (.ifCond .eq 7, 3) := by decide +kernel
theorem dX11_pause_19 : decode cX11_pause 19 = .ok (.iconst 1, 1) := by decide +kernel
theorem dX11_pause_20 : decode cX11_pause 20 = .ok (.goto 4, 3) := by decide +kernel
theorem dX11_pause_23 : decode cX11_pause 23 = .ok (.iconst 0, 1) := by decide +kernel
theorem dX11_pause_24 : decode cX11_pause 24 = .ok (.if_icmp .ne 6, 3) := by decide +kernel
theorem dX11_pause_27 : decode cX11_pause 27 = .ok (.ldc 247, 2) := by decide +kernel
theorem dX11_pause_29 : decode cX11_pause 29 = .ok (.ireturn, 1) := by decide +kernel
theorem dX11_pause_30 : decode cX11_pause 30 = .ok (.aload_n 0, 1) := by decide +kernel
theorem dX11_pause_31 : decode cX11_pause 31 = .ok (.getfield 13, 3) := by decide +kernel
theorem dX11_pause_34 : decode cX11_pause 34 = .ok (.iconst 1, 1) := by decide +kernel
theorem dX11_pause_35 : decode cX11_pause 35 = .ok (.iaload, 1) := by decide +kernel
theorem dX11_pause_36 : decode cX11_pause 36 = .ok (.sipush 398, 3) := by decide +kernel
theorem dX11_pause_39 : decode cX11_pause 39 = .ok (.if_icmp .le 6, 3) := by decide +kernel
theorem dX11_pause_42 : decode cX11_pause 42 = .ok (.ldc 248, 2) := by decide +kernel
theorem dX11_pause_44 : decode cX11_pause 44 = .ok (.ireturn, 1) := by decide +kernel
theorem dX11_pause_45 : decode cX11_pause 45 = .ok (.aload_n 0, 1) := by decide +kernel
theorem dX11_pause_46 : decode cX11_pause 46 = .ok (.iload_n 1, 1) := by decide +kernel
theorem dX11_pause_47 : decode cX11_pause 47 = .ok (.invokevirtual 249, 3) := by decide +kernel
theorem dX11_pause_50 : decode cX11_pause 50 = .ok (.istore_n 3, 1) := by decide +kernel
theorem dX11_pause_51 : decode cX11_pause 51 = .ok (.aload_n 0, 1) := by decide +kernel
theorem dX11_pause_52 : decode cX11_pause 52 = .ok (.iload_n 1, 1) := by decide +kernel
theorem dX11_pause_53 : decode cX11_pause 53 = .ok (.bipush 7, 2) := by decide +kernel
theorem dX11_pause_55 : decode cX11_pause 55 = .ok (.iload_n 2, 1) := by decide +kernel
theorem dX11_pause_56 : decode cX11_pause 56 = .ok (.ifCond .eq 7, 3) := by decide +kernel
theorem dX11_pause_59 : decode cX11_pause 59 = .ok (.iconst 1, 1) := by decide +kernel
theorem dX11_pause_60 : decode cX11_pause 60 = .ok (.goto 4, 3) := by decide +kernel
theorem dX11_pause_63 : decode cX11_pause 63 = .ok (.iconst 0, 1) := by decide +kernel
theorem dX11_pause_64 : decode cX11_pause 64 = .ok (.invokevirtual 233, 3) := by decide +kernel
theorem dX11_pause_67 : decode cX11_pause 67 = .ok (.iload_n 3, 1) := by decide +kernel
theorem dX11_pause_68 : decode cX11_pause 68 = .ok (.aload_n 0, 1) := by decide +kernel
theorem dX11_pause_69 : decode cX11_pause 69 = .ok (.iload_n 1, 1) := by decide +kernel
theorem dX11_pause_70 : decode cX11_pause 70 = .ok (.invokevirtual 241, 3) := by decide +kernel
theorem dX11_pause_73 : decode cX11_pause 73 = .ok (.iadd, 1) := by decide +kernel
theorem dX11_pause_74 : decode cX11_pause 74 = .ok (.ireturn, 1) := by decide +kernel
theorem dX11_giveUp_0 : decode cX11_giveUp 0 = .ok (.aload_n 0, 1) := by decide +kernel
theorem dX11_giveUp_1 : decode cX11_giveUp 1 = .ok (.iload_n 1, 1) := by decide +kernel
theorem dX11_giveUp_2 : decode cX11_giveUp 2 = .ok (.invokevirtual 244, 3) := by decide +kernel
theorem dX11_giveUp_5 : decode cX11_giveUp 5 = .ok (.ifCond .ne 6, 3) := by decide +kernel
theorem dX11_giveUp_8 : decode cX11_giveUp 8 = .ok (.ldc 247, 2) := by decide +kernel
theorem dX11_giveUp_10 : decode cX11_giveUp 10 = .ok (.ireturn, 1) := by decide +kernel
theorem dX11_giveUp_11 : decode cX11_giveUp 11 = .ok (.aload_n 0, 1) := by decide +kernel
theorem dX11_giveUp_12 : decode cX11_giveUp 12 = .ok (.getfield 13, 3) := by decide +kernel
theorem dX11_giveUp_15 : decode cX11_giveUp 15 = .ok (.iconst 1, 1) := by decide +kernel
theorem dX11_giveUp_16 : decode cX11_giveUp 16 = .ok (.iaload, 1) := by decide +kernel
theorem dX11_giveUp_17 : decode cX11_giveUp 17 = .ok (.sipush 398, 3) := by decide +kernel
theorem dX11_giveUp_20 : decode cX11_giveUp 20 = .ok (.if_icmp .le 6, 3) := by decide +kernel
theorem dX11_giveUp_23 : decode cX11_giveUp 23 = .ok (.ldc 248, 2) := by decide +kernel
theorem dX11_giveUp_25 : decode cX11_giveUp 25 = .ok (.ireturn, 1) := by decide +kernel
theorem dX11_giveUp_26 : decode cX11_giveUp 26 = .ok (.aload_n 0, 1) := by decide +kernel
theorem dX11_giveUp_27 : decode cX11_giveUp 27 = .ok (.iload_n 1, 1) := by decide +kernel
theorem dX11_giveUp_28 : decode cX11_giveUp 28 = .ok (.invokevirtual 249, 3) := by decide +kernel
theorem dX11_giveUp_31 : decode cX11_giveUp 31 = .ok (.istore_n 2, 1) := by decide +kernel
theorem dX11_giveUp_32 : decode cX11_giveUp 32 = .ok (.iload_n 2, 1) := by decide +kernel
theorem dX11_giveUp_33 : decode cX11_giveUp 33 = .ok (.aload_n 0, 1) := by decide +kernel
theorem dX11_giveUp_34 : decode cX11_giveUp 34 = .ok (.iload_n 1, 1) := by decide +kernel
theorem dX11_giveUp_35 : decode cX11_giveUp 35 = .ok (.invokevirtual 252, 3) := by decide +kernel
theorem dX11_giveUp_38 : decode cX11_giveUp 38 = .ok (.iadd, 1) := by decide +kernel
theorem dX11_giveUp_39 : decode cX11_giveUp 39 = .ok (.istore_n 2, 1) := by decide +kernel
theorem dX11_giveUp_40 : decode cX11_giveUp 40 = .ok (.aload_n 0, 1) := by decide +kernel
theorem dX11_giveUp_41 : decode cX11_giveUp 41 = .ok (.iload_n 1, 1) := by decide +kernel
theorem dX11_giveUp_42 : decode cX11_giveUp 42 = .ok (.bipush 8, 2) := by decide +kernel
theorem dX11_giveUp_44 : decode cX11_giveUp 44 = .ok (.iconst 1, 1) := by decide +kernel
theorem dX11_giveUp_45 : decode cX11_giveUp 45 = .ok (.invokevirtual 233, 3) := by decide +kernel
theorem dX11_giveUp_48 : decode cX11_giveUp 48 = .ok (.iload_n 2, 1) := by decide +kernel
theorem dX11_giveUp_49 : decode cX11_giveUp 49 = .ok (.ireturn, 1) := by decide +kernel
theorem dX11_move_0 : decode cX11_move 0 = .ok (.aload_n 0, 1) := by decide +kernel
theorem dX11_move_1 : decode cX11_move 1 = .ok (.iload_n 1, 1) := by decide +kernel
theorem dX11_move_2 : decode cX11_move 2 = .ok (.invokevirtual 244, 3) := by decide +kernel
theorem dX11_move_5 : decode cX11_move 5 = .ok (.ifCond .eq 20, 3) := by decide +kernel
theorem dX11_move_8 : decode cX11_move 8 = .ok (.iload_n 2, 1) := by decide +kernel
theorem dX11_move_9 : decode cX11_move 9 = .ok (.invokestatic 60, 3) := by decide +kernel
theorem dX11_move_12 : decode cX11_move 12 = .ok (.ifCond .eq 13, 3) := by decide +kernel
theorem dX11_move_15 : decode cX11_move 15 = .ok (.iload_n 2, 1) := by decide +kernel
theorem dX11_move_16 : decode cX11_move 16 = .ok (.aload_n 0, 1) := by decide +kernel
theorem dX11_move_17 : decode cX11_move 17 = .ok (.iload_n 1, 1) := by decide +kernel
theorem dX11_move_18 : decode cX11_move 18 = .ok (.iconst 2, 1) := by decide +kernel
theorem dX11_move_19 : decode cX11_move 19 = .ok (.invokevirtual 213, 3) := by decide +kernel
theorem dX11_move_22 : decode cX11_move 22 = .ok (.if_icmp .ne 6, 3) := by decide +kernel
theorem dX11_move_25 : decode cX11_move 25 = .ok (.ldc 247, 2) := by decide +kernel
theorem dX11_move_27 : decode cX11_move 27 = .ok (.ireturn, 1) := by decide +kernel
theorem dX11_move_28 : decode cX11_move 28 = .ok (.aload_n 0, 1) := by decide +kernel
theorem dX11_move_29 : decode cX11_move 29 = .ok (.getfield 13, 3) := by decide +kernel
theorem dX11_move_32 : decode cX11_move 32 = .ok (.iconst 1, 1) := by decide +kernel
theorem dX11_move_33 : decode cX11_move 33 = .ok (.iaload, 1) := by decide +kernel
theorem dX11_move_34 : decode cX11_move 34 = .ok (.sipush 397, 3) := by decide +kernel
theorem dX11_move_37 : decode cX11_move 37 = .ok (.if_icmp .le 6, 3) := by decide +kernel
theorem dX11_move_40 : decode cX11_move 40 = .ok (.ldc 248, 2) := by decide +kernel
theorem dX11_move_42 : decode cX11_move 42 = .ok (.ireturn, 1) := by decide +kernel
theorem dX11_move_43 : decode cX11_move 43 = .ok (.aload_n 0, 1) := by decide +kernel
theorem dX11_move_44 : decode cX11_move 44 = .ok (.iload_n 2, 1) := by decide +kernel
theorem dX11_move_45 : decode cX11_move 45 = .ok (.aload_n 0, 1) := by decide +kernel
theorem dX11_move_46 : decode cX11_move 46 = .ok (.getfield 13, 3) := by decide +kernel
theorem dX11_move_49 : decode cX11_move 49 = .ok (.iconst 0, 1) := by decide +kernel
theorem dX11_move_50 : decode cX11_move 50 = .ok (.iaload, 1) := by decide +kernel
theorem dX11_move_51 : decode cX11_move 51 = .ok (.invokevirtual 70, 3) := by decide +kernel
theorem dX11_move_54 : decode cX11_move 54 = .ok (.sipush 3652, 3) := by decide +kernel
theorem dX11_move_57 : decode cX11_move 57 = .ok (.if_icmp .le 6, 3) := by decide +kernel
theorem dX11_move_60 : decode cX11_move 60 = .ok (.ldc 255, 2) := by decide +kernel
theorem dX11_move_62 : decode cX11_move 62 = .ok (.ireturn, 1) := by decide +kernel
theorem dX11_move_63 : decode cX11_move 63 = .ok (.aload_n 0, 1) := by decide +kernel
theorem dX11_move_64 : decode cX11_move 64 = .ok (.iload_n 1, 1) := by decide +kernel
theorem dX11_move_65 : decode cX11_move 65 = .ok (.invokevirtual 249, 3) := by decide +kernel
theorem dX11_move_68 : decode cX11_move 68 = .ok (.istore_n 3, 1) := by decide +kernel
theorem dX11_move_69 : decode cX11_move 69 = .ok (.iload_n 3, 1) := by decide +kernel
theorem dX11_move_70 : decode cX11_move 70 = .ok (.aload_n 0, 1) := by decide +kernel
theorem dX11_move_71 : decode cX11_move 71 = .ok (.iload_n 1, 1) := by decide +kernel
theorem dX11_move_72 : decode cX11_move 72 = .ok (.invokevirtual 252, 3) := by decide +kernel
theorem dX11_move_75 : decode cX11_move 75 = .ok (.iadd, 1) := by decide +kernel
theorem dX11_move_76 : decode cX11_move 76 = .ok (.istore_n 3, 1) := by decide +kernel
theorem dX11_move_77 : decode cX11_move 77 = .ok (.aload_n 0, 1) := by decide +kernel
theorem dX11_move_78 : decode cX11_move 78 = .ok (.iload_n 1, 1) := by decide +kernel
theorem dX11_move_79 : decode cX11_move 79 = .ok (.iconst 2, 1) := by decide +kernel
theorem dX11_move_80 : decode cX11_move 80 = .ok (.iload_n 2, 1) := by decide +kernel
theorem dX11_move_81 : decode cX11_move 81 = .ok (.invokevirtual 233, 3) := by decide +kernel
theorem dX11_move_84 : decode cX11_move 84 = .ok (.aload_n 0, 1) := by decide +kernel
theorem dX11_move_85 : decode cX11_move 85 = .ok (.iload_n 1, 1) := by decide +kernel
theorem dX11_move_86 : decode cX11_move 86 = .ok (.aload_n 0, 1) := by decide +kernel
theorem dX11_move_87 : decode cX11_move 87 = .ok (.iload_n 1, 1) := by decide +kernel
theorem dX11_move_88 : decode cX11_move 88 = .ok (.iconst 3, 1) := by decide +kernel
theorem dX11_move_89 : decode cX11_move 89 = .ok (.invokevirtual 213, 3) := by decide +kernel
theorem dX11_move_92 : decode cX11_move 92 = .ok (.iconst 1, 1) := by decide +kernel
theorem dX11_move_93 : decode cX11_move 93 = .ok (.iadd, 1) := by decide +kernel
theorem dX11_move_94 : decode cX11_move 94 = .ok (.invokevirtual 237, 3) := by decide +kernel
theorem dX11_move_97 : decode cX11_move 97 = .ok (.iload_n 3, 1) := by decide +kernel
theorem dX11_move_98 : decode cX11_move 98 = .ok (.aload_n 0, 1) := by decide +kernel
theorem dX11_move_99 : decode cX11_move 99 = .ok (.iload_n 1, 1) := by decide +kernel
theorem dX11_move_100 : decode cX11_move 100 = .ok (.invokevirtual 241, 3) := by decide +kernel
theorem dX11_move_103 : decode cX11_move 103 = .ok (.iadd, 1) := by decide +kernel
theorem dX11_move_104 : decode cX11_move 104 = .ok (.ireturn, 1) := by decide +kernel
theorem dX11_use_0 : decode cX11_use 0 = .ok (.aload_n 0, 1) := by decide +kernel
theorem dX11_use_1 : decode cX11_use 1 = .ok (.iload_n 1, 1) := by decide +kernel
theorem dX11_use_2 : decode cX11_use 2 = .ok (.invokevirtual 244, 3) := by decide +kernel
theorem dX11_use_5 : decode cX11_use 5 = .ok (.ifCond .eq 7, 3) := by decide +kernel
theorem dX11_use_8 : decode cX11_use 8 = .ok (.iload_n 2, 1) := by decide +kernel
theorem dX11_use_9 : decode cX11_use 9 = .ok (.ifCond .ge 5, 3) := by decide +kernel
theorem dX11_use_12 : decode cX11_use 12 = .ok (.iconst (-1), 1) := by decide +kernel
theorem dX11_use_13 : decode cX11_use 13 = .ok (.ireturn, 1) := by decide +kernel
theorem dX11_use_14 : decode cX11_use 14 = .ok (.aload_n 0, 1) := by decide +kernel
theorem dX11_use_15 : decode cX11_use 15 = .ok (.iload_n 1, 1) := by decide +kernel
theorem dX11_use_16 : decode cX11_use 16 = .ok (.bipush 7, 2) := by decide +kernel
theorem dX11_use_18 : decode cX11_use 18 = .ok (.invokevirtual 213, 3) := by decide +kernel
theorem dX11_use_21 : decode cX11_use 21 = .ok (.iconst 1, 1) := by decide +kernel
theorem dX11_use_22 : decode cX11_use 22 = .ok (.if_icmp .ne 6, 3) := by decide +kernel
theorem dX11_use_25 : decode cX11_use 25 = .ok (.bipush (-2), 2) := by decide +kernel
theorem dX11_use_27 : decode cX11_use 27 = .ok (.ireturn, 1) := by decide +kernel
theorem dX11_use_28 : decode cX11_use 28 = .ok (.iload_n 2, 1) := by decide +kernel
theorem dX11_use_29 : decode cX11_use 29 = .ok (.sipush 9999, 3) := by decide +kernel
theorem dX11_use_32 : decode cX11_use 32 = .ok (.aload_n 0, 1) := by decide +kernel
theorem dX11_use_33 : decode cX11_use 33 = .ok (.iload_n 1, 1) := by decide +kernel
theorem dX11_use_34 : decode cX11_use 34 = .ok (.bipush 6, 2) := by decide +kernel
theorem dX11_use_36 : decode cX11_use 36 = .ok (.invokevirtual 213, 3) := by decide +kernel
theorem dX11_use_39 : decode cX11_use 39 = .ok (.isub, 1) := by decide +kernel
theorem dX11_use_40 : decode cX11_use 40 = .ok (.if_icmp .le 6, 3) := by decide +kernel
theorem dX11_use_43 : decode cX11_use 43 = .ok (.bipush (-3), 2) := by decide +kernel
theorem dX11_use_45 : decode cX11_use 45 = .ok (.ireturn, 1) := by decide +kernel
theorem dX11_use_46 : decode cX11_use 46 = .ok (.aload_n 0, 1) := by decide +kernel
theorem dX11_use_47 : decode cX11_use 47 = .ok (.iload_n 1, 1) := by decide +kernel
theorem dX11_use_48 : decode cX11_use 48 = .ok (.bipush 6, 2) := by decide +kernel
theorem dX11_use_50 : decode cX11_use 50 = .ok (.aload_n 0, 1) := by decide +kernel
theorem dX11_use_51 : decode cX11_use 51 = .ok (.iload_n 1, 1) := by decide +kernel
theorem dX11_use_52 : decode cX11_use 52 = .ok (.bipush 6, 2) := by decide +kernel
theorem dX11_use_54 : decode cX11_use 54 = .ok (.invokevirtual 213, 3) := by decide +kernel
theorem dX11_use_57 : decode cX11_use 57 = .ok (.iload_n 2, 1) := by decide +kernel
theorem dX11_use_58 : decode cX11_use 58 = .ok (.iadd, 1) := by decide +kernel
theorem dX11_use_59 : decode cX11_use 59 = .ok (.invokevirtual 233, 3) := by decide +kernel
theorem dX11_use_62 : decode cX11_use 62 = .ok (.aload_n 0, 1) := by decide +kernel
theorem dX11_use_63 : decode cX11_use 63 = .ok (.iload_n 1, 1) := by decide +kernel
theorem dX11_use_64 : decode cX11_use 64 = .ok (.bipush 6, 2) := by decide +kernel
theorem dX11_use_66 : decode cX11_use 66 = .ok (.invokevirtual 213, 3) := by decide +kernel
theorem dX11_use_69 : decode cX11_use 69 = .ok (.ireturn, 1) := by decide +kernel
theorem dX11_turnsOn_0 : decode cX11_turnsOn 0 = .ok (.aload_n 0, 1) := by decide +kernel
theorem dX11_turnsOn_1 : decode cX11_turnsOn 1 = .ok (.iload_n 1, 1) := by decide +kernel
theorem dX11_turnsOn_2 : decode cX11_turnsOn 2 = .ok (.invokevirtual 244, 3) := by decide +kernel
theorem dX11_turnsOn_5 : decode cX11_turnsOn 5 = .ok (.ifCond .eq 17, 3) := by decide +kernel
theorem dX11_turnsOn_8 : decode cX11_turnsOn 8 = .ok (.aload_n 0, 1) := by decide +kernel
theorem dX11_turnsOn_9 : decode cX11_turnsOn 9 = .ok (.iload_n 1, 1) := by decide +kernel
theorem dX11_turnsOn_10 : decode cX11_turnsOn 10 = .ok (.iconst 5, 1) := by decide +kernel
theorem dX11_turnsOn_11 : decode cX11_turnsOn 11 = .ok (.invokevirtual 213, 3) := by decide +kernel
theorem dX11_turnsOn_14 : decode cX11_turnsOn 14 = .ok (.iload_n 2, 1) := by decide +kernel
theorem dX11_turnsOn_15 : decode cX11_turnsOn 15 = .ok (.if_icmp .ne 7, 3) := by decide +kernel
theorem dX11_turnsOn_18 : decode cX11_turnsOn 18 = .ok (.iconst 1, 1) := by decide +kernel
theorem dX11_turnsOn_19 : decode cX11_turnsOn 19 = .ok (.goto 4, 3) := by decide +kernel
theorem dX11_turnsOn_22 : decode cX11_turnsOn 22 = .ok (.iconst 0, 1) := by decide +kernel
theorem dX11_turnsOn_23 : decode cX11_turnsOn 23 = .ok (.ireturn, 1) := by decide +kernel
theorem dX11_mayPass_0 : decode cX11_mayPass 0 = .ok (.aload_n 0, 1) := by decide +kernel
theorem dX11_mayPass_1 : decode cX11_mayPass 1 = .ok (.getfield 13, 3) := by decide +kernel
theorem dX11_mayPass_4 : decode cX11_mayPass 4 = .ok (.iconst 0, 1) := by decide +kernel
theorem dX11_mayPass_5 : decode cX11_mayPass 5 = .ok (.iaload, 1) := by decide +kernel
theorem dX11_mayPass_6 : decode cX11_mayPass 6 = .ok (.iconst 1, 1) := by decide +kernel
theorem dX11_mayPass_7 : decode cX11_mayPass 7 = .ok (.iadd, 1) := by decide +kernel
theorem dX11_mayPass_8 : decode cX11_mayPass 8 = .ok (.istore_n 1, 1) := by decide +kernel
theorem dX11_mayPass_9 : decode cX11_mayPass 9 = .ok (.iload_n 1, 1) := by decide +kernel
theorem dX11_mayPass_10 : decode cX11_mayPass 10 = .ok (.sipush 3652, 3) := by decide +kernel
theorem dX11_mayPass_13 : decode cX11_mayPass 13 = .ok (.if_icmp .le 5, 3) := by decide +kernel
theorem dX11_mayPass_16 : decode cX11_mayPass 16 = .ok (.iconst 0, 1) := by decide +kernel
theorem dX11_mayPass_17 : decode cX11_mayPass 17 = .ok (.ireturn, 1) := by decide +kernel
theorem dX11_mayPass_18 : decode cX11_mayPass 18 = .ok (.iconst 0, 1) := by decide +kernel
theorem dX11_mayPass_19 : decode cX11_mayPass 19 = .ok (.istore_n 2, 1) := by decide +kernel
theorem dX11_mayPass_20 : decode cX11_mayPass 20 = .ok (.iconst 0, 1) := by decide +kernel
theorem dX11_mayPass_21 : decode cX11_mayPass 21 = .ok (.istore_n 3, 1) := by decide +kernel
theorem dX11_mayPass_22 : decode cX11_mayPass 22 = .ok (.iload_n 3, 1) := by decide +kernel
theorem dX11_mayPass_23 : decode cX11_mayPass 23 = .ok (.bipush 6, 2) := by decide +kernel
theorem dX11_mayPass_25 : decode cX11_mayPass 25 = .ok (.if_icmp .ge 44, 3) := by decide +kernel
theorem dX11_mayPass_28 : decode cX11_mayPass 28 = .ok (.aload_n 0, 1) := by decide +kernel
theorem dX11_mayPass_29 : decode cX11_mayPass 29 = .ok (.iload_n 3, 1) := by decide +kernel
theorem dX11_mayPass_30 : decode cX11_mayPass 30 = .ok (.iload_n 1, 1) := by decide +kernel
theorem dX11_mayPass_31 : decode cX11_mayPass 31 = .ok (.invokevirtual 256, 3) := by decide +kernel
theorem dX11_mayPass_34 : decode cX11_mayPass 34 = .ok (.ifCond .ne 6, 3) := by decide +kernel
theorem dX11_mayPass_37 : decode cX11_mayPass 37 = .ok (.goto 26, 3) := by decide +kernel
theorem dX11_mayPass_40 : decode cX11_mayPass 40 = .ok (.iload_n 2, 1) := by decide +kernel
theorem dX11_mayPass_41 : decode cX11_mayPass 41 = .ok (.iconst 2, 1) := by decide +kernel
theorem dX11_mayPass_42 : decode cX11_mayPass 42 = .ok (.iadd, 1) := by decide +kernel
theorem dX11_mayPass_43 : decode cX11_mayPass 43 = .ok (.istore_n 2, 1) := by decide +kernel
theorem dX11_mayPass_44 : decode cX11_mayPass 44 = .ok (.aload_n 0, 1) := by decide +kernel
theorem dX11_mayPass_45 : decode cX11_mayPass 45 = .ok (.aload_n 0, 1) := by decide +kernel
theorem dX11_mayPass_46 : decode cX11_mayPass 46 = .ok (.iload_n 3, 1) := by decide +kernel
theorem dX11_mayPass_47 : decode cX11_mayPass 47 = .ok (.iconst 2, 1) := by decide +kernel
theorem dX11_mayPass_48 : decode cX11_mayPass 48 = .ok (.invokevirtual 213, 3) := by decide +kernel
theorem dX11_mayPass_51 : decode cX11_mayPass 51 = .ok (.iload_n 1, 1) := by decide +kernel
theorem dX11_mayPass_52 : decode cX11_mayPass 52 = .ok (.invokevirtual 70, 3) := by decide +kernel
theorem dX11_mayPass_55 : decode cX11_mayPass 55 = .ok (.sipush 3652, 3) := by decide +kernel
theorem dX11_mayPass_58 : decode cX11_mayPass 58 = .ok (.if_icmp .le 5, 3) := by decide +kernel
theorem dX11_mayPass_61 : decode cX11_mayPass 61 = .ok (.iconst 0, 1) := by decide +kernel
theorem dX11_mayPass_62 : decode cX11_mayPass 62 = .ok (.ireturn, 1) := by decide +kernel
theorem dX11_mayPass_63 : decode cX11_mayPass 63 = .ok (.iinc 3 1, 3) := by decide +kernel
theorem dX11_mayPass_66 : decode cX11_mayPass 66 = .ok (.goto (-44), 3) := by decide +kernel
theorem dX11_mayPass_69 : decode cX11_mayPass 69 = .ok (.aload_n 0, 1) := by decide +kernel
theorem dX11_mayPass_70 : decode cX11_mayPass 70 = .ok (.getfield 13, 3) := by decide +kernel
theorem dX11_mayPass_73 : decode cX11_mayPass 73 = .ok (.iconst 1, 1) := by decide +kernel
theorem dX11_mayPass_74 : decode cX11_mayPass 74 = .ok (.iaload, 1) := by decide +kernel
theorem dX11_mayPass_75 : decode cX11_mayPass 75 = .ok (.iload_n 2, 1) := by decide +kernel
theorem dX11_mayPass_76 : decode cX11_mayPass 76 = .ok (.iadd, 1) := by decide +kernel
theorem dX11_mayPass_77 : decode cX11_mayPass 77 = .ok (.sipush 400, 3) := by decide +kernel
theorem dX11_mayPass_80 : decode cX11_mayPass 80 = .ok (.if_icmp .gt 7, 3) := by decide +kernel
theorem dX11_mayPass_83 : decode cX11_mayPass 83 = .ok (.iconst 1, 1) := by decide +kernel
theorem dX11_mayPass_84 : decode cX11_mayPass 84 = .ok (.goto 4, 3) := by decide +kernel
theorem dX11_mayPass_87 : decode cX11_mayPass 87 = .ok (.iconst 0, 1) := by decide +kernel
theorem dX11_mayPass_88 : decode cX11_mayPass 88 = .ok (.ireturn, 1) := by decide +kernel
theorem dX11_pass_0 : decode cX11_pass 0 = .ok (.iconst 0, 1) := by decide +kernel
theorem dX11_pass_1 : decode cX11_pass 1 = .ok (.istore_n 2, 1) := by decide +kernel
theorem dX11_pass_2 : decode cX11_pass 2 = .ok (.iload_n 2, 1) := by decide +kernel
theorem dX11_pass_3 : decode cX11_pass 3 = .ok (.iload_n 1, 1) := by decide +kernel
theorem dX11_pass_4 : decode cX11_pass 4 = .ok (.if_icmp .ge 87, 3) := by decide +kernel
theorem dX11_pass_7 : decode cX11_pass 7 = .ok (.aload_n 0, 1) := by decide +kernel
theorem dX11_pass_8 : decode cX11_pass 8 = .ok (.invokevirtual 259, 3) := by decide +kernel
theorem dX11_pass_11 : decode cX11_pass 11 = .ok (.ifCond .eq 80, 3) := by decide +kernel
theorem dX11_pass_14 : decode cX11_pass 14 = .ok (.aload_n 0, 1) := by decide +kernel
theorem dX11_pass_15 : decode cX11_pass 15 = .ok (.getfield 13, 3) := by decide +kernel
theorem dX11_pass_18 : decode cX11_pass 18 = .ok (.iconst 0, 1) := by decide +kernel
theorem dX11_pass_19 : decode cX11_pass 19 = .ok (.aload_n 0, 1) := by decide +kernel
theorem dX11_pass_20 : decode cX11_pass 20 = .ok (.getfield 13, 3) := by decide +kernel
theorem dX11_pass_23 : decode cX11_pass 23 = .ok (.iconst 0, 1) := by decide +kernel
theorem dX11_pass_24 : decode cX11_pass 24 = .ok (.iaload, 1) := by decide +kernel
theorem dX11_pass_25 : decode cX11_pass 25 = .ok (.iconst 1, 1) := by decide +kernel
theorem dX11_pass_26 : decode cX11_pass 26 = .ok (.iadd, 1) := by decide +kernel
theorem dX11_pass_27 : decode cX11_pass 27 = .ok (.iastore, 1) := by decide +kernel
theorem dX11_pass_28 : decode cX11_pass 28 = .ok (.iload_n 2, 1) := by decide +kernel
theorem dX11_pass_29 : decode cX11_pass 29 = .ok (.iconst 1, 1) := by decide +kernel
theorem dX11_pass_30 : decode cX11_pass 30 = .ok (.iadd, 1) := by decide +kernel
theorem dX11_pass_31 : decode cX11_pass 31 = .ok (.istore_n 2, 1) := by decide +kernel
theorem dX11_pass_32 : decode cX11_pass 32 = .ok (.iconst 0, 1) := by decide +kernel
theorem dX11_pass_33 : decode cX11_pass 33 = .ok (.istore_n 3, 1) := by decide +kernel
theorem dX11_pass_34 : decode cX11_pass 34 = .ok (.iload_n 3, 1) := by decide +kernel
theorem dX11_pass_35 : decode cX11_pass 35 = .ok (.bipush 6, 2) := by decide +kernel
theorem dX11_pass_37 : decode cX11_pass 37 = .ok (.if_icmp .ge 51, 3) := by decide +kernel
theorem dX11_pass_40 : decode cX11_pass 40 = .ok (.aload_n 0, 1) := by decide +kernel
theorem dX11_pass_41 : decode cX11_pass 41 = .ok (.iload_n 3, 1) := by decide +kernel
theorem dX11_pass_42 : decode cX11_pass 42 = .ok (.aload_n 0, 1) := by decide +kernel
theorem dX11_pass_43 : decode cX11_pass 43 = .ok (.getfield 13, 3) := by decide +kernel
theorem dX11_pass_46 : decode cX11_pass 46 = .ok (.iconst 0, 1) := by decide +kernel
theorem dX11_pass_47 : decode cX11_pass 47 = .ok (.iaload, 1) := by decide +kernel
theorem dX11_pass_48 : decode cX11_pass 48 = .ok (.invokevirtual 256, 3) := by decide +kernel
theorem dX11_pass_51 : decode cX11_pass 51 = .ok (.ifCond .ne 6, 3) := by decide +kernel
theorem dX11_pass_54 : decode cX11_pass 54 = .ok (.goto 28, 3) := by decide +kernel
theorem dX11_pass_57 : decode cX11_pass 57 = .ok (.aload_n 0, 1) := by decide +kernel
theorem dX11_pass_58 : decode cX11_pass 58 = .ok (.iload_n 3, 1) := by decide +kernel
theorem dX11_pass_59 : decode cX11_pass 59 = .ok (.invokevirtual 252, 3) := by decide +kernel
theorem dX11_pass_62 : decode cX11_pass 62 = .ok (.pop, 1) := by decide +kernel
theorem dX11_pass_63 : decode cX11_pass 63 = .ok (.aload_n 0, 1) := by decide +kernel
theorem dX11_pass_64 : decode cX11_pass 64 = .ok (.iload_n 3, 1) := by decide +kernel
theorem dX11_pass_65 : decode cX11_pass 65 = .ok (.aload_n 0, 1) := by decide +kernel
theorem dX11_pass_66 : decode cX11_pass 66 = .ok (.iload_n 3, 1) := by decide +kernel
theorem dX11_pass_67 : decode cX11_pass 67 = .ok (.iconst 3, 1) := by decide +kernel
theorem dX11_pass_68 : decode cX11_pass 68 = .ok (.invokevirtual 213, 3) := by decide +kernel
theorem dX11_pass_71 : decode cX11_pass 71 = .ok (.iconst 1, 1) := by decide +kernel
theorem dX11_pass_72 : decode cX11_pass 72 = .ok (.iadd, 1) := by decide +kernel
theorem dX11_pass_73 : decode cX11_pass 73 = .ok (.invokevirtual 237, 3) := by decide +kernel
theorem dX11_pass_76 : decode cX11_pass 76 = .ok (.aload_n 0, 1) := by decide +kernel
theorem dX11_pass_77 : decode cX11_pass 77 = .ok (.iload_n 3, 1) := by decide +kernel
theorem dX11_pass_78 : decode cX11_pass 78 = .ok (.invokevirtual 241, 3) := by decide +kernel
theorem dX11_pass_81 : decode cX11_pass 81 = .ok (.pop, 1) := by decide +kernel
theorem dX11_pass_82 : decode cX11_pass 82 = .ok (.iinc 3 1, 3) := by decide +kernel
theorem dX11_pass_85 : decode cX11_pass 85 = .ok (.goto (-51), 3) := by decide +kernel
theorem dX11_pass_88 : decode cX11_pass 88 = .ok (.goto (-86), 3) := by decide +kernel
theorem dX11_pass_91 : decode cX11_pass 91 = .ok (.iload_n 2, 1) := by decide +kernel
theorem dX11_pass_92 : decode cX11_pass 92 = .ok (.ireturn, 1) := by decide +kernel
theorem dX11_days_0 : decode cX11_days 0 = .ok (.iload_n 1, 1) := by decide +kernel
theorem dX11_days_1 : decode cX11_days 1 = .ok (.iconst 1, 1) := by decide +kernel
theorem dX11_days_2 : decode cX11_days 2 = .ok (.sipush 400, 3) := by decide +kernel
theorem dX11_days_5 : decode cX11_days 5 = .ok (.invokestatic 56, 3) := by decide +kernel
theorem dX11_days_8 : decode cX11_days 8 = .ok (.ifCond .eq 11, 3) := by decide +kernel
theorem dX11_days_11 : decode cX11_days 11 = .ok (.aload_n 0, 1) := by decide +kernel
theorem dX11_days_12 : decode cX11_days 12 = .ok (.iload_n 1, 1) := by decide +kernel
theorem dX11_days_13 : decode cX11_days 13 = .ok (.invokevirtual 262, 3) := by decide +kernel
theorem dX11_days_16 : decode cX11_days 16 = .ok (.goto 4, 3) := by decide +kernel
theorem dX11_days_19 : decode cX11_days 19 = .ok (.iconst (-1), 1) := by decide +kernel
theorem dX11_days_20 : decode cX11_days 20 = .ok (.ireturn, 1) := by decide +kernel
theorem dX11_favour_0 : decode cX11_favour 0 = .ok (.aload_n 0, 1) := by decide +kernel
theorem dX11_favour_1 : decode cX11_favour 1 = .ok (.iload_n 1, 1) := by decide +kernel
theorem dX11_favour_2 : decode cX11_favour 2 = .ok (.invokevirtual 216, 3) := by decide +kernel
theorem dX11_favour_5 : decode cX11_favour 5 = .ok (.ifCond .eq 17, 3) := by decide +kernel
theorem dX11_favour_8 : decode cX11_favour 8 = .ok (.iload_n 2, 1) := by decide +kernel
theorem dX11_favour_9 : decode cX11_favour 9 = .ok (.iconst 1, 1) := by decide +kernel
theorem dX11_favour_10 : decode cX11_favour 10 = .ok (.if_icmp .lt 12, 3) := by decide +kernel
theorem dX11_favour_13 : decode cX11_favour 13 = .ok (.iload_n 2, 1) := by decide +kernel
theorem dX11_favour_14 : decode cX11_favour 14 = .ok (.aload_n 0, 1) := by decide +kernel
theorem dX11_favour_15 : decode cX11_favour 15 = .ok (.iload_n 1, 1) := by decide +kernel
theorem dX11_favour_16 : decode cX11_favour 16 = .ok (.invokevirtual 265, 3) := by decide +kernel
theorem dX11_favour_19 : decode cX11_favour 19 = .ok (.if_icmp .le 6, 3) := by decide +kernel
theorem dX11_favour_22 : decode cX11_favour 22 = .ok (.ldc 247, 2) := by decide +kernel
theorem dX11_favour_24 : decode cX11_favour 24 = .ok (.ireturn, 1) := by decide +kernel
theorem dX11_favour_25 : decode cX11_favour 25 = .ok (.aload_n 0, 1) := by decide +kernel
theorem dX11_favour_26 : decode cX11_favour 26 = .ok (.getfield 13, 3) := by decide +kernel
theorem dX11_favour_29 : decode cX11_favour 29 = .ok (.iconst 1, 1) := by decide +kernel
theorem dX11_favour_30 : decode cX11_favour 30 = .ok (.iaload, 1) := by decide +kernel
theorem dX11_favour_31 : decode cX11_favour 31 = .ok (.sipush 400, 3) := by decide +kernel
theorem dX11_favour_34 : decode cX11_favour 34 = .ok (.if_icmp .ne 6, 3) := by decide +kernel
theorem dX11_favour_37 : decode cX11_favour 37 = .ok (.ldc 248, 2) := by decide +kernel
theorem dX11_favour_39 : decode cX11_favour 39 = .ok (.ireturn, 1) := by decide +kernel
theorem dX11_favour_40 : decode cX11_favour 40 = .ok (.aload_n 0, 1) := by decide +kernel
theorem dX11_favour_41 : decode cX11_favour 41 = .ok (.iconst 3, 1) := by decide +kernel
theorem dX11_favour_42 : decode cX11_favour 42 = .ok (.iload_n 1, 1) := by decide +kernel
theorem dX11_favour_43 : decode cX11_favour 43 = .ok (.aload_n 0, 1) := by decide +kernel
theorem dX11_favour_44 : decode cX11_favour 44 = .ok (.getfield 13, 3) := by decide +kernel
theorem dX11_favour_47 : decode cX11_favour 47 = .ok (.iconst 0, 1) := by decide +kernel
theorem dX11_favour_48 : decode cX11_favour 48 = .ok (.iaload, 1) := by decide +kernel
theorem dX11_favour_49 : decode cX11_favour 49 = .ok (.aload_n 0, 1) := by decide +kernel
theorem dX11_favour_50 : decode cX11_favour 50 = .ok (.getfield 13, 3) := by decide +kernel
theorem dX11_favour_53 : decode cX11_favour 53 = .ok (.iconst 0, 1) := by decide +kernel
theorem dX11_favour_54 : decode cX11_favour 54 = .ok (.iaload, 1) := by decide +kernel
theorem dX11_favour_55 : decode cX11_favour 55 = .ok (.iload_n 2, 1) := by decide +kernel
theorem dX11_favour_56 : decode cX11_favour 56 = .ok (.ineg, 1) := by decide +kernel
theorem dX11_favour_57 : decode cX11_favour 57 = .ok (.invokevirtual 229, 3) := by decide +kernel
