theorem dX0_init_0 : decode cX0_init 0 = .ok (.aload_n 0, 1) := by decide +kernel
theorem dX0_init_1 : decode cX0_init 1 = .ok (.invokespecial 3, 3) := by decide +kernel
theorem dX0_init_4 : decode cX0_init 4 = .ok (.aload_n 0, 1) := by decide +kernel
theorem dX0_init_5 : decode cX0_init 5 = .ok (.iload_n 1, 1) := by decide +kernel
theorem dX0_init_6 : decode cX0_init 6 = .ok (.putfield 9, 3) := by decide +kernel
theorem dX0_init_9 : decode cX0_init 9 = .ok (.return_, 1) := by decide +kernel
theorem dX0_copyFrom_0 : decode cX0_copyFrom 0 = .ok (.aload_n 0, 1) := by decide +kernel
theorem dX0_copyFrom_1 : decode cX0_copyFrom 1 = .ok (.aload_n 1, 1) := by decide +kernel
theorem dX0_copyFrom_2 : decode cX0_copyFrom 2 = .ok (.getfield 15, 3) := by decide +kernel
theorem dX0_copyFrom_5 : decode cX0_copyFrom 5 = .ok (.putfield 15, 3) := by decide +kernel
theorem dX0_copyFrom_8 : decode cX0_copyFrom 8 = .ok (.aload_n 0, 1) := by decide +kernel
theorem dX0_copyFrom_9 : decode cX0_copyFrom 9 = .ok (.aload_n 1, 1) := by decide +kernel
theorem dX0_copyFrom_10 : decode cX0_copyFrom 10 = .ok (.getfield 19, 3) := by decide +kernel
theorem dX0_copyFrom_13 : decode cX0_copyFrom 13 = .ok (.putfield 19, 3) := by decide +kernel
theorem dX0_copyFrom_16 : decode cX0_copyFrom 16 = .ok (.aload_n 0, 1) := by decide +kernel
theorem dX0_copyFrom_17 : decode cX0_copyFrom 17 = .ok (.aload_n 1, 1) := by decide +kernel
theorem dX0_copyFrom_18 : decode cX0_copyFrom 18 = .ok (.getfield 22, 3) := by decide +kernel
theorem dX0_copyFrom_21 : decode cX0_copyFrom 21 = .ok (.putfield 22, 3) := by decide +kernel
theorem dX0_copyFrom_24 : decode cX0_copyFrom 24 = .ok (.aload_n 0, 1) := by decide +kernel
theorem dX0_copyFrom_25 : decode cX0_copyFrom 25 = .ok (.aload_n 1, 1) := by decide +kernel
theorem dX0_copyFrom_26 : decode cX0_copyFrom 26 = .ok (.getfield 25, 3) := by decide +kernel
theorem dX0_copyFrom_29 : decode cX0_copyFrom 29 = .ok (.putfield 25, 3) := by decide +kernel
theorem dX0_copyFrom_32 : decode cX0_copyFrom 32 = .ok (.aload_n 0, 1) := by decide +kernel
theorem dX0_copyFrom_33 : decode cX0_copyFrom 33 = .ok (.aload_n 1, 1) := by decide +kernel
theorem dX0_copyFrom_34 : decode cX0_copyFrom 34 = .ok (.getfield 28, 3) := by decide +kernel
theorem dX0_copyFrom_37 : decode cX0_copyFrom 37 = .ok (.putfield 28, 3) := by decide +kernel
theorem dX0_copyFrom_40 : decode cX0_copyFrom 40 = .ok (.aload_n 0, 1) := by decide +kernel
theorem dX0_copyFrom_41 : decode cX0_copyFrom 41 = .ok (.aload_n 1, 1) := by decide +kernel
theorem dX0_copyFrom_42 : decode cX0_copyFrom 42 = .ok (.getfield 31, 3) := by decide +kernel
theorem dX0_copyFrom_45 : decode cX0_copyFrom 45 = .ok (.putfield 31, 3) := by decide +kernel
theorem dX0_copyFrom_48 : decode cX0_copyFrom 48 = .ok (.aload_n 0, 1) := by decide +kernel
theorem dX0_copyFrom_49 : decode cX0_copyFrom 49 = .ok (.aload_n 1, 1) := by decide +kernel
theorem dX0_copyFrom_50 : decode cX0_copyFrom 50 = .ok (.getfield 34, 3) := by decide +kernel
theorem dX0_copyFrom_53 : decode cX0_copyFrom 53 = .ok (.putfield 34, 3) := by decide +kernel
theorem dX0_copyFrom_56 : decode cX0_copyFrom 56 = .ok (.aload_n 0, 1) := by decide +kernel
theorem dX0_copyFrom_57 : decode cX0_copyFrom 57 = .ok (.aload_n 1, 1) := by decide +kernel
theorem dX0_copyFrom_58 : decode cX0_copyFrom 58 = .ok (.getfield 37, 3) := by decide +kernel
theorem dX0_copyFrom_61 : decode cX0_copyFrom 61 = .ok (.putfield 37, 3) := by decide +kernel
theorem dX0_copyFrom_64 : decode cX0_copyFrom 64 = .ok (.aload_n 0, 1) := by decide +kernel
theorem dX0_copyFrom_65 : decode cX0_copyFrom 65 = .ok (.aload_n 1, 1) := by decide +kernel
theorem dX0_copyFrom_66 : decode cX0_copyFrom 66 = .ok (.getfield 40, 3) := by decide +kernel
theorem dX0_copyFrom_69 : decode cX0_copyFrom 69 = .ok (.putfield 40, 3) := by decide +kernel
theorem dX0_copyFrom_72 : decode cX0_copyFrom 72 = .ok (.aload_n 0, 1) := by decide +kernel
theorem dX0_copyFrom_73 : decode cX0_copyFrom 73 = .ok (.aload_n 1, 1) := by decide +kernel
theorem dX0_copyFrom_74 : decode cX0_copyFrom 74 = .ok (.getfield 43, 3) := by decide +kernel
theorem dX0_copyFrom_77 : decode cX0_copyFrom 77 = .ok (.putfield 43, 3) := by decide +kernel
theorem dX0_copyFrom_80 : decode cX0_copyFrom 80 = .ok (.aload_n 0, 1) := by decide +kernel
theorem dX0_copyFrom_81 : decode cX0_copyFrom 81 = .ok (.aload_n 1, 1) := by decide +kernel
theorem dX0_copyFrom_82 : decode cX0_copyFrom 82 = .ok (.getfield 46, 3) := by decide +kernel
theorem dX0_copyFrom_85 : decode cX0_copyFrom 85 = .ok (.putfield 46, 3) := by decide +kernel
theorem dX0_copyFrom_88 : decode cX0_copyFrom 88 = .ok (.aload_n 0, 1) := by decide +kernel
theorem dX0_copyFrom_89 : decode cX0_copyFrom 89 = .ok (.aload_n 1, 1) := by decide +kernel
theorem dX0_copyFrom_90 : decode cX0_copyFrom 90 = .ok (.getfield 49, 3) := by decide +kernel
theorem dX0_copyFrom_93 : decode cX0_copyFrom 93 = .ok (.putfield 49, 3) := by decide +kernel
theorem dX0_copyFrom_96 : decode cX0_copyFrom 96 = .ok (.aload_n 0, 1) := by decide +kernel
theorem dX0_copyFrom_97 : decode cX0_copyFrom 97 = .ok (.aload_n 1, 1) := by decide +kernel
theorem dX0_copyFrom_98 : decode cX0_copyFrom 98 = .ok (.getfield 52, 3) := by decide +kernel
theorem dX0_copyFrom_101 : decode cX0_copyFrom 101 = .ok (.putfield 52, 3) := by decide +kernel
theorem dX0_copyFrom_104 : decode cX0_copyFrom 104 = .ok (.return_, 1) := by decide +kernel
theorem dX0_partToEnd_0 : decode cX0_partToEnd 0 = .ok (.iload_n 1, 1) := by decide +kernel
theorem dX0_partToEnd_1 : decode cX0_partToEnd 1 = .ok (.aload_n 0, 1) := by decide +kernel
theorem dX0_partToEnd_2 : decode cX0_partToEnd 2 = .ok (.getfield 40, 3) := by decide +kernel
theorem dX0_partToEnd_5 : decode cX0_partToEnd 5 = .ok (.aload_n 0, 1) := by decide +kernel
theorem dX0_partToEnd_6 : decode cX0_partToEnd 6 = .ok (.getfield 43, 3) := by decide +kernel
theorem dX0_partToEnd_9 : decode cX0_partToEnd 9 = .ok (.isub, 1) := by decide +kernel
theorem dX0_partToEnd_10 : decode cX0_partToEnd 10 = .ok (.iload_n 2, 1) := by decide +kernel
theorem dX0_partToEnd_11 : decode cX0_partToEnd 11 = .ok (.aload_n 0, 1) := by decide +kernel
theorem dX0_partToEnd_12 : decode cX0_partToEnd 12 = .ok (.getfield 43, 3) := by decide +kernel
theorem dX0_partToEnd_15 : decode cX0_partToEnd 15 = .ok (.isub, 1) := by decide +kernel
theorem dX0_partToEnd_16 : decode cX0_partToEnd 16 = .ok (.aload_n 0, 1) := by decide +kernel
theorem dX0_partToEnd_17 : decode cX0_partToEnd 17 = .ok (.getfield 40, 3) := by decide +kernel
theorem dX0_partToEnd_20 : decode cX0_partToEnd 20 = .ok (.aload_n 0, 1) := by decide +kernel
theorem dX0_partToEnd_21 : decode cX0_partToEnd 21 = .ok (.getfield 43, 3) := by decide +kernel
theorem dX0_partToEnd_24 : decode cX0_partToEnd 24 = .ok (.isub, 1) := by decide +kernel
theorem dX0_partToEnd_25 : decode cX0_partToEnd 25 = .ok (.invokestatic 55, 3) := by decide +kernel
theorem dX0_partToEnd_28 : decode cX0_partToEnd 28 = .ok (.ireturn, 1) := by decide +kernel
theorem dX0_tell_0 : decode cX0_tell 0 = .ok (.iload_n 1, 1) := by decide +kernel
theorem dX0_tell_1 : decode cX0_tell 1 = .ok (.tableswitch 176 0 19 #[95, 100, 105, 110, 115, 120, 176, 130, 135, 140, 153, 176, 176, 176, 176, 176, 176, 176, 166, 171], 95) := by decide +kernel
theorem dX0_tell_96 : decode cX0_tell 96 = .ok (.aload_n 0, 1) := by decide +kernel
theorem dX0_tell_97 : decode cX0_tell 97 = .ok (.getfield 25, 3) := by decide +kernel
theorem dX0_tell_100 : decode cX0_tell 100 = .ok (.ireturn, 1) := by decide +kernel
theorem dX0_tell_101 : decode cX0_tell 101 = .ok (.aload_n 0, 1) := by decide +kernel
theorem dX0_tell_102 : decode cX0_tell 102 = .ok (.getfield 28, 3) := by decide +kernel
theorem dX0_tell_105 : decode cX0_tell 105 = .ok (.ireturn, 1) := by decide +kernel
theorem dX0_tell_106 : decode cX0_tell 106 = .ok (.aload_n 0, 1) := by decide +kernel
theorem dX0_tell_107 : decode cX0_tell 107 = .ok (.getfield 34, 3) := by decide +kernel
theorem dX0_tell_110 : decode cX0_tell 110 = .ok (.ireturn, 1) := by decide +kernel
theorem dX0_tell_111 : decode cX0_tell 111 = .ok (.aload_n 0, 1) := by decide +kernel
theorem dX0_tell_112 : decode cX0_tell 112 = .ok (.getfield 37, 3) := by decide +kernel
theorem dX0_tell_115 : decode cX0_tell 115 = .ok (.ireturn, 1) := by decide +kernel
theorem dX0_tell_116 : decode cX0_tell 116 = .ok (.aload_n 0, 1) := by decide +kernel
theorem dX0_tell_117 : decode cX0_tell 117 = .ok (.getfield 40, 3) := by decide +kernel
theorem dX0_tell_120 : decode cX0_tell 120 = .ok (.ireturn, 1) := by decide +kernel
theorem dX0_tell_121 : decode cX0_tell 121 = .ok (.aload_n 0, 1) := by decide +kernel
theorem dX0_tell_122 : decode cX0_tell 122 = .ok (.getfield 40, 3) := by decide +kernel
theorem dX0_tell_125 : decode cX0_tell 125 = .ok (.aload_n 0, 1) := by decide +kernel
theorem dX0_tell_126 : decode cX0_tell 126 = .ok (.getfield 43, 3) := by decide +kernel
theorem dX0_tell_129 : decode cX0_tell 129 = .ok (.isub, 1) := by decide +kernel
theorem dX0_tell_130 : decode cX0_tell 130 = .ok (.ireturn, 1) := by decide +kernel
theorem dX0_tell_131 : decode cX0_tell 131 = .ok (.aload_n 0, 1) := by decide +kernel
theorem dX0_tell_132 : decode cX0_tell 132 = .ok (.getfield 46, 3) := by decide +kernel
theorem dX0_tell_135 : decode cX0_tell 135 = .ok (.ireturn, 1) := by decide +kernel
theorem dX0_tell_136 : decode cX0_tell 136 = .ok (.aload_n 0, 1) := by decide +kernel
theorem dX0_tell_137 : decode cX0_tell 137 = .ok (.getfield 52, 3) := by decide +kernel
theorem dX0_tell_140 : decode cX0_tell 140 = .ok (.ireturn, 1) := by decide +kernel
theorem dX0_tell_141 : decode cX0_tell 141 = .ok (.aload_n 0, 1) := by decide +kernel
theorem dX0_tell_142 : decode cX0_tell 142 = .ok (.getfield 22, 3) := by decide +kernel
theorem dX0_tell_145 : decode cX0_tell 145 = .ok (.ifCond .eq 7, 3) := by decide +kernel
theorem dX0_tell_148 : decode cX0_tell 148 = .ok (.iconst 1, 1) := by decide +kernel
theorem dX0_tell_149 : decode cX0_tell 149 = .ok (.goto 4, 3) := by decide +kernel
theorem dX0_tell_152 : decode cX0_tell 152 = .ok (.iconst 0, 1) := by decide +kernel
theorem dX0_tell_153 : decode cX0_tell 153 = .ok (.ireturn, 1) := by decide +kernel
theorem dX0_tell_154 : decode cX0_tell 154 = .ok (.aload_n 0, 1) := by decide +kernel
theorem dX0_tell_155 : decode cX0_tell 155 = .ok (.getfield 19, 3) := by decide +kernel
theorem dX0_tell_158 : decode cX0_tell 158 = .ok (.ifCond .eq 7, 3) := by decide +kernel
theorem dX0_tell_161 : decode cX0_tell 161 = .ok (.iconst 1, 1) := by decide +kernel
theorem dX0_tell_162 : decode cX0_tell 162 = .ok (.goto 4, 3) := by decide +kernel
theorem dX0_tell_165 : decode cX0_tell 165 = .ok (.iconst 0, 1) := by decide +kernel
theorem dX0_tell_166 : decode cX0_tell 166 = .ok (.ireturn, 1) := by decide +kernel
theorem dX0_tell_167 : decode cX0_tell 167 = .ok (.aload_n 0, 1) := by decide +kernel
theorem dX0_tell_168 : decode cX0_tell 168 = .ok (.getfield 49, 3) := by decide +kernel
theorem dX0_tell_171 : decode cX0_tell 171 = .ok (.ireturn, 1) := by decide +kernel
theorem dX0_tell_172 : decode cX0_tell 172 = .ok (.aload_n 0, 1) := by decide +kernel
theorem dX0_tell_173 : decode cX0_tell 173 = .ok (.getfield 31, 3) := by decide +kernel
theorem dX0_tell_176 : decode cX0_tell 176 = .ok (.ireturn, 1) := by decide +kernel
theorem dX0_tell_177 : decode cX0_tell 177 = .ok (.ldc 61, 2) := by decide +kernel
theorem dX0_tell_179 : decode cX0_tell 179 = .ok (.ireturn, 1) := by decide +kernel
theorem dX1_init_0 : decode cX1_init 0 = .ok (.aload_n 0, 1) := by decide +kernel
theorem dX1_init_1 : decode cX1_init 1 = .ok (.invokespecial 3, 3) := by decide +kernel
theorem dX1_init_4 : decode cX1_init 4 = .ok (.aload_n 0, 1) := by decide +kernel
theorem dX1_init_5 : decode cX1_init 5 = .ok (.new 9, 3) := by decide +kernel
theorem dX1_init_8 : decode cX1_init 8 = .ok (.dup, 1) := by decide +kernel
theorem dX1_init_9 : decode cX1_init 9 = .ok (.invokespecial 11, 3) := by decide +kernel
theorem dX1_init_12 : decode cX1_init 12 = .ok (.putfield 12, 3) := by decide +kernel
theorem dX1_init_15 : decode cX1_init 15 = .ok (.aload_n 0, 1) := by decide +kernel
theorem dX1_init_16 : decode cX1_init 16 = .ok (.bipush 6, 2) := by decide +kernel
theorem dX1_init_18 : decode cX1_init 18 = .ok (.anewarray 18, 3) := by decide +kernel
theorem dX1_init_21 : decode cX1_init 21 = .ok (.putfield 20, 3) := by decide +kernel
theorem dX1_init_24 : decode cX1_init 24 = .ok (.aload_n 0, 1) := by decide +kernel
theorem dX1_init_25 : decode cX1_init 25 = .ok (.new 24, 3) := by decide +kernel
theorem dX1_init_28 : decode cX1_init 28 = .ok (.dup, 1) := by decide +kernel
theorem dX1_init_29 : decode cX1_init 29 = .ok (.invokespecial 26, 3) := by decide +kernel
theorem dX1_init_32 : decode cX1_init 32 = .ok (.putfield 27, 3) := by decide +kernel
theorem dX1_init_35 : decode cX1_init 35 = .ok (.aload_n 0, 1) := by decide +kernel
theorem dX1_init_36 : decode cX1_init 36 = .ok (.aload_n 1, 1) := by decide +kernel
theorem dX1_init_37 : decode cX1_init 37 = .ok (.putfield 31, 3) := by decide +kernel
theorem dX1_init_40 : decode cX1_init 40 = .ok (.iconst 0, 1) := by decide +kernel
theorem dX1_init_41 : decode cX1_init 41 = .ok (.istore_n 2, 1) := by decide +kernel
theorem dX1_init_42 : decode cX1_init 42 = .ok (.iload_n 2, 1) := by decide +kernel
theorem dX1_init_43 : decode cX1_init 43 = .ok (.bipush 6, 2) := by decide +kernel
theorem dX1_init_45 : decode cX1_init 45 = .ok (.if_icmp .ge 23, 3) := by decide +kernel
theorem dX1_init_48 : decode cX1_init 48 = .ok (.aload_n 0, 1) := by decide +kernel
theorem dX1_init_49 : decode cX1_init 49 = .ok (.getfield 20, 3) := by decide +kernel
theorem dX1_init_52 : decode cX1_init 52 = .ok (.iload_n 2, 1) := by decide +kernel
theorem dX1_init_53 : decode cX1_init 53 = .ok (.new 18, 3) := by decide +kernel
theorem dX1_init_56 : decode cX1_init 56 = .ok (.dup, 1) := by decide +kernel
theorem dX1_init_57 : decode cX1_init 57 = .ok (.iload_n 2, 1) := by decide +kernel
theorem dX1_init_58 : decode cX1_init 58 = .ok (.invokespecial 35, 3) := by decide +kernel
theorem dX1_init_61 : decode cX1_init 61 = .ok (.aastore, 1) := by decide +kernel
theorem dX1_init_62 : decode cX1_init 62 = .ok (.iinc 2 1, 3) := by decide +kernel
theorem dX1_init_65 : decode cX1_init 65 = .ok (.goto (-23), 3) := by decide +kernel
theorem dX1_init_68 : decode cX1_init 68 = .ok (.return_, 1) := by decide +kernel
theorem dX1_copyFrom_0 : decode cX1_copyFrom 0 = .ok (.aload_n 0, 1) := by decide +kernel
theorem dX1_copyFrom_1 : decode cX1_copyFrom 1 = .ok (.getfield 12, 3) := by decide +kernel
theorem dX1_copyFrom_4 : decode cX1_copyFrom 4 = .ok (.aload_n 1, 1) := by decide +kernel
theorem dX1_copyFrom_5 : decode cX1_copyFrom 5 = .ok (.getfield 12, 3) := by decide +kernel
theorem dX1_copyFrom_8 : decode cX1_copyFrom 8 = .ok (.invokevirtual 38, 3) := by decide +kernel
theorem dX1_copyFrom_11 : decode cX1_copyFrom 11 = .ok (.iconst 0, 1) := by decide +kernel
theorem dX1_copyFrom_12 : decode cX1_copyFrom 12 = .ok (.istore_n 2, 1) := by decide +kernel
theorem dX1_copyFrom_13 : decode cX1_copyFrom 13 = .ok (.iload_n 2, 1) := by decide +kernel
theorem dX1_copyFrom_14 : decode cX1_copyFrom 14 = .ok (.bipush 6, 2) := by decide +kernel
theorem dX1_copyFrom_16 : decode cX1_copyFrom 16 = .ok (.if_icmp .ge 24, 3) := by decide +kernel
theorem dX1_copyFrom_19 : decode cX1_copyFrom 19 = .ok (.aload_n 0, 1) := by decide +kernel
theorem dX1_copyFrom_20 : decode cX1_copyFrom 20 = .ok (.getfield 20, 3) := by decide +kernel
theorem dX1_copyFrom_23 : decode cX1_copyFrom 23 = .ok (.iload_n 2, 1) := by decide +kernel
theorem dX1_copyFrom_24 : decode cX1_copyFrom 24 = .ok (.aaload, 1) := by decide +kernel
theorem dX1_copyFrom_25 : decode cX1_copyFrom 25 = .ok (.aload_n 1, 1) := by decide +kernel
theorem dX1_copyFrom_26 : decode cX1_copyFrom 26 = .ok (.getfield 20, 3) := by decide +kernel
theorem dX1_copyFrom_29 : decode cX1_copyFrom 29 = .ok (.iload_n 2, 1) := by decide +kernel
theorem dX1_copyFrom_30 : decode cX1_copyFrom 30 = .ok (.aaload, 1) := by decide +kernel
theorem dX1_copyFrom_31 : decode cX1_copyFrom 31 = .ok (.invokevirtual 42, 3) := by decide +kernel
theorem dX1_copyFrom_34 : decode cX1_copyFrom 34 = .ok (.iinc 2 1, 3) := by decide +kernel
theorem dX1_copyFrom_37 : decode cX1_copyFrom 37 = .ok (.goto (-24), 3) := by decide +kernel
theorem dX1_copyFrom_40 : decode cX1_copyFrom 40 = .ok (.aload_n 0, 1) := by decide +kernel
theorem dX1_copyFrom_41 : decode cX1_copyFrom 41 = .ok (.getfield 27, 3) := by decide +kernel
theorem dX1_copyFrom_44 : decode cX1_copyFrom 44 = .ok (.aload_n 1, 1) := by decide +kernel
theorem dX1_copyFrom_45 : decode cX1_copyFrom 45 = .ok (.getfield 27, 3) := by decide +kernel
theorem dX1_copyFrom_48 : decode cX1_copyFrom 48 = .ok (.invokevirtual 45, 3) := by decide +kernel
theorem dX1_copyFrom_51 : decode cX1_copyFrom 51 = .ok (.aload_n 0, 1) := by decide +kernel
theorem dX1_copyFrom_52 : decode cX1_copyFrom 52 = .ok (.aload_n 1, 1) := by decide +kernel
theorem dX1_copyFrom_53 : decode cX1_copyFrom 53 = .ok (.getfield 48, 3) := by decide +kernel
theorem dX1_copyFrom_56 : decode cX1_copyFrom 56 = .ok (.putfield 48, 3) := by decide +kernel
theorem dX1_copyFrom_59 : decode cX1_copyFrom 59 = .ok (.return_, 1) := by decide +kernel
theorem dX1_hasBegun_0 : decode cX1_hasBegun 0 = .ok (.iload_n 1, 1) := by decide +kernel
theorem dX1_hasBegun_1 : decode cX1_hasBegun 1 = .ok (.invokestatic 52, 3) := by decide +kernel
theorem dX1_hasBegun_4 : decode cX1_hasBegun 4 = .ok (.ifCond .eq 19, 3) := by decide +kernel
theorem dX1_hasBegun_7 : decode cX1_hasBegun 7 = .ok (.aload_n 0, 1) := by decide +kernel
theorem dX1_hasBegun_8 : decode cX1_hasBegun 8 = .ok (.getfield 20, 3) := by decide +kernel
theorem dX1_hasBegun_11 : decode cX1_hasBegun 11 = .ok (.iload_n 1, 1) := by decide +kernel
theorem dX1_hasBegun_12 : decode cX1_hasBegun 12 = .ok (.aaload, 1) := by decide +kernel
theorem dX1_hasBegun_13 : decode cX1_hasBegun 13 = .ok (.getfield 56, 3) := by decide +kernel
theorem dX1_hasBegun_16 : decode cX1_hasBegun 16 = .ok (.ifCond .eq 7, 3) := by decide +kernel
theorem dX1_hasBegun_19 : decode cX1_hasBegun 19 = .ok (.iconst 1, 1) := by decide +kernel
theorem dX1_hasBegun_20 : decode cX1_hasBegun 20 = .ok (.goto 4, 3) := by decide +kernel
theorem dX1_hasBegun_23 : decode cX1_hasBegun 23 = .ok (.iconst 0, 1) := by decide +kernel
theorem dX1_hasBegun_24 : decode cX1_hasBegun 24 = .ok (.ireturn, 1) := by decide +kernel
theorem dX1_isRunning_0 : decode cX1_isRunning 0 = .ok (.aload_n 0, 1) := by decide +kernel
theorem dX1_isRunning_1 : decode cX1_isRunning 1 = .ok (.iload_n 1, 1) := by decide +kernel
theorem dX1_isRunning_2 : decode cX1_isRunning 2 = .ok (.invokevirtual 60, 3) := by decide +kernel
theorem dX1_isRunning_5 : decode cX1_isRunning 5 = .ok (.ifCond .eq 19, 3) := by decide +kernel
theorem dX1_isRunning_8 : decode cX1_isRunning 8 = .ok (.aload_n 0, 1) := by decide +kernel
theorem dX1_isRunning_9 : decode cX1_isRunning 9 = .ok (.getfield 20, 3) := by decide +kernel
theorem dX1_isRunning_12 : decode cX1_isRunning 12 = .ok (.iload_n 1, 1) := by decide +kernel
theorem dX1_isRunning_13 : decode cX1_isRunning 13 = .ok (.aaload, 1) := by decide +kernel
theorem dX1_isRunning_14 : decode cX1_isRunning 14 = .ok (.getfield 63, 3) := by decide +kernel
theorem dX1_isRunning_17 : decode cX1_isRunning 17 = .ok (.ifCond .ne 7, 3) := by decide +kernel
theorem dX1_isRunning_20 : decode cX1_isRunning 20 = .ok (.iconst 1, 1) := by decide +kernel
theorem dX1_isRunning_21 : decode cX1_isRunning 21 = .ok (.goto 4, 3) := by decide +kernel
theorem dX1_isRunning_24 : decode cX1_isRunning 24 = .ok (.iconst 0, 1) := by decide +kernel
theorem dX1_isRunning_25 : decode cX1_isRunning 25 = .ok (.ireturn, 1) := by decide +kernel
theorem dX1_write_0 : decode cX1_write 0 = .ok (.aload_n 0, 1) := by decide +kernel
theorem dX1_write_1 : decode cX1_write 1 = .ok (.getfield 27, 3) := by decide +kernel
theorem dX1_write_4 : decode cX1_write 4 = .ok (.iload_n 2, 1) := by decide +kernel
theorem dX1_write_5 : decode cX1_write 5 = .ok (.aload_n 1, 1) := by decide +kernel
theorem dX1_write_6 : decode cX1_write 6 = .ok (.getfield 66, 3) := by decide +kernel
theorem dX1_write_9 : decode cX1_write 9 = .ok (.aload_n 0, 1) := by decide +kernel
theorem dX1_write_10 : decode cX1_write 10 = .ok (.getfield 48, 3) := by decide +kernel
theorem dX1_write_13 : decode cX1_write 13 = .ok (.iload 5, 2) := by decide +kernel
theorem dX1_write_15 : decode cX1_write 15 = .ok (.invokevirtual 69, 3) := by decide +kernel
theorem dX1_write_18 : decode cX1_write 18 = .ok (.istore 6, 2) := by decide +kernel
theorem dX1_write_20 : decode cX1_write 20 = .ok (.aload_n 0, 1) := by decide +kernel
theorem dX1_write_21 : decode cX1_write 21 = .ok (.getfield 27, 3) := by decide +kernel
theorem dX1_write_24 : decode cX1_write 24 = .ok (.iload 6, 2) := by decide +kernel
theorem dX1_write_26 : decode cX1_write 26 = .ok (.aload_n 1, 1) := by decide +kernel
theorem dX1_write_27 : decode cX1_write 27 = .ok (.getfield 73, 3) := by decide +kernel
theorem dX1_write_30 : decode cX1_write 30 = .ok (.aload_n 1, 1) := by decide +kernel
theorem dX1_write_31 : decode cX1_write 31 = .ok (.getfield 76, 3) := by decide +kernel
theorem dX1_write_34 : decode cX1_write 34 = .ok (.iload_n 3, 1) := by decide +kernel
theorem dX1_write_35 : decode cX1_write 35 = .ok (.iload 4, 2) := by decide +kernel
theorem dX1_write_37 : decode cX1_write 37 = .ok (.invokevirtual 79, 3) := by decide +kernel
theorem dX1_write_40 : decode cX1_write 40 = .ok (.aload_n 1, 1) := by decide +kernel
theorem dX1_write_41 : decode cX1_write 41 = .ok (.dup, 1) := by decide +kernel
theorem dX1_write_42 : decode cX1_write 42 = .ok (.getfield 83, 3) := by decide +kernel
theorem dX1_write_45 : decode cX1_write 45 = .ok (.iload 5, 2) := by decide +kernel
theorem dX1_write_47 : decode cX1_write 47 = .ok (.iadd, 1) := by decide +kernel
theorem dX1_write_48 : decode cX1_write 48 = .ok (.putfield 83, 3) := by decide +kernel
theorem dX1_write_51 : decode cX1_write 51 = .ok (.iload 5, 2) := by decide +kernel
theorem dX1_write_53 : decode cX1_write 53 = .ok (.ireturn, 1) := by decide +kernel
theorem dX1_writeCredit_0 : decode cX1_writeCredit 0 = .ok (.aload_n 0, 1) := by decide +kernel
theorem dX1_writeCredit_1 : decode cX1_writeCredit 1 = .ok (.aload_n 1, 1) := by decide +kernel
theorem dX1_writeCredit_2 : decode cX1_writeCredit 2 = .ok (.iconst 1, 1) := by decide +kernel
theorem dX1_writeCredit_3 : decode cX1_writeCredit 3 = .ok (.aload_n 0, 1) := by decide +kernel
theorem dX1_writeCredit_4 : decode cX1_writeCredit 4 = .ok (.getfield 48, 3) := by decide +kernel
theorem dX1_writeCredit_7 : decode cX1_writeCredit 7 = .ok (.aload_n 1, 1) := by decide +kernel
theorem dX1_writeCredit_8 : decode cX1_writeCredit 8 = .ok (.getfield 86, 3) := by decide +kernel
theorem dX1_writeCredit_11 : decode cX1_writeCredit 11 = .ok (.aload_n 1, 1) := by decide +kernel
theorem dX1_writeCredit_12 : decode cX1_writeCredit 12 = .ok (.aload_n 0, 1) := by decide +kernel
theorem dX1_writeCredit_13 : decode cX1_writeCredit 13 = .ok (.getfield 12, 3) := by decide +kernel
theorem dX1_writeCredit_16 : decode cX1_writeCredit 16 = .ok (.aload_n 1, 1) := by decide +kernel
theorem dX1_writeCredit_17 : decode cX1_writeCredit 17 = .ok (.getfield 76, 3) := by decide +kernel
theorem dX1_writeCredit_20 : decode cX1_writeCredit 20 = .ok (.aload_n 1, 1) := by decide +kernel
theorem dX1_writeCredit_21 : decode cX1_writeCredit 21 = .ok (.invokevirtual 89, 3) := by decide +kernel
theorem dX1_writeCredit_24 : decode cX1_writeCredit 24 = .ok (.aload_n 0, 1) := by decide +kernel
theorem dX1_writeCredit_25 : decode cX1_writeCredit 25 = .ok (.getfield 48, 3) := by decide +kernel
theorem dX1_writeCredit_28 : decode cX1_writeCredit 28 = .ok (.invokevirtual 93, 3) := by decide +kernel
theorem dX1_writeCredit_31 : decode cX1_writeCredit 31 = .ok (.ineg, 1) := by decide +kernel
theorem dX1_writeCredit_32 : decode cX1_writeCredit 32 = .ok (.invokevirtual 97, 3) := by decide +kernel
theorem dX1_writeCredit_35 : decode cX1_writeCredit 35 = .ok (.ireturn, 1) := by decide +kernel
theorem dX1_writeCharge_0 : decode cX1_writeCharge 0 = .ok (.aload_n 0, 1) := by decide +kernel
theorem dX1_writeCharge_1 : decode cX1_writeCharge 1 = .ok (.aload_n 1, 1) := by decide +kernel
theorem dX1_writeCharge_2 : decode cX1_writeCharge 2 = .ok (.iconst 0, 1) := by decide +kernel
theorem dX1_writeCharge_3 : decode cX1_writeCharge 3 = .ok (.aload_n 0, 1) := by decide +kernel
theorem dX1_writeCharge_4 : decode cX1_writeCharge 4 = .ok (.getfield 48, 3) := by decide +kernel
theorem dX1_writeCharge_7 : decode cX1_writeCharge 7 = .ok (.aload_n 1, 1) := by decide +kernel
theorem dX1_writeCharge_8 : decode cX1_writeCharge 8 = .ok (.getfield 86, 3) := by decide +kernel
theorem dX1_writeCharge_11 : decode cX1_writeCharge 11 = .ok (.aload_n 1, 1) := by decide +kernel
theorem dX1_writeCharge_12 : decode cX1_writeCharge 12 = .ok (.aload_n 0, 1) := by decide +kernel
theorem dX1_writeCharge_13 : decode cX1_writeCharge 13 = .ok (.getfield 12, 3) := by decide +kernel
theorem dX1_writeCharge_16 : decode cX1_writeCharge 16 = .ok (.aload_n 1, 1) := by decide +kernel
theorem dX1_writeCharge_17 : decode cX1_writeCharge 17 = .ok (.getfield 76, 3) := by decide +kernel
theorem dX1_writeCharge_20 : decode cX1_writeCharge 20 = .ok (.aload_n 1, 1) := by decide +kernel
theorem dX1_writeCharge_21 : decode cX1_writeCharge 21 = .ok (.invokevirtual 89, 3) := by decide +kernel
theorem dX1_writeCharge_24 : decode cX1_writeCharge 24 = .ok (.aload_n 0, 1) := by decide +kernel
theorem dX1_writeCharge_25 : decode cX1_writeCharge 25 = .ok (.getfield 48, 3) := by decide +kernel
theorem dX1_writeCharge_28 : decode cX1_writeCharge 28 = .ok (.invokevirtual 93, 3) := by decide +kernel
theorem dX1_writeCharge_31 : decode cX1_writeCharge 31 = .ok (.invokevirtual 97, 3) := by decide +kernel
theorem dX1_writeCharge_34 : decode cX1_writeCharge 34 = .ok (.ireturn, 1) := by decide +kernel
theorem dX1_writeUsage_0 : decode cX1_writeUsage 0 = .ok (.aload_n 0, 1) := by decide +kernel
theorem dX1_writeUsage_1 : decode cX1_writeUsage 1 = .ok (.getfield 12, 3) := by decide +kernel
theorem dX1_writeUsage_4 : decode cX1_writeUsage 4 = .ok (.aload_n 1, 1) := by decide +kernel
theorem dX1_writeUsage_5 : decode cX1_writeUsage 5 = .ok (.getfield 76, 3) := by decide +kernel
theorem dX1_writeUsage_8 : decode cX1_writeUsage 8 = .ok (.invokevirtual 101, 3) := by decide +kernel
theorem dX1_writeUsage_11 : decode cX1_writeUsage 11 = .ok (.aload_n 1, 1) := by decide +kernel
theorem dX1_writeUsage_12 : decode cX1_writeUsage 12 = .ok (.getfield 105, 3) := by decide +kernel
theorem dX1_writeUsage_15 : decode cX1_writeUsage 15 = .ok (.invokevirtual 108, 3) := by decide +kernel
theorem dX1_writeUsage_18 : decode cX1_writeUsage 18 = .ok (.istore_n 2, 1) := by decide +kernel
theorem dX1_writeUsage_19 : decode cX1_writeUsage 19 = .ok (.aload_n 1, 1) := by decide +kernel
theorem dX1_writeUsage_20 : decode cX1_writeUsage 20 = .ok (.iconst 0, 1) := by decide +kernel
theorem dX1_writeUsage_21 : decode cX1_writeUsage 21 = .ok (.putfield 105, 3) := by decide +kernel
theorem dX1_writeUsage_24 : decode cX1_writeUsage 24 = .ok (.aload_n 0, 1) := by decide +kernel
theorem dX1_writeUsage_25 : decode cX1_writeUsage 25 = .ok (.aload_n 1, 1) := by decide +kernel
theorem dX1_writeUsage_26 : decode cX1_writeUsage 26 = .ok (.iconst 2, 1) := by decide +kernel
theorem dX1_writeUsage_27 : decode cX1_writeUsage 27 = .ok (.aload_n 1, 1) := by decide +kernel
theorem dX1_writeUsage_28 : decode cX1_writeUsage 28 = .ok (.getfield 114, 3) := by decide +kernel
theorem dX1_writeUsage_31 : decode cX1_writeUsage 31 = .ok (.aload_n 0, 1) := by decide +kernel
theorem dX1_writeUsage_32 : decode cX1_writeUsage 32 = .ok (.getfield 48, 3) := by decide +kernel
theorem dX1_writeUsage_35 : decode cX1_writeUsage 35 = .ok (.iload_n 2, 1) := by decide +kernel
theorem dX1_writeUsage_36 : decode cX1_writeUsage 36 = .ok (.invokevirtual 97, 3) := by decide +kernel
theorem dX1_writeUsage_39 : decode cX1_writeUsage 39 = .ok (.ireturn, 1) := by decide +kernel
theorem dX1_startPeriod_0 : decode cX1_startPeriod 0 = .ok (.aload_n 1, 1) := by decide +kernel
theorem dX1_startPeriod_1 : decode cX1_startPeriod 1 = .ok (.iload_n 2, 1) := by decide +kernel
theorem dX1_startPeriod_2 : decode cX1_startPeriod 2 = .ok (.putfield 73, 3) := by decide +kernel
theorem dX1_startPeriod_5 : decode cX1_startPeriod 5 = .ok (.aload_n 1, 1) := by decide +kernel
theorem dX1_startPeriod_6 : decode cX1_startPeriod 6 = .ok (.aload_n 0, 1) := by decide +kernel
theorem dX1_startPeriod_7 : decode cX1_startPeriod 7 = .ok (.getfield 48, 3) := by decide +kernel
theorem dX1_startPeriod_10 : decode cX1_startPeriod 10 = .ok (.putfield 114, 3) := by decide +kernel
theorem dX1_startPeriod_13 : decode cX1_startPeriod 13 = .ok (.aload_n 1, 1) := by decide +kernel
theorem dX1_startPeriod_14 : decode cX1_startPeriod 14 = .ok (.aload_n 0, 1) := by decide +kernel
theorem dX1_startPeriod_15 : decode cX1_startPeriod 15 = .ok (.getfield 31, 3) := by decide +kernel
theorem dX1_startPeriod_18 : decode cX1_startPeriod 18 = .ok (.aload_n 1, 1) := by decide +kernel
theorem dX1_startPeriod_19 : decode cX1_startPeriod 19 = .ok (.getfield 117, 3) := by decide +kernel
theorem dX1_startPeriod_22 : decode cX1_startPeriod 22 = .ok (.aload_n 0, 1) := by decide +kernel
theorem dX1_startPeriod_23 : decode cX1_startPeriod 23 = .ok (.getfield 48, 3) := by decide +kernel
theorem dX1_startPeriod_26 : decode cX1_startPeriod 26 = .ok (.invokevirtual 120, 3) := by decide +kernel
theorem dX1_startPeriod_29 : decode cX1_startPeriod 29 = .ok (.putfield 125, 3) := by decide +kernel
theorem dX1_startPeriod_32 : decode cX1_startPeriod 32 = .ok (.aload_n 1, 1) := by decide +kernel
theorem dX1_startPeriod_33 : decode cX1_startPeriod 33 = .ok (.aload_n 0, 1) := by decide +kernel
theorem dX1_startPeriod_34 : decode cX1_startPeriod 34 = .ok (.getfield 31, 3) := by decide +kernel
theorem dX1_startPeriod_37 : decode cX1_startPeriod 37 = .ok (.aload_n 1, 1) := by decide +kernel
theorem dX1_startPeriod_38 : decode cX1_startPeriod 38 = .ok (.getfield 117, 3) := by decide +kernel
theorem dX1_startPeriod_41 : decode cX1_startPeriod 41 = .ok (.aload_n 0, 1) := by decide +kernel
theorem dX1_startPeriod_42 : decode cX1_startPeriod 42 = .ok (.getfield 48, 3) := by decide +kernel
theorem dX1_startPeriod_45 : decode cX1_startPeriod 45 = .ok (.invokevirtual 128, 3) := by decide +kernel
theorem dX1_startPeriod_48 : decode cX1_startPeriod 48 = .ok (.putfield 86, 3) := by decide +kernel
theorem dX1_startPeriod_51 : decode cX1_startPeriod 51 = .ok (.return_, 1) := by decide +kernel
theorem dX1_startAccount_0 : decode cX1_startAccount 0 = .ok (.iload_n 1, 1) := by decide +kernel
theorem dX1_startAccount_1 : decode cX1_startAccount 1 = .ok (.invokestatic 52, 3) := by decide +kernel
theorem dX1_startAccount_4 : decode cX1_startAccount 4 = .ok (.ifCond .eq 17, 3) := by decide +kernel
theorem dX1_startAccount_7 : decode cX1_startAccount 7 = .ok (.iload_n 2, 1) := by decide +kernel
theorem dX1_startAccount_8 : decode cX1_startAccount 8 = .ok (.invokestatic 131, 3) := by decide +kernel
theorem dX1_startAccount_11 : decode cX1_startAccount 11 = .ok (.ifCond .eq 10, 3) := by decide +kernel
theorem dX1_startAccount_14 : decode cX1_startAccount 14 = .ok (.iload_n 3, 1) := by decide +kernel
theorem dX1_startAccount_15 : decode cX1_startAccount 15 = .ok (.invokestatic 134, 3) := by decide +kernel
theorem dX1_startAccount_18 : decode cX1_startAccount 18 = .ok (.ifCond .ne 5, 3) := by decide +kernel
theorem dX1_startAccount_21 : decode cX1_startAccount 21 = .ok (.iconst (-1), 1) := by decide +kernel
theorem dX1_startAccount_22 : decode cX1_startAccount 22 = .ok (.ireturn, 1) := by decide +kernel
theorem dX1_startAccount_23 : decode cX1_startAccount 23 = .ok (.aload_n 0, 1) := by decide +kernel
theorem dX1_startAccount_24 : decode cX1_startAccount 24 = .ok (.getfield 27, 3) := by decide +kernel
theorem dX1_startAccount_27 : decode cX1_startAccount 27 = .ok (.iconst 1, 1) := by decide +kernel
theorem dX1_startAccount_28 : decode cX1_startAccount 28 = .ok (.invokevirtual 137, 3) := by decide +kernel
theorem dX1_startAccount_31 : decode cX1_startAccount 31 = .ok (.ifCond .ne 6, 3) := by decide +kernel
theorem dX1_startAccount_34 : decode cX1_startAccount 34 = .ok (.bipush (-3), 2) := by decide +kernel
theorem dX1_startAccount_36 : decode cX1_startAccount 36 = .ok (.ireturn, 1) := by decide +kernel
theorem dX1_startAccount_37 : decode cX1_startAccount 37 = .ok (.aload_n 0, 1) := by decide +kernel
theorem dX1_startAccount_38 : decode cX1_startAccount 38 = .ok (.getfield 20, 3) := by decide +kernel
theorem dX1_startAccount_41 : decode cX1_startAccount 41 = .ok (.iload_n 1, 1) := by decide +kernel
theorem dX1_startAccount_42 : decode cX1_startAccount 42 = .ok (.aaload, 1) := by decide +kernel
theorem dX1_startAccount_43 : decode cX1_startAccount 43 = .ok (.astore 4, 2) := by decide +kernel
theorem dX1_startAccount_45 : decode cX1_startAccount 45 = .ok (.aload 4, 2) := by decide +kernel
theorem dX1_startAccount_47 : decode cX1_startAccount 47 = .ok (.getfield 56, 3) := by decide +kernel
theorem dX1_startAccount_50 : decode cX1_startAccount 50 = .ok (.ifCond .eq 6, 3) := by decide +kernel
theorem dX1_startAccount_53 : decode cX1_startAccount 53 = .ok (.bipush (-4), 2) := by decide +kernel
theorem dX1_startAccount_55 : decode cX1_startAccount 55 = .ok (.ireturn, 1) := by decide +kernel
theorem dX1_startAccount_56 : decode cX1_startAccount 56 = .ok (.aload_n 0, 1) := by decide +kernel
theorem dX1_startAccount_57 : decode cX1_startAccount 57 = .ok (.getfield 31, 3) := by decide +kernel
theorem dX1_startAccount_60 : decode cX1_startAccount 60 = .ok (.iload_n 3, 1) := by decide +kernel
theorem dX1_startAccount_61 : decode cX1_startAccount 61 = .ok (.aload_n 0, 1) := by decide +kernel
theorem dX1_startAccount_62 : decode cX1_startAccount 62 = .ok (.getfield 48, 3) := by decide +kernel
theorem dX1_startAccount_65 : decode cX1_startAccount 65 = .ok (.invokevirtual 128, 3) := by decide +kernel
theorem dX1_startAccount_68 : decode cX1_startAccount 68 = .ok (.sipush 3652, 3) := by decide +kernel
theorem dX1_startAccount_71 : decode cX1_startAccount 71 = .ok (.if_icmp .le 6, 3) := by decide +kernel
theorem dX1_startAccount_74 : decode cX1_startAccount 74 = .ok (.bipush (-5), 2) := by decide +kernel
theorem dX1_startAccount_76 : decode cX1_startAccount 76 = .ok (.ireturn, 1) := by decide +kernel
theorem dX1_startAccount_77 : decode cX1_startAccount 77 = .ok (.aload 4, 2) := by decide +kernel
theorem dX1_startAccount_79 : decode cX1_startAccount 79 = .ok (.iconst 1, 1) := by decide +kernel
theorem dX1_startAccount_80 : decode cX1_startAccount 80 = .ok (.putfield 56, 3) := by decide +kernel
theorem dX1_startAccount_83 : decode cX1_startAccount 83 = .ok (.aload 4, 2) := by decide +kernel
theorem dX1_startAccount_85 : decode cX1_startAccount 85 = .ok (.iload_n 2, 1) := by decide +kernel
theorem dX1_startAccount_86 : decode cX1_startAccount 86 = .ok (.putfield 76, 3) := by decide +kernel
theorem dX1_startAccount_89 : decode cX1_startAccount 89 = .ok (.aload 4, 2) := by decide +kernel
theorem dX1_startAccount_91 : decode cX1_startAccount 91 = .ok (.iload_n 3, 1) := by decide +kernel
theorem dX1_startAccount_92 : decode cX1_startAccount 92 = .ok (.putfield 117, 3) := by decide +kernel
theorem dX1_startAccount_95 : decode cX1_startAccount 95 = .ok (.aload 4, 2) := by decide +kernel
theorem dX1_startAccount_97 : decode cX1_startAccount 97 = .ok (.iconst 1, 1) := by decide +kernel
theorem dX1_startAccount_98 : decode cX1_startAccount 98 = .ok (.putfield 140, 3) := by decide +kernel
theorem dX1_startAccount_101 : decode cX1_startAccount 101 = .ok (.aload_n 0, 1) := by decide +kernel
theorem dX1_startAccount_102 : decode cX1_startAccount 102 = .ok (.aload 4, 2) := by decide +kernel
theorem dX1_startAccount_104 : decode cX1_startAccount 104 = .ok (.iconst 0, 1) := by decide +kernel
theorem dX1_startAccount_105 : decode cX1_startAccount 105 = .ok (.invokevirtual 143, 3) := by decide +kernel
theorem dX1_startAccount_108 : decode cX1_startAccount 108 = .ok (.aload_n 0, 1) := by decide +kernel
theorem dX1_startAccount_109 : decode cX1_startAccount 109 = .ok (.aload 4, 2) := by decide +kernel
theorem dX1_startAccount_111 : decode cX1_startAccount 111 = .ok (.invokevirtual 147, 3) := by decide +kernel
theorem dX1_startAccount_114 : decode cX1_startAccount 114 = .ok (.ireturn, 1) := by decide +kernel
theorem dX1_putPlan_0 : decode cX1_putPlan 0 = .ok (.aload_n 0, 1) := by decide +kernel
theorem dX1_putPlan_1 : decode cX1_putPlan 1 = .ok (.iload_n 1, 1) := by decide +kernel
theorem dX1_putPlan_2 : decode cX1_putPlan 2 = .ok (.invokevirtual 151, 3) := by decide +kernel
theorem dX1_putPlan_5 : decode cX1_putPlan 5 = .ok (.ifCond .eq 23, 3) := by decide +kernel
theorem dX1_putPlan_8 : decode cX1_putPlan 8 = .ok (.iload_n 2, 1) := by decide +kernel
theorem dX1_putPlan_9 : decode cX1_putPlan 9 = .ok (.invokestatic 131, 3) := by decide +kernel
theorem dX1_putPlan_12 : decode cX1_putPlan 12 = .ok (.ifCond .eq 16, 3) := by decide +kernel
theorem dX1_putPlan_15 : decode cX1_putPlan 15 = .ok (.aload_n 0, 1) := by decide +kernel
theorem dX1_putPlan_16 : decode cX1_putPlan 16 = .ok (.getfield 20, 3) := by decide +kernel
theorem dX1_putPlan_19 : decode cX1_putPlan 19 = .ok (.iload_n 1, 1) := by decide +kernel
theorem dX1_putPlan_20 : decode cX1_putPlan 20 = .ok (.aaload, 1) := by decide +kernel
theorem dX1_putPlan_21 : decode cX1_putPlan 21 = .ok (.getfield 76, 3) := by decide +kernel
theorem dX1_putPlan_24 : decode cX1_putPlan 24 = .ok (.iload_n 2, 1) := by decide +kernel
theorem dX1_putPlan_25 : decode cX1_putPlan 25 = .ok (.if_icmp .ne 6, 3) := by decide +kernel
theorem dX1_putPlan_28 : decode cX1_putPlan 28 = .ok (.ldc 154, 2) := by decide +kernel
theorem dX1_putPlan_30 : decode cX1_putPlan 30 = .ok (.ireturn, 1) := by decide +kernel
theorem dX1_putPlan_31 : decode cX1_putPlan 31 = .ok (.aload_n 0, 1) := by decide +kernel
theorem dX1_putPlan_32 : decode cX1_putPlan 32 = .ok (.getfield 27, 3) := by decide +kernel
theorem dX1_putPlan_35 : decode cX1_putPlan 35 = .ok (.iconst 2, 1) := by decide +kernel
theorem dX1_putPlan_36 : decode cX1_putPlan 36 = .ok (.invokevirtual 137, 3) := by decide +kernel
theorem dX1_putPlan_39 : decode cX1_putPlan 39 = .ok (.ifCond .ne 6, 3) := by decide +kernel
theorem dX1_putPlan_42 : decode cX1_putPlan 42 = .ok (.ldc 155, 2) := by decide +kernel
theorem dX1_putPlan_44 : decode cX1_putPlan 44 = .ok (.ireturn, 1) := by decide +kernel
theorem dX1_putPlan_45 : decode cX1_putPlan 45 = .ok (.aload_n 0, 1) := by decide +kernel
theorem dX1_putPlan_46 : decode cX1_putPlan 46 = .ok (.getfield 20, 3) := by decide +kernel
theorem dX1_putPlan_49 : decode cX1_putPlan 49 = .ok (.iload_n 1, 1) := by decide +kernel
theorem dX1_putPlan_50 : decode cX1_putPlan 50 = .ok (.aaload, 1) := by decide +kernel
theorem dX1_putPlan_51 : decode cX1_putPlan 51 = .ok (.astore_n 3, 1) := by decide +kernel
theorem dX1_putPlan_52 : decode cX1_putPlan 52 = .ok (.aload_n 0, 1) := by decide +kernel
theorem dX1_putPlan_53 : decode cX1_putPlan 53 = .ok (.aload_n 3, 1) := by decide +kernel
theorem dX1_putPlan_54 : decode cX1_putPlan 54 = .ok (.invokevirtual 156, 3) := by decide +kernel
theorem dX1_putPlan_57 : decode cX1_putPlan 57 = .ok (.istore 4, 2) := by decide +kernel
theorem dX1_putPlan_59 : decode cX1_putPlan 59 = .ok (.aload_n 3, 1) := by decide +kernel
theorem dX1_putPlan_60 : decode cX1_putPlan 60 = .ok (.iload_n 2, 1) := by decide +kernel
theorem dX1_putPlan_61 : decode cX1_putPlan 61 = .ok (.putfield 76, 3) := by decide +kernel
theorem dX1_putPlan_64 : decode cX1_putPlan 64 = .ok (.iload 4, 2) := by decide +kernel
theorem dX1_putPlan_66 : decode cX1_putPlan 66 = .ok (.aload_n 0, 1) := by decide +kernel
theorem dX1_putPlan_67 : decode cX1_putPlan 67 = .ok (.aload_n 3, 1) := by decide +kernel
theorem dX1_putPlan_68 : decode cX1_putPlan 68 = .ok (.invokevirtual 147, 3) := by decide +kernel
theorem dX1_putPlan_71 : decode cX1_putPlan 71 = .ok (.iadd, 1) := by decide +kernel
theorem dX1_putPlan_72 : decode cX1_putPlan 72 = .ok (.ireturn, 1) := by decide +kernel
theorem dX1_putSeats_0 : decode cX1_putSeats 0 = .ok (.aload_n 0, 1) := by decide +kernel
theorem dX1_putSeats_1 : decode cX1_putSeats 1 = .ok (.iload_n 1, 1) := by decide +kernel
theorem dX1_putSeats_2 : decode cX1_putSeats 2 = .ok (.invokevirtual 151, 3) := by decide +kernel
theorem dX1_putSeats_5 : decode cX1_putSeats 5 = .ok (.ifCond .eq 27, 3) := by decide +kernel
theorem dX1_putSeats_8 : decode cX1_putSeats 8 = .ok (.iload_n 2, 1) := by decide +kernel
theorem dX1_putSeats_9 : decode cX1_putSeats 9 = .ok (.iconst 1, 1) := by decide +kernel
theorem dX1_putSeats_10 : decode cX1_putSeats 10 = .ok (.if_icmp .lt 22, 3) := by decide +kernel
theorem dX1_putSeats_13 : decode cX1_putSeats 13 = .ok (.iload_n 2, 1) := by decide +kernel
theorem dX1_putSeats_14 : decode cX1_putSeats 14 = .ok (.bipush 9, 2) := by decide +kernel
theorem dX1_putSeats_16 : decode cX1_putSeats 16 = .ok (.if_icmp .gt 16, 3) := by decide +kernel
theorem dX1_putSeats_19 : decode cX1_putSeats 19 = .ok (.aload_n 0, 1) := by decide +kernel
theorem dX1_putSeats_20 : decode cX1_putSeats 20 = .ok (.getfield 20, 3) := by decide +kernel
theorem dX1_putSeats_23 : decode cX1_putSeats 23 = .ok (.iload_n 1, 1) := by decide +kernel
theorem dX1_putSeats_24 : decode cX1_putSeats 24 = .ok (.aaload, 1) := by decide +kernel
theorem dX1_putSeats_25 : decode cX1_putSeats 25 = .ok (.getfield 140, 3) := by decide +kernel
theorem dX1_putSeats_28 : decode cX1_putSeats 28 = .ok (.iload_n 2, 1) := by decide +kernel
theorem dX1_putSeats_29 : decode cX1_putSeats 29 = .ok (.if_icmp .ne 6, 3) := by decide +kernel
theorem dX1_putSeats_32 : decode cX1_putSeats 32 = .ok (.ldc 154, 2) := by decide +kernel
theorem dX1_putSeats_34 : decode cX1_putSeats 34 = .ok (.ireturn, 1) := by decide +kernel
theorem dX1_putSeats_35 : decode cX1_putSeats 35 = .ok (.aload_n 0, 1) := by decide +kernel
theorem dX1_putSeats_36 : decode cX1_putSeats 36 = .ok (.getfield 27, 3) := by decide +kernel
theorem dX1_putSeats_39 : decode cX1_putSeats 39 = .ok (.iconst 2, 1) := by decide +kernel
theorem dX1_putSeats_40 : decode cX1_putSeats 40 = .ok (.invokevirtual 137, 3) := by decide +kernel
theorem dX1_putSeats_43 : decode cX1_putSeats 43 = .ok (.ifCond .ne 6, 3) := by decide +kernel
theorem dX1_putSeats_46 : decode cX1_putSeats 46 = .ok (.ldc 155, 2) := by decide +kernel
theorem dX1_putSeats_48 : decode cX1_putSeats 48 = .ok (.ireturn, 1) := by decide +kernel
theorem dX1_putSeats_49 : decode cX1_putSeats 49 = .ok (.aload_n 0, 1) := by decide +kernel
theorem dX1_putSeats_50 : decode cX1_putSeats 50 = .ok (.getfield 20, 3) := by decide +kernel
theorem dX1_putSeats_53 : decode cX1_putSeats 53 = .ok (.iload_n 1, 1) := by decide +kernel
theorem dX1_putSeats_54 : decode cX1_putSeats 54 = .ok (.aaload, 1) := by decide +kernel
theorem dX1_putSeats_55 : decode cX1_putSeats 55 = .ok (.astore_n 3, 1) := by decide +kernel
theorem dX1_putSeats_56 : decode cX1_putSeats 56 = .ok (.aload_n 0, 1) := by decide +kernel
theorem dX1_putSeats_57 : decode cX1_putSeats 57 = .ok (.aload_n 3, 1) := by decide +kernel
theorem dX1_putSeats_58 : decode cX1_putSeats 58 = .ok (.invokevirtual 156, 3) := by decide +kernel
theorem dX1_putSeats_61 : decode cX1_putSeats 61 = .ok (.istore 4, 2) := by decide +kernel
theorem dX1_putSeats_63 : decode cX1_putSeats 63 = .ok (.aload_n 3, 1) := by decide +kernel
theorem dX1_putSeats_64 : decode cX1_putSeats 64 = .ok (.iload_n 2, 1) := by decide +kernel
theorem dX1_putSeats_65 : decode cX1_putSeats 65 = .ok (.putfield 140, 3) := by decide +kernel
theorem dX1_putSeats_68 : decode cX1_putSeats 68 = .ok (.iload 4, 2) := by decide +kernel
theorem dX1_putSeats_70 : decode cX1_putSeats 70 = .ok (.aload_n 0, 1) := by decide +kernel
theorem dX1_putSeats_71 : decode cX1_putSeats 71 = .ok (.aload_n 3, 1) := by decide +kernel
theorem dX1_putSeats_72 : decode cX1_putSeats 72 = .ok (.invokevirtual 147, 3) := by decide +kernel
theorem dX1_putSeats_75 : decode cX1_putSeats 75 = .ok (.iadd, 1) := by decide +kernel
theorem dX1_putSeats_76 : decode cX1_putSeats 76 = .ok (.ireturn, 1) := by decide +kernel
theorem dX1_putPaused_0 : decode cX1_putPaused 0 = .ok (.aload_n 0, 1) := by decide +kernel
theorem dX1_putPaused_1 : decode cX1_putPaused 1 = .ok (.iload_n 1, 1) := by decide +kernel
theorem dX1_putPaused_2 : decode cX1_putPaused 2 = .ok (.invokevirtual 151, 3) := by decide +kernel
theorem dX1_putPaused_5 : decode cX1_putPaused 5 = .ok (.ifCond .eq 16, 3) := by decide +kernel
theorem dX1_putPaused_8 : decode cX1_putPaused 8 = .ok (.aload_n 0, 1) := by decide +kernel
theorem dX1_putPaused_9 : decode cX1_putPaused 9 = .ok (.getfield 20, 3) := by decide +kernel
theorem dX1_putPaused_12 : decode cX1_putPaused 12 = .ok (.iload_n 1, 1) := by decide +kernel
theorem dX1_putPaused_13 : decode cX1_putPaused 13 = .ok (.aaload, 1) := by decide +kernel
theorem dX1_putPaused_14 : decode cX1_putPaused 14 = .ok (.getfield 159, 3) := by decide +kernel
theorem dX1_putPaused_17 : decode cX1_putPaused 17 = .ok (.iload_n 2, 1) := by decide +kernel
theorem dX1_putPaused_18 : decode cX1_putPaused 18 = .ok (.if_icmp .ne 6, 3) := by decide +kernel
theorem dX1_putPaused_21 : decode cX1_putPaused 21 = .ok (.ldc 154, 2) := by decide +kernel
theorem dX1_putPaused_23 : decode cX1_putPaused 23 = .ok (.ireturn, 1) := by decide +kernel
theorem dX1_putPaused_24 : decode cX1_putPaused 24 = .ok (.aload_n 0, 1) := by decide +kernel
theorem dX1_putPaused_25 : decode cX1_putPaused 25 = .ok (.getfield 27, 3) := by decide +kernel
theorem dX1_putPaused_28 : decode cX1_putPaused 28 = .ok (.iconst 2, 1) := by decide +kernel
theorem dX1_putPaused_29 : decode cX1_putPaused 29 = .ok (.invokevirtual 137, 3) := by decide +kernel
theorem dX1_putPaused_32 : decode cX1_putPaused 32 = .ok (.ifCond .ne 6, 3) := by decide +kernel
theorem dX1_putPaused_35 : decode cX1_putPaused 35 = .ok (.ldc 155, 2) := by decide +kernel
theorem dX1_putPaused_37 : decode cX1_putPaused 37 = .ok (.ireturn, 1) := by decide +kernel
theorem dX1_putPaused_38 : decode cX1_putPaused 38 = .ok (.aload_n 0, 1) := by decide +kernel
theorem dX1_putPaused_39 : decode cX1_putPaused 39 = .ok (.getfield 20, 3) := by decide +kernel
theorem dX1_putPaused_42 : decode cX1_putPaused 42 = .ok (.iload_n 1, 1) := by decide +kernel
theorem dX1_putPaused_43 : decode cX1_putPaused 43 = .ok (.aaload, 1) := by decide +kernel
theorem dX1_putPaused_44 : decode cX1_putPaused 44 = .ok (.astore_n 3, 1) := by decide +kernel
theorem dX1_putPaused_45 : decode cX1_putPaused 45 = .ok (.aload_n 0, 1) := by decide +kernel
theorem dX1_putPaused_46 : decode cX1_putPaused 46 = .ok (.aload_n 3, 1) := by decide +kernel
theorem dX1_putPaused_47 : decode cX1_putPaused 47 = .ok (.invokevirtual 156, 3) := by decide +kernel
theorem dX1_putPaused_50 : decode cX1_putPaused 50 = .ok (.istore 4, 2) := by decide +kernel
theorem dX1_putPaused_52 : decode cX1_putPaused 52 = .ok (.aload_n 3, 1) := by decide +kernel
theorem dX1_putPaused_53 : decode cX1_putPaused 53 = .ok (.iload_n 2, 1) := by decide +kernel
theorem dX1_putPaused_54 : decode cX1_putPaused 54 = .ok (.putfield 159, 3) := by decide +kernel
theorem dX1_putPaused_57 : decode cX1_putPaused 57 = .ok (.iload 4, 2) := by decide +kernel
theorem dX1_putPaused_59 : decode cX1_putPaused 59 = .ok (.aload_n 0, 1) := by decide +kernel
theorem dX1_putPaused_60 : decode cX1_putPaused 60 = .ok (.aload_n 3, 1) := by decide +kernel
theorem dX1_putPaused_61 : decode cX1_putPaused 61 = .ok (.invokevirtual 147, 3) := by decide +kernel
theorem dX1_putPaused_64 : decode cX1_putPaused 64 = .ok (.iadd, 1) := by decide +kernel
theorem dX1_putPaused_65 : decode cX1_putPaused 65 = .ok (.ireturn, 1) := by decide +kernel
theorem dX1_endAccount_0 : decode cX1_endAccount 0 = .ok (.aload_n 0, 1) := by decide +kernel
theorem dX1_endAccount_1 : decode cX1_endAccount 1 = .ok (.iload_n 1, 1) := by decide +kernel
theorem dX1_endAccount_2 : decode cX1_endAccount 2 = .ok (.invokevirtual 151, 3) := by decide +kernel
theorem dX1_endAccount_5 : decode cX1_endAccount 5 = .ok (.ifCond .ne 6, 3) := by decide +kernel
theorem dX1_endAccount_8 : decode cX1_endAccount 8 = .ok (.ldc 154, 2) := by decide +kernel
theorem dX1_endAccount_10 : decode cX1_endAccount 10 = .ok (.ireturn, 1) := by decide +kernel
theorem dX1_endAccount_11 : decode cX1_endAccount 11 = .ok (.aload_n 0, 1) := by decide +kernel
theorem dX1_endAccount_12 : decode cX1_endAccount 12 = .ok (.getfield 27, 3) := by decide +kernel
theorem dX1_endAccount_15 : decode cX1_endAccount 15 = .ok (.iconst 2, 1) := by decide +kernel
theorem dX1_endAccount_16 : decode cX1_endAccount 16 = .ok (.invokevirtual 137, 3) := by decide +kernel
theorem dX1_endAccount_19 : decode cX1_endAccount 19 = .ok (.ifCond .ne 6, 3) := by decide +kernel
theorem dX1_endAccount_22 : decode cX1_endAccount 22 = .ok (.ldc 155, 2) := by decide +kernel
theorem dX1_endAccount_24 : decode cX1_endAccount 24 = .ok (.ireturn, 1) := by decide +kernel
theorem dX1_endAccount_25 : decode cX1_endAccount 25 = .ok (.aload_n 0, 1) := by decide +kernel
theorem dX1_endAccount_26 : decode cX1_endAccount 26 = .ok (.getfield 20, 3) := by decide +kernel
theorem dX1_endAccount_29 : decode cX1_endAccount 29 = .ok (.iload_n 1, 1) := by decide +kernel
theorem dX1_endAccount_30 : decode cX1_endAccount 30 = .ok (.aaload, 1) := by decide +kernel
theorem dX1_endAccount_31 : decode cX1_endAccount 31 = .ok (.astore_n 2, 1) := by decide +kernel
theorem dX1_endAccount_32 : decode cX1_endAccount 32 = .ok (.aload_n 0, 1) := by decide +kernel
theorem dX1_endAccount_33 : decode cX1_endAccount 33 = .ok (.aload_n 2, 1) := by decide +kernel
theorem dX1_endAccount_34 : decode cX1_endAccount 34 = .ok (.invokevirtual 156, 3) := by decide +kernel
theorem dX1_endAccount_37 : decode cX1_endAccount 37 = .ok (.istore_n 3, 1) := by decide +kernel
theorem dX1_endAccount_38 : decode cX1_endAccount 38 = .ok (.aload_n 2, 1) := by decide +kernel
theorem dX1_endAccount_39 : decode cX1_endAccount 39 = .ok (.iconst 1, 1) := by decide +kernel
theorem dX1_endAccount_40 : decode cX1_endAccount 40 = .ok (.putfield 63, 3) := by decide +kernel
theorem dX1_endAccount_43 : decode cX1_endAccount 43 = .ok (.iload_n 3, 1) := by decide +kernel
theorem dX1_endAccount_44 : decode cX1_endAccount 44 = .ok (.aload_n 0, 1) := by decide +kernel
theorem dX1_endAccount_45 : decode cX1_endAccount 45 = .ok (.aload_n 2, 1) := by decide +kernel
theorem dX1_endAccount_46 : decode cX1_endAccount 46 = .ok (.invokevirtual 162, 3) := by decide +kernel
theorem dX1_endAccount_49 : decode cX1_endAccount 49 = .ok (.iadd, 1) := by decide +kernel
theorem dX1_endAccount_50 : decode cX1_endAccount 50 = .ok (.ireturn, 1) := by decide +kernel
theorem dX1_putAnchor_0 : decode cX1_putAnchor 0 = .ok (.aload_n 0, 1) := by decide +kernel
theorem dX1_putAnchor_1 : decode cX1_putAnchor 1 = .ok (.iload_n 1, 1) := by decide +kernel
theorem dX1_putAnchor_2 : decode cX1_putAnchor 2 = .ok (.invokevirtual 151, 3) := by decide +kernel
theorem dX1_putAnchor_5 : decode cX1_putAnchor 5 = .ok (.ifCond .eq 23, 3) := by decide +kernel
theorem dX1_putAnchor_8 : decode cX1_putAnchor 8 = .ok (.iload_n 2, 1) := by decide +kernel
theorem dX1_putAnchor_9 : decode cX1_putAnchor 9 = .ok (.invokestatic 134, 3) := by decide +kernel
theorem dX1_putAnchor_12 : decode cX1_putAnchor 12 = .ok (.ifCond .eq 16, 3) := by decide +kernel
theorem dX1_putAnchor_15 : decode cX1_putAnchor 15 = .ok (.aload_n 0, 1) := by decide +kernel
theorem dX1_putAnchor_16 : decode cX1_putAnchor 16 = .ok (.getfield 20, 3) := by decide +kernel
theorem dX1_putAnchor_19 : decode cX1_putAnchor 19 = .ok (.iload_n 1, 1) := by decide +kernel
theorem dX1_putAnchor_20 : decode cX1_putAnchor 20 = .ok (.aaload, 1) := by decide +kernel
theorem dX1_putAnchor_21 : decode cX1_putAnchor 21 = .ok (.getfield 117, 3) := by decide +kernel
theorem dX1_putAnchor_24 : decode cX1_putAnchor 24 = .ok (.iload_n 2, 1) := by decide +kernel
theorem dX1_putAnchor_25 : decode cX1_putAnchor 25 = .ok (.if_icmp .ne 6, 3) := by decide +kernel
theorem dX1_putAnchor_28 : decode cX1_putAnchor 28 = .ok (.ldc 154, 2) := by decide +kernel
theorem dX1_putAnchor_30 : decode cX1_putAnchor 30 = .ok (.ireturn, 1) := by decide +kernel
theorem dX1_putAnchor_31 : decode cX1_putAnchor 31 = .ok (.aload_n 0, 1) := by decide +kernel
theorem dX1_putAnchor_32 : decode cX1_putAnchor 32 = .ok (.getfield 27, 3) := by decide +kernel
theorem dX1_putAnchor_35 : decode cX1_putAnchor 35 = .ok (.iconst 3, 1) := by decide +kernel
theorem dX1_putAnchor_36 : decode cX1_putAnchor 36 = .ok (.invokevirtual 137, 3) := by decide +kernel
theorem dX1_putAnchor_39 : decode cX1_putAnchor 39 = .ok (.ifCond .ne 6, 3) := by decide +kernel
theorem dX1_putAnchor_42 : decode cX1_putAnchor 42 = .ok (.ldc 155, 2) := by decide +kernel
theorem dX1_putAnchor_44 : decode cX1_putAnchor 44 = .ok (.ireturn, 1) := by decide +kernel
theorem dX1_putAnchor_45 : decode cX1_putAnchor 45 = .ok (.aload_n 0, 1) := by decide +kernel
theorem dX1_putAnchor_46 : decode cX1_putAnchor 46 = .ok (.getfield 31, 3) := by decide +kernel
theorem dX1_putAnchor_49 : decode cX1_putAnchor 49 = .ok (.iload_n 2, 1) := by decide +kernel
theorem dX1_putAnchor_50 : decode cX1_putAnchor 50 = .ok (.aload_n 0, 1) := by decide +kernel
theorem dX1_putAnchor_51 : decode cX1_putAnchor 51 = .ok (.getfield 48, 3) := by decide +kernel
theorem dX1_putAnchor_54 : decode cX1_putAnchor 54 = .ok (.invokevirtual 128, 3) := by decide +kernel
theorem dX1_putAnchor_57 : decode cX1_putAnchor 57 = .ok (.sipush 3652, 3) := by decide +kernel
theorem dX1_putAnchor_60 : decode cX1_putAnchor 60 = .ok (.if_icmp .le 6, 3) := by decide +kernel
theorem dX1_putAnchor_63 : decode cX1_putAnchor 63 = .ok (.ldc 165, 2) := by decide +kernel
theorem dX1_putAnchor_65 : decode cX1_putAnchor 65 = .ok (.ireturn, 1) := by decide +kernel
theorem dX1_putAnchor_66 : decode cX1_putAnchor 66 = .ok (.aload_n 0, 1) := by decide +kernel
theorem dX1_putAnchor_67 : decode cX1_putAnchor 67 = .ok (.getfield 20, 3) := by decide +kernel
theorem dX1_putAnchor_70 : decode cX1_putAnchor 70 = .ok (.iload_n 1, 1) := by decide +kernel
theorem dX1_putAnchor_71 : decode cX1_putAnchor 71 = .ok (.aaload, 1) := by decide +kernel
theorem dX1_putAnchor_72 : decode cX1_putAnchor 72 = .ok (.astore_n 3, 1) := by decide +kernel
theorem dX1_putAnchor_73 : decode cX1_putAnchor 73 = .ok (.aload_n 0, 1) := by decide +kernel
theorem dX1_putAnchor_74 : decode cX1_putAnchor 74 = .ok (.aload_n 3, 1) := by decide +kernel
theorem dX1_putAnchor_75 : decode cX1_putAnchor 75 = .ok (.invokevirtual 156, 3) := by decide +kernel
theorem dX1_putAnchor_78 : decode cX1_putAnchor 78 = .ok (.istore 4, 2) := by decide +kernel
theorem dX1_putAnchor_80 : decode cX1_putAnchor 80 = .ok (.aload_n 0, 1) := by decide +kernel
theorem dX1_putAnchor_81 : decode cX1_putAnchor 81 = .ok (.aload_n 3, 1) := by decide +kernel
theorem dX1_putAnchor_82 : decode cX1_putAnchor 82 = .ok (.invokevirtual 162, 3) := by decide +kernel
theorem dX1_putAnchor_85 : decode cX1_putAnchor 85 = .ok (.istore 5, 2) := by decide +kernel
theorem dX1_putAnchor_87 : decode cX1_putAnchor 87 = .ok (.aload_n 3, 1) := by decide +kernel
theorem dX1_putAnchor_88 : decode cX1_putAnchor 88 = .ok (.iload_n 2, 1) := by decide +kernel
theorem dX1_putAnchor_89 : decode cX1_putAnchor 89 = .ok (.putfield 117, 3) := by decide +kernel
theorem dX1_putAnchor_92 : decode cX1_putAnchor 92 = .ok (.aload_n 0, 1) := by decide +kernel
theorem dX1_putAnchor_93 : decode cX1_putAnchor 93 = .ok (.aload_n 3, 1) := by decide +kernel
theorem dX1_putAnchor_94 : decode cX1_putAnchor 94 = .ok (.aload_n 3, 1) := by decide +kernel
theorem dX1_putAnchor_95 : decode cX1_putAnchor 95 = .ok (.getfield 73, 3) := by decide +kernel
theorem dX1_putAnchor_98 : decode cX1_putAnchor 98 = .ok (.iconst 1, 1) := by decide +kernel
theorem dX1_putAnchor_99 : decode cX1_putAnchor 99 = .ok (.iadd, 1) := by decide +kernel
theorem dX1_putAnchor_100 : decode cX1_putAnchor 100 = .ok (.invokevirtual 143, 3) := by decide +kernel
theorem dX1_putAnchor_103 : decode cX1_putAnchor 103 = .ok (.iload 4, 2) := by decide +kernel
theorem dX1_putAnchor_105 : decode cX1_putAnchor 105 = .ok (.iload 5, 2) := by decide +kernel
theorem dX1_putAnchor_107 : decode cX1_putAnchor 107 = .ok (.iadd, 1) := by decide +kernel
theorem dX1_putAnchor_108 : decode cX1_putAnchor 108 = .ok (.aload_n 0, 1) := by decide +kernel
theorem dX1_putAnchor_109 : decode cX1_putAnchor 109 = .ok (.aload_n 3, 1) := by decide +kernel
theorem dX1_putAnchor_110 : decode cX1_putAnchor 110 = .ok (.invokevirtual 147, 3) := by decide +kernel
theorem dX1_putAnchor_113 : decode cX1_putAnchor 113 = .ok (.iadd, 1) := by decide +kernel
theorem dX1_putAnchor_114 : decode cX1_putAnchor 114 = .ok (.ireturn, 1) := by decide +kernel
theorem dX1_addUnits_0 : decode cX1_addUnits 0 = .ok (.aload_n 0, 1) := by decide +kernel
theorem dX1_addUnits_1 : decode cX1_addUnits 1 = .ok (.iload_n 1, 1) := by decide +kernel
theorem dX1_addUnits_2 : decode cX1_addUnits 2 = .ok (.invokevirtual 151, 3) := by decide +kernel
theorem dX1_addUnits_5 : decode cX1_addUnits 5 = .ok (.ifCond .eq 7, 3) := by decide +kernel
theorem dX1_addUnits_8 : decode cX1_addUnits 8 = .ok (.iload_n 2, 1) := by decide +kernel
theorem dX1_addUnits_9 : decode cX1_addUnits 9 = .ok (.ifCond .ge 5, 3) := by decide +kernel
theorem dX1_addUnits_12 : decode cX1_addUnits 12 = .ok (.iconst (-1), 1) := by decide +kernel
theorem dX1_addUnits_13 : decode cX1_addUnits 13 = .ok (.ireturn, 1) := by decide +kernel
theorem dX1_addUnits_14 : decode cX1_addUnits 14 = .ok (.aload_n 0, 1) := by decide +kernel
theorem dX1_addUnits_15 : decode cX1_addUnits 15 = .ok (.getfield 20, 3) := by decide +kernel
theorem dX1_addUnits_18 : decode cX1_addUnits 18 = .ok (.iload_n 1, 1) := by decide +kernel
theorem dX1_addUnits_19 : decode cX1_addUnits 19 = .ok (.aaload, 1) := by decide +kernel
theorem dX1_addUnits_20 : decode cX1_addUnits 20 = .ok (.astore_n 3, 1) := by decide +kernel
theorem dX1_addUnits_21 : decode cX1_addUnits 21 = .ok (.aload_n 3, 1) := by decide +kernel
theorem dX1_addUnits_22 : decode cX1_addUnits 22 = .ok (.getfield 159, 3) := by decide +kernel
theorem dX1_addUnits_25 : decode cX1_addUnits 25 = .ok (.ifCond .eq 6, 3) := by decide +kernel
theorem dX1_addUnits_28 : decode cX1_addUnits 28 = .ok (.bipush (-2), 2) := by decide +kernel
theorem dX1_addUnits_30 : decode cX1_addUnits 30 = .ok (.ireturn, 1) := by decide +kernel
theorem dX1_addUnits_31 : decode cX1_addUnits 31 = .ok (.iload_n 2, 1) := by decide +kernel
theorem dX1_addUnits_32 : decode cX1_addUnits 32 = .ok (.sipush 9999, 3) := by decide +kernel
theorem dX1_addUnits_35 : decode cX1_addUnits 35 = .ok (.aload_n 3, 1) := by decide +kernel
theorem dX1_addUnits_36 : decode cX1_addUnits 36 = .ok (.getfield 105, 3) := by decide +kernel
theorem dX1_addUnits_39 : decode cX1_addUnits 39 = .ok (.isub, 1) := by decide +kernel
theorem dX1_addUnits_40 : decode cX1_addUnits 40 = .ok (.if_icmp .le 6, 3) := by decide +kernel
theorem dX1_addUnits_43 : decode cX1_addUnits 43 = .ok (.bipush (-3), 2) := by decide +kernel
theorem dX1_addUnits_45 : decode cX1_addUnits 45 = .ok (.ireturn, 1) := by decide +kernel
theorem dX1_addUnits_46 : decode cX1_addUnits 46 = .ok (.aload_n 3, 1) := by decide +kernel
theorem dX1_addUnits_47 : decode cX1_addUnits 47 = .ok (.dup, 1) := by decide +kernel
theorem dX1_addUnits_48 : decode cX1_addUnits 48 = .ok (.getfield 105, 3) := by decide +kernel
theorem dX1_addUnits_51 : decode cX1_addUnits 51 = .ok (.iload_n 2, 1) := by decide +kernel
theorem dX1_addUnits_52 : decode cX1_addUnits 52 = .ok (.iadd, 1) := by decide +kernel
theorem dX1_addUnits_53 : decode cX1_addUnits 53 = .ok (.putfield 105, 3) := by decide +kernel
theorem dX1_addUnits_56 : decode cX1_addUnits 56 = .ok (.aload_n 3, 1) := by decide +kernel
theorem dX1_addUnits_57 : decode cX1_addUnits 57 = .ok (.getfield 105, 3) := by decide +kernel
theorem dX1_addUnits_60 : decode cX1_addUnits 60 = .ok (.ireturn, 1) := by decide +kernel
theorem dX1_grantFavour_0 : decode cX1_grantFavour 0 = .ok (.aload_n 0, 1) := by decide +kernel
theorem dX1_grantFavour_1 : decode cX1_grantFavour 1 = .ok (.iload_n 1, 1) := by decide +kernel
theorem dX1_grantFavour_2 : decode cX1_grantFavour 2 = .ok (.invokevirtual 60, 3) := by decide +kernel
theorem dX1_grantFavour_5 : decode cX1_grantFavour 5 = .ok (.ifCond .eq 21, 3) := by decide +kernel
theorem dX1_grantFavour_8 : decode cX1_grantFavour 8 = .ok (.iload_n 2, 1) := by decide +kernel
theorem dX1_grantFavour_9 : decode cX1_grantFavour 9 = .ok (.iconst 1, 1) := by decide +kernel
theorem dX1_grantFavour_10 : decode cX1_grantFavour 10 = .ok (.if_icmp .lt 16, 3) := by decide +kernel
theorem dX1_grantFavour_13 : decode cX1_grantFavour 13 = .ok (.iload_n 2, 1) := by decide +kernel
theorem dX1_grantFavour_14 : decode cX1_grantFavour 14 = .ok (.aload_n 0, 1) := by decide +kernel
theorem dX1_grantFavour_15 : decode cX1_grantFavour 15 = .ok (.getfield 20, 3) := by decide +kernel
theorem dX1_grantFavour_18 : decode cX1_grantFavour 18 = .ok (.iload_n 1, 1) := by decide +kernel
theorem dX1_grantFavour_19 : decode cX1_grantFavour 19 = .ok (.aaload, 1) := by decide +kernel
theorem dX1_grantFavour_20 : decode cX1_grantFavour 20 = .ok (.getfield 83, 3) := by decide +kernel
theorem dX1_grantFavour_23 : decode cX1_grantFavour 23 = .ok (.if_icmp .le 6, 3) := by decide +kernel
theorem dX1_grantFavour_26 : decode cX1_grantFavour 26 = .ok (.ldc 154, 2) := by decide +kernel
theorem dX1_grantFavour_28 : decode cX1_grantFavour 28 = .ok (.ireturn, 1) := by decide +kernel
theorem dX1_grantFavour_29 : decode cX1_grantFavour 29 = .ok (.aload_n 0, 1) := by decide +kernel
theorem dX1_grantFavour_30 : decode cX1_grantFavour 30 = .ok (.getfield 27, 3) := by decide +kernel
theorem dX1_grantFavour_33 : decode cX1_grantFavour 33 = .ok (.iconst 1, 1) := by decide +kernel
theorem dX1_grantFavour_34 : decode cX1_grantFavour 34 = .ok (.invokevirtual 137, 3) := by decide +kernel
theorem dX1_grantFavour_37 : decode cX1_grantFavour 37 = .ok (.ifCond .ne 6, 3) := by decide +kernel
theorem dX1_grantFavour_40 : decode cX1_grantFavour 40 = .ok (.ldc 155, 2) := by decide +kernel
theorem dX1_grantFavour_42 : decode cX1_grantFavour 42 = .ok (.ireturn, 1) := by decide +kernel
theorem dX1_grantFavour_43 : decode cX1_grantFavour 43 = .ok (.aload_n 0, 1) := by decide +kernel
theorem dX1_grantFavour_44 : decode cX1_grantFavour 44 = .ok (.aload_n 0, 1) := by decide +kernel
theorem dX1_grantFavour_45 : decode cX1_grantFavour 45 = .ok (.getfield 20, 3) := by decide +kernel
theorem dX1_grantFavour_48 : decode cX1_grantFavour 48 = .ok (.iload_n 1, 1) := by decide +kernel
theorem dX1_grantFavour_49 : decode cX1_grantFavour 49 = .ok (.aaload, 1) := by decide +kernel
theorem dX1_grantFavour_50 : decode cX1_grantFavour 50 = .ok (.iconst 3, 1) := by decide +kernel
theorem dX1_grantFavour_51 : decode cX1_grantFavour 51 = .ok (.aload_n 0, 1) := by decide +kernel
theorem dX1_grantFavour_52 : decode cX1_grantFavour 52 = .ok (.getfield 48, 3) := by decide +kernel
theorem dX1_grantFavour_55 : decode cX1_grantFavour 55 = .ok (.aload_n 0, 1) := by decide +kernel
theorem dX1_grantFavour_56 : decode cX1_grantFavour 56 = .ok (.getfield 48, 3) := by decide +kernel
theorem dX1_grantFavour_59 : decode cX1_grantFavour 59 = .ok (.iload_n 2, 1) := by decide +kernel
theorem dX1_grantFavour_60 : decode cX1_grantFavour 60 = .ok (.ineg, 1) := by decide +kernel
theorem dX1_grantFavour_61 : decode cX1_grantFavour 61 = .ok (.invokevirtual 97, 3) := by decide +kernel
theorem dX1_grantFavour_64 : decode cX1_grantFavour 64 = .ok (.pop, 1) := by decide +kernel
theorem dX1_grantFavour_65 : decode cX1_grantFavour 65 = .ok (.aload_n 0, 1) := by decide +kernel
theorem dX1_grantFavour_66 : decode cX1_grantFavour 66 = .ok (.getfield 20, 3) := by decide +kernel
theorem dX1_grantFavour_69 : decode cX1_grantFavour 69 = .ok (.iload_n 1, 1) := by decide +kernel
theorem dX1_grantFavour_70 : decode cX1_grantFavour 70 = .ok (.aaload, 1) := by decide +kernel
theorem dX1_grantFavour_71 : decode cX1_grantFavour 71 = .ok (.getfield 83, 3) := by decide +kernel
theorem dX1_grantFavour_74 : decode cX1_grantFavour 74 = .ok (.ireturn, 1) := by decide +kernel
theorem dX1_takePayment_0 : decode cX1_takePayment 0 = .ok (.aload_n 0, 1) := by decide +kernel
theorem dX1_takePayment_1 : decode cX1_takePayment 1 = .ok (.iload_n 1, 1) := by decide +kernel
theorem dX1_takePayment_2 : decode cX1_takePayment 2 = .ok (.invokevirtual 60, 3) := by decide +kernel
theorem dX1_takePayment_5 : decode cX1_takePayment 5 = .ok (.ifCond .eq 14, 3) := by decide +kernel
theorem dX1_takePayment_8 : decode cX1_takePayment 8 = .ok (.iload_n 2, 1) := by decide +kernel
theorem dX1_takePayment_9 : decode cX1_takePayment 9 = .ok (.iconst 1, 1) := by decide +kernel
theorem dX1_takePayment_10 : decode cX1_takePayment 10 = .ok (.if_icmp .lt 9, 3) := by decide +kernel
theorem dX1_takePayment_13 : decode cX1_takePayment 13 = .ok (.iload_n 2, 1) := by decide +kernel
theorem dX1_takePayment_14 : decode cX1_takePayment 14 = .ok (.ldc 166, 2) := by decide +kernel
theorem dX1_takePayment_16 : decode cX1_takePayment 16 = .ok (.if_icmp .le 5, 3) := by decide +kernel
theorem dX1_takePayment_19 : decode cX1_takePayment 19 = .ok (.iconst (-1), 1) := by decide +kernel
theorem dX1_takePayment_20 : decode cX1_takePayment 20 = .ok (.ireturn, 1) := by decide +kernel
theorem dX1_takePayment_21 : decode cX1_takePayment 21 = .ok (.aload_n 0, 1) := by decide +kernel
theorem dX1_takePayment_22 : decode cX1_takePayment 22 = .ok (.getfield 20, 3) := by decide +kernel
theorem dX1_takePayment_25 : decode cX1_takePayment 25 = .ok (.iload_n 1, 1) := by decide +kernel
theorem dX1_takePayment_26 : decode cX1_takePayment 26 = .ok (.aaload, 1) := by decide +kernel
theorem dX1_takePayment_27 : decode cX1_takePayment 27 = .ok (.astore_n 3, 1) := by decide +kernel
theorem dX1_takePayment_28 : decode cX1_takePayment 28 = .ok (.iload_n 2, 1) := by decide +kernel
theorem dX1_takePayment_29 : decode cX1_takePayment 29 = .ok (.ldc 167, 2) := by decide +kernel
theorem dX1_takePayment_31 : decode cX1_takePayment 31 = .ok (.aload_n 3, 1) := by decide +kernel
theorem dX1_takePayment_32 : decode cX1_takePayment 32 = .ok (.getfield 168, 3) := by decide +kernel
theorem dX1_takePayment_35 : decode cX1_takePayment 35 = .ok (.isub, 1) := by decide +kernel
theorem dX1_takePayment_36 : decode cX1_takePayment 36 = .ok (.if_icmp .le 5, 3) := by decide +kernel
theorem dX1_takePayment_39 : decode cX1_takePayment 39 = .ok (.iconst (-1), 1) := by decide +kernel
theorem dX1_takePayment_40 : decode cX1_takePayment 40 = .ok (.ireturn, 1) := by decide +kernel
theorem dX1_takePayment_41 : decode cX1_takePayment 41 = .ok (.aload_n 3, 1) := by decide +kernel
theorem dX1_takePayment_42 : decode cX1_takePayment 42 = .ok (.dup, 1) := by decide +kernel
theorem dX1_takePayment_43 : decode cX1_takePayment 43 = .ok (.getfield 168, 3) := by decide +kernel
theorem dX1_takePayment_46 : decode cX1_takePayment 46 = .ok (.iload_n 2, 1) := by decide +kernel
theorem dX1_takePayment_47 : decode cX1_takePayment 47 = .ok (.iadd, 1) := by decide +kernel
theorem dX1_takePayment_48 : decode cX1_takePayment 48 = .ok (.putfield 168, 3) := by decide +kernel
theorem dX1_takePayment_51 : decode cX1_takePayment 51 = .ok (.aload_n 3, 1) := by decide +kernel
theorem dX1_takePayment_52 : decode cX1_takePayment 52 = .ok (.getfield 168, 3) := by decide +kernel
theorem dX1_takePayment_55 : decode cX1_takePayment 55 = .ok (.ireturn, 1) := by decide +kernel
theorem dX1_writeReminder_0 : decode cX1_writeReminder 0 = .ok (.aload_n 0, 1) := by decide +kernel
theorem dX1_writeReminder_1 : decode cX1_writeReminder 1 = .ok (.iload_n 1, 1) := by decide +kernel
theorem dX1_writeReminder_2 : decode cX1_writeReminder 2 = .ok (.invokevirtual 60, 3) := by decide +kernel
theorem dX1_writeReminder_5 : decode cX1_writeReminder 5 = .ok (.ifCond .ne 5, 3) := by decide +kernel
theorem dX1_writeReminder_8 : decode cX1_writeReminder 8 = .ok (.iconst (-1), 1) := by decide +kernel
theorem dX1_writeReminder_9 : decode cX1_writeReminder 9 = .ok (.ireturn, 1) := by decide +kernel
theorem dX1_writeReminder_10 : decode cX1_writeReminder 10 = .ok (.aload_n 0, 1) := by decide +kernel
theorem dX1_writeReminder_11 : decode cX1_writeReminder 11 = .ok (.getfield 20, 3) := by decide +kernel
theorem dX1_writeReminder_14 : decode cX1_writeReminder 14 = .ok (.iload_n 1, 1) := by decide +kernel
theorem dX1_writeReminder_15 : decode cX1_writeReminder 15 = .ok (.aaload, 1) := by decide +kernel
theorem dX1_writeReminder_16 : decode cX1_writeReminder 16 = .ok (.astore_n 2, 1) := by decide +kernel
theorem dX1_writeReminder_17 : decode cX1_writeReminder 17 = .ok (.aload_n 0, 1) := by decide +kernel
theorem dX1_writeReminder_18 : decode cX1_writeReminder 18 = .ok (.getfield 27, 3) := by decide +kernel
theorem dX1_writeReminder_21 : decode cX1_writeReminder 21 = .ok (.iload_n 1, 1) := by decide +kernel
theorem dX1_writeReminder_22 : decode cX1_writeReminder 22 = .ok (.aload_n 2, 1) := by decide +kernel
theorem dX1_writeReminder_23 : decode cX1_writeReminder 23 = .ok (.getfield 168, 3) := by decide +kernel
theorem dX1_writeReminder_26 : decode cX1_writeReminder 26 = .ok (.aload_n 0, 1) := by decide +kernel
theorem dX1_writeReminder_27 : decode cX1_writeReminder 27 = .ok (.getfield 48, 3) := by decide +kernel
theorem dX1_writeReminder_30 : decode cX1_writeReminder 30 = .ok (.invokevirtual 171, 3) := by decide +kernel
theorem dX1_writeReminder_33 : decode cX1_writeReminder 33 = .ok (.istore_n 3, 1) := by decide +kernel
theorem dX1_writeReminder_34 : decode cX1_writeReminder 34 = .ok (.iload_n 3, 1) := by decide +kernel
theorem dX1_writeReminder_35 : decode cX1_writeReminder 35 = .ok (.ifCond .ne 6, 3) := by decide +kernel
theorem dX1_writeReminder_38 : decode cX1_writeReminder 38 = .ok (.bipush (-2), 2) := by decide +kernel
theorem dX1_writeReminder_40 : decode cX1_writeReminder 40 = .ok (.ireturn, 1) := by decide +kernel
theorem dX1_writeReminder_41 : decode cX1_writeReminder 41 = .ok (.aload_n 0, 1) := by decide +kernel
theorem dX1_writeReminder_42 : decode cX1_writeReminder 42 = .ok (.getfield 27, 3) := by decide +kernel
theorem dX1_writeReminder_45 : decode cX1_writeReminder 45 = .ok (.iconst 1, 1) := by decide +kernel
theorem dX1_writeReminder_46 : decode cX1_writeReminder 46 = .ok (.invokevirtual 137, 3) := by decide +kernel
theorem dX1_writeReminder_49 : decode cX1_writeReminder 49 = .ok (.ifCond .ne 6, 3) := by decide +kernel
theorem dX1_writeReminder_52 : decode cX1_writeReminder 52 = .ok (.bipush (-3), 2) := by decide +kernel
theorem dX1_writeReminder_54 : decode cX1_writeReminder 54 = .ok (.ireturn, 1) := by decide +kernel
theorem dX1_writeReminder_55 : decode cX1_writeReminder 55 = .ok (.aload_n 0, 1) := by decide +kernel
theorem dX1_writeReminder_56 : decode cX1_writeReminder 56 = .ok (.getfield 27, 3) := by decide +kernel
theorem dX1_writeReminder_59 : decode cX1_writeReminder 59 = .ok (.iload_n 1, 1) := by decide +kernel
theorem dX1_writeReminder_60 : decode cX1_writeReminder 60 = .ok (.aload_n 0, 1) := by decide +kernel
theorem dX1_writeReminder_61 : decode cX1_writeReminder 61 = .ok (.getfield 48, 3) := by decide +kernel
theorem dX1_writeReminder_64 : decode cX1_writeReminder 64 = .ok (.invokevirtual 175, 3) := by decide +kernel
theorem dX1_writeReminder_67 : decode cX1_writeReminder 67 = .ok (.ifCond .eq 6, 3) := by decide +kernel
theorem dX1_writeReminder_70 : decode cX1_writeReminder 70 = .ok (.bipush (-4), 2) := by decide +kernel
theorem dX1_writeReminder_72 : decode cX1_writeReminder 72 = .ok (.ireturn, 1) := by decide +kernel
theorem dX1_writeReminder_73 : decode cX1_writeReminder 73 = .ok (.iload_n 3, 1) := by decide +kernel
theorem dX1_writeReminder_74 : decode cX1_writeReminder 74 = .ok (.i2l, 1) := by decide +kernel
theorem dX1_writeReminder_75 : decode cX1_writeReminder 75 = .ok (.aload_n 0, 1) := by decide +kernel
theorem dX1_writeReminder_76 : decode cX1_writeReminder 76 = .ok (.getfield 12, 3) := by decide +kernel
theorem dX1_writeReminder_79 : decode cX1_writeReminder 79 = .ok (.getfield 179, 3) := by decide +kernel
theorem dX1_writeReminder_82 : decode cX1_writeReminder 82 = .ok (.i2l, 1) := by decide +kernel
theorem dX1_writeReminder_83 : decode cX1_writeReminder 83 = .ok (.lmul, 1) := by decide +kernel
theorem dX1_writeReminder_84 : decode cX1_writeReminder 84 = .ok (.ldc2_w 182, 3) := by decide +kernel
theorem dX1_writeReminder_87 : decode cX1_writeReminder 87 = .ok (.ldiv, 1) := by decide +kernel
theorem dX1_writeReminder_88 : decode cX1_writeReminder 88 = .ok (.lstore 4, 2) := by decide +kernel
theorem dX1_writeReminder_90 : decode cX1_writeReminder 90 = .ok (.aload_n 0, 1) := by decide +kernel
theorem dX1_writeReminder_91 : decode cX1_writeReminder 91 = .ok (.aload_n 2, 1) := by decide +kernel
theorem dX1_writeReminder_92 : decode cX1_writeReminder 92 = .ok (.iconst 5, 1) := by decide +kernel
theorem dX1_writeReminder_93 : decode cX1_writeReminder 93 = .ok (.aload_n 0, 1) := by decide +kernel
theorem dX1_writeReminder_94 : decode cX1_writeReminder 94 = .ok (.getfield 48, 3) := by decide +kernel
theorem dX1_writeReminder_97 : decode cX1_writeReminder 97 = .ok (.aload_n 0, 1) := by decide +kernel
theorem dX1_writeReminder_98 : decode cX1_writeReminder 98 = .ok (.getfield 48, 3) := by decide +kernel
theorem dX1_writeReminder_101 : decode cX1_writeReminder 101 = .ok (.ldc2_w 184, 3) := by decide +kernel
theorem dX1_writeReminder_104 : decode cX1_writeReminder 104 = .ok (.lload 4, 2) := by decide +kernel
theorem dX1_writeReminder_106 : decode cX1_writeReminder 106 = .ok (.invokestatic 186, 3) := by decide +kernel
theorem dX1_writeReminder_109 : decode cX1_writeReminder 109 = .ok (.l2i, 1) := by decide +kernel
theorem dX1_writeReminder_110 : decode cX1_writeReminder 110 = .ok (.invokevirtual 97, 3) := by decide +kernel
theorem dX1_writeReminder_113 : decode cX1_writeReminder 113 = .ok (.ireturn, 1) := by decide +kernel
theorem dX1_turnRound_0 : decode cX1_turnRound 0 = .ok (.aload_n 0, 1) := by decide +kernel
theorem dX1_turnRound_1 : decode cX1_turnRound 1 = .ok (.getfield 27, 3) := by decide +kernel
theorem dX1_turnRound_4 : decode cX1_turnRound 4 = .ok (.iload_n 1, 1) := by decide +kernel
theorem dX1_turnRound_5 : decode cX1_turnRound 5 = .ok (.invokevirtual 192, 3) := by decide +kernel
theorem dX1_turnRound_8 : decode cX1_turnRound 8 = .ok (.ifCond .ne 5, 3) := by decide +kernel
theorem dX1_turnRound_11 : decode cX1_turnRound 11 = .ok (.iconst (-1), 1) := by decide +kernel
theorem dX1_turnRound_12 : decode cX1_turnRound 12 = .ok (.ireturn, 1) := by decide +kernel
theorem dX1_turnRound_13 : decode cX1_turnRound 13 = .ok (.aload_n 0, 1) := by decide +kernel
theorem dX1_turnRound_14 : decode cX1_turnRound 14 = .ok (.getfield 27, 3) := by decide +kernel
theorem dX1_turnRound_17 : decode cX1_turnRound 17 = .ok (.getfield 195, 3) := by decide +kernel
theorem dX1_turnRound_20 : decode cX1_turnRound 20 = .ok (.iload_n 1, 1) := by decide +kernel
theorem dX1_turnRound_21 : decode cX1_turnRound 21 = .ok (.iaload, 1) := by decide +kernel
theorem dX1_turnRound_22 : decode cX1_turnRound 22 = .ok (.iconst 4, 1) := by decide +kernel
theorem dX1_turnRound_23 : decode cX1_turnRound 23 = .ok (.if_icmp .eq 15, 3) := by decide +kernel
theorem dX1_turnRound_26 : decode cX1_turnRound 26 = .ok (.aload_n 0, 1) := by decide +kernel
theorem dX1_turnRound_27 : decode cX1_turnRound 27 = .ok (.getfield 27, 3) := by decide +kernel
theorem dX1_turnRound_30 : decode cX1_turnRound 30 = .ok (.getfield 199, 3) := by decide +kernel
theorem dX1_turnRound_33 : decode cX1_turnRound 33 = .ok (.iload_n 1, 1) := by decide +kernel
theorem dX1_turnRound_34 : decode cX1_turnRound 34 = .ok (.iaload, 1) := by decide +kernel
theorem dX1_turnRound_35 : decode cX1_turnRound 35 = .ok (.ifCond .lt 6, 3) := by decide +kernel
theorem dX1_turnRound_38 : decode cX1_turnRound 38 = .ok (.bipush (-2), 2) := by decide +kernel
theorem dX1_turnRound_40 : decode cX1_turnRound 40 = .ok (.ireturn, 1) := by decide +kernel
theorem dX1_turnRound_41 : decode cX1_turnRound 41 = .ok (.aload_n 0, 1) := by decide +kernel
theorem dX1_turnRound_42 : decode cX1_turnRound 42 = .ok (.getfield 27, 3) := by decide +kernel
theorem dX1_turnRound_45 : decode cX1_turnRound 45 = .ok (.iconst 1, 1) := by decide +kernel
theorem dX1_turnRound_46 : decode cX1_turnRound 46 = .ok (.invokevirtual 137, 3) := by decide +kernel
theorem dX1_turnRound_49 : decode cX1_turnRound 49 = .ok (.ifCond .ne 6, 3) := by decide +kernel
theorem dX1_turnRound_52 : decode cX1_turnRound 52 = .ok (.bipush (-3), 2) := by decide +kernel
theorem dX1_turnRound_54 : decode cX1_turnRound 54 = .ok (.ireturn, 1) := by decide +kernel
theorem dX1_turnRound_55 : decode cX1_turnRound 55 = .ok (.aload_n 0, 1) := by decide +kernel
theorem dX1_turnRound_56 : decode cX1_turnRound 56 = .ok (.getfield 27, 3) := by decide +kernel
theorem dX1_turnRound_59 : decode cX1_turnRound 59 = .ok (.getfield 202, 3) := by decide +kernel
theorem dX1_turnRound_62 : decode cX1_turnRound 62 = .ok (.iload_n 1, 1) := by decide +kernel
theorem dX1_turnRound_63 : decode cX1_turnRound 63 = .ok (.iaload, 1) := by decide +kernel
theorem dX1_turnRound_64 : decode cX1_turnRound 64 = .ok (.istore_n 2, 1) := by decide +kernel
theorem dX1_turnRound_65 : decode cX1_turnRound 65 = .ok (.aload_n 0, 1) := by decide +kernel
theorem dX1_turnRound_66 : decode cX1_turnRound 66 = .ok (.getfield 27, 3) := by decide +kernel
theorem dX1_turnRound_69 : decode cX1_turnRound 69 = .ok (.getfield 205, 3) := by decide +kernel
theorem dX1_turnRound_72 : decode cX1_turnRound 72 = .ok (.iload_n 1, 1) := by decide +kernel
theorem dX1_turnRound_73 : decode cX1_turnRound 73 = .ok (.iaload, 1) := by decide +kernel
theorem dX1_turnRound_74 : decode cX1_turnRound 74 = .ok (.ineg, 1) := by decide +kernel
theorem dX1_turnRound_75 : decode cX1_turnRound 75 = .ok (.istore_n 3, 1) := by decide +kernel
theorem dX1_turnRound_76 : decode cX1_turnRound 76 = .ok (.iload_n 2, 1) := by decide +kernel
theorem dX1_turnRound_77 : decode cX1_turnRound 77 = .ok (.invokestatic 52, 3) := by decide +kernel
theorem dX1_turnRound_80 : decode cX1_turnRound 80 = .ok (.ifCond .eq 17, 3) := by decide +kernel
theorem dX1_turnRound_83 : decode cX1_turnRound 83 = .ok (.aload_n 0, 1) := by decide +kernel
theorem dX1_turnRound_84 : decode cX1_turnRound 84 = .ok (.getfield 20, 3) := by decide +kernel
theorem dX1_turnRound_87 : decode cX1_turnRound 87 = .ok (.iload_n 2, 1) := by decide +kernel
theorem dX1_turnRound_88 : decode cX1_turnRound 88 = .ok (.aaload, 1) := by decide +kernel
theorem dX1_turnRound_89 : decode cX1_turnRound 89 = .ok (.getfield 83, 3) := by decide +kernel
theorem dX1_turnRound_92 : decode cX1_turnRound 92 = .ok (.iload_n 3, 1) := by decide +kernel
theorem dX1_turnRound_93 : decode cX1_turnRound 93 = .ok (.iadd, 1) := by decide +kernel
theorem dX1_turnRound_94 : decode cX1_turnRound 94 = .ok (.ifCond .ge 6, 3) := by decide +kernel
theorem dX1_turnRound_97 : decode cX1_turnRound 97 = .ok (.bipush (-4), 2) := by decide +kernel
theorem dX1_turnRound_99 : decode cX1_turnRound 99 = .ok (.ireturn, 1) := by decide +kernel
theorem dX1_turnRound_100 : decode cX1_turnRound 100 = .ok (.aload_n 0, 1) := by decide +kernel
theorem dX1_turnRound_101 : decode cX1_turnRound 101 = .ok (.getfield 27, 3) := by decide +kernel
theorem dX1_turnRound_104 : decode cX1_turnRound 104 = .ok (.iconst 4, 1) := by decide +kernel
theorem dX1_turnRound_105 : decode cX1_turnRound 105 = .ok (.iload_n 2, 1) := by decide +kernel
theorem dX1_turnRound_106 : decode cX1_turnRound 106 = .ok (.aload_n 0, 1) := by decide +kernel
theorem dX1_turnRound_107 : decode cX1_turnRound 107 = .ok (.getfield 48, 3) := by decide +kernel
theorem dX1_turnRound_110 : decode cX1_turnRound 110 = .ok (.iload_n 3, 1) := by decide +kernel
theorem dX1_turnRound_111 : decode cX1_turnRound 111 = .ok (.invokevirtual 69, 3) := by decide +kernel
theorem dX1_turnRound_114 : decode cX1_turnRound 114 = .ok (.istore 4, 2) := by decide +kernel
theorem dX1_turnRound_116 : decode cX1_turnRound 116 = .ok (.aload_n 0, 1) := by decide +kernel
theorem dX1_turnRound_117 : decode cX1_turnRound 117 = .ok (.getfield 27, 3) := by decide +kernel
theorem dX1_turnRound_120 : decode cX1_turnRound 120 = .ok (.iload 4, 2) := by decide +kernel
theorem dX1_turnRound_122 : decode cX1_turnRound 122 = .ok (.aload_n 0, 1) := by decide +kernel
theorem dX1_turnRound_123 : decode cX1_turnRound 123 = .ok (.getfield 27, 3) := by decide +kernel
theorem dX1_turnRound_126 : decode cX1_turnRound 126 = .ok (.getfield 208, 3) := by decide +kernel
theorem dX1_turnRound_129 : decode cX1_turnRound 129 = .ok (.iload_n 1, 1) := by decide +kernel
theorem dX1_turnRound_130 : decode cX1_turnRound 130 = .ok (.iaload, 1) := by decide +kernel
theorem dX1_turnRound_131 : decode cX1_turnRound 131 = .ok (.aload_n 0, 1) := by decide +kernel
theorem dX1_turnRound_132 : decode cX1_turnRound 132 = .ok (.getfield 27, 3) := by decide +kernel
theorem dX1_turnRound_135 : decode cX1_turnRound 135 = .ok (.getfield 211, 3) := by decide +kernel
theorem dX1_turnRound_138 : decode cX1_turnRound 138 = .ok (.iload_n 1, 1) := by decide +kernel
theorem dX1_turnRound_139 : decode cX1_turnRound 139 = .ok (.iaload, 1) := by decide +kernel
theorem dX1_turnRound_140 : decode cX1_turnRound 140 = .ok (.aload_n 0, 1) := by decide +kernel
theorem dX1_turnRound_141 : decode cX1_turnRound 141 = .ok (.getfield 27, 3) := by decide +kernel
theorem dX1_turnRound_144 : decode cX1_turnRound 144 = .ok (.getfield 214, 3) := by decide +kernel
theorem dX1_turnRound_147 : decode cX1_turnRound 147 = .ok (.iload_n 1, 1) := by decide +kernel
theorem dX1_turnRound_148 : decode cX1_turnRound 148 = .ok (.iaload, 1) := by decide +kernel
theorem dX1_turnRound_149 : decode cX1_turnRound 149 = .ok (.aload_n 0, 1) := by decide +kernel
theorem dX1_turnRound_150 : decode cX1_turnRound 150 = .ok (.getfield 27, 3) := by decide +kernel
theorem dX1_turnRound_153 : decode cX1_turnRound 153 = .ok (.getfield 217, 3) := by decide +kernel
theorem dX1_turnRound_156 : decode cX1_turnRound 156 = .ok (.iload_n 1, 1) := by decide +kernel
theorem dX1_turnRound_157 : decode cX1_turnRound 157 = .ok (.iaload, 1) := by decide +kernel
theorem dX1_turnRound_158 : decode cX1_turnRound 158 = .ok (.invokevirtual 79, 3) := by decide +kernel
theorem dX1_turnRound_161 : decode cX1_turnRound 161 = .ok (.aload_n 0, 1) := by decide +kernel
theorem dX1_turnRound_162 : decode cX1_turnRound 162 = .ok (.getfield 27, 3) := by decide +kernel
theorem dX1_turnRound_165 : decode cX1_turnRound 165 = .ok (.iload 4, 2) := by decide +kernel
theorem dX1_turnRound_167 : decode cX1_turnRound 167 = .ok (.iload_n 1, 1) := by decide +kernel
theorem dX1_turnRound_168 : decode cX1_turnRound 168 = .ok (.invokevirtual 220, 3) := by decide +kernel
theorem dX1_turnRound_171 : decode cX1_turnRound 171 = .ok (.aload_n 0, 1) := by decide +kernel
theorem dX1_turnRound_172 : decode cX1_turnRound 172 = .ok (.getfield 20, 3) := by decide +kernel
theorem dX1_turnRound_175 : decode cX1_turnRound 175 = .ok (.iload_n 2, 1) := by decide +kernel
theorem dX1_turnRound_176 : decode cX1_turnRound 176 = .ok (.aaload, 1) := by decide +kernel
theorem dX1_turnRound_177 : decode cX1_turnRound 177 = .ok (.dup, 1) := by decide +kernel
theorem dX1_turnRound_178 : decode cX1_turnRound 178 = .ok (.getfield 83, 3) := by decide +kernel
theorem dX1_turnRound_181 : decode cX1_turnRound 181 = .ok (.iload_n 3, 1) := by decide +kernel
theorem dX1_turnRound_182 : decode cX1_turnRound 182 = .ok (.iadd, 1) := by decide +kernel
theorem dX1_turnRound_183 : decode cX1_turnRound 183 = .ok (.putfield 83, 3) := by decide +kernel
theorem dX1_turnRound_186 : decode cX1_turnRound 186 = .ok (.iload 4, 2) := by decide +kernel
theorem dX1_turnRound_188 : decode cX1_turnRound 188 = .ok (.ireturn, 1) := by decide +kernel
theorem dX1_canPassDay_0 : decode cX1_canPassDay 0 = .ok (.aload_n 0, 1) := by decide +kernel
theorem dX1_canPassDay_1 : decode cX1_canPassDay 1 = .ok (.getfield 48, 3) := by decide +kernel
theorem dX1_canPassDay_4 : decode cX1_canPassDay 4 = .ok (.iconst 1, 1) := by decide +kernel
theorem dX1_canPassDay_5 : decode cX1_canPassDay 5 = .ok (.iadd, 1) := by decide +kernel
theorem dX1_canPassDay_6 : decode cX1_canPassDay 6 = .ok (.istore_n 1, 1) := by decide +kernel
theorem dX1_canPassDay_7 : decode cX1_canPassDay 7 = .ok (.iload_n 1, 1) := by decide +kernel
theorem dX1_canPassDay_8 : decode cX1_canPassDay 8 = .ok (.sipush 3652, 3) := by decide +kernel
theorem dX1_canPassDay_11 : decode cX1_canPassDay 11 = .ok (.if_icmp .le 5, 3) := by decide +kernel
theorem dX1_canPassDay_14 : decode cX1_canPassDay 14 = .ok (.iconst 0, 1) := by decide +kernel
theorem dX1_canPassDay_15 : decode cX1_canPassDay 15 = .ok (.ireturn, 1) := by decide +kernel
theorem dX1_canPassDay_16 : decode cX1_canPassDay 16 = .ok (.iconst 0, 1) := by decide +kernel
theorem dX1_canPassDay_17 : decode cX1_canPassDay 17 = .ok (.istore_n 2, 1) := by decide +kernel
theorem dX1_canPassDay_18 : decode cX1_canPassDay 18 = .ok (.iconst 0, 1) := by decide +kernel
theorem dX1_canPassDay_19 : decode cX1_canPassDay 19 = .ok (.istore_n 3, 1) := by decide +kernel
theorem dX1_canPassDay_20 : decode cX1_canPassDay 20 = .ok (.iload_n 3, 1) := by decide +kernel
theorem dX1_canPassDay_21 : decode cX1_canPassDay 21 = .ok (.bipush 6, 2) := by decide +kernel
theorem dX1_canPassDay_23 : decode cX1_canPassDay 23 = .ok (.if_icmp .ge 58, 3) := by decide +kernel
theorem dX1_canPassDay_26 : decode cX1_canPassDay 26 = .ok (.aload_n 0, 1) := by decide +kernel
theorem dX1_canPassDay_27 : decode cX1_canPassDay 27 = .ok (.iload_n 3, 1) := by decide +kernel
theorem dX1_canPassDay_28 : decode cX1_canPassDay 28 = .ok (.invokevirtual 151, 3) := by decide +kernel
theorem dX1_canPassDay_31 : decode cX1_canPassDay 31 = .ok (.ifCond .eq 44, 3) := by decide +kernel
theorem dX1_canPassDay_34 : decode cX1_canPassDay 34 = .ok (.aload_n 0, 1) := by decide +kernel
theorem dX1_canPassDay_35 : decode cX1_canPassDay 35 = .ok (.getfield 20, 3) := by decide +kernel
theorem dX1_canPassDay_38 : decode cX1_canPassDay 38 = .ok (.iload_n 3, 1) := by decide +kernel
theorem dX1_canPassDay_39 : decode cX1_canPassDay 39 = .ok (.aaload, 1) := by decide +kernel
theorem dX1_canPassDay_40 : decode cX1_canPassDay 40 = .ok (.getfield 86, 3) := by decide +kernel
theorem dX1_canPassDay_43 : decode cX1_canPassDay 43 = .ok (.iload_n 1, 1) := by decide +kernel
theorem dX1_canPassDay_44 : decode cX1_canPassDay 44 = .ok (.if_icmp .ne 31, 3) := by decide +kernel
theorem dX1_canPassDay_47 : decode cX1_canPassDay 47 = .ok (.iinc 2 2, 3) := by decide +kernel
theorem dX1_canPassDay_50 : decode cX1_canPassDay 50 = .ok (.aload_n 0, 1) := by decide +kernel
theorem dX1_canPassDay_51 : decode cX1_canPassDay 51 = .ok (.getfield 31, 3) := by decide +kernel
theorem dX1_canPassDay_54 : decode cX1_canPassDay 54 = .ok (.aload_n 0, 1) := by decide +kernel
theorem dX1_canPassDay_55 : decode cX1_canPassDay 55 = .ok (.getfield 20, 3) := by decide +kernel
theorem dX1_canPassDay_58 : decode cX1_canPassDay 58 = .ok (.iload_n 3, 1) := by decide +kernel
theorem dX1_canPassDay_59 : decode cX1_canPassDay 59 = .ok (.aaload, 1) := by decide +kernel
theorem dX1_canPassDay_60 : decode cX1_canPassDay 60 = .ok (.getfield 117, 3) := by decide +kernel
theorem dX1_canPassDay_63 : decode cX1_canPassDay 63 = .ok (.iload_n 1, 1) := by decide +kernel
theorem dX1_canPassDay_64 : decode cX1_canPassDay 64 = .ok (.invokevirtual 128, 3) := by decide +kernel
theorem dX1_canPassDay_67 : decode cX1_canPassDay 67 = .ok (.sipush 3652, 3) := by decide +kernel
theorem dX1_canPassDay_70 : decode cX1_canPassDay 70 = .ok (.if_icmp .le 5, 3) := by decide +kernel
theorem dX1_canPassDay_73 : decode cX1_canPassDay 73 = .ok (.iconst 0, 1) := by decide +kernel
theorem dX1_canPassDay_74 : decode cX1_canPassDay 74 = .ok (.ireturn, 1) := by decide +kernel
theorem dX1_canPassDay_75 : decode cX1_canPassDay 75 = .ok (.iinc 3 1, 3) := by decide +kernel
theorem dX1_canPassDay_78 : decode cX1_canPassDay 78 = .ok (.goto (-58), 3) := by decide +kernel
theorem dX1_canPassDay_81 : decode cX1_canPassDay 81 = .ok (.aload_n 0, 1) := by decide +kernel
theorem dX1_canPassDay_82 : decode cX1_canPassDay 82 = .ok (.getfield 27, 3) := by decide +kernel
theorem dX1_canPassDay_85 : decode cX1_canPassDay 85 = .ok (.iload_n 2, 1) := by decide +kernel
theorem dX1_canPassDay_86 : decode cX1_canPassDay 86 = .ok (.invokevirtual 137, 3) := by decide +kernel
theorem dX1_canPassDay_89 : decode cX1_canPassDay 89 = .ok (.ireturn, 1) := by decide +kernel
theorem dX1_passDay_0 : decode cX1_passDay 0 = .ok (.aload_n 0, 1) := by decide +kernel
theorem dX1_passDay_1 : decode cX1_passDay 1 = .ok (.dup, 1) := by decide +kernel
theorem dX1_passDay_2 : decode cX1_passDay 2 = .ok (.getfield 48, 3) := by decide +kernel
theorem dX1_passDay_5 : decode cX1_passDay 5 = .ok (.iconst 1, 1) := by decide +kernel
theorem dX1_passDay_6 : decode cX1_passDay 6 = .ok (.iadd, 1) := by decide +kernel
theorem dX1_passDay_7 : decode cX1_passDay 7 = .ok (.putfield 48, 3) := by decide +kernel
theorem dX1_passDay_10 : decode cX1_passDay 10 = .ok (.iconst 0, 1) := by decide +kernel
theorem dX1_passDay_11 : decode cX1_passDay 11 = .ok (.istore_n 1, 1) := by decide +kernel
theorem dX1_passDay_12 : decode cX1_passDay 12 = .ok (.iload_n 1, 1) := by decide +kernel
theorem dX1_passDay_13 : decode cX1_passDay 13 = .ok (.bipush 6, 2) := by decide +kernel
theorem dX1_passDay_15 : decode cX1_passDay 15 = .ok (.if_icmp .ge 58, 3) := by decide +kernel
theorem dX1_passDay_18 : decode cX1_passDay 18 = .ok (.aload_n 0, 1) := by decide +kernel
theorem dX1_passDay_19 : decode cX1_passDay 19 = .ok (.getfield 20, 3) := by decide +kernel
theorem dX1_passDay_22 : decode cX1_passDay 22 = .ok (.iload_n 1, 1) := by decide +kernel
theorem dX1_passDay_23 : decode cX1_passDay 23 = .ok (.aaload, 1) := by decide +kernel
theorem dX1_passDay_24 : decode cX1_passDay 24 = .ok (.astore_n 2, 1) := by decide +kernel
theorem dX1_passDay_25 : decode cX1_passDay 25 = .ok (.aload_n 0, 1) := by decide +kernel
theorem dX1_passDay_26 : decode cX1_passDay 26 = .ok (.iload_n 1, 1) := by decide +kernel
theorem dX1_passDay_27 : decode cX1_passDay 27 = .ok (.invokevirtual 151, 3) := by decide +kernel
theorem dX1_passDay_30 : decode cX1_passDay 30 = .ok (.ifCond .eq 37, 3) := by decide +kernel
theorem dX1_passDay_33 : decode cX1_passDay 33 = .ok (.aload_n 2, 1) := by decide +kernel
theorem dX1_passDay_34 : decode cX1_passDay 34 = .ok (.getfield 86, 3) := by decide +kernel
theorem dX1_passDay_37 : decode cX1_passDay 37 = .ok (.aload_n 0, 1) := by decide +kernel
theorem dX1_passDay_38 : decode cX1_passDay 38 = .ok (.getfield 48, 3) := by decide +kernel
theorem dX1_passDay_41 : decode cX1_passDay 41 = .ok (.if_icmp .ne 26, 3) := by decide +kernel
theorem dX1_passDay_44 : decode cX1_passDay 44 = .ok (.aload_n 0, 1) := by decide +kernel
theorem dX1_passDay_45 : decode cX1_passDay 45 = .ok (.aload_n 2, 1) := by decide +kernel
theorem dX1_passDay_46 : decode cX1_passDay 46 = .ok (.invokevirtual 162, 3) := by decide +kernel
theorem dX1_passDay_49 : decode cX1_passDay 49 = .ok (.pop, 1) := by decide +kernel
theorem dX1_passDay_50 : decode cX1_passDay 50 = .ok (.aload_n 0, 1) := by decide +kernel
theorem dX1_passDay_51 : decode cX1_passDay 51 = .ok (.aload_n 2, 1) := by decide +kernel
theorem dX1_passDay_52 : decode cX1_passDay 52 = .ok (.aload_n 2, 1) := by decide +kernel
theorem dX1_passDay_53 : decode cX1_passDay 53 = .ok (.getfield 73, 3) := by decide +kernel
theorem dX1_passDay_56 : decode cX1_passDay 56 = .ok (.iconst 1, 1) := by decide +kernel
theorem dX1_passDay_57 : decode cX1_passDay 57 = .ok (.iadd, 1) := by decide +kernel
theorem dX1_passDay_58 : decode cX1_passDay 58 = .ok (.invokevirtual 143, 3) := by decide +kernel
theorem dX1_passDay_61 : decode cX1_passDay 61 = .ok (.aload_n 0, 1) := by decide +kernel
theorem dX1_passDay_62 : decode cX1_passDay 62 = .ok (.aload_n 2, 1) := by decide +kernel
theorem dX1_passDay_63 : decode cX1_passDay 63 = .ok (.invokevirtual 147, 3) := by decide +kernel
theorem dX1_passDay_66 : decode cX1_passDay 66 = .ok (.pop, 1) := by decide +kernel
theorem dX1_passDay_67 : decode cX1_passDay 67 = .ok (.iinc 1 1, 3) := by decide +kernel
theorem dX1_passDay_70 : decode cX1_passDay 70 = .ok (.goto (-58), 3) := by decide +kernel
theorem dX1_passDay_73 : decode cX1_passDay 73 = .ok (.return_, 1) := by decide +kernel
theorem dX1_passDays_0 : decode cX1_passDays 0 = .ok (.iload_n 1, 1) := by decide +kernel
theorem dX1_passDays_1 : decode cX1_passDays 1 = .ok (.iconst 1, 1) := by decide +kernel
theorem dX1_passDays_2 : decode cX1_passDays 2 = .ok (.if_icmp .lt 10, 3) := by decide +kernel
theorem dX1_passDays_5 : decode cX1_passDays 5 = .ok (.iload_n 1, 1) := by decide +kernel
theorem dX1_passDays_6 : decode cX1_passDays 6 = .ok (.sipush 400, 3) := by decide +kernel
theorem dX1_passDays_9 : decode cX1_passDays 9 = .ok (.if_icmp .le 5, 3) := by decide +kernel
theorem dX1_passDays_12 : decode cX1_passDays 12 = .ok (.iconst (-1), 1) := by decide +kernel
theorem dX1_passDays_13 : decode cX1_passDays 13 = .ok (.ireturn, 1) := by decide +kernel
theorem dX1_passDays_14 : decode cX1_passDays 14 = .ok (.iconst 0, 1) := by decide +kernel
theorem dX1_passDays_15 : decode cX1_passDays 15 = .ok (.istore_n 2, 1) := by decide +kernel
theorem dX1_passDays_16 : decode cX1_passDays 16 = .ok (.iload_n 2, 1) := by decide +kernel
theorem dX1_passDays_17 : decode cX1_passDays 17 = .ok (.iload_n 1, 1) := by decide +kernel
theorem dX1_passDays_18 : decode cX1_passDays 18 = .ok (.if_icmp .ge 20, 3) := by decide +kernel
theorem dX1_passDays_21 : decode cX1_passDays 21 = .ok (.aload_n 0, 1) := by decide +kernel
theorem dX1_passDays_22 : decode cX1_passDays 22 = .ok (.invokevirtual 224, 3) := by decide +kernel
theorem dX1_passDays_25 : decode cX1_passDays 25 = .ok (.ifCond .eq 13, 3) := by decide +kernel
theorem dX1_passDays_28 : decode cX1_passDays 28 = .ok (.aload_n 0, 1) := by decide +kernel
theorem dX1_passDays_29 : decode cX1_passDays 29 = .ok (.invokevirtual 228, 3) := by decide +kernel
theorem dX1_passDays_32 : decode cX1_passDays 32 = .ok (.iinc 2 1, 3) := by decide +kernel
theorem dX1_passDays_35 : decode cX1_passDays 35 = .ok (.goto (-19), 3) := by decide +kernel
theorem dX1_passDays_38 : decode cX1_passDays 38 = .ok (.iload_n 2, 1) := by decide +kernel
theorem dX1_passDays_39 : decode cX1_passDays 39 = .ok (.ireturn, 1) := by decide +kernel
theorem dX1_hasRate_0 : decode cX1_hasRate 0 = .ok (.aload_n 0, 1) := by decide +kernel
theorem dX1_hasRate_1 : decode cX1_hasRate 1 = .ok (.getfield 27, 3) := by decide +kernel
theorem dX1_hasRate_4 : decode cX1_hasRate 4 = .ok (.iload_n 1, 1) := by decide +kernel
theorem dX1_hasRate_5 : decode cX1_hasRate 5 = .ok (.iload_n 2, 1) := by decide +kernel
theorem dX1_hasRate_6 : decode cX1_hasRate 6 = .ok (.invokevirtual 231, 3) := by decide +kernel
theorem dX1_hasRate_9 : decode cX1_hasRate 9 = .ok (.ifCond .eq 27, 3) := by decide +kernel
theorem dX1_hasRate_12 : decode cX1_hasRate 12 = .ok (.aload_n 0, 1) := by decide +kernel
theorem dX1_hasRate_13 : decode cX1_hasRate 13 = .ok (.getfield 12, 3) := by decide +kernel
theorem dX1_hasRate_16 : decode cX1_hasRate 16 = .ok (.aload_n 0, 1) := by decide +kernel
theorem dX1_hasRate_17 : decode cX1_hasRate 17 = .ok (.getfield 27, 3) := by decide +kernel
theorem dX1_hasRate_20 : decode cX1_hasRate 20 = .ok (.getfield 234, 3) := by decide +kernel
theorem dX1_hasRate_23 : decode cX1_hasRate 23 = .ok (.iload_n 1, 1) := by decide +kernel
theorem dX1_hasRate_24 : decode cX1_hasRate 24 = .ok (.iaload, 1) := by decide +kernel
theorem dX1_hasRate_25 : decode cX1_hasRate 25 = .ok (.invokevirtual 237, 3) := by decide +kernel
theorem dX1_hasRate_28 : decode cX1_hasRate 28 = .ok (.iload_n 3, 1) := by decide +kernel
theorem dX1_hasRate_29 : decode cX1_hasRate 29 = .ok (.if_icmp .ne 7, 3) := by decide +kernel
theorem dX1_hasRate_32 : decode cX1_hasRate 32 = .ok (.iconst 1, 1) := by decide +kernel
theorem dX1_hasRate_33 : decode cX1_hasRate 33 = .ok (.goto 4, 3) := by decide +kernel
theorem dX1_hasRate_36 : decode cX1_hasRate 36 = .ok (.iconst 0, 1) := by decide +kernel
theorem dX1_hasRate_37 : decode cX1_hasRate 37 = .ok (.ireturn, 1) := by decide +kernel
theorem dX1_taxOf_0 : decode cX1_taxOf 0 = .ok (.aload_n 0, 1) := by decide +kernel
theorem dX1_taxOf_1 : decode cX1_taxOf 1 = .ok (.getfield 27, 3) := by decide +kernel
theorem dX1_taxOf_4 : decode cX1_taxOf 4 = .ok (.iload_n 1, 1) := by decide +kernel
theorem dX1_taxOf_5 : decode cX1_taxOf 5 = .ok (.invokevirtual 192, 3) := by decide +kernel
theorem dX1_taxOf_8 : decode cX1_taxOf 8 = .ok (.ifCond .ne 6, 3) := by decide +kernel
theorem dX1_taxOf_11 : decode cX1_taxOf 11 = .ok (.ldc 154, 2) := by decide +kernel
theorem dX1_taxOf_13 : decode cX1_taxOf 13 = .ok (.ireturn, 1) := by decide +kernel
theorem dX1_taxOf_14 : decode cX1_taxOf 14 = .ok (.aload_n 0, 1) := by decide +kernel
theorem dX1_taxOf_15 : decode cX1_taxOf 15 = .ok (.getfield 27, 3) := by decide +kernel
theorem dX1_taxOf_18 : decode cX1_taxOf 18 = .ok (.getfield 202, 3) := by decide +kernel
theorem dX1_taxOf_21 : decode cX1_taxOf 21 = .ok (.iload_n 1, 1) := by decide +kernel
theorem dX1_taxOf_22 : decode cX1_taxOf 22 = .ok (.iaload, 1) := by decide +kernel
theorem dX1_taxOf_23 : decode cX1_taxOf 23 = .ok (.istore_n 2, 1) := by decide +kernel
theorem dX1_taxOf_24 : decode cX1_taxOf 24 = .ok (.aload_n 0, 1) := by decide +kernel
theorem dX1_taxOf_25 : decode cX1_taxOf 25 = .ok (.getfield 12, 3) := by decide +kernel
theorem dX1_taxOf_28 : decode cX1_taxOf 28 = .ok (.aload_n 0, 1) := by decide +kernel
theorem dX1_taxOf_29 : decode cX1_taxOf 29 = .ok (.getfield 27, 3) := by decide +kernel
theorem dX1_taxOf_32 : decode cX1_taxOf 32 = .ok (.getfield 234, 3) := by decide +kernel
theorem dX1_taxOf_35 : decode cX1_taxOf 35 = .ok (.iload_n 1, 1) := by decide +kernel
theorem dX1_taxOf_36 : decode cX1_taxOf 36 = .ok (.iaload, 1) := by decide +kernel
theorem dX1_taxOf_37 : decode cX1_taxOf 37 = .ok (.invokevirtual 237, 3) := by decide +kernel
theorem dX1_taxOf_40 : decode cX1_taxOf 40 = .ok (.istore_n 3, 1) := by decide +kernel
theorem dX1_taxOf_41 : decode cX1_taxOf 41 = .ok (.lconst 0, 1) := by decide +kernel
theorem dX1_taxOf_42 : decode cX1_taxOf 42 = .ok (.lstore 4, 2) := by decide +kernel
theorem dX1_taxOf_44 : decode cX1_taxOf 44 = .ok (.iconst 0, 1) := by decide +kernel
theorem dX1_taxOf_45 : decode cX1_taxOf 45 = .ok (.istore 6, 2) := by decide +kernel
theorem dX1_taxOf_47 : decode cX1_taxOf 47 = .ok (.iload 6, 2) := by decide +kernel
theorem dX1_taxOf_49 : decode cX1_taxOf 49 = .ok (.iload_n 1, 1) := by decide +kernel
theorem dX1_taxOf_50 : decode cX1_taxOf 50 = .ok (.if_icmp .ge 36, 3) := by decide +kernel
theorem dX1_taxOf_53 : decode cX1_taxOf 53 = .ok (.aload_n 0, 1) := by decide +kernel
theorem dX1_taxOf_54 : decode cX1_taxOf 54 = .ok (.iload 6, 2) := by decide +kernel
theorem dX1_taxOf_56 : decode cX1_taxOf 56 = .ok (.iload_n 2, 1) := by decide +kernel
theorem dX1_taxOf_57 : decode cX1_taxOf 57 = .ok (.iload_n 3, 1) := by decide +kernel
theorem dX1_taxOf_58 : decode cX1_taxOf 58 = .ok (.invokevirtual 240, 3) := by decide +kernel
theorem dX1_taxOf_61 : decode cX1_taxOf 61 = .ok (.ifCond .eq 19, 3) := by decide +kernel
theorem dX1_taxOf_64 : decode cX1_taxOf 64 = .ok (.lload 4, 2) := by decide +kernel
theorem dX1_taxOf_66 : decode cX1_taxOf 66 = .ok (.aload_n 0, 1) := by decide +kernel
theorem dX1_taxOf_67 : decode cX1_taxOf 67 = .ok (.getfield 27, 3) := by decide +kernel
theorem dX1_taxOf_70 : decode cX1_taxOf 70 = .ok (.getfield 205, 3) := by decide +kernel
theorem dX1_taxOf_73 : decode cX1_taxOf 73 = .ok (.iload 6, 2) := by decide +kernel
theorem dX1_taxOf_75 : decode cX1_taxOf 75 = .ok (.iaload, 1) := by decide +kernel
theorem dX1_taxOf_76 : decode cX1_taxOf 76 = .ok (.i2l, 1) := by decide +kernel
theorem dX1_taxOf_77 : decode cX1_taxOf 77 = .ok (.ladd, 1) := by decide +kernel
theorem dX1_taxOf_78 : decode cX1_taxOf 78 = .ok (.lstore 4, 2) := by decide +kernel
theorem dX1_taxOf_80 : decode cX1_taxOf 80 = .ok (.iinc 6 1, 3) := by decide +kernel
theorem dX1_taxOf_83 : decode cX1_taxOf 83 = .ok (.goto (-36), 3) := by decide +kernel
theorem dX1_taxOf_86 : decode cX1_taxOf 86 = .ok (.lload 4, 2) := by decide +kernel
theorem dX1_taxOf_88 : decode cX1_taxOf 88 = .ok (.aload_n 0, 1) := by decide +kernel
theorem dX1_taxOf_89 : decode cX1_taxOf 89 = .ok (.getfield 27, 3) := by decide +kernel
theorem dX1_taxOf_92 : decode cX1_taxOf 92 = .ok (.getfield 205, 3) := by decide +kernel
theorem dX1_taxOf_95 : decode cX1_taxOf 95 = .ok (.iload_n 1, 1) := by decide +kernel
theorem dX1_taxOf_96 : decode cX1_taxOf 96 = .ok (.iaload, 1) := by decide +kernel
theorem dX1_taxOf_97 : decode cX1_taxOf 97 = .ok (.i2l, 1) := by decide +kernel
theorem dX1_taxOf_98 : decode cX1_taxOf 98 = .ok (.ladd, 1) := by decide +kernel
theorem dX1_taxOf_99 : decode cX1_taxOf 99 = .ok (.lstore 6, 2) := by decide +kernel
theorem dX1_taxOf_101 : decode cX1_taxOf 101 = .ok (.lload 6, 2) := by decide +kernel
theorem dX1_taxOf_103 : decode cX1_taxOf 103 = .ok (.iload_n 3, 1) := by decide +kernel
theorem dX1_taxOf_104 : decode cX1_taxOf 104 = .ok (.i2l, 1) := by decide +kernel
theorem dX1_taxOf_105 : decode cX1_taxOf 105 = .ok (.lmul, 1) := by decide +kernel
theorem dX1_taxOf_106 : decode cX1_taxOf 106 = .ok (.ldc2_w 182, 3) := by decide +kernel
theorem dX1_taxOf_109 : decode cX1_taxOf 109 = .ok (.ldiv, 1) := by decide +kernel
theorem dX1_taxOf_110 : decode cX1_taxOf 110 = .ok (.lload 4, 2) := by decide +kernel
theorem dX1_taxOf_112 : decode cX1_taxOf 112 = .ok (.iload_n 3, 1) := by decide +kernel
theorem dX1_taxOf_113 : decode cX1_taxOf 113 = .ok (.i2l, 1) := by decide +kernel
theorem dX1_taxOf_114 : decode cX1_taxOf 114 = .ok (.lmul, 1) := by decide +kernel
theorem dX1_taxOf_115 : decode cX1_taxOf 115 = .ok (.ldc2_w 182, 3) := by decide +kernel
theorem dX1_taxOf_118 : decode cX1_taxOf 118 = .ok (.ldiv, 1) := by decide +kernel
theorem dX1_taxOf_119 : decode cX1_taxOf 119 = .ok (.lsub, 1) := by decide +kernel
theorem dX1_taxOf_120 : decode cX1_taxOf 120 = .ok (.l2i, 1) := by decide +kernel
theorem dX1_taxOf_121 : decode cX1_taxOf 121 = .ok (.ireturn, 1) := by decide +kernel
theorem dX1_taxesOf_0 : decode cX1_taxesOf 0 = .ok (.lconst 0, 1) := by decide +kernel
theorem dX1_taxesOf_1 : decode cX1_taxesOf 1 = .ok (.lstore_n 3, 1) := by decide +kernel
theorem dX1_taxesOf_2 : decode cX1_taxesOf 2 = .ok (.iconst 0, 1) := by decide +kernel
theorem dX1_taxesOf_3 : decode cX1_taxesOf 3 = .ok (.istore 5, 2) := by decide +kernel
theorem dX1_taxesOf_5 : decode cX1_taxesOf 5 = .ok (.iload 5, 2) := by decide +kernel
theorem dX1_taxesOf_7 : decode cX1_taxesOf 7 = .ok (.aload_n 0, 1) := by decide +kernel
theorem dX1_taxesOf_8 : decode cX1_taxesOf 8 = .ok (.getfield 27, 3) := by decide +kernel
theorem dX1_taxesOf_11 : decode cX1_taxesOf 11 = .ok (.getfield 244, 3) := by decide +kernel
theorem dX1_taxesOf_14 : decode cX1_taxesOf 14 = .ok (.if_icmp .ge 34, 3) := by decide +kernel
theorem dX1_taxesOf_17 : decode cX1_taxesOf 17 = .ok (.aload_n 0, 1) := by decide +kernel
theorem dX1_taxesOf_18 : decode cX1_taxesOf 18 = .ok (.iload 5, 2) := by decide +kernel
theorem dX1_taxesOf_20 : decode cX1_taxesOf 20 = .ok (.iload_n 1, 1) := by decide +kernel
theorem dX1_taxesOf_21 : decode cX1_taxesOf 21 = .ok (.iload_n 2, 1) := by decide +kernel
theorem dX1_taxesOf_22 : decode cX1_taxesOf 22 = .ok (.invokevirtual 240, 3) := by decide +kernel
theorem dX1_taxesOf_25 : decode cX1_taxesOf 25 = .ok (.ifCond .eq 17, 3) := by decide +kernel
theorem dX1_taxesOf_28 : decode cX1_taxesOf 28 = .ok (.lload_n 3, 1) := by decide +kernel
theorem dX1_taxesOf_29 : decode cX1_taxesOf 29 = .ok (.aload_n 0, 1) := by decide +kernel
theorem dX1_taxesOf_30 : decode cX1_taxesOf 30 = .ok (.getfield 27, 3) := by decide +kernel
theorem dX1_taxesOf_33 : decode cX1_taxesOf 33 = .ok (.getfield 205, 3) := by decide +kernel
theorem dX1_taxesOf_36 : decode cX1_taxesOf 36 = .ok (.iload 5, 2) := by decide +kernel
theorem dX1_taxesOf_38 : decode cX1_taxesOf 38 = .ok (.iaload, 1) := by decide +kernel
theorem dX1_taxesOf_39 : decode cX1_taxesOf 39 = .ok (.i2l, 1) := by decide +kernel
theorem dX1_taxesOf_40 : decode cX1_taxesOf 40 = .ok (.ladd, 1) := by decide +kernel
theorem dX1_taxesOf_41 : decode cX1_taxesOf 41 = .ok (.lstore_n 3, 1) := by decide +kernel
theorem dX1_taxesOf_42 : decode cX1_taxesOf 42 = .ok (.iinc 5 1, 3) := by decide +kernel
theorem dX1_taxesOf_45 : decode cX1_taxesOf 45 = .ok (.goto (-40), 3) := by decide +kernel
theorem dX1_taxesOf_48 : decode cX1_taxesOf 48 = .ok (.lload_n 3, 1) := by decide +kernel
theorem dX1_taxesOf_49 : decode cX1_taxesOf 49 = .ok (.iload_n 2, 1) := by decide +kernel
theorem dX1_taxesOf_50 : decode cX1_taxesOf 50 = .ok (.i2l, 1) := by decide +kernel
theorem dX1_taxesOf_51 : decode cX1_taxesOf 51 = .ok (.lmul, 1) := by decide +kernel
theorem dX1_taxesOf_52 : decode cX1_taxesOf 52 = .ok (.ldc2_w 182, 3) := by decide +kernel
theorem dX1_taxesOf_55 : decode cX1_taxesOf 55 = .ok (.ldiv, 1) := by decide +kernel
theorem dX1_taxesOf_56 : decode cX1_taxesOf 56 = .ok (.l2i, 1) := by decide +kernel
theorem dX1_taxesOf_57 : decode cX1_taxesOf 57 = .ok (.ireturn, 1) := by decide +kernel
theorem dX1_quoteOn_0 : decode cX1_quoteOn 0 = .ok (.aload_n 1, 1) := by decide +kernel
theorem dX1_quoteOn_1 : decode cX1_quoteOn 1 = .ok (.aload_n 0, 1) := by decide +kernel
theorem dX1_quoteOn_2 : decode cX1_quoteOn 2 = .ok (.getfield 12, 3) := by decide +kernel
theorem dX1_quoteOn_5 : decode cX1_quoteOn 5 = .ok (.iload_n 2, 1) := by decide +kernel
theorem dX1_quoteOn_6 : decode cX1_quoteOn 6 = .ok (.aload_n 1, 1) := by decide +kernel
theorem dX1_quoteOn_7 : decode cX1_quoteOn 7 = .ok (.invokevirtual 89, 3) := by decide +kernel
theorem dX1_quoteOn_10 : decode cX1_quoteOn 10 = .ok (.iload_n 3, 1) := by decide +kernel
theorem dX1_quoteOn_11 : decode cX1_quoteOn 11 = .ok (.invokevirtual 93, 3) := by decide +kernel
theorem dX1_quoteOn_14 : decode cX1_quoteOn 14 = .ok (.aload_n 1, 1) := by decide +kernel
theorem dX1_quoteOn_15 : decode cX1_quoteOn 15 = .ok (.aload_n 0, 1) := by decide +kernel
theorem dX1_quoteOn_16 : decode cX1_quoteOn 16 = .ok (.getfield 12, 3) := by decide +kernel
theorem dX1_quoteOn_19 : decode cX1_quoteOn 19 = .ok (.aload_n 1, 1) := by decide +kernel
theorem dX1_quoteOn_20 : decode cX1_quoteOn 20 = .ok (.getfield 76, 3) := by decide +kernel
theorem dX1_quoteOn_23 : decode cX1_quoteOn 23 = .ok (.aload_n 1, 1) := by decide +kernel
theorem dX1_quoteOn_24 : decode cX1_quoteOn 24 = .ok (.invokevirtual 89, 3) := by decide +kernel
theorem dX1_quoteOn_27 : decode cX1_quoteOn 27 = .ok (.iload_n 3, 1) := by decide +kernel
theorem dX1_quoteOn_28 : decode cX1_quoteOn 28 = .ok (.invokevirtual 93, 3) := by decide +kernel
theorem dX1_quoteOn_31 : decode cX1_quoteOn 31 = .ok (.isub, 1) := by decide +kernel
theorem dX1_quoteOn_32 : decode cX1_quoteOn 32 = .ok (.ireturn, 1) := by decide +kernel
theorem dX1_cheapestDay_0 : decode cX1_cheapestDay 0 = .ok (.aload_n 0, 1) := by decide +kernel
theorem dX1_cheapestDay_1 : decode cX1_cheapestDay 1 = .ok (.getfield 48, 3) := by decide +kernel
theorem dX1_cheapestDay_4 : decode cX1_cheapestDay 4 = .ok (.istore_n 3, 1) := by decide +kernel
theorem dX1_cheapestDay_5 : decode cX1_cheapestDay 5 = .ok (.aload_n 0, 1) := by decide +kernel
theorem dX1_cheapestDay_6 : decode cX1_cheapestDay 6 = .ok (.aload_n 1, 1) := by decide +kernel
theorem dX1_cheapestDay_7 : decode cX1_cheapestDay 7 = .ok (.iload_n 2, 1) := by decide +kernel
theorem dX1_cheapestDay_8 : decode cX1_cheapestDay 8 = .ok (.aload_n 0, 1) := by decide +kernel
theorem dX1_cheapestDay_9 : decode cX1_cheapestDay 9 = .ok (.getfield 48, 3) := by decide +kernel
theorem dX1_cheapestDay_12 : decode cX1_cheapestDay 12 = .ok (.invokevirtual 247, 3) := by decide +kernel
theorem dX1_cheapestDay_15 : decode cX1_cheapestDay 15 = .ok (.istore 4, 2) := by decide +kernel
theorem dX1_cheapestDay_17 : decode cX1_cheapestDay 17 = .ok (.aload_n 0, 1) := by decide +kernel
theorem dX1_cheapestDay_18 : decode cX1_cheapestDay 18 = .ok (.getfield 48, 3) := by decide +kernel
theorem dX1_cheapestDay_21 : decode cX1_cheapestDay 21 = .ok (.iconst 1, 1) := by decide +kernel
theorem dX1_cheapestDay_22 : decode cX1_cheapestDay 22 = .ok (.iadd, 1) := by decide +kernel
theorem dX1_cheapestDay_23 : decode cX1_cheapestDay 23 = .ok (.istore 5, 2) := by decide +kernel
theorem dX1_cheapestDay_25 : decode cX1_cheapestDay 25 = .ok (.iload 5, 2) := by decide +kernel
theorem dX1_cheapestDay_27 : decode cX1_cheapestDay 27 = .ok (.aload_n 1, 1) := by decide +kernel
theorem dX1_cheapestDay_28 : decode cX1_cheapestDay 28 = .ok (.getfield 86, 3) := by decide +kernel
theorem dX1_cheapestDay_31 : decode cX1_cheapestDay 31 = .ok (.if_icmp .ge 33, 3) := by decide +kernel
theorem dX1_cheapestDay_34 : decode cX1_cheapestDay 34 = .ok (.aload_n 0, 1) := by decide +kernel
theorem dX1_cheapestDay_35 : decode cX1_cheapestDay 35 = .ok (.aload_n 1, 1) := by decide +kernel
theorem dX1_cheapestDay_36 : decode cX1_cheapestDay 36 = .ok (.iload_n 2, 1) := by decide +kernel
theorem dX1_cheapestDay_37 : decode cX1_cheapestDay 37 = .ok (.iload 5, 2) := by decide +kernel
theorem dX1_cheapestDay_39 : decode cX1_cheapestDay 39 = .ok (.invokevirtual 247, 3) := by decide +kernel
theorem dX1_cheapestDay_42 : decode cX1_cheapestDay 42 = .ok (.istore 6, 2) := by decide +kernel
theorem dX1_cheapestDay_44 : decode cX1_cheapestDay 44 = .ok (.iload 6, 2) := by decide +kernel
theorem dX1_cheapestDay_46 : decode cX1_cheapestDay 46 = .ok (.iload 4, 2) := by decide +kernel
theorem dX1_cheapestDay_48 : decode cX1_cheapestDay 48 = .ok (.if_icmp .ge 10, 3) := by decide +kernel
theorem dX1_cheapestDay_51 : decode cX1_cheapestDay 51 = .ok (.iload 5, 2) := by decide +kernel
theorem dX1_cheapestDay_53 : decode cX1_cheapestDay 53 = .ok (.istore_n 3, 1) := by decide +kernel
theorem dX1_cheapestDay_54 : decode cX1_cheapestDay 54 = .ok (.iload 6, 2) := by decide +kernel
theorem dX1_cheapestDay_56 : decode cX1_cheapestDay 56 = .ok (.istore 4, 2) := by decide +kernel
theorem dX1_cheapestDay_58 : decode cX1_cheapestDay 58 = .ok (.iinc 5 1, 3) := by decide +kernel
theorem dX1_cheapestDay_61 : decode cX1_cheapestDay 61 = .ok (.goto (-36), 3) := by decide +kernel
theorem dX1_cheapestDay_64 : decode cX1_cheapestDay 64 = .ok (.iload_n 3, 1) := by decide +kernel
theorem dX1_cheapestDay_65 : decode cX1_cheapestDay 65 = .ok (.ireturn, 1) := by decide +kernel
theorem dX1_cheapestChange_0 : decode cX1_cheapestChange 0 = .ok (.iconst 0, 1) := by decide +kernel
theorem dX1_cheapestChange_1 : decode cX1_cheapestChange 1 = .ok (.istore_n 2, 1) := by decide +kernel
theorem dX1_cheapestChange_2 : decode cX1_cheapestChange 2 = .ok (.aload_n 0, 1) := by decide +kernel
theorem dX1_cheapestChange_3 : decode cX1_cheapestChange 3 = .ok (.aload_n 1, 1) := by decide +kernel
theorem dX1_cheapestChange_4 : decode cX1_cheapestChange 4 = .ok (.iconst 0, 1) := by decide +kernel
theorem dX1_cheapestChange_5 : decode cX1_cheapestChange 5 = .ok (.aload_n 0, 1) := by decide +kernel
theorem dX1_cheapestChange_6 : decode cX1_cheapestChange 6 = .ok (.getfield 48, 3) := by decide +kernel
theorem dX1_cheapestChange_9 : decode cX1_cheapestChange 9 = .ok (.invokevirtual 247, 3) := by decide +kernel
theorem dX1_cheapestChange_12 : decode cX1_cheapestChange 12 = .ok (.istore_n 3, 1) := by decide +kernel
theorem dX1_cheapestChange_13 : decode cX1_cheapestChange 13 = .ok (.iconst 1, 1) := by decide +kernel
theorem dX1_cheapestChange_14 : decode cX1_cheapestChange 14 = .ok (.istore 4, 2) := by decide +kernel
theorem dX1_cheapestChange_16 : decode cX1_cheapestChange 16 = .ok (.iload 4, 2) := by decide +kernel
theorem dX1_cheapestChange_18 : decode cX1_cheapestChange 18 = .ok (.bipush 6, 2) := by decide +kernel
theorem dX1_cheapestChange_20 : decode cX1_cheapestChange 20 = .ok (.if_icmp .ge 34, 3) := by decide +kernel
theorem dX1_cheapestChange_23 : decode cX1_cheapestChange 23 = .ok (.aload_n 0, 1) := by decide +kernel
theorem dX1_cheapestChange_24 : decode cX1_cheapestChange 24 = .ok (.aload_n 1, 1) := by decide +kernel
theorem dX1_cheapestChange_25 : decode cX1_cheapestChange 25 = .ok (.iload 4, 2) := by decide +kernel
theorem dX1_cheapestChange_27 : decode cX1_cheapestChange 27 = .ok (.aload_n 0, 1) := by decide +kernel
theorem dX1_cheapestChange_28 : decode cX1_cheapestChange 28 = .ok (.getfield 48, 3) := by decide +kernel
theorem dX1_cheapestChange_31 : decode cX1_cheapestChange 31 = .ok (.invokevirtual 247, 3) := by decide +kernel
theorem dX1_cheapestChange_34 : decode cX1_cheapestChange 34 = .ok (.istore 5, 2) := by decide +kernel
theorem dX1_cheapestChange_36 : decode cX1_cheapestChange 36 = .ok (.iload 5, 2) := by decide +kernel
theorem dX1_cheapestChange_38 : decode cX1_cheapestChange 38 = .ok (.iload_n 3, 1) := by decide +kernel
theorem dX1_cheapestChange_39 : decode cX1_cheapestChange 39 = .ok (.if_icmp .ge 9, 3) := by decide +kernel
theorem dX1_cheapestChange_42 : decode cX1_cheapestChange 42 = .ok (.iload 4, 2) := by decide +kernel
theorem dX1_cheapestChange_44 : decode cX1_cheapestChange 44 = .ok (.istore_n 2, 1) := by decide +kernel
theorem dX1_cheapestChange_45 : decode cX1_cheapestChange 45 = .ok (.iload 5, 2) := by decide +kernel
theorem dX1_cheapestChange_47 : decode cX1_cheapestChange 47 = .ok (.istore_n 3, 1) := by decide +kernel
theorem dX1_cheapestChange_48 : decode cX1_cheapestChange 48 = .ok (.iinc 4 1, 3) := by decide +kernel
theorem dX1_cheapestChange_51 : decode cX1_cheapestChange 51 = .ok (.goto (-35), 3) := by decide +kernel
theorem dX1_cheapestChange_54 : decode cX1_cheapestChange 54 = .ok (.iload_n 2, 1) := by decide +kernel
theorem dX1_cheapestChange_55 : decode cX1_cheapestChange 55 = .ok (.ireturn, 1) := by decide +kernel
theorem dX1_begunBits_0 : decode cX1_begunBits 0 = .ok (.iconst 0, 1) := by decide +kernel
theorem dX1_begunBits_1 : decode cX1_begunBits 1 = .ok (.istore_n 1, 1) := by decide +kernel
theorem dX1_begunBits_2 : decode cX1_begunBits 2 = .ok (.iconst 0, 1) := by decide +kernel
theorem dX1_begunBits_3 : decode cX1_begunBits 3 = .ok (.istore_n 2, 1) := by decide +kernel
theorem dX1_begunBits_4 : decode cX1_begunBits 4 = .ok (.iload_n 2, 1) := by decide +kernel
theorem dX1_begunBits_5 : decode cX1_begunBits 5 = .ok (.bipush 6, 2) := by decide +kernel
theorem dX1_begunBits_7 : decode cX1_begunBits 7 = .ok (.if_icmp .ge 31, 3) := by decide +kernel
theorem dX1_begunBits_10 : decode cX1_begunBits 10 = .ok (.iload_n 1, 1) := by decide +kernel
theorem dX1_begunBits_11 : decode cX1_begunBits 11 = .ok (.aload_n 0, 1) := by decide +kernel
theorem dX1_begunBits_12 : decode cX1_begunBits 12 = .ok (.getfield 20, 3) := by decide +kernel
theorem dX1_begunBits_15 : decode cX1_begunBits 15 = .ok (.iload_n 2, 1) := by decide +kernel
theorem dX1_begunBits_16 : decode cX1_begunBits 16 = .ok (.aaload, 1) := by decide +kernel
theorem dX1_begunBits_17 : decode cX1_begunBits 17 = .ok (.getfield 56, 3) := by decide +kernel
theorem dX1_begunBits_20 : decode cX1_begunBits 20 = .ok (.ifCond .eq 9, 3) := by decide +kernel
theorem dX1_begunBits_23 : decode cX1_begunBits 23 = .ok (.iconst 1, 1) := by decide +kernel
theorem dX1_begunBits_24 : decode cX1_begunBits 24 = .ok (.iload_n 2, 1) := by decide +kernel
theorem dX1_begunBits_25 : decode cX1_begunBits 25 = .ok (.ishl, 1) := by decide +kernel
theorem dX1_begunBits_26 : decode cX1_begunBits 26 = .ok (.goto 4, 3) := by decide +kernel
theorem dX1_begunBits_29 : decode cX1_begunBits 29 = .ok (.iconst 0, 1) := by decide +kernel
theorem dX1_begunBits_30 : decode cX1_begunBits 30 = .ok (.ior, 1) := by decide +kernel
theorem dX1_begunBits_31 : decode cX1_begunBits 31 = .ok (.istore_n 1, 1) := by decide +kernel
theorem dX1_begunBits_32 : decode cX1_begunBits 32 = .ok (.iinc 2 1, 3) := by decide +kernel
theorem dX1_begunBits_35 : decode cX1_begunBits 35 = .ok (.goto (-31), 3) := by decide +kernel
theorem dX1_begunBits_38 : decode cX1_begunBits 38 = .ok (.iload_n 1, 1) := by decide +kernel
theorem dX1_begunBits_39 : decode cX1_begunBits 39 = .ok (.ireturn, 1) := by decide +kernel
theorem dX1_endedBits_0 : decode cX1_endedBits 0 = .ok (.iconst 0, 1) := by decide +kernel
theorem dX1_endedBits_1 : decode cX1_endedBits 1 = .ok (.istore_n 1, 1) := by decide +kernel
theorem dX1_endedBits_2 : decode cX1_endedBits 2 = .ok (.iconst 0, 1) := by decide +kernel
theorem dX1_endedBits_3 : decode cX1_endedBits 3 = .ok (.istore_n 2, 1) := by decide +kernel
theorem dX1_endedBits_4 : decode cX1_endedBits 4 = .ok (.iload_n 2, 1) := by decide +kernel
theorem dX1_endedBits_5 : decode cX1_endedBits 5 = .ok (.bipush 6, 2) := by decide +kernel
theorem dX1_endedBits_7 : decode cX1_endedBits 7 = .ok (.if_icmp .ge 31, 3) := by decide +kernel
theorem dX1_endedBits_10 : decode cX1_endedBits 10 = .ok (.iload_n 1, 1) := by decide +kernel
theorem dX1_endedBits_11 : decode cX1_endedBits 11 = .ok (.aload_n 0, 1) := by decide +kernel
theorem dX1_endedBits_12 : decode cX1_endedBits 12 = .ok (.getfield 20, 3) := by decide +kernel
theorem dX1_endedBits_15 : decode cX1_endedBits 15 = .ok (.iload_n 2, 1) := by decide +kernel
theorem dX1_endedBits_16 : decode cX1_endedBits 16 = .ok (.aaload, 1) := by decide +kernel
theorem dX1_endedBits_17 : decode cX1_endedBits 17 = .ok (.getfield 63, 3) := by decide +kernel
theorem dX1_endedBits_20 : decode cX1_endedBits 20 = .ok (.ifCond .eq 9, 3) := by decide +kernel
theorem dX1_endedBits_23 : decode cX1_endedBits 23 = .ok (.iconst 1, 1) := by decide +kernel
theorem dX1_endedBits_24 : decode cX1_endedBits 24 = .ok (.iload_n 2, 1) := by decide +kernel
theorem dX1_endedBits_25 : decode cX1_endedBits 25 = .ok (.ishl, 1) := by decide +kernel
theorem dX1_endedBits_26 : decode cX1_endedBits 26 = .ok (.goto 4, 3) := by decide +kernel
theorem dX1_endedBits_29 : decode cX1_endedBits 29 = .ok (.iconst 0, 1) := by decide +kernel
theorem dX1_endedBits_30 : decode cX1_endedBits 30 = .ok (.ior, 1) := by decide +kernel
theorem dX1_endedBits_31 : decode cX1_endedBits 31 = .ok (.istore_n 1, 1) := by decide +kernel
theorem dX1_endedBits_32 : decode cX1_endedBits 32 = .ok (.iinc 2 1, 3) := by decide +kernel
theorem dX1_endedBits_35 : decode cX1_endedBits 35 = .ok (.goto (-31), 3) := by decide +kernel
theorem dX1_endedBits_38 : decode cX1_endedBits 38 = .ok (.iload_n 1, 1) := by decide +kernel
theorem dX1_endedBits_39 : decode cX1_endedBits 39 = .ok (.ireturn, 1) := by decide +kernel
theorem dX1_pausedBits_0 : decode cX1_pausedBits 0 = .ok (.iconst 0, 1) := by decide +kernel
theorem dX1_pausedBits_1 : decode cX1_pausedBits 1 = .ok (.istore_n 1, 1) := by decide +kernel
theorem dX1_pausedBits_2 : decode cX1_pausedBits 2 = .ok (.iconst 0, 1) := by decide +kernel
theorem dX1_pausedBits_3 : decode cX1_pausedBits 3 = .ok (.istore_n 2, 1) := by decide +kernel
theorem dX1_pausedBits_4 : decode cX1_pausedBits 4 = .ok (.iload_n 2, 1) := by decide +kernel
theorem dX1_pausedBits_5 : decode cX1_pausedBits 5 = .ok (.bipush 6, 2) := by decide +kernel
theorem dX1_pausedBits_7 : decode cX1_pausedBits 7 = .ok (.if_icmp .ge 31, 3) := by decide +kernel
theorem dX1_pausedBits_10 : decode cX1_pausedBits 10 = .ok (.iload_n 1, 1) := by decide +kernel
theorem dX1_pausedBits_11 : decode cX1_pausedBits 11 = .ok (.aload_n 0, 1) := by decide +kernel
theorem dX1_pausedBits_12 : decode cX1_pausedBits 12 = .ok (.getfield 20, 3) := by decide +kernel
theorem dX1_pausedBits_15 : decode cX1_pausedBits 15 = .ok (.iload_n 2, 1) := by decide +kernel
theorem dX1_pausedBits_16 : decode cX1_pausedBits 16 = .ok (.aaload, 1) := by decide +kernel
theorem dX1_pausedBits_17 : decode cX1_pausedBits 17 = .ok (.getfield 159, 3) := by decide +kernel
theorem dX1_pausedBits_20 : decode cX1_pausedBits 20 = .ok (.ifCond .eq 9, 3) := by decide +kernel
theorem dX1_pausedBits_23 : decode cX1_pausedBits 23 = .ok (.iconst 1, 1) := by decide +kernel
theorem dX1_pausedBits_24 : decode cX1_pausedBits 24 = .ok (.iload_n 2, 1) := by decide +kernel
theorem dX1_pausedBits_25 : decode cX1_pausedBits 25 = .ok (.ishl, 1) := by decide +kernel
theorem dX1_pausedBits_26 : decode cX1_pausedBits 26 = .ok (.goto 4, 3) := by decide +kernel
theorem dX1_pausedBits_29 : decode cX1_pausedBits 29 = .ok (.iconst 0, 1) := by decide +kernel
theorem dX1_pausedBits_30 : decode cX1_pausedBits 30 = .ok (.ior, 1) := by decide +kernel
theorem dX1_pausedBits_31 : decode cX1_pausedBits 31 = .ok (.istore_n 1, 1) := by decide +kernel
theorem dX1_pausedBits_32 : decode cX1_pausedBits 32 = .ok (.iinc 2 1, 3) := by decide +kernel
theorem dX1_pausedBits_35 : decode cX1_pausedBits 35 = .ok (.goto (-31), 3) := by decide +kernel
theorem dX1_pausedBits_38 : decode cX1_pausedBits 38 = .ok (.iload_n 1, 1) := by decide +kernel
theorem dX1_pausedBits_39 : decode cX1_pausedBits 39 = .ok (.ireturn, 1) := by decide +kernel
theorem dX2_init_0 : decode cX2_init 0 = .ok (.aload_n 0, 1) := by decide +kernel
theorem dX2_init_1 : decode cX2_init 1 = .ok (.invokespecial 3, 3) := by decide +kernel
theorem dX2_init_4 : decode cX2_init 4 = .ok (.aload_n 0, 1) := by decide +kernel
theorem dX2_init_5 : decode cX2_init 5 = .ok (.new 9, 3) := by decide +kernel
theorem dX2_init_8 : decode cX2_init 8 = .ok (.dup, 1) := by decide +kernel
theorem dX2_init_9 : decode cX2_init 9 = .ok (.invokespecial 11, 3) := by decide +kernel
theorem dX2_init_12 : decode cX2_init 12 = .ok (.putfield 12, 3) := by decide +kernel
theorem dX2_init_15 : decode cX2_init 15 = .ok (.aload_n 0, 1) := by decide +kernel
theorem dX2_init_16 : decode cX2_init 16 = .ok (.new 18, 3) := by decide +kernel
theorem dX2_init_19 : decode cX2_init 19 = .ok (.dup, 1) := by decide +kernel
theorem dX2_init_20 : decode cX2_init 20 = .ok (.aload_n 1, 1) := by decide +kernel
theorem dX2_init_21 : decode cX2_init 21 = .ok (.invokespecial 20, 3) := by decide +kernel
theorem dX2_init_24 : decode cX2_init 24 = .ok (.putfield 23, 3) := by decide +kernel
theorem dX2_init_27 : decode cX2_init 27 = .ok (.return_, 1) := by decide +kernel
theorem dX2_read_0 : decode cX2_read 0 = .ok (.aload_n 0, 1) := by decide +kernel
theorem dX2_read_1 : decode cX2_read 1 = .ok (.getfield 23, 3) := by decide +kernel
theorem dX2_read_4 : decode cX2_read 4 = .ok (.iload_n 1, 1) := by decide +kernel
theorem dX2_read_5 : decode cX2_read 5 = .ok (.invokevirtual 27, 3) := by decide +kernel
theorem dX2_read_8 : decode cX2_read 8 = .ok (.aload_n 0, 1) := by decide +kernel
theorem dX2_read_9 : decode cX2_read 9 = .ok (.getfield 12, 3) := by decide +kernel
theorem dX2_read_12 : decode cX2_read 12 = .ok (.invokevirtual 31, 3) := by decide +kernel
theorem dX2_read_15 : decode cX2_read 15 = .ok (.iconst 1, 1) := by decide +kernel
theorem dX2_read_16 : decode cX2_read 16 = .ok (.istore_n 2, 1) := by decide +kernel
theorem dX2_read_17 : decode cX2_read 17 = .ok (.iconst 0, 1) := by decide +kernel
theorem dX2_read_18 : decode cX2_read 18 = .ok (.istore_n 3, 1) := by decide +kernel
theorem dX2_read_19 : decode cX2_read 19 = .ok (.iload_n 3, 1) := by decide +kernel
theorem dX2_read_20 : decode cX2_read 20 = .ok (.bipush 20, 2) := by decide +kernel
theorem dX2_read_22 : decode cX2_read 22 = .ok (.if_icmp .gt 62, 3) := by decide +kernel
theorem dX2_read_25 : decode cX2_read 25 = .ok (.iload_n 2, 1) := by decide +kernel
theorem dX2_read_26 : decode cX2_read 26 = .ok (.ifCond .eq 58, 3) := by decide +kernel
theorem dX2_read_29 : decode cX2_read 29 = .ok (.iload_n 3, 1) := by decide +kernel
theorem dX2_read_30 : decode cX2_read 30 = .ok (.bipush 20, 2) := by decide +kernel
theorem dX2_read_32 : decode cX2_read 32 = .ok (.if_icmp .ne 21, 3) := by decide +kernel
theorem dX2_read_35 : decode cX2_read 35 = .ok (.aload_n 0, 1) := by decide +kernel
theorem dX2_read_36 : decode cX2_read 36 = .ok (.getfield 23, 3) := by decide +kernel
theorem dX2_read_39 : decode cX2_read 39 = .ok (.iconst 4, 1) := by decide +kernel
theorem dX2_read_40 : decode cX2_read 40 = .ok (.aload_n 0, 1) := by decide +kernel
theorem dX2_read_41 : decode cX2_read 41 = .ok (.getfield 23, 3) := by decide +kernel
theorem dX2_read_44 : decode cX2_read 44 = .ok (.getfield 34, 3) := by decide +kernel
theorem dX2_read_47 : decode cX2_read 47 = .ok (.invokevirtual 38, 3) := by decide +kernel
theorem dX2_read_50 : decode cX2_read 50 = .ok (.goto 20, 3) := by decide +kernel
theorem dX2_read_53 : decode cX2_read 53 = .ok (.aload_n 0, 1) := by decide +kernel
theorem dX2_read_54 : decode cX2_read 54 = .ok (.invokevirtual 42, 3) := by decide +kernel
theorem dX2_read_57 : decode cX2_read 57 = .ok (.aload_n 0, 1) := by decide +kernel
theorem dX2_read_58 : decode cX2_read 58 = .ok (.getfield 12, 3) := by decide +kernel
theorem dX2_read_61 : decode cX2_read 61 = .ok (.dup, 1) := by decide +kernel
theorem dX2_read_62 : decode cX2_read 62 = .ok (.getfield 45, 3) := by decide +kernel
theorem dX2_read_65 : decode cX2_read 65 = .ok (.iconst 1, 1) := by decide +kernel
theorem dX2_read_66 : decode cX2_read 66 = .ok (.iadd, 1) := by decide +kernel
theorem dX2_read_67 : decode cX2_read 67 = .ok (.putfield 45, 3) := by decide +kernel
theorem dX2_read_70 : decode cX2_read 70 = .ok (.aload_n 0, 1) := by decide +kernel
theorem dX2_read_71 : decode cX2_read 71 = .ok (.getfield 23, 3) := by decide +kernel
theorem dX2_read_74 : decode cX2_read 74 = .ok (.invokevirtual 48, 3) := by decide +kernel
theorem dX2_read_77 : decode cX2_read 77 = .ok (.istore_n 2, 1) := by decide +kernel
theorem dX2_read_78 : decode cX2_read 78 = .ok (.iinc 3 1, 3) := by decide +kernel
theorem dX2_read_81 : decode cX2_read 81 = .ok (.goto (-62), 3) := by decide +kernel
theorem dX2_read_84 : decode cX2_read 84 = .ok (.aload_n 0, 1) := by decide +kernel
theorem dX2_read_85 : decode cX2_read 85 = .ok (.getfield 23, 3) := by decide +kernel
theorem dX2_read_88 : decode cX2_read 88 = .ok (.invokevirtual 52, 3) := by decide +kernel
theorem dX2_read_91 : decode cX2_read 91 = .ok (.ireturn, 1) := by decide +kernel
theorem dX2_readClause_0 : decode cX2_readClause 0 = .ok (.aload_n 0, 1) := by decide +kernel
theorem dX2_readClause_1 : decode cX2_readClause 1 = .ok (.getfield 23, 3) := by decide +kernel
theorem dX2_readClause_4 : decode cX2_readClause 4 = .ok (.getfield 34, 3) := by decide +kernel
theorem dX2_readClause_7 : decode cX2_readClause 7 = .ok (.istore_n 1, 1) := by decide +kernel
theorem dX2_readClause_8 : decode cX2_readClause 8 = .ok (.aload_n 0, 1) := by decide +kernel
theorem dX2_readClause_9 : decode cX2_readClause 9 = .ok (.getfield 23, 3) := by decide +kernel
theorem dX2_readClause_12 : decode cX2_readClause 12 = .ok (.ldc 56, 2) := by decide +kernel
theorem dX2_readClause_14 : decode cX2_readClause 14 = .ok (.invokevirtual 58, 3) := by decide +kernel
theorem dX2_readClause_17 : decode cX2_readClause 17 = .ok (.istore_n 2, 1) := by decide +kernel
theorem dX2_readClause_18 : decode cX2_readClause 18 = .ok (.iload_n 2, 1) := by decide +kernel
theorem dX2_readClause_19 : decode cX2_readClause 19 = .ok (.bipush 9, 2) := by decide +kernel
theorem dX2_readClause_21 : decode cX2_readClause 21 = .ok (.if_icmp .ne 24, 3) := by decide +kernel
theorem dX2_readClause_24 : decode cX2_readClause 24 = .ok (.aload_n 0, 1) := by decide +kernel
theorem dX2_readClause_25 : decode cX2_readClause 25 = .ok (.getfield 12, 3) := by decide +kernel
theorem dX2_readClause_28 : decode cX2_readClause 28 = .ok (.getfield 62, 3) := by decide +kernel
theorem dX2_readClause_31 : decode cX2_readClause 31 = .ok (.iconst 4, 1) := by decide +kernel
theorem dX2_readClause_32 : decode cX2_readClause 32 = .ok (.if_icmp .lt 13, 3) := by decide +kernel
theorem dX2_readClause_35 : decode cX2_readClause 35 = .ok (.aload_n 0, 1) := by decide +kernel
theorem dX2_readClause_36 : decode cX2_readClause 36 = .ok (.getfield 23, 3) := by decide +kernel
theorem dX2_readClause_39 : decode cX2_readClause 39 = .ok (.bipush 6, 2) := by decide +kernel
theorem dX2_readClause_41 : decode cX2_readClause 41 = .ok (.iload_n 1, 1) := by decide +kernel
theorem dX2_readClause_42 : decode cX2_readClause 42 = .ok (.invokevirtual 38, 3) := by decide +kernel
theorem dX2_readClause_45 : decode cX2_readClause 45 = .ok (.aload_n 0, 1) := by decide +kernel
theorem dX2_readClause_46 : decode cX2_readClause 46 = .ok (.getfield 23, 3) := by decide +kernel
theorem dX2_readClause_49 : decode cX2_readClause 49 = .ok (.invokevirtual 65, 3) := by decide +kernel
theorem dX2_readClause_52 : decode cX2_readClause 52 = .ok (.aload_n 0, 1) := by decide +kernel
theorem dX2_readClause_53 : decode cX2_readClause 53 = .ok (.getfield 23, 3) := by decide +kernel
theorem dX2_readClause_56 : decode cX2_readClause 56 = .ok (.invokevirtual 68, 3) := by decide +kernel
theorem dX2_readClause_59 : decode cX2_readClause 59 = .ok (.ifCond .ne 4, 3) := by decide +kernel
theorem dX2_readClause_62 : decode cX2_readClause 62 = .ok (.return_, 1) := by decide +kernel
theorem dX2_readClause_63 : decode cX2_readClause 63 = .ok (.iload_n 2, 1) := by decide +kernel
theorem dX2_readClause_64 : decode cX2_readClause 64 = .ok (.tableswitch 99 7 9 #[28, 72, 92], 28) := by decide +kernel
theorem dX2_readClause_92 : decode cX2_readClause 92 = .ok (.aload_n 0, 1) := by decide +kernel
theorem dX2_readClause_93 : decode cX2_readClause 93 = .ok (.getfield 12, 3) := by decide +kernel
theorem dX2_readClause_96 : decode cX2_readClause 96 = .ok (.aload_n 0, 1) := by decide +kernel
theorem dX2_readClause_97 : decode cX2_readClause 97 = .ok (.getfield 23, 3) := by decide +kernel
theorem dX2_readClause_100 : decode cX2_readClause 100 = .ok (.iconst 0, 1) := by decide +kernel
theorem dX2_readClause_101 : decode cX2_readClause 101 = .ok (.bipush 100, 2) := by decide +kernel
theorem dX2_readClause_103 : decode cX2_readClause 103 = .ok (.invokevirtual 71, 3) := by decide +kernel
theorem dX2_readClause_106 : decode cX2_readClause 106 = .ok (.putfield 75, 3) := by decide +kernel
theorem dX2_readClause_109 : decode cX2_readClause 109 = .ok (.aload_n 0, 1) := by decide +kernel
theorem dX2_readClause_110 : decode cX2_readClause 110 = .ok (.getfield 23, 3) := by decide +kernel
theorem dX2_readClause_113 : decode cX2_readClause 113 = .ok (.invokevirtual 65, 3) := by decide +kernel
theorem dX2_readClause_116 : decode cX2_readClause 116 = .ok (.aload_n 0, 1) := by decide +kernel
theorem dX2_readClause_117 : decode cX2_readClause 117 = .ok (.getfield 12, 3) := by decide +kernel
theorem dX2_readClause_120 : decode cX2_readClause 120 = .ok (.aload_n 0, 1) := by decide +kernel
theorem dX2_readClause_121 : decode cX2_readClause 121 = .ok (.getfield 23, 3) := by decide +kernel
theorem dX2_readClause_124 : decode cX2_readClause 124 = .ok (.iconst 0, 1) := by decide +kernel
theorem dX2_readClause_125 : decode cX2_readClause 125 = .ok (.bipush 99, 2) := by decide +kernel
theorem dX2_readClause_127 : decode cX2_readClause 127 = .ok (.invokevirtual 71, 3) := by decide +kernel
theorem dX2_readClause_130 : decode cX2_readClause 130 = .ok (.putfield 78, 3) := by decide +kernel
theorem dX2_readClause_133 : decode cX2_readClause 133 = .ok (.goto 35, 3) := by decide +kernel
theorem dX2_readClause_136 : decode cX2_readClause 136 = .ok (.aload_n 0, 1) := by decide +kernel
theorem dX2_readClause_137 : decode cX2_readClause 137 = .ok (.getfield 12, 3) := by decide +kernel
theorem dX2_readClause_140 : decode cX2_readClause 140 = .ok (.aload_n 0, 1) := by decide +kernel
theorem dX2_readClause_141 : decode cX2_readClause 141 = .ok (.getfield 23, 3) := by decide +kernel
theorem dX2_readClause_144 : decode cX2_readClause 144 = .ok (.iconst 0, 1) := by decide +kernel
theorem dX2_readClause_145 : decode cX2_readClause 145 = .ok (.bipush 20, 2) := by decide +kernel
theorem dX2_readClause_147 : decode cX2_readClause 147 = .ok (.invokevirtual 71, 3) := by decide +kernel
theorem dX2_readClause_150 : decode cX2_readClause 150 = .ok (.putfield 81, 3) := by decide +kernel
theorem dX2_readClause_153 : decode cX2_readClause 153 = .ok (.goto 15, 3) := by decide +kernel
theorem dX2_readClause_156 : decode cX2_readClause 156 = .ok (.aload_n 0, 1) := by decide +kernel
theorem dX2_readClause_157 : decode cX2_readClause 157 = .ok (.invokevirtual 84, 3) := by decide +kernel
theorem dX2_readClause_160 : decode cX2_readClause 160 = .ok (.goto 8, 3) := by decide +kernel
theorem dX2_readClause_163 : decode cX2_readClause 163 = .ok (.aload_n 0, 1) := by decide +kernel
theorem dX2_readClause_164 : decode cX2_readClause 164 = .ok (.iload_n 2, 1) := by decide +kernel
theorem dX2_readClause_165 : decode cX2_readClause 165 = .ok (.invokevirtual 87, 3) := by decide +kernel
theorem dX2_readClause_168 : decode cX2_readClause 168 = .ok (.return_, 1) := by decide +kernel
theorem dX2_readTax_0 : decode cX2_readTax 0 = .ok (.aload_n 0, 1) := by decide +kernel
theorem dX2_readTax_1 : decode cX2_readTax 1 = .ok (.getfield 23, 3) := by decide +kernel
theorem dX2_readTax_4 : decode cX2_readTax 4 = .ok (.getfield 34, 3) := by decide +kernel
theorem dX2_readTax_7 : decode cX2_readTax 7 = .ok (.istore_n 1, 1) := by decide +kernel
theorem dX2_readTax_8 : decode cX2_readTax 8 = .ok (.aload_n 0, 1) := by decide +kernel
theorem dX2_readTax_9 : decode cX2_readTax 9 = .ok (.getfield 23, 3) := by decide +kernel
theorem dX2_readTax_12 : decode cX2_readTax 12 = .ok (.iconst 0, 1) := by decide +kernel
theorem dX2_readTax_13 : decode cX2_readTax 13 = .ok (.sipush 3652, 3) := by decide +kernel
theorem dX2_readTax_16 : decode cX2_readTax 16 = .ok (.invokevirtual 71, 3) := by decide +kernel
theorem dX2_readTax_19 : decode cX2_readTax 19 = .ok (.istore_n 2, 1) := by decide +kernel
theorem dX2_readTax_20 : decode cX2_readTax 20 = .ok (.aload_n 0, 1) := by decide +kernel
theorem dX2_readTax_21 : decode cX2_readTax 21 = .ok (.getfield 12, 3) := by decide +kernel
theorem dX2_readTax_24 : decode cX2_readTax 24 = .ok (.iload_n 2, 1) := by decide +kernel
theorem dX2_readTax_25 : decode cX2_readTax 25 = .ok (.invokevirtual 90, 3) := by decide +kernel
theorem dX2_readTax_28 : decode cX2_readTax 28 = .ok (.ifCond .ne 13, 3) := by decide +kernel
theorem dX2_readTax_31 : decode cX2_readTax 31 = .ok (.aload_n 0, 1) := by decide +kernel
theorem dX2_readTax_32 : decode cX2_readTax 32 = .ok (.getfield 23, 3) := by decide +kernel
theorem dX2_readTax_35 : decode cX2_readTax 35 = .ok (.bipush 6, 2) := by decide +kernel
theorem dX2_readTax_37 : decode cX2_readTax 37 = .ok (.iload_n 1, 1) := by decide +kernel
theorem dX2_readTax_38 : decode cX2_readTax 38 = .ok (.invokevirtual 38, 3) := by decide +kernel
theorem dX2_readTax_41 : decode cX2_readTax 41 = .ok (.aload_n 0, 1) := by decide +kernel
theorem dX2_readTax_42 : decode cX2_readTax 42 = .ok (.getfield 23, 3) := by decide +kernel
theorem dX2_readTax_45 : decode cX2_readTax 45 = .ok (.invokevirtual 65, 3) := by decide +kernel
theorem dX2_readTax_48 : decode cX2_readTax 48 = .ok (.aload_n 0, 1) := by decide +kernel
theorem dX2_readTax_49 : decode cX2_readTax 49 = .ok (.getfield 12, 3) := by decide +kernel
theorem dX2_readTax_52 : decode cX2_readTax 52 = .ok (.iload_n 2, 1) := by decide +kernel
theorem dX2_readTax_53 : decode cX2_readTax 53 = .ok (.aload_n 0, 1) := by decide +kernel
theorem dX2_readTax_54 : decode cX2_readTax 54 = .ok (.getfield 23, 3) := by decide +kernel
theorem dX2_readTax_57 : decode cX2_readTax 57 = .ok (.iconst 0, 1) := by decide +kernel
theorem dX2_readTax_58 : decode cX2_readTax 58 = .ok (.bipush 100, 2) := by decide +kernel
theorem dX2_readTax_60 : decode cX2_readTax 60 = .ok (.invokevirtual 71, 3) := by decide +kernel
theorem dX2_readTax_63 : decode cX2_readTax 63 = .ok (.invokevirtual 94, 3) := by decide +kernel
theorem dX2_readTax_66 : decode cX2_readTax 66 = .ok (.return_, 1) := by decide +kernel
theorem dX2_readOfPlan_0 : decode cX2_readOfPlan 0 = .ok (.aload_n 0, 1) := by decide +kernel
theorem dX2_readOfPlan_1 : decode cX2_readOfPlan 1 = .ok (.getfield 23, 3) := by decide +kernel
theorem dX2_readOfPlan_4 : decode cX2_readOfPlan 4 = .ok (.getfield 34, 3) := by decide +kernel
theorem dX2_readOfPlan_7 : decode cX2_readOfPlan 7 = .ok (.istore_n 2, 1) := by decide +kernel
theorem dX2_readOfPlan_8 : decode cX2_readOfPlan 8 = .ok (.aload_n 0, 1) := by decide +kernel
theorem dX2_readOfPlan_9 : decode cX2_readOfPlan 9 = .ok (.getfield 12, 3) := by decide +kernel
theorem dX2_readOfPlan_12 : decode cX2_readOfPlan 12 = .ok (.aload_n 0, 1) := by decide +kernel
theorem dX2_readOfPlan_13 : decode cX2_readOfPlan 13 = .ok (.getfield 23, 3) := by decide +kernel
theorem dX2_readOfPlan_16 : decode cX2_readOfPlan 16 = .ok (.invokevirtual 97, 3) := by decide +kernel
theorem dX2_readOfPlan_19 : decode cX2_readOfPlan 19 = .ok (.invokevirtual 100, 3) := by decide +kernel
theorem dX2_readOfPlan_22 : decode cX2_readOfPlan 22 = .ok (.astore_n 3, 1) := by decide +kernel
theorem dX2_readOfPlan_23 : decode cX2_readOfPlan 23 = .ok (.iload_n 1, 1) := by decide +kernel
theorem dX2_readOfPlan_24 : decode cX2_readOfPlan 24 = .ok (.iconst 2, 1) := by decide +kernel
theorem dX2_readOfPlan_25 : decode cX2_readOfPlan 25 = .ok (.if_icmp .ne 11, 3) := by decide +kernel
theorem dX2_readOfPlan_28 : decode cX2_readOfPlan 28 = .ok (.aload_n 3, 1) := by decide +kernel
theorem dX2_readOfPlan_29 : decode cX2_readOfPlan 29 = .ok (.getfield 104, 3) := by decide +kernel
theorem dX2_readOfPlan_32 : decode cX2_readOfPlan 32 = .ok (.iconst 4, 1) := by decide +kernel
theorem dX2_readOfPlan_33 : decode cX2_readOfPlan 33 = .ok (.if_icmp .ge 17, 3) := by decide +kernel
theorem dX2_readOfPlan_36 : decode cX2_readOfPlan 36 = .ok (.iload_n 1, 1) := by decide +kernel
theorem dX2_readOfPlan_37 : decode cX2_readOfPlan 37 = .ok (.bipush 6, 2) := by decide +kernel
theorem dX2_readOfPlan_39 : decode cX2_readOfPlan 39 = .ok (.if_icmp .ne 21, 3) := by decide +kernel
theorem dX2_readOfPlan_42 : decode cX2_readOfPlan 42 = .ok (.aload_n 3, 1) := by decide +kernel
theorem dX2_readOfPlan_43 : decode cX2_readOfPlan 43 = .ok (.getfield 109, 3) := by decide +kernel
theorem dX2_readOfPlan_46 : decode cX2_readOfPlan 46 = .ok (.iconst 3, 1) := by decide +kernel
theorem dX2_readOfPlan_47 : decode cX2_readOfPlan 47 = .ok (.if_icmp .lt 13, 3) := by decide +kernel
theorem dX2_readOfPlan_50 : decode cX2_readOfPlan 50 = .ok (.aload_n 0, 1) := by decide +kernel
theorem dX2_readOfPlan_51 : decode cX2_readOfPlan 51 = .ok (.getfield 23, 3) := by decide +kernel
theorem dX2_readOfPlan_54 : decode cX2_readOfPlan 54 = .ok (.bipush 6, 2) := by decide +kernel
theorem dX2_readOfPlan_56 : decode cX2_readOfPlan 56 = .ok (.iload_n 2, 1) := by decide +kernel
theorem dX2_readOfPlan_57 : decode cX2_readOfPlan 57 = .ok (.invokevirtual 38, 3) := by decide +kernel
theorem dX2_readOfPlan_60 : decode cX2_readOfPlan 60 = .ok (.aload_n 0, 1) := by decide +kernel
theorem dX2_readOfPlan_61 : decode cX2_readOfPlan 61 = .ok (.getfield 23, 3) := by decide +kernel
theorem dX2_readOfPlan_64 : decode cX2_readOfPlan 64 = .ok (.invokevirtual 65, 3) := by decide +kernel
theorem dX2_readOfPlan_67 : decode cX2_readOfPlan 67 = .ok (.aload_n 0, 1) := by decide +kernel
theorem dX2_readOfPlan_68 : decode cX2_readOfPlan 68 = .ok (.getfield 23, 3) := by decide +kernel
theorem dX2_readOfPlan_71 : decode cX2_readOfPlan 71 = .ok (.invokevirtual 68, 3) := by decide +kernel
theorem dX2_readOfPlan_74 : decode cX2_readOfPlan 74 = .ok (.ifCond .ne 4, 3) := by decide +kernel
theorem dX2_readOfPlan_77 : decode cX2_readOfPlan 77 = .ok (.return_, 1) := by decide +kernel
theorem dX2_readOfPlan_78 : decode cX2_readOfPlan 78 = .ok (.iload_n 1, 1) := by decide +kernel
theorem dX2_readOfPlan_79 : decode cX2_readOfPlan 79 = .ok (.tableswitch 139 0 5 #[37, 54, 72, 80, 97, 122], 37) := by decide +kernel
theorem dX2_readOfPlan_116 : decode cX2_readOfPlan 116 = .ok (.aload_n 3, 1) := by decide +kernel
theorem dX2_readOfPlan_117 : decode cX2_readOfPlan 117 = .ok (.aload_n 0, 1) := by decide +kernel
theorem dX2_readOfPlan_118 : decode cX2_readOfPlan 118 = .ok (.getfield 23, 3) := by decide +kernel
theorem dX2_readOfPlan_121 : decode cX2_readOfPlan 121 = .ok (.iconst 0, 1) := by decide +kernel
theorem dX2_readOfPlan_122 : decode cX2_readOfPlan 122 = .ok (.ldc 112, 2) := by decide +kernel
theorem dX2_readOfPlan_124 : decode cX2_readOfPlan 124 = .ok (.invokevirtual 71, 3) := by decide +kernel
theorem dX2_readOfPlan_127 : decode cX2_readOfPlan 127 = .ok (.putfield 113, 3) := by decide +kernel
theorem dX2_readOfPlan_130 : decode cX2_readOfPlan 130 = .ok (.goto 93, 3) := by decide +kernel
theorem dX2_readOfPlan_133 : decode cX2_readOfPlan 133 = .ok (.aload_n 3, 1) := by decide +kernel
theorem dX2_readOfPlan_134 : decode cX2_readOfPlan 134 = .ok (.aload_n 0, 1) := by decide +kernel
theorem dX2_readOfPlan_135 : decode cX2_readOfPlan 135 = .ok (.getfield 23, 3) := by decide +kernel
theorem dX2_readOfPlan_138 : decode cX2_readOfPlan 138 = .ok (.iconst 0, 1) := by decide +kernel
theorem dX2_readOfPlan_139 : decode cX2_readOfPlan 139 = .ok (.sipush 9999, 3) := by decide +kernel
theorem dX2_readOfPlan_142 : decode cX2_readOfPlan 142 = .ok (.invokevirtual 71, 3) := by decide +kernel
theorem dX2_readOfPlan_145 : decode cX2_readOfPlan 145 = .ok (.putfield 116, 3) := by decide +kernel
theorem dX2_readOfPlan_148 : decode cX2_readOfPlan 148 = .ok (.goto 75, 3) := by decide +kernel
theorem dX2_readOfPlan_151 : decode cX2_readOfPlan 151 = .ok (.aload_n 0, 1) := by decide +kernel
theorem dX2_readOfPlan_152 : decode cX2_readOfPlan 152 = .ok (.aload_n 3, 1) := by decide +kernel
theorem dX2_readOfPlan_153 : decode cX2_readOfPlan 153 = .ok (.invokevirtual 119, 3) := by decide +kernel
theorem dX2_readOfPlan_156 : decode cX2_readOfPlan 156 = .ok (.goto 67, 3) := by decide +kernel
theorem dX2_readOfPlan_159 : decode cX2_readOfPlan 159 = .ok (.aload_n 3, 1) := by decide +kernel
theorem dX2_readOfPlan_160 : decode cX2_readOfPlan 160 = .ok (.aload_n 0, 1) := by decide +kernel
theorem dX2_readOfPlan_161 : decode cX2_readOfPlan 161 = .ok (.getfield 23, 3) := by decide +kernel
theorem dX2_readOfPlan_164 : decode cX2_readOfPlan 164 = .ok (.iconst 0, 1) := by decide +kernel
theorem dX2_readOfPlan_165 : decode cX2_readOfPlan 165 = .ok (.bipush 99, 2) := by decide +kernel
theorem dX2_readOfPlan_167 : decode cX2_readOfPlan 167 = .ok (.invokevirtual 71, 3) := by decide +kernel
theorem dX2_readOfPlan_170 : decode cX2_readOfPlan 170 = .ok (.putfield 123, 3) := by decide +kernel
theorem dX2_readOfPlan_173 : decode cX2_readOfPlan 173 = .ok (.goto 50, 3) := by decide +kernel
theorem dX2_readOfPlan_176 : decode cX2_readOfPlan 176 = .ok (.aload_n 3, 1) := by decide +kernel
theorem dX2_readOfPlan_177 : decode cX2_readOfPlan 177 = .ok (.aload_n 0, 1) := by decide +kernel
theorem dX2_readOfPlan_178 : decode cX2_readOfPlan 178 = .ok (.getfield 23, 3) := by decide +kernel
theorem dX2_readOfPlan_181 : decode cX2_readOfPlan 181 = .ok (.ldc 126, 2) := by decide +kernel
theorem dX2_readOfPlan_183 : decode cX2_readOfPlan 183 = .ok (.invokevirtual 58, 3) := by decide +kernel
theorem dX2_readOfPlan_186 : decode cX2_readOfPlan 186 = .ok (.iconst 1, 1) := by decide +kernel
theorem dX2_readOfPlan_187 : decode cX2_readOfPlan 187 = .ok (.if_icmp .ne 7, 3) := by decide +kernel
theorem dX2_readOfPlan_190 : decode cX2_readOfPlan 190 = .ok (.iconst 1, 1) := by decide +kernel
theorem dX2_readOfPlan_191 : decode cX2_readOfPlan 191 = .ok (.goto 4, 3) := by decide +kernel
theorem dX2_readOfPlan_194 : decode cX2_readOfPlan 194 = .ok (.iconst 0, 1) := by decide +kernel
theorem dX2_readOfPlan_195 : decode cX2_readOfPlan 195 = .ok (.putfield 128, 3) := by decide +kernel
theorem dX2_readOfPlan_198 : decode cX2_readOfPlan 198 = .ok (.goto 25, 3) := by decide +kernel
theorem dX2_readOfPlan_201 : decode cX2_readOfPlan 201 = .ok (.aload_n 3, 1) := by decide +kernel
theorem dX2_readOfPlan_202 : decode cX2_readOfPlan 202 = .ok (.aload_n 0, 1) := by decide +kernel
theorem dX2_readOfPlan_203 : decode cX2_readOfPlan 203 = .ok (.getfield 23, 3) := by decide +kernel
theorem dX2_readOfPlan_206 : decode cX2_readOfPlan 206 = .ok (.iconst 0, 1) := by decide +kernel
theorem dX2_readOfPlan_207 : decode cX2_readOfPlan 207 = .ok (.bipush 100, 2) := by decide +kernel
theorem dX2_readOfPlan_209 : decode cX2_readOfPlan 209 = .ok (.invokevirtual 71, 3) := by decide +kernel
theorem dX2_readOfPlan_212 : decode cX2_readOfPlan 212 = .ok (.putfield 132, 3) := by decide +kernel
theorem dX2_readOfPlan_215 : decode cX2_readOfPlan 215 = .ok (.goto 8, 3) := by decide +kernel
theorem dX2_readOfPlan_218 : decode cX2_readOfPlan 218 = .ok (.aload_n 0, 1) := by decide +kernel
theorem dX2_readOfPlan_219 : decode cX2_readOfPlan 219 = .ok (.aload_n 3, 1) := by decide +kernel
theorem dX2_readOfPlan_220 : decode cX2_readOfPlan 220 = .ok (.invokevirtual 135, 3) := by decide +kernel
theorem dX2_readOfPlan_223 : decode cX2_readOfPlan 223 = .ok (.return_, 1) := by decide +kernel
theorem dX2_readTier_0 : decode cX2_readTier 0 = .ok (.aload_n 0, 1) := by decide +kernel
theorem dX2_readTier_1 : decode cX2_readTier 1 = .ok (.getfield 23, 3) := by decide +kernel
theorem dX2_readTier_4 : decode cX2_readTier 4 = .ok (.getfield 34, 3) := by decide +kernel
theorem dX2_readTier_7 : decode cX2_readTier 7 = .ok (.istore_n 2, 1) := by decide +kernel
theorem dX2_readTier_8 : decode cX2_readTier 8 = .ok (.aload_n 0, 1) := by decide +kernel
theorem dX2_readTier_9 : decode cX2_readTier 9 = .ok (.getfield 23, 3) := by decide +kernel
theorem dX2_readTier_12 : decode cX2_readTier 12 = .ok (.iconst 1, 1) := by decide +kernel
theorem dX2_readTier_13 : decode cX2_readTier 13 = .ok (.sipush 9999, 3) := by decide +kernel
theorem dX2_readTier_16 : decode cX2_readTier 16 = .ok (.invokevirtual 71, 3) := by decide +kernel
theorem dX2_readTier_19 : decode cX2_readTier 19 = .ok (.istore_n 3, 1) := by decide +kernel
theorem dX2_readTier_20 : decode cX2_readTier 20 = .ok (.aload_n 1, 1) := by decide +kernel
theorem dX2_readTier_21 : decode cX2_readTier 21 = .ok (.iload_n 3, 1) := by decide +kernel
theorem dX2_readTier_22 : decode cX2_readTier 22 = .ok (.invokevirtual 138, 3) := by decide +kernel
theorem dX2_readTier_25 : decode cX2_readTier 25 = .ok (.ifCond .ne 13, 3) := by decide +kernel
theorem dX2_readTier_28 : decode cX2_readTier 28 = .ok (.aload_n 0, 1) := by decide +kernel
theorem dX2_readTier_29 : decode cX2_readTier 29 = .ok (.getfield 23, 3) := by decide +kernel
theorem dX2_readTier_32 : decode cX2_readTier 32 = .ok (.bipush 6, 2) := by decide +kernel
theorem dX2_readTier_34 : decode cX2_readTier 34 = .ok (.iload_n 2, 1) := by decide +kernel
theorem dX2_readTier_35 : decode cX2_readTier 35 = .ok (.invokevirtual 38, 3) := by decide +kernel
theorem dX2_readTier_38 : decode cX2_readTier 38 = .ok (.aload_n 0, 1) := by decide +kernel
theorem dX2_readTier_39 : decode cX2_readTier 39 = .ok (.getfield 23, 3) := by decide +kernel
theorem dX2_readTier_42 : decode cX2_readTier 42 = .ok (.invokevirtual 65, 3) := by decide +kernel
theorem dX2_readTier_45 : decode cX2_readTier 45 = .ok (.aload_n 1, 1) := by decide +kernel
theorem dX2_readTier_46 : decode cX2_readTier 46 = .ok (.iload_n 3, 1) := by decide +kernel
theorem dX2_readTier_47 : decode cX2_readTier 47 = .ok (.aload_n 0, 1) := by decide +kernel
theorem dX2_readTier_48 : decode cX2_readTier 48 = .ok (.getfield 23, 3) := by decide +kernel
theorem dX2_readTier_51 : decode cX2_readTier 51 = .ok (.iconst 0, 1) := by decide +kernel
theorem dX2_readTier_52 : decode cX2_readTier 52 = .ok (.bipush 99, 2) := by decide +kernel
theorem dX2_readTier_54 : decode cX2_readTier 54 = .ok (.invokevirtual 71, 3) := by decide +kernel
theorem dX2_readTier_57 : decode cX2_readTier 57 = .ok (.invokevirtual 141, 3) := by decide +kernel
theorem dX2_readTier_60 : decode cX2_readTier 60 = .ok (.return_, 1) := by decide +kernel
theorem dX2_readBulk_0 : decode cX2_readBulk 0 = .ok (.aload_n 0, 1) := by decide +kernel
theorem dX2_readBulk_1 : decode cX2_readBulk 1 = .ok (.getfield 23, 3) := by decide +kernel
theorem dX2_readBulk_4 : decode cX2_readBulk 4 = .ok (.getfield 34, 3) := by decide +kernel
theorem dX2_readBulk_7 : decode cX2_readBulk 7 = .ok (.istore_n 2, 1) := by decide +kernel
theorem dX2_readBulk_8 : decode cX2_readBulk 8 = .ok (.aload_n 0, 1) := by decide +kernel
theorem dX2_readBulk_9 : decode cX2_readBulk 9 = .ok (.getfield 23, 3) := by decide +kernel
theorem dX2_readBulk_12 : decode cX2_readBulk 12 = .ok (.iconst 2, 1) := by decide +kernel
theorem dX2_readBulk_13 : decode cX2_readBulk 13 = .ok (.bipush 9, 2) := by decide +kernel
theorem dX2_readBulk_15 : decode cX2_readBulk 15 = .ok (.invokevirtual 71, 3) := by decide +kernel
theorem dX2_readBulk_18 : decode cX2_readBulk 18 = .ok (.istore_n 3, 1) := by decide +kernel
theorem dX2_readBulk_19 : decode cX2_readBulk 19 = .ok (.aload_n 1, 1) := by decide +kernel
theorem dX2_readBulk_20 : decode cX2_readBulk 20 = .ok (.iload_n 3, 1) := by decide +kernel
theorem dX2_readBulk_21 : decode cX2_readBulk 21 = .ok (.invokevirtual 144, 3) := by decide +kernel
theorem dX2_readBulk_24 : decode cX2_readBulk 24 = .ok (.ifCond .ne 13, 3) := by decide +kernel
theorem dX2_readBulk_27 : decode cX2_readBulk 27 = .ok (.aload_n 0, 1) := by decide +kernel
theorem dX2_readBulk_28 : decode cX2_readBulk 28 = .ok (.getfield 23, 3) := by decide +kernel
theorem dX2_readBulk_31 : decode cX2_readBulk 31 = .ok (.bipush 6, 2) := by decide +kernel
theorem dX2_readBulk_33 : decode cX2_readBulk 33 = .ok (.iload_n 2, 1) := by decide +kernel
theorem dX2_readBulk_34 : decode cX2_readBulk 34 = .ok (.invokevirtual 38, 3) := by decide +kernel
theorem dX2_readBulk_37 : decode cX2_readBulk 37 = .ok (.aload_n 0, 1) := by decide +kernel
theorem dX2_readBulk_38 : decode cX2_readBulk 38 = .ok (.getfield 23, 3) := by decide +kernel
theorem dX2_readBulk_41 : decode cX2_readBulk 41 = .ok (.invokevirtual 65, 3) := by decide +kernel
theorem dX2_readBulk_44 : decode cX2_readBulk 44 = .ok (.aload_n 1, 1) := by decide +kernel
theorem dX2_readBulk_45 : decode cX2_readBulk 45 = .ok (.iload_n 3, 1) := by decide +kernel
theorem dX2_readBulk_46 : decode cX2_readBulk 46 = .ok (.aload_n 0, 1) := by decide +kernel
theorem dX2_readBulk_47 : decode cX2_readBulk 47 = .ok (.getfield 23, 3) := by decide +kernel
theorem dX2_readBulk_50 : decode cX2_readBulk 50 = .ok (.iconst 0, 1) := by decide +kernel
theorem dX2_readBulk_51 : decode cX2_readBulk 51 = .ok (.bipush 100, 2) := by decide +kernel
theorem dX2_readBulk_53 : decode cX2_readBulk 53 = .ok (.invokevirtual 71, 3) := by decide +kernel
theorem dX2_readBulk_56 : decode cX2_readBulk 56 = .ok (.invokevirtual 147, 3) := by decide +kernel
theorem dX2_readBulk_59 : decode cX2_readBulk 59 = .ok (.return_, 1) := by decide +kernel
theorem dX3_init_0 : decode cX3_init 0 = .ok (.aload_n 0, 1) := by decide +kernel
theorem dX3_init_1 : decode cX3_init 1 = .ok (.invokespecial 3, 3) := by decide +kernel
theorem dX3_init_4 : decode cX3_init 4 = .ok (.aload_n 0, 1) := by decide +kernel
theorem dX3_init_5 : decode cX3_init 5 = .ok (.bipush 123, 2) := by decide +kernel
theorem dX3_init_7 : decode cX3_init 7 = .ok (.newarray .int, 2) := by decide +kernel
theorem dX3_init_9 : decode cX3_init 9 = .ok (.putfield 11, 3) := by decide +kernel
theorem dX3_init_12 : decode cX3_init 12 = .ok (.bipush (-31), 2) := by decide +kernel
theorem dX3_init_14 : decode cX3_init 14 = .ok (.istore_n 1, 1) := by decide +kernel
theorem dX3_init_15 : decode cX3_init 15 = .ok (.iconst 0, 1) := by decide +kernel
theorem dX3_init_16 : decode cX3_init 16 = .ok (.istore_n 2, 1) := by decide +kernel
theorem dX3_init_17 : decode cX3_init 17 = .ok (.iload_n 2, 1) := by decide +kernel
theorem dX3_init_18 : decode cX3_init 18 = .ok (.aload_n 0, 1) := by decide +kernel
theorem dX3_init_19 : decode cX3_init 19 = .ok (.getfield 11, 3) := by decide +kernel
theorem dX3_init_22 : decode cX3_init 22 = .ok (.arraylength, 1) := by decide +kernel
theorem dX3_init_23 : decode cX3_init 23 = .ok (.if_icmp .ge 23, 3) := by decide +kernel
theorem dX3_init_26 : decode cX3_init 26 = .ok (.aload_n 0, 1) := by decide +kernel
theorem dX3_init_27 : decode cX3_init 27 = .ok (.getfield 11, 3) := by decide +kernel
theorem dX3_init_30 : decode cX3_init 30 = .ok (.iload_n 2, 1) := by decide +kernel
theorem dX3_init_31 : decode cX3_init 31 = .ok (.iload_n 1, 1) := by decide +kernel
theorem dX3_init_32 : decode cX3_init 32 = .ok (.iastore, 1) := by decide +kernel
theorem dX3_init_33 : decode cX3_init 33 = .ok (.iload_n 1, 1) := by decide +kernel
theorem dX3_init_34 : decode cX3_init 34 = .ok (.iload_n 2, 1) := by decide +kernel
theorem dX3_init_35 : decode cX3_init 35 = .ok (.invokestatic 15, 3) := by decide +kernel
theorem dX3_init_38 : decode cX3_init 38 = .ok (.iadd, 1) := by decide +kernel
theorem dX3_init_39 : decode cX3_init 39 = .ok (.istore_n 1, 1) := by decide +kernel
theorem dX3_init_40 : decode cX3_init 40 = .ok (.iinc 2 1, 3) := by decide +kernel
theorem dX3_init_43 : decode cX3_init 43 = .ok (.goto (-26), 3) := by decide +kernel
theorem dX3_init_46 : decode cX3_init 46 = .ok (.return_, 1) := by decide +kernel
theorem dX3_lengthOf_0 : decode cX3_lengthOf 0 = .ok (.iload_n 0, 1) := by decide +kernel
theorem dX3_lengthOf_1 : decode cX3_lengthOf 1 = .ok (.bipush 11, 2) := by decide +kernel
theorem dX3_lengthOf_3 : decode cX3_lengthOf 3 = .ok (.iadd, 1) := by decide +kernel
theorem dX3_lengthOf_4 : decode cX3_lengthOf 4 = .ok (.bipush 12, 2) := by decide +kernel
theorem dX3_lengthOf_6 : decode cX3_lengthOf 6 = .ok (.irem, 1) := by decide +kernel
theorem dX3_lengthOf_7 : decode cX3_lengthOf 7 = .ok (.tableswitch 77 1 10 #[53, 77, 74, 77, 74, 77, 77, 74, 77, 74], 53) := by decide +kernel
theorem dX3_lengthOf_60 : decode cX3_lengthOf 60 = .ok (.iload_n 0, 1) := by decide +kernel
theorem dX3_lengthOf_61 : decode cX3_lengthOf 61 = .ok (.bipush 11, 2) := by decide +kernel
theorem dX3_lengthOf_63 : decode cX3_lengthOf 63 = .ok (.iadd, 1) := by decide +kernel
theorem dX3_lengthOf_64 : decode cX3_lengthOf 64 = .ok (.bipush 12, 2) := by decide +kernel
theorem dX3_lengthOf_66 : decode cX3_lengthOf 66 = .ok (.idiv, 1) := by decide +kernel
theorem dX3_lengthOf_67 : decode cX3_lengthOf 67 = .ok (.iconst 4, 1) := by decide +kernel
theorem dX3_lengthOf_68 : decode cX3_lengthOf 68 = .ok (.irem, 1) := by decide +kernel
theorem dX3_lengthOf_69 : decode cX3_lengthOf 69 = .ok (.iconst 1, 1) := by decide +kernel
theorem dX3_lengthOf_70 : decode cX3_lengthOf 70 = .ok (.if_icmp .ne 8, 3) := by decide +kernel
theorem dX3_lengthOf_73 : decode cX3_lengthOf 73 = .ok (.bipush 29, 2) := by decide +kernel
theorem dX3_lengthOf_75 : decode cX3_lengthOf 75 = .ok (.goto 5, 3) := by decide +kernel
theorem dX3_lengthOf_78 : decode cX3_lengthOf 78 = .ok (.bipush 28, 2) := by decide +kernel
theorem dX3_lengthOf_80 : decode cX3_lengthOf 80 = .ok (.ireturn, 1) := by decide +kernel
theorem dX3_lengthOf_81 : decode cX3_lengthOf 81 = .ok (.bipush 30, 2) := by decide +kernel
theorem dX3_lengthOf_83 : decode cX3_lengthOf 83 = .ok (.ireturn, 1) := by decide +kernel
theorem dX3_lengthOf_84 : decode cX3_lengthOf 84 = .ok (.bipush 31, 2) := by decide +kernel
theorem dX3_lengthOf_86 : decode cX3_lengthOf 86 = .ok (.ireturn, 1) := by decide +kernel
theorem dX3_monthWith_0 : decode cX3_monthWith 0 = .ok (.iconst 0, 1) := by decide +kernel
theorem dX3_monthWith_1 : decode cX3_monthWith 1 = .ok (.iload_n 1, 1) := by decide +kernel
theorem dX3_monthWith_2 : decode cX3_monthWith 2 = .ok (.bipush 31, 2) := by decide +kernel
theorem dX3_monthWith_4 : decode cX3_monthWith 4 = .ok (.idiv, 1) := by decide +kernel
theorem dX3_monthWith_5 : decode cX3_monthWith 5 = .ok (.iconst 1, 1) := by decide +kernel
theorem dX3_monthWith_6 : decode cX3_monthWith 6 = .ok (.iadd, 1) := by decide +kernel
theorem dX3_monthWith_7 : decode cX3_monthWith 7 = .ok (.invokestatic 19, 3) := by decide +kernel
theorem dX3_monthWith_10 : decode cX3_monthWith 10 = .ok (.istore_n 2, 1) := by decide +kernel
theorem dX3_monthWith_11 : decode cX3_monthWith 11 = .ok (.iload_n 2, 1) := by decide +kernel
theorem dX3_monthWith_12 : decode cX3_monthWith 12 = .ok (.iconst 2, 1) := by decide +kernel
theorem dX3_monthWith_13 : decode cX3_monthWith 13 = .ok (.iadd, 1) := by decide +kernel
theorem dX3_monthWith_14 : decode cX3_monthWith 14 = .ok (.aload_n 0, 1) := by decide +kernel
theorem dX3_monthWith_15 : decode cX3_monthWith 15 = .ok (.getfield 11, 3) := by decide +kernel
theorem dX3_monthWith_18 : decode cX3_monthWith 18 = .ok (.arraylength, 1) := by decide +kernel
theorem dX3_monthWith_19 : decode cX3_monthWith 19 = .ok (.if_icmp .ge 21, 3) := by decide +kernel
theorem dX3_monthWith_22 : decode cX3_monthWith 22 = .ok (.aload_n 0, 1) := by decide +kernel
theorem dX3_monthWith_23 : decode cX3_monthWith 23 = .ok (.getfield 11, 3) := by decide +kernel
theorem dX3_monthWith_26 : decode cX3_monthWith 26 = .ok (.iload_n 2, 1) := by decide +kernel
theorem dX3_monthWith_27 : decode cX3_monthWith 27 = .ok (.iconst 1, 1) := by decide +kernel
theorem dX3_monthWith_28 : decode cX3_monthWith 28 = .ok (.iadd, 1) := by decide +kernel
theorem dX3_monthWith_29 : decode cX3_monthWith 29 = .ok (.iaload, 1) := by decide +kernel
theorem dX3_monthWith_30 : decode cX3_monthWith 30 = .ok (.iload_n 1, 1) := by decide +kernel
theorem dX3_monthWith_31 : decode cX3_monthWith 31 = .ok (.if_icmp .gt 9, 3) := by decide +kernel
theorem dX3_monthWith_34 : decode cX3_monthWith 34 = .ok (.iinc 2 1, 3) := by decide +kernel
theorem dX3_monthWith_37 : decode cX3_monthWith 37 = .ok (.goto (-26), 3) := by decide +kernel
theorem dX3_monthWith_40 : decode cX3_monthWith 40 = .ok (.iload_n 2, 1) := by decide +kernel
theorem dX3_monthWith_41 : decode cX3_monthWith 41 = .ok (.bipush 121, 2) := by decide +kernel
theorem dX3_monthWith_43 : decode cX3_monthWith 43 = .ok (.invokestatic 25, 3) := by decide +kernel
theorem dX3_monthWith_46 : decode cX3_monthWith 46 = .ok (.ireturn, 1) := by decide +kernel
theorem dX3_turnIn_0 : decode cX3_turnIn 0 = .ok (.iload_n 2, 1) := by decide +kernel
theorem dX3_turnIn_1 : decode cX3_turnIn 1 = .ok (.ifCond .lt 14, 3) := by decide +kernel
theorem dX3_turnIn_4 : decode cX3_turnIn 4 = .ok (.iload_n 2, 1) := by decide +kernel
theorem dX3_turnIn_5 : decode cX3_turnIn 5 = .ok (.iconst 1, 1) := by decide +kernel
theorem dX3_turnIn_6 : decode cX3_turnIn 6 = .ok (.iadd, 1) := by decide +kernel
theorem dX3_turnIn_7 : decode cX3_turnIn 7 = .ok (.aload_n 0, 1) := by decide +kernel
theorem dX3_turnIn_8 : decode cX3_turnIn 8 = .ok (.getfield 11, 3) := by decide +kernel
theorem dX3_turnIn_11 : decode cX3_turnIn 11 = .ok (.arraylength, 1) := by decide +kernel
theorem dX3_turnIn_12 : decode cX3_turnIn 12 = .ok (.if_icmp .lt 5, 3) := by decide +kernel
theorem dX3_turnIn_15 : decode cX3_turnIn 15 = .ok (.iconst 0, 1) := by decide +kernel
theorem dX3_turnIn_16 : decode cX3_turnIn 16 = .ok (.ireturn, 1) := by decide +kernel
theorem dX3_turnIn_17 : decode cX3_turnIn 17 = .ok (.aload_n 0, 1) := by decide +kernel
theorem dX3_turnIn_18 : decode cX3_turnIn 18 = .ok (.getfield 11, 3) := by decide +kernel
theorem dX3_turnIn_21 : decode cX3_turnIn 21 = .ok (.iload_n 2, 1) := by decide +kernel
theorem dX3_turnIn_22 : decode cX3_turnIn 22 = .ok (.iaload, 1) := by decide +kernel
theorem dX3_turnIn_23 : decode cX3_turnIn 23 = .ok (.iload_n 1, 1) := by decide +kernel
theorem dX3_turnIn_24 : decode cX3_turnIn 24 = .ok (.aload_n 0, 1) := by decide +kernel
theorem dX3_turnIn_25 : decode cX3_turnIn 25 = .ok (.getfield 11, 3) := by decide +kernel
theorem dX3_turnIn_28 : decode cX3_turnIn 28 = .ok (.iload_n 2, 1) := by decide +kernel
theorem dX3_turnIn_29 : decode cX3_turnIn 29 = .ok (.iconst 1, 1) := by decide +kernel
theorem dX3_turnIn_30 : decode cX3_turnIn 30 = .ok (.iadd, 1) := by decide +kernel
theorem dX3_turnIn_31 : decode cX3_turnIn 31 = .ok (.iaload, 1) := by decide +kernel
theorem dX3_turnIn_32 : decode cX3_turnIn 32 = .ok (.aload_n 0, 1) := by decide +kernel
theorem dX3_turnIn_33 : decode cX3_turnIn 33 = .ok (.getfield 11, 3) := by decide +kernel
theorem dX3_turnIn_36 : decode cX3_turnIn 36 = .ok (.iload_n 2, 1) := by decide +kernel
theorem dX3_turnIn_37 : decode cX3_turnIn 37 = .ok (.iaload, 1) := by decide +kernel
theorem dX3_turnIn_38 : decode cX3_turnIn 38 = .ok (.isub, 1) := by decide +kernel
theorem dX3_turnIn_39 : decode cX3_turnIn 39 = .ok (.invokestatic 25, 3) := by decide +kernel
theorem dX3_turnIn_42 : decode cX3_turnIn 42 = .ok (.iadd, 1) := by decide +kernel
theorem dX3_turnIn_43 : decode cX3_turnIn 43 = .ok (.iconst 1, 1) := by decide +kernel
theorem dX3_turnIn_44 : decode cX3_turnIn 44 = .ok (.isub, 1) := by decide +kernel
theorem dX3_turnIn_45 : decode cX3_turnIn 45 = .ok (.ireturn, 1) := by decide +kernel
theorem dX3_lastTurn_0 : decode cX3_lastTurn 0 = .ok (.aload_n 0, 1) := by decide +kernel
theorem dX3_lastTurn_1 : decode cX3_lastTurn 1 = .ok (.iload_n 2, 1) := by decide +kernel
theorem dX3_lastTurn_2 : decode cX3_lastTurn 2 = .ok (.invokevirtual 28, 3) := by decide +kernel
theorem dX3_lastTurn_5 : decode cX3_lastTurn 5 = .ok (.istore_n 3, 1) := by decide +kernel
theorem dX3_lastTurn_6 : decode cX3_lastTurn 6 = .ok (.aload_n 0, 1) := by decide +kernel
theorem dX3_lastTurn_7 : decode cX3_lastTurn 7 = .ok (.iload_n 1, 1) := by decide +kernel
theorem dX3_lastTurn_8 : decode cX3_lastTurn 8 = .ok (.iload_n 3, 1) := by decide +kernel
theorem dX3_lastTurn_9 : decode cX3_lastTurn 9 = .ok (.invokevirtual 31, 3) := by decide +kernel
theorem dX3_lastTurn_12 : decode cX3_lastTurn 12 = .ok (.istore 4, 2) := by decide +kernel
theorem dX3_lastTurn_14 : decode cX3_lastTurn 14 = .ok (.iload 4, 2) := by decide +kernel
theorem dX3_lastTurn_16 : decode cX3_lastTurn 16 = .ok (.iload_n 2, 1) := by decide +kernel
theorem dX3_lastTurn_17 : decode cX3_lastTurn 17 = .ok (.if_icmp .gt 8, 3) := by decide +kernel
theorem dX3_lastTurn_20 : decode cX3_lastTurn 20 = .ok (.iload 4, 2) := by decide +kernel
theorem dX3_lastTurn_22 : decode cX3_lastTurn 22 = .ok (.goto 11, 3) := by decide +kernel
theorem dX3_lastTurn_25 : decode cX3_lastTurn 25 = .ok (.aload_n 0, 1) := by decide +kernel
theorem dX3_lastTurn_26 : decode cX3_lastTurn 26 = .ok (.iload_n 1, 1) := by decide +kernel
theorem dX3_lastTurn_27 : decode cX3_lastTurn 27 = .ok (.iload_n 3, 1) := by decide +kernel
theorem dX3_lastTurn_28 : decode cX3_lastTurn 28 = .ok (.iconst 1, 1) := by decide +kernel
theorem dX3_lastTurn_29 : decode cX3_lastTurn 29 = .ok (.isub, 1) := by decide +kernel
theorem dX3_lastTurn_30 : decode cX3_lastTurn 30 = .ok (.invokevirtual 31, 3) := by decide +kernel
theorem dX3_lastTurn_33 : decode cX3_lastTurn 33 = .ok (.ireturn, 1) := by decide +kernel
theorem dX3_nextTurn_0 : decode cX3_nextTurn 0 = .ok (.aload_n 0, 1) := by decide +kernel
theorem dX3_nextTurn_1 : decode cX3_nextTurn 1 = .ok (.iload_n 2, 1) := by decide +kernel
theorem dX3_nextTurn_2 : decode cX3_nextTurn 2 = .ok (.invokevirtual 28, 3) := by decide +kernel
theorem dX3_nextTurn_5 : decode cX3_nextTurn 5 = .ok (.istore_n 3, 1) := by decide +kernel
theorem dX3_nextTurn_6 : decode cX3_nextTurn 6 = .ok (.aload_n 0, 1) := by decide +kernel
theorem dX3_nextTurn_7 : decode cX3_nextTurn 7 = .ok (.iload_n 1, 1) := by decide +kernel
theorem dX3_nextTurn_8 : decode cX3_nextTurn 8 = .ok (.iload_n 3, 1) := by decide +kernel
theorem dX3_nextTurn_9 : decode cX3_nextTurn 9 = .ok (.invokevirtual 31, 3) := by decide +kernel
theorem dX3_nextTurn_12 : decode cX3_nextTurn 12 = .ok (.istore 4, 2) := by decide +kernel
theorem dX3_nextTurn_14 : decode cX3_nextTurn 14 = .ok (.iload 4, 2) := by decide +kernel
theorem dX3_nextTurn_16 : decode cX3_nextTurn 16 = .ok (.iload_n 2, 1) := by decide +kernel
theorem dX3_nextTurn_17 : decode cX3_nextTurn 17 = .ok (.if_icmp .le 8, 3) := by decide +kernel
theorem dX3_nextTurn_20 : decode cX3_nextTurn 20 = .ok (.iload 4, 2) := by decide +kernel
theorem dX3_nextTurn_22 : decode cX3_nextTurn 22 = .ok (.goto 11, 3) := by decide +kernel
theorem dX3_nextTurn_25 : decode cX3_nextTurn 25 = .ok (.aload_n 0, 1) := by decide +kernel
theorem dX3_nextTurn_26 : decode cX3_nextTurn 26 = .ok (.iload_n 1, 1) := by decide +kernel
theorem dX3_nextTurn_27 : decode cX3_nextTurn 27 = .ok (.iload_n 3, 1) := by decide +kernel
theorem dX3_nextTurn_28 : decode cX3_nextTurn 28 = .ok (.iconst 1, 1) := by decide +kernel
theorem dX3_nextTurn_29 : decode cX3_nextTurn 29 = .ok (.iadd, 1) := by decide +kernel
theorem dX3_nextTurn_30 : decode cX3_nextTurn 30 = .ok (.invokevirtual 31, 3) := by decide +kernel
theorem dX3_nextTurn_33 : decode cX3_nextTurn 33 = .ok (.ireturn, 1) := by decide +kernel
theorem dX3_yearOf_0 : decode cX3_yearOf 0 = .ok (.sipush 2023, 3) := by decide +kernel
theorem dX3_yearOf_3 : decode cX3_yearOf 3 = .ok (.aload_n 0, 1) := by decide +kernel
theorem dX3_yearOf_4 : decode cX3_yearOf 4 = .ok (.iload_n 1, 1) := by decide +kernel
theorem dX3_yearOf_5 : decode cX3_yearOf 5 = .ok (.invokevirtual 28, 3) := by decide +kernel
theorem dX3_yearOf_8 : decode cX3_yearOf 8 = .ok (.bipush 11, 2) := by decide +kernel
theorem dX3_yearOf_10 : decode cX3_yearOf 10 = .ok (.iadd, 1) := by decide +kernel
theorem dX3_yearOf_11 : decode cX3_yearOf 11 = .ok (.bipush 12, 2) := by decide +kernel
theorem dX3_yearOf_13 : decode cX3_yearOf 13 = .ok (.idiv, 1) := by decide +kernel
theorem dX3_yearOf_14 : decode cX3_yearOf 14 = .ok (.iadd, 1) := by decide +kernel
theorem dX3_yearOf_15 : decode cX3_yearOf 15 = .ok (.ireturn, 1) := by decide +kernel
theorem dX3_monthOf_0 : decode cX3_monthOf 0 = .ok (.aload_n 0, 1) := by decide +kernel
theorem dX3_monthOf_1 : decode cX3_monthOf 1 = .ok (.iload_n 1, 1) := by decide +kernel
theorem dX3_monthOf_2 : decode cX3_monthOf 2 = .ok (.invokevirtual 28, 3) := by decide +kernel
theorem dX3_monthOf_5 : decode cX3_monthOf 5 = .ok (.bipush 11, 2) := by decide +kernel
theorem dX3_monthOf_7 : decode cX3_monthOf 7 = .ok (.iadd, 1) := by decide +kernel
theorem dX3_monthOf_8 : decode cX3_monthOf 8 = .ok (.bipush 12, 2) := by decide +kernel
theorem dX3_monthOf_10 : decode cX3_monthOf 10 = .ok (.irem, 1) := by decide +kernel
theorem dX3_monthOf_11 : decode cX3_monthOf 11 = .ok (.iconst 1, 1) := by decide +kernel
theorem dX3_monthOf_12 : decode cX3_monthOf 12 = .ok (.iadd, 1) := by decide +kernel
theorem dX3_monthOf_13 : decode cX3_monthOf 13 = .ok (.ireturn, 1) := by decide +kernel
theorem dX3_dayOfMonth_0 : decode cX3_dayOfMonth 0 = .ok (.iload_n 1, 1) := by decide +kernel
theorem dX3_dayOfMonth_1 : decode cX3_dayOfMonth 1 = .ok (.aload_n 0, 1) := by decide +kernel
theorem dX3_dayOfMonth_2 : decode cX3_dayOfMonth 2 = .ok (.getfield 11, 3) := by decide +kernel
theorem dX3_dayOfMonth_5 : decode cX3_dayOfMonth 5 = .ok (.aload_n 0, 1) := by decide +kernel
theorem dX3_dayOfMonth_6 : decode cX3_dayOfMonth 6 = .ok (.iload_n 1, 1) := by decide +kernel
theorem dX3_dayOfMonth_7 : decode cX3_dayOfMonth 7 = .ok (.invokevirtual 28, 3) := by decide +kernel
theorem dX3_dayOfMonth_10 : decode cX3_dayOfMonth 10 = .ok (.iaload, 1) := by decide +kernel
theorem dX3_dayOfMonth_11 : decode cX3_dayOfMonth 11 = .ok (.isub, 1) := by decide +kernel
theorem dX3_dayOfMonth_12 : decode cX3_dayOfMonth 12 = .ok (.iconst 1, 1) := by decide +kernel
theorem dX3_dayOfMonth_13 : decode cX3_dayOfMonth 13 = .ok (.iadd, 1) := by decide +kernel
theorem dX3_dayOfMonth_14 : decode cX3_dayOfMonth 14 = .ok (.ireturn, 1) := by decide +kernel
theorem dX3_dayOf_0 : decode cX3_dayOf 0 = .ok (.iload_n 1, 1) := by decide +kernel
theorem dX3_dayOf_1 : decode cX3_dayOf 1 = .ok (.sipush 2024, 3) := by decide +kernel
theorem dX3_dayOf_4 : decode cX3_dayOf 4 = .ok (.if_icmp .lt 26, 3) := by decide +kernel
theorem dX3_dayOf_7 : decode cX3_dayOf 7 = .ok (.iload_n 1, 1) := by decide +kernel
theorem dX3_dayOf_8 : decode cX3_dayOf 8 = .ok (.sipush 2033, 3) := by decide +kernel
theorem dX3_dayOf_11 : decode cX3_dayOf 11 = .ok (.if_icmp .gt 19, 3) := by decide +kernel
theorem dX3_dayOf_14 : decode cX3_dayOf 14 = .ok (.iload_n 2, 1) := by decide +kernel
theorem dX3_dayOf_15 : decode cX3_dayOf 15 = .ok (.iconst 1, 1) := by decide +kernel
theorem dX3_dayOf_16 : decode cX3_dayOf 16 = .ok (.if_icmp .lt 14, 3) := by decide +kernel
theorem dX3_dayOf_19 : decode cX3_dayOf 19 = .ok (.iload_n 2, 1) := by decide +kernel
theorem dX3_dayOf_20 : decode cX3_dayOf 20 = .ok (.bipush 12, 2) := by decide +kernel
theorem dX3_dayOf_22 : decode cX3_dayOf 22 = .ok (.if_icmp .gt 8, 3) := by decide +kernel
theorem dX3_dayOf_25 : decode cX3_dayOf 25 = .ok (.iload_n 3, 1) := by decide +kernel
theorem dX3_dayOf_26 : decode cX3_dayOf 26 = .ok (.iconst 1, 1) := by decide +kernel
theorem dX3_dayOf_27 : decode cX3_dayOf 27 = .ok (.if_icmp .ge 5, 3) := by decide +kernel
theorem dX3_dayOf_30 : decode cX3_dayOf 30 = .ok (.iconst (-1), 1) := by decide +kernel
theorem dX3_dayOf_31 : decode cX3_dayOf 31 = .ok (.ireturn, 1) := by decide +kernel
theorem dX3_dayOf_32 : decode cX3_dayOf 32 = .ok (.iload_n 1, 1) := by decide +kernel
theorem dX3_dayOf_33 : decode cX3_dayOf 33 = .ok (.sipush 2024, 3) := by decide +kernel
theorem dX3_dayOf_36 : decode cX3_dayOf 36 = .ok (.isub, 1) := by decide +kernel
theorem dX3_dayOf_37 : decode cX3_dayOf 37 = .ok (.bipush 12, 2) := by decide +kernel
theorem dX3_dayOf_39 : decode cX3_dayOf 39 = .ok (.imul, 1) := by decide +kernel
theorem dX3_dayOf_40 : decode cX3_dayOf 40 = .ok (.iload_n 2, 1) := by decide +kernel
theorem dX3_dayOf_41 : decode cX3_dayOf 41 = .ok (.iadd, 1) := by decide +kernel
theorem dX3_dayOf_42 : decode cX3_dayOf 42 = .ok (.istore 4, 2) := by decide +kernel
theorem dX3_dayOf_44 : decode cX3_dayOf 44 = .ok (.iload 4, 2) := by decide +kernel
theorem dX3_dayOf_46 : decode cX3_dayOf 46 = .ok (.iconst 1, 1) := by decide +kernel
theorem dX3_dayOf_47 : decode cX3_dayOf 47 = .ok (.iadd, 1) := by decide +kernel
theorem dX3_dayOf_48 : decode cX3_dayOf 48 = .ok (.aload_n 0, 1) := by decide +kernel
theorem dX3_dayOf_49 : decode cX3_dayOf 49 = .ok (.getfield 11, 3) := by decide +kernel
theorem dX3_dayOf_52 : decode cX3_dayOf 52 = .ok (.arraylength, 1) := by decide +kernel
theorem dX3_dayOf_53 : decode cX3_dayOf 53 = .ok (.if_icmp .ge 24, 3) := by decide +kernel
theorem dX3_dayOf_56 : decode cX3_dayOf 56 = .ok (.iload_n 3, 1) := by decide +kernel
theorem dX3_dayOf_57 : decode cX3_dayOf 57 = .ok (.aload_n 0, 1) := by decide +kernel
theorem dX3_dayOf_58 : decode cX3_dayOf 58 = .ok (.getfield 11, 3) := by decide +kernel
theorem dX3_dayOf_61 : decode cX3_dayOf 61 = .ok (.iload 4, 2) := by decide +kernel
theorem dX3_dayOf_63 : decode cX3_dayOf 63 = .ok (.iconst 1, 1) := by decide +kernel
theorem dX3_dayOf_64 : decode cX3_dayOf 64 = .ok (.iadd, 1) := by decide +kernel
theorem dX3_dayOf_65 : decode cX3_dayOf 65 = .ok (.iaload, 1) := by decide +kernel
theorem dX3_dayOf_66 : decode cX3_dayOf 66 = .ok (.aload_n 0, 1) := by decide +kernel
theorem dX3_dayOf_67 : decode cX3_dayOf 67 = .ok (.getfield 11, 3) := by decide +kernel
theorem dX3_dayOf_70 : decode cX3_dayOf 70 = .ok (.iload 4, 2) := by decide +kernel
theorem dX3_dayOf_72 : decode cX3_dayOf 72 = .ok (.iaload, 1) := by decide +kernel
theorem dX3_dayOf_73 : decode cX3_dayOf 73 = .ok (.isub, 1) := by decide +kernel
theorem dX3_dayOf_74 : decode cX3_dayOf 74 = .ok (.if_icmp .le 5, 3) := by decide +kernel
theorem dX3_dayOf_77 : decode cX3_dayOf 77 = .ok (.iconst (-1), 1) := by decide +kernel
theorem dX3_dayOf_78 : decode cX3_dayOf 78 = .ok (.ireturn, 1) := by decide +kernel
theorem dX3_dayOf_79 : decode cX3_dayOf 79 = .ok (.aload_n 0, 1) := by decide +kernel
theorem dX3_dayOf_80 : decode cX3_dayOf 80 = .ok (.getfield 11, 3) := by decide +kernel
theorem dX3_dayOf_83 : decode cX3_dayOf 83 = .ok (.iload 4, 2) := by decide +kernel
theorem dX3_dayOf_85 : decode cX3_dayOf 85 = .ok (.iaload, 1) := by decide +kernel
theorem dX3_dayOf_86 : decode cX3_dayOf 86 = .ok (.iload_n 3, 1) := by decide +kernel
theorem dX3_dayOf_87 : decode cX3_dayOf 87 = .ok (.iadd, 1) := by decide +kernel
theorem dX3_dayOf_88 : decode cX3_dayOf 88 = .ok (.iconst 1, 1) := by decide +kernel
theorem dX3_dayOf_89 : decode cX3_dayOf 89 = .ok (.isub, 1) := by decide +kernel
theorem dX3_dayOf_90 : decode cX3_dayOf 90 = .ok (.ireturn, 1) := by decide +kernel
theorem dX3_slice_0 : decode cX3_slice 0 = .ok (.iload_n 1, 1) := by decide +kernel
theorem dX3_slice_1 : decode cX3_slice 1 = .ok (.iconst 1, 1) := by decide +kernel
theorem dX3_slice_2 : decode cX3_slice 2 = .ok (.if_icmp .ge 7, 3) := by decide +kernel
theorem dX3_slice_5 : decode cX3_slice 5 = .ok (.iconst 0, 1) := by decide +kernel
theorem dX3_slice_6 : decode cX3_slice 6 = .ok (.goto 14, 3) := by decide +kernel
theorem dX3_slice_9 : decode cX3_slice 9 = .ok (.iload_n 0, 1) := by decide +kernel
theorem dX3_slice_10 : decode cX3_slice 10 = .ok (.iload_n 3, 1) := by decide +kernel
theorem dX3_slice_11 : decode cX3_slice 11 = .ok (.imul, 1) := by decide +kernel
theorem dX3_slice_12 : decode cX3_slice 12 = .ok (.iload_n 1, 1) := by decide +kernel
theorem dX3_slice_13 : decode cX3_slice 13 = .ok (.idiv, 1) := by decide +kernel
theorem dX3_slice_14 : decode cX3_slice 14 = .ok (.iload_n 0, 1) := by decide +kernel
theorem dX3_slice_15 : decode cX3_slice 15 = .ok (.iload_n 2, 1) := by decide +kernel
theorem dX3_slice_16 : decode cX3_slice 16 = .ok (.imul, 1) := by decide +kernel
theorem dX3_slice_17 : decode cX3_slice 17 = .ok (.iload_n 1, 1) := by decide +kernel
theorem dX3_slice_18 : decode cX3_slice 18 = .ok (.idiv, 1) := by decide +kernel
theorem dX3_slice_19 : decode cX3_slice 19 = .ok (.isub, 1) := by decide +kernel
theorem dX3_slice_20 : decode cX3_slice 20 = .ok (.ireturn, 1) := by decide +kernel
theorem dX4_init_0 : decode cX4_init 0 = .ok (.aload_n 0, 1) := by decide +kernel
theorem dX4_init_1 : decode cX4_init 1 = .ok (.invokespecial 3, 3) := by decide +kernel
theorem dX4_init_4 : decode cX4_init 4 = .ok (.aload_n 0, 1) := by decide +kernel
theorem dX4_init_5 : decode cX4_init 5 = .ok (.bipush 24, 2) := by decide +kernel
theorem dX4_init_7 : decode cX4_init 7 = .ok (.newarray .int, 2) := by decide +kernel
theorem dX4_init_9 : decode cX4_init 9 = .ok (.putfield 11, 3) := by decide +kernel
theorem dX4_init_12 : decode cX4_init 12 = .ok (.aload_n 0, 1) := by decide +kernel
theorem dX4_init_13 : decode cX4_init 13 = .ok (.bipush 24, 2) := by decide +kernel
theorem dX4_init_15 : decode cX4_init 15 = .ok (.newarray .int, 2) := by decide +kernel
theorem dX4_init_17 : decode cX4_init 17 = .ok (.putfield 15, 3) := by decide +kernel
theorem dX4_init_20 : decode cX4_init 20 = .ok (.aload_n 0, 1) := by decide +kernel
theorem dX4_init_21 : decode cX4_init 21 = .ok (.bipush 24, 2) := by decide +kernel
theorem dX4_init_23 : decode cX4_init 23 = .ok (.newarray .int, 2) := by decide +kernel
theorem dX4_init_25 : decode cX4_init 25 = .ok (.putfield 18, 3) := by decide +kernel
theorem dX4_init_28 : decode cX4_init 28 = .ok (.aload_n 0, 1) := by decide +kernel
theorem dX4_init_29 : decode cX4_init 29 = .ok (.bipush 24, 2) := by decide +kernel
theorem dX4_init_31 : decode cX4_init 31 = .ok (.newarray .int, 2) := by decide +kernel
theorem dX4_init_33 : decode cX4_init 33 = .ok (.putfield 21, 3) := by decide +kernel
theorem dX4_init_36 : decode cX4_init 36 = .ok (.aload_n 0, 1) := by decide +kernel
theorem dX4_init_37 : decode cX4_init 37 = .ok (.new 24, 3) := by decide +kernel
theorem dX4_init_40 : decode cX4_init 40 = .ok (.dup, 1) := by decide +kernel
theorem dX4_init_41 : decode cX4_init 41 = .ok (.aload_n 1, 1) := by decide +kernel
theorem dX4_init_42 : decode cX4_init 42 = .ok (.invokespecial 26, 3) := by decide +kernel
theorem dX4_init_45 : decode cX4_init 45 = .ok (.putfield 29, 3) := by decide +kernel
theorem dX4_init_48 : decode cX4_init 48 = .ok (.return_, 1) := by decide +kernel
theorem dX4_read_0 : decode cX4_read 0 = .ok (.aload_n 0, 1) := by decide +kernel
theorem dX4_read_1 : decode cX4_read 1 = .ok (.getfield 29, 3) := by decide +kernel
theorem dX4_read_4 : decode cX4_read 4 = .ok (.iload_n 1, 1) := by decide +kernel
theorem dX4_read_5 : decode cX4_read 5 = .ok (.invokevirtual 33, 3) := by decide +kernel
theorem dX4_read_8 : decode cX4_read 8 = .ok (.aload_n 0, 1) := by decide +kernel
theorem dX4_read_9 : decode cX4_read 9 = .ok (.iconst 0, 1) := by decide +kernel
theorem dX4_read_10 : decode cX4_read 10 = .ok (.putfield 37, 3) := by decide +kernel
theorem dX4_read_13 : decode cX4_read 13 = .ok (.iconst 1, 1) := by decide +kernel
theorem dX4_read_14 : decode cX4_read 14 = .ok (.istore_n 2, 1) := by decide +kernel
theorem dX4_read_15 : decode cX4_read 15 = .ok (.iconst 0, 1) := by decide +kernel
theorem dX4_read_16 : decode cX4_read 16 = .ok (.istore_n 3, 1) := by decide +kernel
theorem dX4_read_17 : decode cX4_read 17 = .ok (.iload_n 3, 1) := by decide +kernel
theorem dX4_read_18 : decode cX4_read 18 = .ok (.bipush 24, 2) := by decide +kernel
theorem dX4_read_20 : decode cX4_read 20 = .ok (.if_icmp .gt 60, 3) := by decide +kernel
theorem dX4_read_23 : decode cX4_read 23 = .ok (.iload_n 2, 1) := by decide +kernel
theorem dX4_read_24 : decode cX4_read 24 = .ok (.ifCond .eq 56, 3) := by decide +kernel
theorem dX4_read_27 : decode cX4_read 27 = .ok (.iload_n 3, 1) := by decide +kernel
theorem dX4_read_28 : decode cX4_read 28 = .ok (.bipush 24, 2) := by decide +kernel
theorem dX4_read_30 : decode cX4_read 30 = .ok (.if_icmp .ne 21, 3) := by decide +kernel
theorem dX4_read_33 : decode cX4_read 33 = .ok (.aload_n 0, 1) := by decide +kernel
theorem dX4_read_34 : decode cX4_read 34 = .ok (.getfield 29, 3) := by decide +kernel
theorem dX4_read_37 : decode cX4_read 37 = .ok (.iconst 4, 1) := by decide +kernel
theorem dX4_read_38 : decode cX4_read 38 = .ok (.aload_n 0, 1) := by decide +kernel
theorem dX4_read_39 : decode cX4_read 39 = .ok (.getfield 29, 3) := by decide +kernel
theorem dX4_read_42 : decode cX4_read 42 = .ok (.getfield 41, 3) := by decide +kernel
theorem dX4_read_45 : decode cX4_read 45 = .ok (.invokevirtual 44, 3) := by decide +kernel
theorem dX4_read_48 : decode cX4_read 48 = .ok (.goto 18, 3) := by decide +kernel
theorem dX4_read_51 : decode cX4_read 51 = .ok (.aload_n 0, 1) := by decide +kernel
theorem dX4_read_52 : decode cX4_read 52 = .ok (.iload_n 3, 1) := by decide +kernel
theorem dX4_read_53 : decode cX4_read 53 = .ok (.invokevirtual 48, 3) := by decide +kernel
theorem dX4_read_56 : decode cX4_read 56 = .ok (.aload_n 0, 1) := by decide +kernel
theorem dX4_read_57 : decode cX4_read 57 = .ok (.dup, 1) := by decide +kernel
theorem dX4_read_58 : decode cX4_read 58 = .ok (.getfield 37, 3) := by decide +kernel
theorem dX4_read_61 : decode cX4_read 61 = .ok (.iconst 1, 1) := by decide +kernel
theorem dX4_read_62 : decode cX4_read 62 = .ok (.iadd, 1) := by decide +kernel
theorem dX4_read_63 : decode cX4_read 63 = .ok (.putfield 37, 3) := by decide +kernel
theorem dX4_read_66 : decode cX4_read 66 = .ok (.aload_n 0, 1) := by decide +kernel
theorem dX4_read_67 : decode cX4_read 67 = .ok (.getfield 29, 3) := by decide +kernel
theorem dX4_read_70 : decode cX4_read 70 = .ok (.invokevirtual 51, 3) := by decide +kernel
theorem dX4_read_73 : decode cX4_read 73 = .ok (.istore_n 2, 1) := by decide +kernel
theorem dX4_read_74 : decode cX4_read 74 = .ok (.iinc 3 1, 3) := by decide +kernel
theorem dX4_read_77 : decode cX4_read 77 = .ok (.goto (-60), 3) := by decide +kernel
theorem dX4_read_80 : decode cX4_read 80 = .ok (.aload_n 0, 1) := by decide +kernel
theorem dX4_read_81 : decode cX4_read 81 = .ok (.getfield 29, 3) := by decide +kernel
theorem dX4_read_84 : decode cX4_read 84 = .ok (.invokevirtual 55, 3) := by decide +kernel
theorem dX4_read_87 : decode cX4_read 87 = .ok (.ireturn, 1) := by decide +kernel
theorem dX4_readStep_0 : decode cX4_readStep 0 = .ok (.aload_n 0, 1) := by decide +kernel
theorem dX4_readStep_1 : decode cX4_readStep 1 = .ok (.getfield 29, 3) := by decide +kernel
theorem dX4_readStep_4 : decode cX4_readStep 4 = .ok (.ldc 59, 2) := by decide +kernel
theorem dX4_readStep_6 : decode cX4_readStep 6 = .ok (.invokevirtual 61, 3) := by decide +kernel
theorem dX4_readStep_9 : decode cX4_readStep 9 = .ok (.istore_n 2, 1) := by decide +kernel
theorem dX4_readStep_10 : decode cX4_readStep 10 = .ok (.iload_n 2, 1) := by decide +kernel
theorem dX4_readStep_11 : decode cX4_readStep 11 = .ok (.ifCond .lt 21, 3) := by decide +kernel
theorem dX4_readStep_14 : decode cX4_readStep 14 = .ok (.iload_n 2, 1) := by decide +kernel
theorem dX4_readStep_15 : decode cX4_readStep 15 = .ok (.getstatic 65, 3) := by decide +kernel
theorem dX4_readStep_18 : decode cX4_readStep 18 = .ok (.arraylength, 1) := by decide +kernel
theorem dX4_readStep_19 : decode cX4_readStep 19 = .ok (.if_icmp .ge 13, 3) := by decide +kernel
theorem dX4_readStep_22 : decode cX4_readStep 22 = .ok (.iload_n 1, 1) := by decide +kernel
theorem dX4_readStep_23 : decode cX4_readStep 23 = .ok (.ifCond .lt 9, 3) := by decide +kernel
theorem dX4_readStep_26 : decode cX4_readStep 26 = .ok (.iload_n 1, 1) := by decide +kernel
theorem dX4_readStep_27 : decode cX4_readStep 27 = .ok (.bipush 24, 2) := by decide +kernel
theorem dX4_readStep_29 : decode cX4_readStep 29 = .ok (.if_icmp .lt 4, 3) := by decide +kernel
theorem dX4_readStep_32 : decode cX4_readStep 32 = .ok (.return_, 1) := by decide +kernel
theorem dX4_readStep_33 : decode cX4_readStep 33 = .ok (.aload_n 0, 1) := by decide +kernel
theorem dX4_readStep_34 : decode cX4_readStep 34 = .ok (.getfield 11, 3) := by decide +kernel
theorem dX4_readStep_37 : decode cX4_readStep 37 = .ok (.iload_n 1, 1) := by decide +kernel
theorem dX4_readStep_38 : decode cX4_readStep 38 = .ok (.iload_n 2, 1) := by decide +kernel
theorem dX4_readStep_39 : decode cX4_readStep 39 = .ok (.iastore, 1) := by decide +kernel
theorem dX4_readStep_40 : decode cX4_readStep 40 = .ok (.getstatic 65, 3) := by decide +kernel
theorem dX4_readStep_43 : decode cX4_readStep 43 = .ok (.iload_n 2, 1) := by decide +kernel
theorem dX4_readStep_44 : decode cX4_readStep 44 = .ok (.iaload, 1) := by decide +kernel
theorem dX4_readStep_45 : decode cX4_readStep 45 = .ok (.iconst 1, 1) := by decide +kernel
theorem dX4_readStep_46 : decode cX4_readStep 46 = .ok (.iand, 1) := by decide +kernel
theorem dX4_readStep_47 : decode cX4_readStep 47 = .ok (.ifCond .eq 23, 3) := by decide +kernel
theorem dX4_readStep_50 : decode cX4_readStep 50 = .ok (.aload_n 0, 1) := by decide +kernel
theorem dX4_readStep_51 : decode cX4_readStep 51 = .ok (.getfield 29, 3) := by decide +kernel
theorem dX4_readStep_54 : decode cX4_readStep 54 = .ok (.invokevirtual 68, 3) := by decide +kernel
theorem dX4_readStep_57 : decode cX4_readStep 57 = .ok (.aload_n 0, 1) := by decide +kernel
theorem dX4_readStep_58 : decode cX4_readStep 58 = .ok (.getfield 15, 3) := by decide +kernel
theorem dX4_readStep_61 : decode cX4_readStep 61 = .ok (.iload_n 1, 1) := by decide +kernel
theorem dX4_readStep_62 : decode cX4_readStep 62 = .ok (.aload_n 0, 1) := by decide +kernel
theorem dX4_readStep_63 : decode cX4_readStep 63 = .ok (.getfield 29, 3) := by decide +kernel
theorem dX4_readStep_66 : decode cX4_readStep 66 = .ok (.invokevirtual 71, 3) := by decide +kernel
theorem dX4_readStep_69 : decode cX4_readStep 69 = .ok (.iastore, 1) := by decide +kernel
theorem dX4_readStep_70 : decode cX4_readStep 70 = .ok (.getstatic 65, 3) := by decide +kernel
theorem dX4_readStep_73 : decode cX4_readStep 73 = .ok (.iload_n 2, 1) := by decide +kernel
theorem dX4_readStep_74 : decode cX4_readStep 74 = .ok (.iaload, 1) := by decide +kernel
theorem dX4_readStep_75 : decode cX4_readStep 75 = .ok (.iconst 2, 1) := by decide +kernel
theorem dX4_readStep_76 : decode cX4_readStep 76 = .ok (.iand, 1) := by decide +kernel
theorem dX4_readStep_77 : decode cX4_readStep 77 = .ok (.ifCond .eq 23, 3) := by decide +kernel
theorem dX4_readStep_80 : decode cX4_readStep 80 = .ok (.aload_n 0, 1) := by decide +kernel
theorem dX4_readStep_81 : decode cX4_readStep 81 = .ok (.getfield 29, 3) := by decide +kernel
theorem dX4_readStep_84 : decode cX4_readStep 84 = .ok (.invokevirtual 68, 3) := by decide +kernel
theorem dX4_readStep_87 : decode cX4_readStep 87 = .ok (.aload_n 0, 1) := by decide +kernel
theorem dX4_readStep_88 : decode cX4_readStep 88 = .ok (.getfield 18, 3) := by decide +kernel
theorem dX4_readStep_91 : decode cX4_readStep 91 = .ok (.iload_n 1, 1) := by decide +kernel
theorem dX4_readStep_92 : decode cX4_readStep 92 = .ok (.aload_n 0, 1) := by decide +kernel
theorem dX4_readStep_93 : decode cX4_readStep 93 = .ok (.getfield 29, 3) := by decide +kernel
theorem dX4_readStep_96 : decode cX4_readStep 96 = .ok (.invokevirtual 74, 3) := by decide +kernel
theorem dX4_readStep_99 : decode cX4_readStep 99 = .ok (.iastore, 1) := by decide +kernel
theorem dX4_readStep_100 : decode cX4_readStep 100 = .ok (.getstatic 65, 3) := by decide +kernel
theorem dX4_readStep_103 : decode cX4_readStep 103 = .ok (.iload_n 2, 1) := by decide +kernel
theorem dX4_readStep_104 : decode cX4_readStep 104 = .ok (.iaload, 1) := by decide +kernel
theorem dX4_readStep_105 : decode cX4_readStep 105 = .ok (.iconst 4, 1) := by decide +kernel
theorem dX4_readStep_106 : decode cX4_readStep 106 = .ok (.iand, 1) := by decide +kernel
theorem dX4_readStep_107 : decode cX4_readStep 107 = .ok (.ifCond .eq 26, 3) := by decide +kernel
theorem dX4_readStep_110 : decode cX4_readStep 110 = .ok (.aload_n 0, 1) := by decide +kernel
theorem dX4_readStep_111 : decode cX4_readStep 111 = .ok (.getfield 29, 3) := by decide +kernel
theorem dX4_readStep_114 : decode cX4_readStep 114 = .ok (.invokevirtual 68, 3) := by decide +kernel
theorem dX4_readStep_117 : decode cX4_readStep 117 = .ok (.aload_n 0, 1) := by decide +kernel
theorem dX4_readStep_118 : decode cX4_readStep 118 = .ok (.getfield 21, 3) := by decide +kernel
theorem dX4_readStep_121 : decode cX4_readStep 121 = .ok (.iload_n 1, 1) := by decide +kernel
theorem dX4_readStep_122 : decode cX4_readStep 122 = .ok (.aload_n 0, 1) := by decide +kernel
theorem dX4_readStep_123 : decode cX4_readStep 123 = .ok (.getfield 29, 3) := by decide +kernel
theorem dX4_readStep_126 : decode cX4_readStep 126 = .ok (.iconst 0, 1) := by decide +kernel
theorem dX4_readStep_127 : decode cX4_readStep 127 = .ok (.ldc 77, 2) := by decide +kernel
theorem dX4_readStep_129 : decode cX4_readStep 129 = .ok (.invokevirtual 78, 3) := by decide +kernel
theorem dX4_readStep_132 : decode cX4_readStep 132 = .ok (.iastore, 1) := by decide +kernel
theorem dX4_readStep_133 : decode cX4_readStep 133 = .ok (.return_, 1) := by decide +kernel
theorem dX4_isDone_0 : decode cX4_isDone 0 = .ok (.iload_n 1, 1) := by decide +kernel
theorem dX4_isDone_1 : decode cX4_isDone 1 = .ok (.ifCond .lt 17, 3) := by decide +kernel
theorem dX4_isDone_4 : decode cX4_isDone 4 = .ok (.iload_n 1, 1) := by decide +kernel
theorem dX4_isDone_5 : decode cX4_isDone 5 = .ok (.aload_n 0, 1) := by decide +kernel
theorem dX4_isDone_6 : decode cX4_isDone 6 = .ok (.getfield 37, 3) := by decide +kernel
theorem dX4_isDone_9 : decode cX4_isDone 9 = .ok (.if_icmp .ge 9, 3) := by decide +kernel
theorem dX4_isDone_12 : decode cX4_isDone 12 = .ok (.iload_n 1, 1) := by decide +kernel
theorem dX4_isDone_13 : decode cX4_isDone 13 = .ok (.bipush 24, 2) := by decide +kernel
theorem dX4_isDone_15 : decode cX4_isDone 15 = .ok (.if_icmp .lt 5, 3) := by decide +kernel
theorem dX4_isDone_18 : decode cX4_isDone 18 = .ok (.iconst 0, 1) := by decide +kernel
theorem dX4_isDone_19 : decode cX4_isDone 19 = .ok (.ireturn, 1) := by decide +kernel
theorem dX4_isDone_20 : decode cX4_isDone 20 = .ok (.aload_n 0, 1) := by decide +kernel
theorem dX4_isDone_21 : decode cX4_isDone 21 = .ok (.getfield 15, 3) := by decide +kernel
theorem dX4_isDone_24 : decode cX4_isDone 24 = .ok (.iload_n 1, 1) := by decide +kernel
theorem dX4_isDone_25 : decode cX4_isDone 25 = .ok (.iaload, 1) := by decide +kernel
theorem dX4_isDone_26 : decode cX4_isDone 26 = .ok (.istore_n 3, 1) := by decide +kernel
theorem dX4_isDone_27 : decode cX4_isDone 27 = .ok (.aload_n 0, 1) := by decide +kernel
theorem dX4_isDone_28 : decode cX4_isDone 28 = .ok (.getfield 21, 3) := by decide +kernel
theorem dX4_isDone_31 : decode cX4_isDone 31 = .ok (.iload_n 1, 1) := by decide +kernel
theorem dX4_isDone_32 : decode cX4_isDone 32 = .ok (.iaload, 1) := by decide +kernel
theorem dX4_isDone_33 : decode cX4_isDone 33 = .ok (.istore 4, 2) := by decide +kernel
theorem dX4_isDone_35 : decode cX4_isDone 35 = .ok (.aload_n 0, 1) := by decide +kernel
theorem dX4_isDone_36 : decode cX4_isDone 36 = .ok (.getfield 11, 3) := by decide +kernel
theorem dX4_isDone_39 : decode cX4_isDone 39 = .ok (.iload_n 1, 1) := by decide +kernel
theorem dX4_isDone_40 : decode cX4_isDone 40 = .ok (.iaload, 1) := by decide +kernel
theorem dX4_isDone_41 : decode cX4_isDone 41 = .ok (.tableswitch 272 0 11 #[63, 85, 107, 125, 142, 159, 175, 191, 206, 224, 240, 254], 63) := by decide +kernel
theorem dX4_isDone_104 : decode cX4_isDone 104 = .ok (.aload_n 2, 1) := by decide +kernel
theorem dX4_isDone_105 : decode cX4_isDone 105 = .ok (.iload_n 3, 1) := by decide +kernel
theorem dX4_isDone_106 : decode cX4_isDone 106 = .ok (.aload_n 0, 1) := by decide +kernel
theorem dX4_isDone_107 : decode cX4_isDone 107 = .ok (.getfield 18, 3) := by decide +kernel
theorem dX4_isDone_110 : decode cX4_isDone 110 = .ok (.iload_n 1, 1) := by decide +kernel
theorem dX4_isDone_111 : decode cX4_isDone 111 = .ok (.iaload, 1) := by decide +kernel
theorem dX4_isDone_112 : decode cX4_isDone 112 = .ok (.iload 4, 2) := by decide +kernel
theorem dX4_isDone_114 : decode cX4_isDone 114 = .ok (.invokevirtual 82, 3) := by decide +kernel
theorem dX4_isDone_117 : decode cX4_isDone 117 = .ok (.ifCond .lt 7, 3) := by decide +kernel
theorem dX4_isDone_120 : decode cX4_isDone 120 = .ok (.iconst 1, 1) := by decide +kernel
theorem dX4_isDone_121 : decode cX4_isDone 121 = .ok (.goto 4, 3) := by decide +kernel
theorem dX4_isDone_124 : decode cX4_isDone 124 = .ok (.iconst 0, 1) := by decide +kernel
theorem dX4_isDone_125 : decode cX4_isDone 125 = .ok (.ireturn, 1) := by decide +kernel
theorem dX4_isDone_126 : decode cX4_isDone 126 = .ok (.aload_n 2, 1) := by decide +kernel
theorem dX4_isDone_127 : decode cX4_isDone 127 = .ok (.iload_n 3, 1) := by decide +kernel
theorem dX4_isDone_128 : decode cX4_isDone 128 = .ok (.aload_n 0, 1) := by decide +kernel
theorem dX4_isDone_129 : decode cX4_isDone 129 = .ok (.getfield 18, 3) := by decide +kernel
theorem dX4_isDone_132 : decode cX4_isDone 132 = .ok (.iload_n 1, 1) := by decide +kernel
theorem dX4_isDone_133 : decode cX4_isDone 133 = .ok (.iaload, 1) := by decide +kernel
theorem dX4_isDone_134 : decode cX4_isDone 134 = .ok (.invokevirtual 88, 3) := by decide +kernel
theorem dX4_isDone_137 : decode cX4_isDone 137 = .ok (.ldc 91, 2) := by decide +kernel
theorem dX4_isDone_139 : decode cX4_isDone 139 = .ok (.if_icmp .le 7, 3) := by decide +kernel
theorem dX4_isDone_142 : decode cX4_isDone 142 = .ok (.iconst 1, 1) := by decide +kernel
theorem dX4_isDone_143 : decode cX4_isDone 143 = .ok (.goto 4, 3) := by decide +kernel
theorem dX4_isDone_146 : decode cX4_isDone 146 = .ok (.iconst 0, 1) := by decide +kernel
theorem dX4_isDone_147 : decode cX4_isDone 147 = .ok (.ireturn, 1) := by decide +kernel
theorem dX4_isDone_148 : decode cX4_isDone 148 = .ok (.aload_n 2, 1) := by decide +kernel
theorem dX4_isDone_149 : decode cX4_isDone 149 = .ok (.iload_n 3, 1) := by decide +kernel
theorem dX4_isDone_150 : decode cX4_isDone 150 = .ok (.iload 4, 2) := by decide +kernel
theorem dX4_isDone_152 : decode cX4_isDone 152 = .ok (.invokevirtual 92, 3) := by decide +kernel
theorem dX4_isDone_155 : decode cX4_isDone 155 = .ok (.ldc 91, 2) := by decide +kernel
theorem dX4_isDone_157 : decode cX4_isDone 157 = .ok (.if_icmp .le 7, 3) := by decide +kernel
theorem dX4_isDone_160 : decode cX4_isDone 160 = .ok (.iconst 1, 1) := by decide +kernel
theorem dX4_isDone_161 : decode cX4_isDone 161 = .ok (.goto 4, 3) := by decide +kernel
theorem dX4_isDone_164 : decode cX4_isDone 164 = .ok (.iconst 0, 1) := by decide +kernel
theorem dX4_isDone_165 : decode cX4_isDone 165 = .ok (.ireturn, 1) := by decide +kernel
theorem dX4_isDone_166 : decode cX4_isDone 166 = .ok (.aload_n 2, 1) := by decide +kernel
theorem dX4_isDone_167 : decode cX4_isDone 167 = .ok (.iload_n 3, 1) := by decide +kernel
theorem dX4_isDone_168 : decode cX4_isDone 168 = .ok (.iconst 1, 1) := by decide +kernel
theorem dX4_isDone_169 : decode cX4_isDone 169 = .ok (.invokevirtual 95, 3) := by decide +kernel
theorem dX4_isDone_172 : decode cX4_isDone 172 = .ok (.ldc 91, 2) := by decide +kernel
theorem dX4_isDone_174 : decode cX4_isDone 174 = .ok (.if_icmp .le 7, 3) := by decide +kernel
theorem dX4_isDone_177 : decode cX4_isDone 177 = .ok (.iconst 1, 1) := by decide +kernel
theorem dX4_isDone_178 : decode cX4_isDone 178 = .ok (.goto 4, 3) := by decide +kernel
theorem dX4_isDone_181 : decode cX4_isDone 181 = .ok (.iconst 0, 1) := by decide +kernel
theorem dX4_isDone_182 : decode cX4_isDone 182 = .ok (.ireturn, 1) := by decide +kernel
theorem dX4_isDone_183 : decode cX4_isDone 183 = .ok (.aload_n 2, 1) := by decide +kernel
theorem dX4_isDone_184 : decode cX4_isDone 184 = .ok (.iload_n 3, 1) := by decide +kernel
theorem dX4_isDone_185 : decode cX4_isDone 185 = .ok (.iconst 0, 1) := by decide +kernel
theorem dX4_isDone_186 : decode cX4_isDone 186 = .ok (.invokevirtual 95, 3) := by decide +kernel
theorem dX4_isDone_189 : decode cX4_isDone 189 = .ok (.ldc 91, 2) := by decide +kernel
theorem dX4_isDone_191 : decode cX4_isDone 191 = .ok (.if_icmp .le 7, 3) := by decide +kernel
theorem dX4_isDone_194 : decode cX4_isDone 194 = .ok (.iconst 1, 1) := by decide +kernel
theorem dX4_isDone_195 : decode cX4_isDone 195 = .ok (.goto 4, 3) := by decide +kernel
theorem dX4_isDone_198 : decode cX4_isDone 198 = .ok (.iconst 0, 1) := by decide +kernel
theorem dX4_isDone_199 : decode cX4_isDone 199 = .ok (.ireturn, 1) := by decide +kernel
theorem dX4_isDone_200 : decode cX4_isDone 200 = .ok (.aload_n 2, 1) := by decide +kernel
theorem dX4_isDone_201 : decode cX4_isDone 201 = .ok (.iload_n 3, 1) := by decide +kernel
theorem dX4_isDone_202 : decode cX4_isDone 202 = .ok (.invokevirtual 99, 3) := by decide +kernel
theorem dX4_isDone_205 : decode cX4_isDone 205 = .ok (.ldc 91, 2) := by decide +kernel
theorem dX4_isDone_207 : decode cX4_isDone 207 = .ok (.if_icmp .le 7, 3) := by decide +kernel
theorem dX4_isDone_210 : decode cX4_isDone 210 = .ok (.iconst 1, 1) := by decide +kernel
theorem dX4_isDone_211 : decode cX4_isDone 211 = .ok (.goto 4, 3) := by decide +kernel
theorem dX4_isDone_214 : decode cX4_isDone 214 = .ok (.iconst 0, 1) := by decide +kernel
theorem dX4_isDone_215 : decode cX4_isDone 215 = .ok (.ireturn, 1) := by decide +kernel
theorem dX4_isDone_216 : decode cX4_isDone 216 = .ok (.aload_n 2, 1) := by decide +kernel
theorem dX4_isDone_217 : decode cX4_isDone 217 = .ok (.iload_n 3, 1) := by decide +kernel
theorem dX4_isDone_218 : decode cX4_isDone 218 = .ok (.iload 4, 2) := by decide +kernel
theorem dX4_isDone_220 : decode cX4_isDone 220 = .ok (.invokevirtual 103, 3) := by decide +kernel
theorem dX4_isDone_223 : decode cX4_isDone 223 = .ok (.ifCond .lt 7, 3) := by decide +kernel
theorem dX4_isDone_226 : decode cX4_isDone 226 = .ok (.iconst 1, 1) := by decide +kernel
theorem dX4_isDone_227 : decode cX4_isDone 227 = .ok (.goto 4, 3) := by decide +kernel
theorem dX4_isDone_230 : decode cX4_isDone 230 = .ok (.iconst 0, 1) := by decide +kernel
theorem dX4_isDone_231 : decode cX4_isDone 231 = .ok (.ireturn, 1) := by decide +kernel
theorem dX4_isDone_232 : decode cX4_isDone 232 = .ok (.aload_n 2, 1) := by decide +kernel
theorem dX4_isDone_233 : decode cX4_isDone 233 = .ok (.iload 4, 2) := by decide +kernel
theorem dX4_isDone_235 : decode cX4_isDone 235 = .ok (.invokevirtual 106, 3) := by decide +kernel
theorem dX4_isDone_238 : decode cX4_isDone 238 = .ok (.ifCond .lt 7, 3) := by decide +kernel
theorem dX4_isDone_241 : decode cX4_isDone 241 = .ok (.iconst 1, 1) := by decide +kernel
theorem dX4_isDone_242 : decode cX4_isDone 242 = .ok (.goto 4, 3) := by decide +kernel
theorem dX4_isDone_245 : decode cX4_isDone 245 = .ok (.iconst 0, 1) := by decide +kernel
theorem dX4_isDone_246 : decode cX4_isDone 246 = .ok (.ireturn, 1) := by decide +kernel
theorem dX4_isDone_247 : decode cX4_isDone 247 = .ok (.aload_n 2, 1) := by decide +kernel
theorem dX4_isDone_248 : decode cX4_isDone 248 = .ok (.iload_n 3, 1) := by decide +kernel
theorem dX4_isDone_249 : decode cX4_isDone 249 = .ok (.iload 4, 2) := by decide +kernel
theorem dX4_isDone_251 : decode cX4_isDone 251 = .ok (.invokevirtual 109, 3) := by decide +kernel
theorem dX4_isDone_254 : decode cX4_isDone 254 = .ok (.ldc 91, 2) := by decide +kernel
theorem dX4_isDone_256 : decode cX4_isDone 256 = .ok (.if_icmp .le 7, 3) := by decide +kernel
theorem dX4_isDone_259 : decode cX4_isDone 259 = .ok (.iconst 1, 1) := by decide +kernel
theorem dX4_isDone_260 : decode cX4_isDone 260 = .ok (.goto 4, 3) := by decide +kernel
theorem dX4_isDone_263 : decode cX4_isDone 263 = .ok (.iconst 0, 1) := by decide +kernel
theorem dX4_isDone_264 : decode cX4_isDone 264 = .ok (.ireturn, 1) := by decide +kernel
theorem dX4_isDone_265 : decode cX4_isDone 265 = .ok (.aload_n 2, 1) := by decide +kernel
theorem dX4_isDone_266 : decode cX4_isDone 266 = .ok (.iload_n 3, 1) := by decide +kernel
theorem dX4_isDone_267 : decode cX4_isDone 267 = .ok (.iload 4, 2) := by decide +kernel
theorem dX4_isDone_269 : decode cX4_isDone 269 = .ok (.invokevirtual 112, 3) := by decide +kernel
theorem dX4_isDone_272 : decode cX4_isDone 272 = .ok (.ifCond .lt 7, 3) := by decide +kernel
theorem dX4_isDone_275 : decode cX4_isDone 275 = .ok (.iconst 1, 1) := by decide +kernel
theorem dX4_isDone_276 : decode cX4_isDone 276 = .ok (.goto 4, 3) := by decide +kernel
theorem dX4_isDone_279 : decode cX4_isDone 279 = .ok (.iconst 0, 1) := by decide +kernel
theorem dX4_isDone_280 : decode cX4_isDone 280 = .ok (.ireturn, 1) := by decide +kernel
theorem dX4_isDone_281 : decode cX4_isDone 281 = .ok (.aload_n 2, 1) := by decide +kernel
theorem dX4_isDone_282 : decode cX4_isDone 282 = .ok (.iload_n 3, 1) := by decide +kernel
theorem dX4_isDone_283 : decode cX4_isDone 283 = .ok (.invokevirtual 115, 3) := by decide +kernel
theorem dX4_isDone_286 : decode cX4_isDone 286 = .ok (.ifCond .lt 7, 3) := by decide +kernel
theorem dX4_isDone_289 : decode cX4_isDone 289 = .ok (.iconst 1, 1) := by decide +kernel
theorem dX4_isDone_290 : decode cX4_isDone 290 = .ok (.goto 4, 3) := by decide +kernel
theorem dX4_isDone_293 : decode cX4_isDone 293 = .ok (.iconst 0, 1) := by decide +kernel
theorem dX4_isDone_294 : decode cX4_isDone 294 = .ok (.ireturn, 1) := by decide +kernel
theorem dX4_isDone_295 : decode cX4_isDone 295 = .ok (.aload_n 2, 1) := by decide +kernel
theorem dX4_isDone_296 : decode cX4_isDone 296 = .ok (.iload_n 3, 1) := by decide +kernel
theorem dX4_isDone_297 : decode cX4_isDone 297 = .ok (.iload 4, 2) := by decide +kernel
theorem dX4_isDone_299 : decode cX4_isDone 299 = .ok (.invokevirtual 118, 3) := by decide +kernel
theorem dX4_isDone_302 : decode cX4_isDone 302 = .ok (.ldc 91, 2) := by decide +kernel
theorem dX4_isDone_304 : decode cX4_isDone 304 = .ok (.if_icmp .le 7, 3) := by decide +kernel
theorem dX4_isDone_307 : decode cX4_isDone 307 = .ok (.iconst 1, 1) := by decide +kernel
theorem dX4_isDone_308 : decode cX4_isDone 308 = .ok (.goto 4, 3) := by decide +kernel
theorem dX4_isDone_311 : decode cX4_isDone 311 = .ok (.iconst 0, 1) := by decide +kernel
theorem dX4_isDone_312 : decode cX4_isDone 312 = .ok (.ireturn, 1) := by decide +kernel
theorem dX4_isDone_313 : decode cX4_isDone 313 = .ok (.aload_n 2, 1) := by decide +kernel
theorem dX4_isDone_314 : decode cX4_isDone 314 = .ok (.iload 4, 2) := by decide +kernel
theorem dX4_isDone_316 : decode cX4_isDone 316 = .ok (.invokevirtual 121, 3) := by decide +kernel
theorem dX4_isDone_319 : decode cX4_isDone 319 = .ok (.ifCond .lt 7, 3) := by decide +kernel
theorem dX4_isDone_322 : decode cX4_isDone 322 = .ok (.iconst 1, 1) := by decide +kernel
theorem dX4_isDone_323 : decode cX4_isDone 323 = .ok (.goto 4, 3) := by decide +kernel
theorem dX4_isDone_326 : decode cX4_isDone 326 = .ok (.iconst 0, 1) := by decide +kernel
theorem dX4_isDone_327 : decode cX4_isDone 327 = .ok (.ireturn, 1) := by decide +kernel
theorem dX5_init_0 : decode cX5_init 0 = .ok (.aload_n 0, 1) := by decide +kernel
theorem dX5_init_1 : decode cX5_init 1 = .ok (.invokespecial 3, 3) := by decide +kernel
theorem dX5_init_4 : decode cX5_init 4 = .ok (.aload_n 0, 1) := by decide +kernel
theorem dX5_init_5 : decode cX5_init 5 = .ok (.sipush 400, 3) := by decide +kernel
theorem dX5_init_8 : decode cX5_init 8 = .ok (.newarray .int, 2) := by decide +kernel
theorem dX5_init_10 : decode cX5_init 10 = .ok (.putfield 9, 3) := by decide +kernel
theorem dX5_init_13 : decode cX5_init 13 = .ok (.aload_n 0, 1) := by decide +kernel
theorem dX5_init_14 : decode cX5_init 14 = .ok (.sipush 400, 3) := by decide +kernel
theorem dX5_init_17 : decode cX5_init 17 = .ok (.newarray .int, 2) := by decide +kernel
theorem dX5_init_19 : decode cX5_init 19 = .ok (.putfield 15, 3) := by decide +kernel
theorem dX5_init_22 : decode cX5_init 22 = .ok (.aload_n 0, 1) := by decide +kernel
theorem dX5_init_23 : decode cX5_init 23 = .ok (.sipush 400, 3) := by decide +kernel
theorem dX5_init_26 : decode cX5_init 26 = .ok (.newarray .int, 2) := by decide +kernel
theorem dX5_init_28 : decode cX5_init 28 = .ok (.putfield 18, 3) := by decide +kernel
theorem dX5_init_31 : decode cX5_init 31 = .ok (.aload_n 0, 1) := by decide +kernel
theorem dX5_init_32 : decode cX5_init 32 = .ok (.sipush 400, 3) := by decide +kernel
theorem dX5_init_35 : decode cX5_init 35 = .ok (.newarray .int, 2) := by decide +kernel
theorem dX5_init_37 : decode cX5_init 37 = .ok (.putfield 21, 3) := by decide +kernel
theorem dX5_init_40 : decode cX5_init 40 = .ok (.aload_n 0, 1) := by decide +kernel
theorem dX5_init_41 : decode cX5_init 41 = .ok (.sipush 400, 3) := by decide +kernel
theorem dX5_init_44 : decode cX5_init 44 = .ok (.newarray .int, 2) := by decide +kernel
theorem dX5_init_46 : decode cX5_init 46 = .ok (.putfield 24, 3) := by decide +kernel
theorem dX5_init_49 : decode cX5_init 49 = .ok (.aload_n 0, 1) := by decide +kernel
theorem dX5_init_50 : decode cX5_init 50 = .ok (.sipush 400, 3) := by decide +kernel
theorem dX5_init_53 : decode cX5_init 53 = .ok (.newarray .int, 2) := by decide +kernel
theorem dX5_init_55 : decode cX5_init 55 = .ok (.putfield 27, 3) := by decide +kernel
theorem dX5_init_58 : decode cX5_init 58 = .ok (.aload_n 0, 1) := by decide +kernel
theorem dX5_init_59 : decode cX5_init 59 = .ok (.sipush 400, 3) := by decide +kernel
theorem dX5_init_62 : decode cX5_init 62 = .ok (.newarray .int, 2) := by decide +kernel
theorem dX5_init_64 : decode cX5_init 64 = .ok (.putfield 30, 3) := by decide +kernel
theorem dX5_init_67 : decode cX5_init 67 = .ok (.aload_n 0, 1) := by decide +kernel
theorem dX5_init_68 : decode cX5_init 68 = .ok (.sipush 400, 3) := by decide +kernel
theorem dX5_init_71 : decode cX5_init 71 = .ok (.newarray .int, 2) := by decide +kernel
theorem dX5_init_73 : decode cX5_init 73 = .ok (.putfield 33, 3) := by decide +kernel
theorem dX5_init_76 : decode cX5_init 76 = .ok (.aload_n 0, 1) := by decide +kernel
theorem dX5_init_77 : decode cX5_init 77 = .ok (.sipush 400, 3) := by decide +kernel
theorem dX5_init_80 : decode cX5_init 80 = .ok (.newarray .int, 2) := by decide +kernel
theorem dX5_init_82 : decode cX5_init 82 = .ok (.putfield 36, 3) := by decide +kernel
theorem dX5_init_85 : decode cX5_init 85 = .ok (.aload_n 0, 1) := by decide +kernel
theorem dX5_init_86 : decode cX5_init 86 = .ok (.sipush 400, 3) := by decide +kernel
theorem dX5_init_89 : decode cX5_init 89 = .ok (.newarray .int, 2) := by decide +kernel
theorem dX5_init_91 : decode cX5_init 91 = .ok (.putfield 39, 3) := by decide +kernel
theorem dX5_init_94 : decode cX5_init 94 = .ok (.return_, 1) := by decide +kernel
theorem dX5_copyFrom_0 : decode cX5_copyFrom 0 = .ok (.aload_n 0, 1) := by decide +kernel
theorem dX5_copyFrom_1 : decode cX5_copyFrom 1 = .ok (.iconst 0, 1) := by decide +kernel
theorem dX5_copyFrom_2 : decode cX5_copyFrom 2 = .ok (.aload_n 1, 1) := by decide +kernel
theorem dX5_copyFrom_3 : decode cX5_copyFrom 3 = .ok (.getfield 42, 3) := by decide +kernel
theorem dX5_copyFrom_6 : decode cX5_copyFrom 6 = .ok (.sipush 400, 3) := by decide +kernel
theorem dX5_copyFrom_9 : decode cX5_copyFrom 9 = .ok (.invokestatic 46, 3) := by decide +kernel
theorem dX5_copyFrom_12 : decode cX5_copyFrom 12 = .ok (.invokestatic 52, 3) := by decide +kernel
theorem dX5_copyFrom_15 : decode cX5_copyFrom 15 = .ok (.putfield 42, 3) := by decide +kernel
theorem dX5_copyFrom_18 : decode cX5_copyFrom 18 = .ok (.aload_n 1, 1) := by decide +kernel
theorem dX5_copyFrom_19 : decode cX5_copyFrom 19 = .ok (.getfield 9, 3) := by decide +kernel
theorem dX5_copyFrom_22 : decode cX5_copyFrom 22 = .ok (.iconst 0, 1) := by decide +kernel
theorem dX5_copyFrom_23 : decode cX5_copyFrom 23 = .ok (.aload_n 0, 1) := by decide +kernel
theorem dX5_copyFrom_24 : decode cX5_copyFrom 24 = .ok (.getfield 9, 3) := by decide +kernel
theorem dX5_copyFrom_27 : decode cX5_copyFrom 27 = .ok (.iconst 0, 1) := by decide +kernel
theorem dX5_copyFrom_28 : decode cX5_copyFrom 28 = .ok (.aload_n 0, 1) := by decide +kernel
theorem dX5_copyFrom_29 : decode cX5_copyFrom 29 = .ok (.getfield 42, 3) := by decide +kernel
theorem dX5_copyFrom_32 : decode cX5_copyFrom 32 = .ok (.invokestatic 55, 3) := by decide +kernel
theorem dX5_copyFrom_35 : decode cX5_copyFrom 35 = .ok (.aload_n 1, 1) := by decide +kernel
theorem dX5_copyFrom_36 : decode cX5_copyFrom 36 = .ok (.getfield 15, 3) := by decide +kernel
theorem dX5_copyFrom_39 : decode cX5_copyFrom 39 = .ok (.iconst 0, 1) := by decide +kernel
theorem dX5_copyFrom_40 : decode cX5_copyFrom 40 = .ok (.aload_n 0, 1) := by decide +kernel
theorem dX5_copyFrom_41 : decode cX5_copyFrom 41 = .ok (.getfield 15, 3) := by decide +kernel
theorem dX5_copyFrom_44 : decode cX5_copyFrom 44 = .ok (.iconst 0, 1) := by decide +kernel
theorem dX5_copyFrom_45 : decode cX5_copyFrom 45 = .ok (.aload_n 0, 1) := by decide +kernel
theorem dX5_copyFrom_46 : decode cX5_copyFrom 46 = .ok (.getfield 42, 3) := by decide +kernel
theorem dX5_copyFrom_49 : decode cX5_copyFrom 49 = .ok (.invokestatic 55, 3) := by decide +kernel
theorem dX5_copyFrom_52 : decode cX5_copyFrom 52 = .ok (.aload_n 1, 1) := by decide +kernel
theorem dX5_copyFrom_53 : decode cX5_copyFrom 53 = .ok (.getfield 18, 3) := by decide +kernel
theorem dX5_copyFrom_56 : decode cX5_copyFrom 56 = .ok (.iconst 0, 1) := by decide +kernel
theorem dX5_copyFrom_57 : decode cX5_copyFrom 57 = .ok (.aload_n 0, 1) := by decide +kernel
theorem dX5_copyFrom_58 : decode cX5_copyFrom 58 = .ok (.getfield 18, 3) := by decide +kernel
theorem dX5_copyFrom_61 : decode cX5_copyFrom 61 = .ok (.iconst 0, 1) := by decide +kernel
theorem dX5_copyFrom_62 : decode cX5_copyFrom 62 = .ok (.aload_n 0, 1) := by decide +kernel
theorem dX5_copyFrom_63 : decode cX5_copyFrom 63 = .ok (.getfield 42, 3) := by decide +kernel
theorem dX5_copyFrom_66 : decode cX5_copyFrom 66 = .ok (.invokestatic 55, 3) := by decide +kernel
theorem dX5_copyFrom_69 : decode cX5_copyFrom 69 = .ok (.aload_n 1, 1) := by decide +kernel
theorem dX5_copyFrom_70 : decode cX5_copyFrom 70 = .ok (.getfield 21, 3) := by decide +kernel
theorem dX5_copyFrom_73 : decode cX5_copyFrom 73 = .ok (.iconst 0, 1) := by decide +kernel
theorem dX5_copyFrom_74 : decode cX5_copyFrom 74 = .ok (.aload_n 0, 1) := by decide +kernel
theorem dX5_copyFrom_75 : decode cX5_copyFrom 75 = .ok (.getfield 21, 3) := by decide +kernel
theorem dX5_copyFrom_78 : decode cX5_copyFrom 78 = .ok (.iconst 0, 1) := by decide +kernel
theorem dX5_copyFrom_79 : decode cX5_copyFrom 79 = .ok (.aload_n 0, 1) := by decide +kernel
theorem dX5_copyFrom_80 : decode cX5_copyFrom 80 = .ok (.getfield 42, 3) := by decide +kernel
theorem dX5_copyFrom_83 : decode cX5_copyFrom 83 = .ok (.invokestatic 55, 3) := by decide +kernel
theorem dX5_copyFrom_86 : decode cX5_copyFrom 86 = .ok (.aload_n 1, 1) := by decide +kernel
theorem dX5_copyFrom_87 : decode cX5_copyFrom 87 = .ok (.getfield 24, 3) := by decide +kernel
theorem dX5_copyFrom_90 : decode cX5_copyFrom 90 = .ok (.iconst 0, 1) := by decide +kernel
theorem dX5_copyFrom_91 : decode cX5_copyFrom 91 = .ok (.aload_n 0, 1) := by decide +kernel
theorem dX5_copyFrom_92 : decode cX5_copyFrom 92 = .ok (.getfield 24, 3) := by decide +kernel
theorem dX5_copyFrom_95 : decode cX5_copyFrom 95 = .ok (.iconst 0, 1) := by decide +kernel
theorem dX5_copyFrom_96 : decode cX5_copyFrom 96 = .ok (.aload_n 0, 1) := by decide +kernel
theorem dX5_copyFrom_97 : decode cX5_copyFrom 97 = .ok (.getfield 42, 3) := by decide +kernel
theorem dX5_copyFrom_100 : decode cX5_copyFrom 100 = .ok (.invokestatic 55, 3) := by decide +kernel
theorem dX5_copyFrom_103 : decode cX5_copyFrom 103 = .ok (.aload_n 1, 1) := by decide +kernel
theorem dX5_copyFrom_104 : decode cX5_copyFrom 104 = .ok (.getfield 27, 3) := by decide +kernel
theorem dX5_copyFrom_107 : decode cX5_copyFrom 107 = .ok (.iconst 0, 1) := by decide +kernel
theorem dX5_copyFrom_108 : decode cX5_copyFrom 108 = .ok (.aload_n 0, 1) := by decide +kernel
theorem dX5_copyFrom_109 : decode cX5_copyFrom 109 = .ok (.getfield 27, 3) := by decide +kernel
theorem dX5_copyFrom_112 : decode cX5_copyFrom 112 = .ok (.iconst 0, 1) := by decide +kernel
theorem dX5_copyFrom_113 : decode cX5_copyFrom 113 = .ok (.aload_n 0, 1) := by decide +kernel
theorem dX5_copyFrom_114 : decode cX5_copyFrom 114 = .ok (.getfield 42, 3) := by decide +kernel
theorem dX5_copyFrom_117 : decode cX5_copyFrom 117 = .ok (.invokestatic 55, 3) := by decide +kernel
theorem dX5_copyFrom_120 : decode cX5_copyFrom 120 = .ok (.aload_n 1, 1) := by decide +kernel
theorem dX5_copyFrom_121 : decode cX5_copyFrom 121 = .ok (.getfield 30, 3) := by decide +kernel
theorem dX5_copyFrom_124 : decode cX5_copyFrom 124 = .ok (.iconst 0, 1) := by decide +kernel
theorem dX5_copyFrom_125 : decode cX5_copyFrom 125 = .ok (.aload_n 0, 1) := by decide +kernel
theorem dX5_copyFrom_126 : decode cX5_copyFrom 126 = .ok (.getfield 30, 3) := by decide +kernel
theorem dX5_copyFrom_129 : decode cX5_copyFrom 129 = .ok (.iconst 0, 1) := by decide +kernel
theorem dX5_copyFrom_130 : decode cX5_copyFrom 130 = .ok (.aload_n 0, 1) := by decide +kernel
theorem dX5_copyFrom_131 : decode cX5_copyFrom 131 = .ok (.getfield 42, 3) := by decide +kernel
theorem dX5_copyFrom_134 : decode cX5_copyFrom 134 = .ok (.invokestatic 55, 3) := by decide +kernel
theorem dX5_copyFrom_137 : decode cX5_copyFrom 137 = .ok (.aload_n 1, 1) := by decide +kernel
theorem dX5_copyFrom_138 : decode cX5_copyFrom 138 = .ok (.getfield 33, 3) := by decide +kernel
theorem dX5_copyFrom_141 : decode cX5_copyFrom 141 = .ok (.iconst 0, 1) := by decide +kernel
theorem dX5_copyFrom_142 : decode cX5_copyFrom 142 = .ok (.aload_n 0, 1) := by decide +kernel
theorem dX5_copyFrom_143 : decode cX5_copyFrom 143 = .ok (.getfield 33, 3) := by decide +kernel
theorem dX5_copyFrom_146 : decode cX5_copyFrom 146 = .ok (.iconst 0, 1) := by decide +kernel
theorem dX5_copyFrom_147 : decode cX5_copyFrom 147 = .ok (.aload_n 0, 1) := by decide +kernel
theorem dX5_copyFrom_148 : decode cX5_copyFrom 148 = .ok (.getfield 42, 3) := by decide +kernel
theorem dX5_copyFrom_151 : decode cX5_copyFrom 151 = .ok (.invokestatic 55, 3) := by decide +kernel
theorem dX5_copyFrom_154 : decode cX5_copyFrom 154 = .ok (.aload_n 1, 1) := by decide +kernel
theorem dX5_copyFrom_155 : decode cX5_copyFrom 155 = .ok (.getfield 36, 3) := by decide +kernel
theorem dX5_copyFrom_158 : decode cX5_copyFrom 158 = .ok (.iconst 0, 1) := by decide +kernel
theorem dX5_copyFrom_159 : decode cX5_copyFrom 159 = .ok (.aload_n 0, 1) := by decide +kernel
theorem dX5_copyFrom_160 : decode cX5_copyFrom 160 = .ok (.getfield 36, 3) := by decide +kernel
theorem dX5_copyFrom_163 : decode cX5_copyFrom 163 = .ok (.iconst 0, 1) := by decide +kernel
theorem dX5_copyFrom_164 : decode cX5_copyFrom 164 = .ok (.aload_n 0, 1) := by decide +kernel
theorem dX5_copyFrom_165 : decode cX5_copyFrom 165 = .ok (.getfield 42, 3) := by decide +kernel
theorem dX5_copyFrom_168 : decode cX5_copyFrom 168 = .ok (.invokestatic 55, 3) := by decide +kernel
theorem dX5_copyFrom_171 : decode cX5_copyFrom 171 = .ok (.aload_n 1, 1) := by decide +kernel
theorem dX5_copyFrom_172 : decode cX5_copyFrom 172 = .ok (.getfield 39, 3) := by decide +kernel
theorem dX5_copyFrom_175 : decode cX5_copyFrom 175 = .ok (.iconst 0, 1) := by decide +kernel
theorem dX5_copyFrom_176 : decode cX5_copyFrom 176 = .ok (.aload_n 0, 1) := by decide +kernel
theorem dX5_copyFrom_177 : decode cX5_copyFrom 177 = .ok (.getfield 39, 3) := by decide +kernel
theorem dX5_copyFrom_180 : decode cX5_copyFrom 180 = .ok (.iconst 0, 1) := by decide +kernel
theorem dX5_copyFrom_181 : decode cX5_copyFrom 181 = .ok (.aload_n 0, 1) := by decide +kernel
theorem dX5_copyFrom_182 : decode cX5_copyFrom 182 = .ok (.getfield 42, 3) := by decide +kernel
theorem dX5_copyFrom_185 : decode cX5_copyFrom 185 = .ok (.invokestatic 55, 3) := by decide +kernel
theorem dX5_copyFrom_188 : decode cX5_copyFrom 188 = .ok (.return_, 1) := by decide +kernel
theorem dX5_has_0 : decode cX5_has 0 = .ok (.iload_n 1, 1) := by decide +kernel
theorem dX5_has_1 : decode cX5_has 1 = .ok (.ifCond .lt 22, 3) := by decide +kernel
theorem dX5_has_4 : decode cX5_has 4 = .ok (.iload_n 1, 1) := by decide +kernel
theorem dX5_has_5 : decode cX5_has 5 = .ok (.aload_n 0, 1) := by decide +kernel
theorem dX5_has_6 : decode cX5_has 6 = .ok (.getfield 42, 3) := by decide +kernel
theorem dX5_has_9 : decode cX5_has 9 = .ok (.if_icmp .ge 14, 3) := by decide +kernel
theorem dX5_has_12 : decode cX5_has 12 = .ok (.iload_n 1, 1) := by decide +kernel
theorem dX5_has_13 : decode cX5_has 13 = .ok (.sipush 400, 3) := by decide +kernel
theorem dX5_has_16 : decode cX5_has 16 = .ok (.if_icmp .ge 7, 3) := by decide +kernel
theorem dX5_has_19 : decode cX5_has 19 = .ok (.iconst 1, 1) := by decide +kernel
theorem dX5_has_20 : decode cX5_has 20 = .ok (.goto 4, 3) := by decide +kernel
theorem dX5_has_23 : decode cX5_has 23 = .ok (.iconst 0, 1) := by decide +kernel
theorem dX5_has_24 : decode cX5_has 24 = .ok (.ireturn, 1) := by decide +kernel
theorem dX5_haveRoom_0 : decode cX5_haveRoom 0 = .ok (.aload_n 0, 1) := by decide +kernel
theorem dX5_haveRoom_1 : decode cX5_haveRoom 1 = .ok (.getfield 42, 3) := by decide +kernel
theorem dX5_haveRoom_4 : decode cX5_haveRoom 4 = .ok (.iload_n 1, 1) := by decide +kernel
theorem dX5_haveRoom_5 : decode cX5_haveRoom 5 = .ok (.iadd, 1) := by decide +kernel
theorem dX5_haveRoom_6 : decode cX5_haveRoom 6 = .ok (.sipush 400, 3) := by decide +kernel
theorem dX5_haveRoom_9 : decode cX5_haveRoom 9 = .ok (.if_icmp .gt 7, 3) := by decide +kernel
theorem dX5_haveRoom_12 : decode cX5_haveRoom 12 = .ok (.iconst 1, 1) := by decide +kernel
theorem dX5_haveRoom_13 : decode cX5_haveRoom 13 = .ok (.goto 4, 3) := by decide +kernel
theorem dX5_haveRoom_16 : decode cX5_haveRoom 16 = .ok (.iconst 0, 1) := by decide +kernel
theorem dX5_haveRoom_17 : decode cX5_haveRoom 17 = .ok (.ireturn, 1) := by decide +kernel
theorem dX5_add_0 : decode cX5_add 0 = .ok (.aload_n 0, 1) := by decide +kernel
theorem dX5_add_1 : decode cX5_add 1 = .ok (.getfield 42, 3) := by decide +kernel
theorem dX5_add_4 : decode cX5_add 4 = .ok (.istore 5, 2) := by decide +kernel
theorem dX5_add_6 : decode cX5_add 6 = .ok (.iload 5, 2) := by decide +kernel
theorem dX5_add_8 : decode cX5_add 8 = .ok (.ifCond .lt 11, 3) := by decide +kernel
theorem dX5_add_11 : decode cX5_add 11 = .ok (.iload 5, 2) := by decide +kernel
theorem dX5_add_13 : decode cX5_add 13 = .ok (.sipush 400, 3) := by decide +kernel
theorem dX5_add_16 : decode cX5_add 16 = .ok (.if_icmp .lt 5, 3) := by decide +kernel
theorem dX5_add_19 : decode cX5_add 19 = .ok (.iconst (-1), 1) := by decide +kernel
theorem dX5_add_20 : decode cX5_add 20 = .ok (.ireturn, 1) := by decide +kernel
theorem dX5_add_21 : decode cX5_add 21 = .ok (.aload_n 0, 1) := by decide +kernel
theorem dX5_add_22 : decode cX5_add 22 = .ok (.getfield 9, 3) := by decide +kernel
theorem dX5_add_25 : decode cX5_add 25 = .ok (.iload 5, 2) := by decide +kernel
theorem dX5_add_27 : decode cX5_add 27 = .ok (.iload_n 1, 1) := by decide +kernel
theorem dX5_add_28 : decode cX5_add 28 = .ok (.iastore, 1) := by decide +kernel
theorem dX5_add_29 : decode cX5_add 29 = .ok (.aload_n 0, 1) := by decide +kernel
theorem dX5_add_30 : decode cX5_add 30 = .ok (.getfield 15, 3) := by decide +kernel
theorem dX5_add_33 : decode cX5_add 33 = .ok (.iload 5, 2) := by decide +kernel
theorem dX5_add_35 : decode cX5_add 35 = .ok (.iload_n 2, 1) := by decide +kernel
theorem dX5_add_36 : decode cX5_add 36 = .ok (.iastore, 1) := by decide +kernel
theorem dX5_add_37 : decode cX5_add 37 = .ok (.aload_n 0, 1) := by decide +kernel
theorem dX5_add_38 : decode cX5_add 38 = .ok (.getfield 18, 3) := by decide +kernel
theorem dX5_add_41 : decode cX5_add 41 = .ok (.iload 5, 2) := by decide +kernel
theorem dX5_add_43 : decode cX5_add 43 = .ok (.iload_n 3, 1) := by decide +kernel
theorem dX5_add_44 : decode cX5_add 44 = .ok (.iastore, 1) := by decide +kernel
theorem dX5_add_45 : decode cX5_add 45 = .ok (.aload_n 0, 1) := by decide +kernel
theorem dX5_add_46 : decode cX5_add 46 = .ok (.getfield 33, 3) := by decide +kernel
theorem dX5_add_49 : decode cX5_add 49 = .ok (.iload 5, 2) := by decide +kernel
theorem dX5_add_51 : decode cX5_add 51 = .ok (.iload 4, 2) := by decide +kernel
theorem dX5_add_53 : decode cX5_add 53 = .ok (.iastore, 1) := by decide +kernel
theorem dX5_add_54 : decode cX5_add 54 = .ok (.aload_n 0, 1) := by decide +kernel
theorem dX5_add_55 : decode cX5_add 55 = .ok (.getfield 36, 3) := by decide +kernel
theorem dX5_add_58 : decode cX5_add 58 = .ok (.iload 5, 2) := by decide +kernel
theorem dX5_add_60 : decode cX5_add 60 = .ok (.bipush (-2), 2) := by decide +kernel
theorem dX5_add_62 : decode cX5_add 62 = .ok (.iastore, 1) := by decide +kernel
theorem dX5_add_63 : decode cX5_add 63 = .ok (.aload_n 0, 1) := by decide +kernel
theorem dX5_add_64 : decode cX5_add 64 = .ok (.getfield 39, 3) := by decide +kernel
theorem dX5_add_67 : decode cX5_add 67 = .ok (.iload 5, 2) := by decide +kernel
theorem dX5_add_69 : decode cX5_add 69 = .ok (.bipush (-2), 2) := by decide +kernel
theorem dX5_add_71 : decode cX5_add 71 = .ok (.iastore, 1) := by decide +kernel
theorem dX5_add_72 : decode cX5_add 72 = .ok (.aload_n 0, 1) := by decide +kernel
theorem dX5_add_73 : decode cX5_add 73 = .ok (.dup, 1) := by decide +kernel
theorem dX5_add_74 : decode cX5_add 74 = .ok (.getfield 42, 3) := by decide +kernel
theorem dX5_add_77 : decode cX5_add 77 = .ok (.iconst 1, 1) := by decide +kernel
theorem dX5_add_78 : decode cX5_add 78 = .ok (.iadd, 1) := by decide +kernel
theorem dX5_add_79 : decode cX5_add 79 = .ok (.putfield 42, 3) := by decide +kernel
theorem dX5_add_82 : decode cX5_add 82 = .ok (.iload 5, 2) := by decide +kernel
theorem dX5_add_84 : decode cX5_add 84 = .ok (.ireturn, 1) := by decide +kernel
theorem dX5_describe_0 : decode cX5_describe 0 = .ok (.iload_n 1, 1) := by decide +kernel
theorem dX5_describe_1 : decode cX5_describe 1 = .ok (.ifCond .lt 40, 3) := by decide +kernel
theorem dX5_describe_4 : decode cX5_describe 4 = .ok (.iload_n 1, 1) := by decide +kernel
theorem dX5_describe_5 : decode cX5_describe 5 = .ok (.sipush 400, 3) := by decide +kernel
theorem dX5_describe_8 : decode cX5_describe 8 = .ok (.if_icmp .ge 33, 3) := by decide +kernel
theorem dX5_describe_11 : decode cX5_describe 11 = .ok (.aload_n 0, 1) := by decide +kernel
theorem dX5_describe_12 : decode cX5_describe 12 = .ok (.getfield 21, 3) := by decide +kernel
theorem dX5_describe_15 : decode cX5_describe 15 = .ok (.iload_n 1, 1) := by decide +kernel
theorem dX5_describe_16 : decode cX5_describe 16 = .ok (.iload_n 2, 1) := by decide +kernel
theorem dX5_describe_17 : decode cX5_describe 17 = .ok (.iastore, 1) := by decide +kernel
theorem dX5_describe_18 : decode cX5_describe 18 = .ok (.aload_n 0, 1) := by decide +kernel
theorem dX5_describe_19 : decode cX5_describe 19 = .ok (.getfield 30, 3) := by decide +kernel
theorem dX5_describe_22 : decode cX5_describe 22 = .ok (.iload_n 1, 1) := by decide +kernel
theorem dX5_describe_23 : decode cX5_describe 23 = .ok (.iload_n 3, 1) := by decide +kernel
theorem dX5_describe_24 : decode cX5_describe 24 = .ok (.iastore, 1) := by decide +kernel
theorem dX5_describe_25 : decode cX5_describe 25 = .ok (.aload_n 0, 1) := by decide +kernel
theorem dX5_describe_26 : decode cX5_describe 26 = .ok (.getfield 24, 3) := by decide +kernel
theorem dX5_describe_29 : decode cX5_describe 29 = .ok (.iload_n 1, 1) := by decide +kernel
theorem dX5_describe_30 : decode cX5_describe 30 = .ok (.iload 4, 2) := by decide +kernel
theorem dX5_describe_32 : decode cX5_describe 32 = .ok (.iastore, 1) := by decide +kernel
theorem dX5_describe_33 : decode cX5_describe 33 = .ok (.aload_n 0, 1) := by decide +kernel
theorem dX5_describe_34 : decode cX5_describe 34 = .ok (.getfield 27, 3) := by decide +kernel
theorem dX5_describe_37 : decode cX5_describe 37 = .ok (.iload_n 1, 1) := by decide +kernel
theorem dX5_describe_38 : decode cX5_describe 38 = .ok (.iload 5, 2) := by decide +kernel
theorem dX5_describe_40 : decode cX5_describe 40 = .ok (.iastore, 1) := by decide +kernel
theorem dX5_describe_41 : decode cX5_describe 41 = .ok (.return_, 1) := by decide +kernel
theorem dX5_link_0 : decode cX5_link 0 = .ok (.aload_n 0, 1) := by decide +kernel
theorem dX5_link_1 : decode cX5_link 1 = .ok (.iload_n 1, 1) := by decide +kernel
theorem dX5_link_2 : decode cX5_link 2 = .ok (.invokevirtual 61, 3) := by decide +kernel
theorem dX5_link_5 : decode cX5_link 5 = .ok (.ifCond .eq 25, 3) := by decide +kernel
theorem dX5_link_8 : decode cX5_link 8 = .ok (.aload_n 0, 1) := by decide +kernel
theorem dX5_link_9 : decode cX5_link 9 = .ok (.iload_n 2, 1) := by decide +kernel
theorem dX5_link_10 : decode cX5_link 10 = .ok (.invokevirtual 61, 3) := by decide +kernel
theorem dX5_link_13 : decode cX5_link 13 = .ok (.ifCond .eq 17, 3) := by decide +kernel
theorem dX5_link_16 : decode cX5_link 16 = .ok (.aload_n 0, 1) := by decide +kernel
theorem dX5_link_17 : decode cX5_link 17 = .ok (.getfield 36, 3) := by decide +kernel
theorem dX5_link_20 : decode cX5_link 20 = .ok (.iload_n 1, 1) := by decide +kernel
theorem dX5_link_21 : decode cX5_link 21 = .ok (.iload_n 2, 1) := by decide +kernel
theorem dX5_link_22 : decode cX5_link 22 = .ok (.iastore, 1) := by decide +kernel
theorem dX5_link_23 : decode cX5_link 23 = .ok (.aload_n 0, 1) := by decide +kernel
theorem dX5_link_24 : decode cX5_link 24 = .ok (.getfield 39, 3) := by decide +kernel
theorem dX5_link_27 : decode cX5_link 27 = .ok (.iload_n 2, 1) := by decide +kernel
theorem dX5_link_28 : decode cX5_link 28 = .ok (.iload_n 1, 1) := by decide +kernel
theorem dX5_link_29 : decode cX5_link 29 = .ok (.iastore, 1) := by decide +kernel
theorem dX5_link_30 : decode cX5_link 30 = .ok (.return_, 1) := by decide +kernel
theorem dX5_isOf_0 : decode cX5_isOf 0 = .ok (.iload_n 1, 1) := by decide +kernel
theorem dX5_isOf_1 : decode cX5_isOf 1 = .ok (.ifCond .lt 32, 3) := by decide +kernel
theorem dX5_isOf_4 : decode cX5_isOf 4 = .ok (.iload_n 1, 1) := by decide +kernel
theorem dX5_isOf_5 : decode cX5_isOf 5 = .ok (.aload_n 0, 1) := by decide +kernel
theorem dX5_isOf_6 : decode cX5_isOf 6 = .ok (.getfield 42, 3) := by decide +kernel
theorem dX5_isOf_9 : decode cX5_isOf 9 = .ok (.if_icmp .ge 24, 3) := by decide +kernel
theorem dX5_isOf_12 : decode cX5_isOf 12 = .ok (.iload_n 1, 1) := by decide +kernel
theorem dX5_isOf_13 : decode cX5_isOf 13 = .ok (.sipush 400, 3) := by decide +kernel
theorem dX5_isOf_16 : decode cX5_isOf 16 = .ok (.if_icmp .ge 17, 3) := by decide +kernel
theorem dX5_isOf_19 : decode cX5_isOf 19 = .ok (.aload_n 0, 1) := by decide +kernel
theorem dX5_isOf_20 : decode cX5_isOf 20 = .ok (.getfield 15, 3) := by decide +kernel
theorem dX5_isOf_23 : decode cX5_isOf 23 = .ok (.iload_n 1, 1) := by decide +kernel
theorem dX5_isOf_24 : decode cX5_isOf 24 = .ok (.iaload, 1) := by decide +kernel
theorem dX5_isOf_25 : decode cX5_isOf 25 = .ok (.iload_n 2, 1) := by decide +kernel
theorem dX5_isOf_26 : decode cX5_isOf 26 = .ok (.if_icmp .ne 7, 3) := by decide +kernel
theorem dX5_isOf_29 : decode cX5_isOf 29 = .ok (.iconst 1, 1) := by decide +kernel
theorem dX5_isOf_30 : decode cX5_isOf 30 = .ok (.goto 4, 3) := by decide +kernel
theorem dX5_isOf_33 : decode cX5_isOf 33 = .ok (.iconst 0, 1) := by decide +kernel
theorem dX5_isOf_34 : decode cX5_isOf 34 = .ok (.ireturn, 1) := by decide +kernel
theorem dX5_howManyOf_0 : decode cX5_howManyOf 0 = .ok (.iconst 0, 1) := by decide +kernel
theorem dX5_howManyOf_1 : decode cX5_howManyOf 1 = .ok (.istore_n 2, 1) := by decide +kernel
theorem dX5_howManyOf_2 : decode cX5_howManyOf 2 = .ok (.iconst 0, 1) := by decide +kernel
theorem dX5_howManyOf_3 : decode cX5_howManyOf 3 = .ok (.istore_n 3, 1) := by decide +kernel
theorem dX5_howManyOf_4 : decode cX5_howManyOf 4 = .ok (.iload_n 3, 1) := by decide +kernel
theorem dX5_howManyOf_5 : decode cX5_howManyOf 5 = .ok (.aload_n 0, 1) := by decide +kernel
theorem dX5_howManyOf_6 : decode cX5_howManyOf 6 = .ok (.getfield 42, 3) := by decide +kernel
theorem dX5_howManyOf_9 : decode cX5_howManyOf 9 = .ok (.if_icmp .ge 21, 3) := by decide +kernel
theorem dX5_howManyOf_12 : decode cX5_howManyOf 12 = .ok (.aload_n 0, 1) := by decide +kernel
theorem dX5_howManyOf_13 : decode cX5_howManyOf 13 = .ok (.iload_n 3, 1) := by decide +kernel
theorem dX5_howManyOf_14 : decode cX5_howManyOf 14 = .ok (.iload_n 1, 1) := by decide +kernel
theorem dX5_howManyOf_15 : decode cX5_howManyOf 15 = .ok (.invokevirtual 65, 3) := by decide +kernel
theorem dX5_howManyOf_18 : decode cX5_howManyOf 18 = .ok (.ifCond .eq 6, 3) := by decide +kernel
theorem dX5_howManyOf_21 : decode cX5_howManyOf 21 = .ok (.iinc 2 1, 3) := by decide +kernel
theorem dX5_howManyOf_24 : decode cX5_howManyOf 24 = .ok (.iinc 3 1, 3) := by decide +kernel
theorem dX5_howManyOf_27 : decode cX5_howManyOf 27 = .ok (.goto (-23), 3) := by decide +kernel
theorem dX5_howManyOf_30 : decode cX5_howManyOf 30 = .ok (.iload_n 2, 1) := by decide +kernel
theorem dX5_howManyOf_31 : decode cX5_howManyOf 31 = .ok (.ireturn, 1) := by decide +kernel
theorem dX5_sumOfKind_0 : decode cX5_sumOfKind 0 = .ok (.iconst 0, 1) := by decide +kernel
theorem dX5_sumOfKind_1 : decode cX5_sumOfKind 1 = .ok (.istore_n 3, 1) := by decide +kernel
theorem dX5_sumOfKind_2 : decode cX5_sumOfKind 2 = .ok (.iconst 0, 1) := by decide +kernel
theorem dX5_sumOfKind_3 : decode cX5_sumOfKind 3 = .ok (.istore 4, 2) := by decide +kernel
theorem dX5_sumOfKind_5 : decode cX5_sumOfKind 5 = .ok (.iload 4, 2) := by decide +kernel
theorem dX5_sumOfKind_7 : decode cX5_sumOfKind 7 = .ok (.aload_n 0, 1) := by decide +kernel
theorem dX5_sumOfKind_8 : decode cX5_sumOfKind 8 = .ok (.getfield 42, 3) := by decide +kernel
theorem dX5_sumOfKind_11 : decode cX5_sumOfKind 11 = .ok (.if_icmp .ge 40, 3) := by decide +kernel
theorem dX5_sumOfKind_14 : decode cX5_sumOfKind 14 = .ok (.aload_n 0, 1) := by decide +kernel
theorem dX5_sumOfKind_15 : decode cX5_sumOfKind 15 = .ok (.iload 4, 2) := by decide +kernel
theorem dX5_sumOfKind_17 : decode cX5_sumOfKind 17 = .ok (.iload_n 1, 1) := by decide +kernel
theorem dX5_sumOfKind_18 : decode cX5_sumOfKind 18 = .ok (.invokevirtual 65, 3) := by decide +kernel
theorem dX5_sumOfKind_21 : decode cX5_sumOfKind 21 = .ok (.ifCond .eq 24, 3) := by decide +kernel
theorem dX5_sumOfKind_24 : decode cX5_sumOfKind 24 = .ok (.aload_n 0, 1) := by decide +kernel
theorem dX5_sumOfKind_25 : decode cX5_sumOfKind 25 = .ok (.getfield 9, 3) := by decide +kernel
theorem dX5_sumOfKind_28 : decode cX5_sumOfKind 28 = .ok (.iload 4, 2) := by decide +kernel
theorem dX5_sumOfKind_30 : decode cX5_sumOfKind 30 = .ok (.iaload, 1) := by decide +kernel
theorem dX5_sumOfKind_31 : decode cX5_sumOfKind 31 = .ok (.iload_n 2, 1) := by decide +kernel
theorem dX5_sumOfKind_32 : decode cX5_sumOfKind 32 = .ok (.if_icmp .ne 13, 3) := by decide +kernel
theorem dX5_sumOfKind_35 : decode cX5_sumOfKind 35 = .ok (.iload_n 3, 1) := by decide +kernel
theorem dX5_sumOfKind_36 : decode cX5_sumOfKind 36 = .ok (.aload_n 0, 1) := by decide +kernel
theorem dX5_sumOfKind_37 : decode cX5_sumOfKind 37 = .ok (.getfield 33, 3) := by decide +kernel
theorem dX5_sumOfKind_40 : decode cX5_sumOfKind 40 = .ok (.iload 4, 2) := by decide +kernel
theorem dX5_sumOfKind_42 : decode cX5_sumOfKind 42 = .ok (.iaload, 1) := by decide +kernel
theorem dX5_sumOfKind_43 : decode cX5_sumOfKind 43 = .ok (.iadd, 1) := by decide +kernel
theorem dX5_sumOfKind_44 : decode cX5_sumOfKind 44 = .ok (.istore_n 3, 1) := by decide +kernel
theorem dX5_sumOfKind_45 : decode cX5_sumOfKind 45 = .ok (.iinc 4 1, 3) := by decide +kernel
theorem dX5_sumOfKind_48 : decode cX5_sumOfKind 48 = .ok (.goto (-43), 3) := by decide +kernel
theorem dX5_sumOfKind_51 : decode cX5_sumOfKind 51 = .ok (.iload_n 3, 1) := by decide +kernel
theorem dX5_sumOfKind_52 : decode cX5_sumOfKind 52 = .ok (.ireturn, 1) := by decide +kernel
theorem dX5_sumOfPeriod_0 : decode cX5_sumOfPeriod 0 = .ok (.iconst 0, 1) := by decide +kernel
theorem dX5_sumOfPeriod_1 : decode cX5_sumOfPeriod 1 = .ok (.istore_n 3, 1) := by decide +kernel
theorem dX5_sumOfPeriod_2 : decode cX5_sumOfPeriod 2 = .ok (.iconst 0, 1) := by decide +kernel
theorem dX5_sumOfPeriod_3 : decode cX5_sumOfPeriod 3 = .ok (.istore 4, 2) := by decide +kernel
theorem dX5_sumOfPeriod_5 : decode cX5_sumOfPeriod 5 = .ok (.iload 4, 2) := by decide +kernel
theorem dX5_sumOfPeriod_7 : decode cX5_sumOfPeriod 7 = .ok (.aload_n 0, 1) := by decide +kernel
theorem dX5_sumOfPeriod_8 : decode cX5_sumOfPeriod 8 = .ok (.getfield 42, 3) := by decide +kernel
theorem dX5_sumOfPeriod_11 : decode cX5_sumOfPeriod 11 = .ok (.if_icmp .ge 40, 3) := by decide +kernel
theorem dX5_sumOfPeriod_14 : decode cX5_sumOfPeriod 14 = .ok (.aload_n 0, 1) := by decide +kernel
theorem dX5_sumOfPeriod_15 : decode cX5_sumOfPeriod 15 = .ok (.iload 4, 2) := by decide +kernel
theorem dX5_sumOfPeriod_17 : decode cX5_sumOfPeriod 17 = .ok (.iload_n 1, 1) := by decide +kernel
theorem dX5_sumOfPeriod_18 : decode cX5_sumOfPeriod 18 = .ok (.invokevirtual 65, 3) := by decide +kernel
theorem dX5_sumOfPeriod_21 : decode cX5_sumOfPeriod 21 = .ok (.ifCond .eq 24, 3) := by decide +kernel
theorem dX5_sumOfPeriod_24 : decode cX5_sumOfPeriod 24 = .ok (.aload_n 0, 1) := by decide +kernel
theorem dX5_sumOfPeriod_25 : decode cX5_sumOfPeriod 25 = .ok (.getfield 21, 3) := by decide +kernel
theorem dX5_sumOfPeriod_28 : decode cX5_sumOfPeriod 28 = .ok (.iload 4, 2) := by decide +kernel
theorem dX5_sumOfPeriod_30 : decode cX5_sumOfPeriod 30 = .ok (.iaload, 1) := by decide +kernel
theorem dX5_sumOfPeriod_31 : decode cX5_sumOfPeriod 31 = .ok (.iload_n 2, 1) := by decide +kernel
theorem dX5_sumOfPeriod_32 : decode cX5_sumOfPeriod 32 = .ok (.if_icmp .ne 13, 3) := by decide +kernel
theorem dX5_sumOfPeriod_35 : decode cX5_sumOfPeriod 35 = .ok (.iload_n 3, 1) := by decide +kernel
theorem dX5_sumOfPeriod_36 : decode cX5_sumOfPeriod 36 = .ok (.aload_n 0, 1) := by decide +kernel
theorem dX5_sumOfPeriod_37 : decode cX5_sumOfPeriod 37 = .ok (.getfield 33, 3) := by decide +kernel
theorem dX5_sumOfPeriod_40 : decode cX5_sumOfPeriod 40 = .ok (.iload 4, 2) := by decide +kernel
theorem dX5_sumOfPeriod_42 : decode cX5_sumOfPeriod 42 = .ok (.iaload, 1) := by decide +kernel
theorem dX5_sumOfPeriod_43 : decode cX5_sumOfPeriod 43 = .ok (.iadd, 1) := by decide +kernel
theorem dX5_sumOfPeriod_44 : decode cX5_sumOfPeriod 44 = .ok (.istore_n 3, 1) := by decide +kernel
theorem dX5_sumOfPeriod_45 : decode cX5_sumOfPeriod 45 = .ok (.iinc 4 1, 3) := by decide +kernel
theorem dX5_sumOfPeriod_48 : decode cX5_sumOfPeriod 48 = .ok (.goto (-43), 3) := by decide +kernel
theorem dX5_sumOfPeriod_51 : decode cX5_sumOfPeriod 51 = .ok (.iload_n 3, 1) := by decide +kernel
theorem dX5_sumOfPeriod_52 : decode cX5_sumOfPeriod 52 = .ok (.ireturn, 1) := by decide +kernel
theorem dX5_sumWritten_0 : decode cX5_sumWritten 0 = .ok (.iconst 0, 1) := by decide +kernel
theorem dX5_sumWritten_1 : decode cX5_sumWritten 1 = .ok (.istore_n 3, 1) := by decide +kernel
theorem dX5_sumWritten_2 : decode cX5_sumWritten 2 = .ok (.iconst 0, 1) := by decide +kernel
theorem dX5_sumWritten_3 : decode cX5_sumWritten 3 = .ok (.istore 4, 2) := by decide +kernel
theorem dX5_sumWritten_5 : decode cX5_sumWritten 5 = .ok (.iload 4, 2) := by decide +kernel
theorem dX5_sumWritten_7 : decode cX5_sumWritten 7 = .ok (.aload_n 0, 1) := by decide +kernel
theorem dX5_sumWritten_8 : decode cX5_sumWritten 8 = .ok (.getfield 42, 3) := by decide +kernel
theorem dX5_sumWritten_11 : decode cX5_sumWritten 11 = .ok (.if_icmp .ge 49, 3) := by decide +kernel
theorem dX5_sumWritten_14 : decode cX5_sumWritten 14 = .ok (.iload 4, 2) := by decide +kernel
theorem dX5_sumWritten_16 : decode cX5_sumWritten 16 = .ok (.sipush 400, 3) := by decide +kernel
theorem dX5_sumWritten_19 : decode cX5_sumWritten 19 = .ok (.if_icmp .ge 41, 3) := by decide +kernel
theorem dX5_sumWritten_22 : decode cX5_sumWritten 22 = .ok (.aload_n 0, 1) := by decide +kernel
theorem dX5_sumWritten_23 : decode cX5_sumWritten 23 = .ok (.getfield 18, 3) := by decide +kernel
theorem dX5_sumWritten_26 : decode cX5_sumWritten 26 = .ok (.iload 4, 2) := by decide +kernel
theorem dX5_sumWritten_28 : decode cX5_sumWritten 28 = .ok (.iaload, 1) := by decide +kernel
theorem dX5_sumWritten_29 : decode cX5_sumWritten 29 = .ok (.iload_n 1, 1) := by decide +kernel
theorem dX5_sumWritten_30 : decode cX5_sumWritten 30 = .ok (.if_icmp .lt 24, 3) := by decide +kernel
theorem dX5_sumWritten_33 : decode cX5_sumWritten 33 = .ok (.aload_n 0, 1) := by decide +kernel
theorem dX5_sumWritten_34 : decode cX5_sumWritten 34 = .ok (.getfield 18, 3) := by decide +kernel
theorem dX5_sumWritten_37 : decode cX5_sumWritten 37 = .ok (.iload 4, 2) := by decide +kernel
theorem dX5_sumWritten_39 : decode cX5_sumWritten 39 = .ok (.iaload, 1) := by decide +kernel
theorem dX5_sumWritten_40 : decode cX5_sumWritten 40 = .ok (.iload_n 2, 1) := by decide +kernel
theorem dX5_sumWritten_41 : decode cX5_sumWritten 41 = .ok (.if_icmp .gt 13, 3) := by decide +kernel
theorem dX5_sumWritten_44 : decode cX5_sumWritten 44 = .ok (.iload_n 3, 1) := by decide +kernel
theorem dX5_sumWritten_45 : decode cX5_sumWritten 45 = .ok (.aload_n 0, 1) := by decide +kernel
theorem dX5_sumWritten_46 : decode cX5_sumWritten 46 = .ok (.getfield 33, 3) := by decide +kernel
theorem dX5_sumWritten_49 : decode cX5_sumWritten 49 = .ok (.iload 4, 2) := by decide +kernel
theorem dX5_sumWritten_51 : decode cX5_sumWritten 51 = .ok (.iaload, 1) := by decide +kernel
theorem dX5_sumWritten_52 : decode cX5_sumWritten 52 = .ok (.iadd, 1) := by decide +kernel
theorem dX5_sumWritten_53 : decode cX5_sumWritten 53 = .ok (.istore_n 3, 1) := by decide +kernel
theorem dX5_sumWritten_54 : decode cX5_sumWritten 54 = .ok (.iinc 4 1, 3) := by decide +kernel
theorem dX5_sumWritten_57 : decode cX5_sumWritten 57 = .ok (.goto (-52), 3) := by decide +kernel
theorem dX5_sumWritten_60 : decode cX5_sumWritten 60 = .ok (.iload_n 3, 1) := by decide +kernel
theorem dX5_sumWritten_61 : decode cX5_sumWritten 61 = .ok (.ireturn, 1) := by decide +kernel
theorem dX5_haveFeeOn_0 : decode cX5_haveFeeOn 0 = .ok (.iconst 0, 1) := by decide +kernel
theorem dX5_haveFeeOn_1 : decode cX5_haveFeeOn 1 = .ok (.istore_n 3, 1) := by decide +kernel
theorem dX5_haveFeeOn_2 : decode cX5_haveFeeOn 2 = .ok (.iload_n 3, 1) := by decide +kernel
theorem dX5_haveFeeOn_3 : decode cX5_haveFeeOn 3 = .ok (.aload_n 0, 1) := by decide +kernel
theorem dX5_haveFeeOn_4 : decode cX5_haveFeeOn 4 = .ok (.getfield 42, 3) := by decide +kernel
theorem dX5_haveFeeOn_7 : decode cX5_haveFeeOn 7 = .ok (.if_icmp .ge 40, 3) := by decide +kernel
theorem dX5_haveFeeOn_10 : decode cX5_haveFeeOn 10 = .ok (.aload_n 0, 1) := by decide +kernel
theorem dX5_haveFeeOn_11 : decode cX5_haveFeeOn 11 = .ok (.iload_n 3, 1) := by decide +kernel
theorem dX5_haveFeeOn_12 : decode cX5_haveFeeOn 12 = .ok (.iload_n 1, 1) := by decide +kernel
theorem dX5_haveFeeOn_13 : decode cX5_haveFeeOn 13 = .ok (.invokevirtual 65, 3) := by decide +kernel
theorem dX5_haveFeeOn_16 : decode cX5_haveFeeOn 16 = .ok (.ifCond .eq 25, 3) := by decide +kernel
theorem dX5_haveFeeOn_19 : decode cX5_haveFeeOn 19 = .ok (.aload_n 0, 1) := by decide +kernel
theorem dX5_haveFeeOn_20 : decode cX5_haveFeeOn 20 = .ok (.getfield 9, 3) := by decide +kernel
theorem dX5_haveFeeOn_23 : decode cX5_haveFeeOn 23 = .ok (.iload_n 3, 1) := by decide +kernel
theorem dX5_haveFeeOn_24 : decode cX5_haveFeeOn 24 = .ok (.iaload, 1) := by decide +kernel
theorem dX5_haveFeeOn_25 : decode cX5_haveFeeOn 25 = .ok (.iconst 5, 1) := by decide +kernel
theorem dX5_haveFeeOn_26 : decode cX5_haveFeeOn 26 = .ok (.if_icmp .ne 15, 3) := by decide +kernel
theorem dX5_haveFeeOn_29 : decode cX5_haveFeeOn 29 = .ok (.aload_n 0, 1) := by decide +kernel
theorem dX5_haveFeeOn_30 : decode cX5_haveFeeOn 30 = .ok (.getfield 18, 3) := by decide +kernel
theorem dX5_haveFeeOn_33 : decode cX5_haveFeeOn 33 = .ok (.iload_n 3, 1) := by decide +kernel
theorem dX5_haveFeeOn_34 : decode cX5_haveFeeOn 34 = .ok (.iaload, 1) := by decide +kernel
theorem dX5_haveFeeOn_35 : decode cX5_haveFeeOn 35 = .ok (.iload_n 2, 1) := by decide +kernel
theorem dX5_haveFeeOn_36 : decode cX5_haveFeeOn 36 = .ok (.if_icmp .ne 5, 3) := by decide +kernel
theorem dX5_haveFeeOn_39 : decode cX5_haveFeeOn 39 = .ok (.iconst 1, 1) := by decide +kernel
theorem dX5_haveFeeOn_40 : decode cX5_haveFeeOn 40 = .ok (.ireturn, 1) := by decide +kernel
theorem dX5_haveFeeOn_41 : decode cX5_haveFeeOn 41 = .ok (.iinc 3 1, 3) := by decide +kernel
theorem dX5_haveFeeOn_44 : decode cX5_haveFeeOn 44 = .ok (.goto (-42), 3) := by decide +kernel
theorem dX5_haveFeeOn_47 : decode cX5_haveFeeOn 47 = .ok (.iconst 0, 1) := by decide +kernel
theorem dX5_haveFeeOn_48 : decode cX5_haveFeeOn 48 = .ok (.ireturn, 1) := by decide +kernel
theorem dX5_coverOf_0 : decode cX5_coverOf 0 = .ok (.iload_n 2, 1) := by decide +kernel
theorem dX5_coverOf_1 : decode cX5_coverOf 1 = .ok (.istore_n 3, 1) := by decide +kernel
theorem dX5_coverOf_2 : decode cX5_coverOf 2 = .ok (.iconst 0, 1) := by decide +kernel
theorem dX5_coverOf_3 : decode cX5_coverOf 3 = .ok (.istore 4, 2) := by decide +kernel
theorem dX5_coverOf_5 : decode cX5_coverOf 5 = .ok (.iload 4, 2) := by decide +kernel
theorem dX5_coverOf_7 : decode cX5_coverOf 7 = .ok (.aload_n 0, 1) := by decide +kernel
theorem dX5_coverOf_8 : decode cX5_coverOf 8 = .ok (.getfield 42, 3) := by decide +kernel
theorem dX5_coverOf_11 : decode cX5_coverOf 11 = .ok (.if_icmp .ge 39, 3) := by decide +kernel
theorem dX5_coverOf_14 : decode cX5_coverOf 14 = .ok (.aload_n 0, 1) := by decide +kernel
theorem dX5_coverOf_15 : decode cX5_coverOf 15 = .ok (.iload 4, 2) := by decide +kernel
theorem dX5_coverOf_17 : decode cX5_coverOf 17 = .ok (.iload_n 1, 1) := by decide +kernel
theorem dX5_coverOf_18 : decode cX5_coverOf 18 = .ok (.invokevirtual 65, 3) := by decide +kernel
theorem dX5_coverOf_21 : decode cX5_coverOf 21 = .ok (.ifCond .eq 23, 3) := by decide +kernel
theorem dX5_coverOf_24 : decode cX5_coverOf 24 = .ok (.aload_n 0, 1) := by decide +kernel
theorem dX5_coverOf_25 : decode cX5_coverOf 25 = .ok (.getfield 33, 3) := by decide +kernel
theorem dX5_coverOf_28 : decode cX5_coverOf 28 = .ok (.iload 4, 2) := by decide +kernel
theorem dX5_coverOf_30 : decode cX5_coverOf 30 = .ok (.iaload, 1) := by decide +kernel
theorem dX5_coverOf_31 : decode cX5_coverOf 31 = .ok (.ifCond .ge 13, 3) := by decide +kernel
theorem dX5_coverOf_34 : decode cX5_coverOf 34 = .ok (.iload_n 3, 1) := by decide +kernel
theorem dX5_coverOf_35 : decode cX5_coverOf 35 = .ok (.aload_n 0, 1) := by decide +kernel
theorem dX5_coverOf_36 : decode cX5_coverOf 36 = .ok (.getfield 33, 3) := by decide +kernel
theorem dX5_coverOf_39 : decode cX5_coverOf 39 = .ok (.iload 4, 2) := by decide +kernel
theorem dX5_coverOf_41 : decode cX5_coverOf 41 = .ok (.iaload, 1) := by decide +kernel
theorem dX5_coverOf_42 : decode cX5_coverOf 42 = .ok (.isub, 1) := by decide +kernel
theorem dX5_coverOf_43 : decode cX5_coverOf 43 = .ok (.istore_n 3, 1) := by decide +kernel
theorem dX5_coverOf_44 : decode cX5_coverOf 44 = .ok (.iinc 4 1, 3) := by decide +kernel
theorem dX5_coverOf_47 : decode cX5_coverOf 47 = .ok (.goto (-42), 3) := by decide +kernel
theorem dX5_coverOf_50 : decode cX5_coverOf 50 = .ok (.iload_n 3, 1) := by decide +kernel
theorem dX5_coverOf_51 : decode cX5_coverOf 51 = .ok (.ireturn, 1) := by decide +kernel
theorem dX5_openOf_0 : decode cX5_openOf 0 = .ok (.aload_n 0, 1) := by decide +kernel
theorem dX5_openOf_1 : decode cX5_openOf 1 = .ok (.iload_n 1, 1) := by decide +kernel
theorem dX5_openOf_2 : decode cX5_openOf 2 = .ok (.invokevirtual 61, 3) := by decide +kernel
theorem dX5_openOf_5 : decode cX5_openOf 5 = .ok (.ifCond .eq 12, 3) := by decide +kernel
theorem dX5_openOf_8 : decode cX5_openOf 8 = .ok (.aload_n 0, 1) := by decide +kernel
theorem dX5_openOf_9 : decode cX5_openOf 9 = .ok (.getfield 33, 3) := by decide +kernel
theorem dX5_openOf_12 : decode cX5_openOf 12 = .ok (.iload_n 1, 1) := by decide +kernel
theorem dX5_openOf_13 : decode cX5_openOf 13 = .ok (.iaload, 1) := by decide +kernel
theorem dX5_openOf_14 : decode cX5_openOf 14 = .ok (.ifCond .gt 5, 3) := by decide +kernel
theorem dX5_openOf_17 : decode cX5_openOf 17 = .ok (.iconst 0, 1) := by decide +kernel
theorem dX5_openOf_18 : decode cX5_openOf 18 = .ok (.ireturn, 1) := by decide +kernel
theorem dX5_openOf_19 : decode cX5_openOf 19 = .ok (.aload_n 0, 1) := by decide +kernel
theorem dX5_openOf_20 : decode cX5_openOf 20 = .ok (.aload_n 0, 1) := by decide +kernel
theorem dX5_openOf_21 : decode cX5_openOf 21 = .ok (.getfield 15, 3) := by decide +kernel
theorem dX5_openOf_24 : decode cX5_openOf 24 = .ok (.iload_n 1, 1) := by decide +kernel
theorem dX5_openOf_25 : decode cX5_openOf 25 = .ok (.iaload, 1) := by decide +kernel
theorem dX5_openOf_26 : decode cX5_openOf 26 = .ok (.iload_n 2, 1) := by decide +kernel
theorem dX5_openOf_27 : decode cX5_openOf 27 = .ok (.invokevirtual 69, 3) := by decide +kernel
theorem dX5_openOf_30 : decode cX5_openOf 30 = .ok (.istore_n 3, 1) := by decide +kernel
theorem dX5_openOf_31 : decode cX5_openOf 31 = .ok (.iconst 0, 1) := by decide +kernel
theorem dX5_openOf_32 : decode cX5_openOf 32 = .ok (.istore 4, 2) := by decide +kernel
theorem dX5_openOf_34 : decode cX5_openOf 34 = .ok (.iload 4, 2) := by decide +kernel
theorem dX5_openOf_36 : decode cX5_openOf 36 = .ok (.iload_n 1, 1) := by decide +kernel
theorem dX5_openOf_37 : decode cX5_openOf 37 = .ok (.if_icmp .ge 48, 3) := by decide +kernel
theorem dX5_openOf_40 : decode cX5_openOf 40 = .ok (.aload_n 0, 1) := by decide +kernel
theorem dX5_openOf_41 : decode cX5_openOf 41 = .ok (.iload 4, 2) := by decide +kernel
theorem dX5_openOf_43 : decode cX5_openOf 43 = .ok (.aload_n 0, 1) := by decide +kernel
theorem dX5_openOf_44 : decode cX5_openOf 44 = .ok (.getfield 15, 3) := by decide +kernel
theorem dX5_openOf_47 : decode cX5_openOf 47 = .ok (.iload_n 1, 1) := by decide +kernel
theorem dX5_openOf_48 : decode cX5_openOf 48 = .ok (.iaload, 1) := by decide +kernel
theorem dX5_openOf_49 : decode cX5_openOf 49 = .ok (.invokevirtual 65, 3) := by decide +kernel
theorem dX5_openOf_52 : decode cX5_openOf 52 = .ok (.ifCond .eq 27, 3) := by decide +kernel
theorem dX5_openOf_55 : decode cX5_openOf 55 = .ok (.aload_n 0, 1) := by decide +kernel
theorem dX5_openOf_56 : decode cX5_openOf 56 = .ok (.getfield 33, 3) := by decide +kernel
theorem dX5_openOf_59 : decode cX5_openOf 59 = .ok (.iload 4, 2) := by decide +kernel
theorem dX5_openOf_61 : decode cX5_openOf 61 = .ok (.iaload, 1) := by decide +kernel
theorem dX5_openOf_62 : decode cX5_openOf 62 = .ok (.ifCond .le 17, 3) := by decide +kernel
theorem dX5_openOf_65 : decode cX5_openOf 65 = .ok (.iload_n 3, 1) := by decide +kernel
theorem dX5_openOf_66 : decode cX5_openOf 66 = .ok (.iload_n 3, 1) := by decide +kernel
theorem dX5_openOf_67 : decode cX5_openOf 67 = .ok (.aload_n 0, 1) := by decide +kernel
theorem dX5_openOf_68 : decode cX5_openOf 68 = .ok (.getfield 33, 3) := by decide +kernel
theorem dX5_openOf_71 : decode cX5_openOf 71 = .ok (.iload 4, 2) := by decide +kernel
theorem dX5_openOf_73 : decode cX5_openOf 73 = .ok (.iaload, 1) := by decide +kernel
theorem dX5_openOf_74 : decode cX5_openOf 74 = .ok (.invokestatic 46, 3) := by decide +kernel
theorem dX5_openOf_77 : decode cX5_openOf 77 = .ok (.isub, 1) := by decide +kernel
theorem dX5_openOf_78 : decode cX5_openOf 78 = .ok (.istore_n 3, 1) := by decide +kernel
theorem dX5_openOf_79 : decode cX5_openOf 79 = .ok (.iinc 4 1, 3) := by decide +kernel
theorem dX5_openOf_82 : decode cX5_openOf 82 = .ok (.goto (-48), 3) := by decide +kernel
theorem dX5_openOf_85 : decode cX5_openOf 85 = .ok (.aload_n 0, 1) := by decide +kernel
theorem dX5_openOf_86 : decode cX5_openOf 86 = .ok (.getfield 33, 3) := by decide +kernel
theorem dX5_openOf_89 : decode cX5_openOf 89 = .ok (.iload_n 1, 1) := by decide +kernel
theorem dX5_openOf_90 : decode cX5_openOf 90 = .ok (.iaload, 1) := by decide +kernel
theorem dX5_openOf_91 : decode cX5_openOf 91 = .ok (.iload_n 3, 1) := by decide +kernel
theorem dX5_openOf_92 : decode cX5_openOf 92 = .ok (.aload_n 0, 1) := by decide +kernel
theorem dX5_openOf_93 : decode cX5_openOf 93 = .ok (.getfield 33, 3) := by decide +kernel
theorem dX5_openOf_96 : decode cX5_openOf 96 = .ok (.iload_n 1, 1) := by decide +kernel
theorem dX5_openOf_97 : decode cX5_openOf 97 = .ok (.iaload, 1) := by decide +kernel
theorem dX5_openOf_98 : decode cX5_openOf 98 = .ok (.invokestatic 46, 3) := by decide +kernel
theorem dX5_openOf_101 : decode cX5_openOf 101 = .ok (.isub, 1) := by decide +kernel
theorem dX5_openOf_102 : decode cX5_openOf 102 = .ok (.ireturn, 1) := by decide +kernel
theorem dX5_sumLate_0 : decode cX5_sumLate 0 = .ok (.aload_n 0, 1) := by decide +kernel
theorem dX5_sumLate_1 : decode cX5_sumLate 1 = .ok (.iload_n 1, 1) := by decide +kernel
theorem dX5_sumLate_2 : decode cX5_sumLate 2 = .ok (.iload_n 2, 1) := by decide +kernel
theorem dX5_sumLate_3 : decode cX5_sumLate 3 = .ok (.invokevirtual 69, 3) := by decide +kernel
theorem dX5_sumLate_6 : decode cX5_sumLate 6 = .ok (.istore 4, 2) := by decide +kernel
theorem dX5_sumLate_8 : decode cX5_sumLate 8 = .ok (.iconst 0, 1) := by decide +kernel
theorem dX5_sumLate_9 : decode cX5_sumLate 9 = .ok (.istore 5, 2) := by decide +kernel
theorem dX5_sumLate_11 : decode cX5_sumLate 11 = .ok (.iconst 0, 1) := by decide +kernel
theorem dX5_sumLate_12 : decode cX5_sumLate 12 = .ok (.istore 6, 2) := by decide +kernel
theorem dX5_sumLate_14 : decode cX5_sumLate 14 = .ok (.iload 6, 2) := by decide +kernel
theorem dX5_sumLate_16 : decode cX5_sumLate 16 = .ok (.aload_n 0, 1) := by decide +kernel
theorem dX5_sumLate_17 : decode cX5_sumLate 17 = .ok (.getfield 42, 3) := by decide +kernel
theorem dX5_sumLate_20 : decode cX5_sumLate 20 = .ok (.if_icmp .ge 79, 3) := by decide +kernel
theorem dX5_sumLate_23 : decode cX5_sumLate 23 = .ok (.aload_n 0, 1) := by decide +kernel
theorem dX5_sumLate_24 : decode cX5_sumLate 24 = .ok (.iload 6, 2) := by decide +kernel
theorem dX5_sumLate_26 : decode cX5_sumLate 26 = .ok (.iload_n 1, 1) := by decide +kernel
theorem dX5_sumLate_27 : decode cX5_sumLate 27 = .ok (.invokevirtual 65, 3) := by decide +kernel
theorem dX5_sumLate_30 : decode cX5_sumLate 30 = .ok (.ifCond .eq 63, 3) := by decide +kernel
theorem dX5_sumLate_33 : decode cX5_sumLate 33 = .ok (.aload_n 0, 1) := by decide +kernel
theorem dX5_sumLate_34 : decode cX5_sumLate 34 = .ok (.getfield 33, 3) := by decide +kernel
theorem dX5_sumLate_37 : decode cX5_sumLate 37 = .ok (.iload 6, 2) := by decide +kernel
theorem dX5_sumLate_39 : decode cX5_sumLate 39 = .ok (.iaload, 1) := by decide +kernel
theorem dX5_sumLate_40 : decode cX5_sumLate 40 = .ok (.ifCond .le 53, 3) := by decide +kernel
theorem dX5_sumLate_43 : decode cX5_sumLate 43 = .ok (.iload 4, 2) := by decide +kernel
theorem dX5_sumLate_45 : decode cX5_sumLate 45 = .ok (.aload_n 0, 1) := by decide +kernel
theorem dX5_sumLate_46 : decode cX5_sumLate 46 = .ok (.getfield 33, 3) := by decide +kernel
theorem dX5_sumLate_49 : decode cX5_sumLate 49 = .ok (.iload 6, 2) := by decide +kernel
theorem dX5_sumLate_51 : decode cX5_sumLate 51 = .ok (.iaload, 1) := by decide +kernel
theorem dX5_sumLate_52 : decode cX5_sumLate 52 = .ok (.invokestatic 46, 3) := by decide +kernel
theorem dX5_sumLate_55 : decode cX5_sumLate 55 = .ok (.istore 7, 2) := by decide +kernel
theorem dX5_sumLate_57 : decode cX5_sumLate 57 = .ok (.iload 4, 2) := by decide +kernel
theorem dX5_sumLate_59 : decode cX5_sumLate 59 = .ok (.iload 7, 2) := by decide +kernel
theorem dX5_sumLate_61 : decode cX5_sumLate 61 = .ok (.isub, 1) := by decide +kernel
theorem dX5_sumLate_62 : decode cX5_sumLate 62 = .ok (.istore 4, 2) := by decide +kernel
theorem dX5_sumLate_64 : decode cX5_sumLate 64 = .ok (.aload_n 0, 1) := by decide +kernel
theorem dX5_sumLate_65 : decode cX5_sumLate 65 = .ok (.getfield 18, 3) := by decide +kernel
theorem dX5_sumLate_68 : decode cX5_sumLate 68 = .ok (.iload 6, 2) := by decide +kernel
theorem dX5_sumLate_70 : decode cX5_sumLate 70 = .ok (.iaload, 1) := by decide +kernel
theorem dX5_sumLate_71 : decode cX5_sumLate 71 = .ok (.bipush 14, 2) := by decide +kernel
theorem dX5_sumLate_73 : decode cX5_sumLate 73 = .ok (.iadd, 1) := by decide +kernel
theorem dX5_sumLate_74 : decode cX5_sumLate 74 = .ok (.iload_n 3, 1) := by decide +kernel
theorem dX5_sumLate_75 : decode cX5_sumLate 75 = .ok (.if_icmp .ge 18, 3) := by decide +kernel
theorem dX5_sumLate_78 : decode cX5_sumLate 78 = .ok (.iload 5, 2) := by decide +kernel
theorem dX5_sumLate_80 : decode cX5_sumLate 80 = .ok (.aload_n 0, 1) := by decide +kernel
theorem dX5_sumLate_81 : decode cX5_sumLate 81 = .ok (.getfield 33, 3) := by decide +kernel
theorem dX5_sumLate_84 : decode cX5_sumLate 84 = .ok (.iload 6, 2) := by decide +kernel
theorem dX5_sumLate_86 : decode cX5_sumLate 86 = .ok (.iaload, 1) := by decide +kernel
theorem dX5_sumLate_87 : decode cX5_sumLate 87 = .ok (.iload 7, 2) := by decide +kernel
theorem dX5_sumLate_89 : decode cX5_sumLate 89 = .ok (.isub, 1) := by decide +kernel
theorem dX5_sumLate_90 : decode cX5_sumLate 90 = .ok (.iadd, 1) := by decide +kernel
theorem dX5_sumLate_91 : decode cX5_sumLate 91 = .ok (.istore 5, 2) := by decide +kernel
theorem dX5_sumLate_93 : decode cX5_sumLate 93 = .ok (.iinc 6 1, 3) := by decide +kernel
theorem dX5_sumLate_96 : decode cX5_sumLate 96 = .ok (.goto (-82), 3) := by decide +kernel
theorem dX5_sumLate_99 : decode cX5_sumLate 99 = .ok (.iload 5, 2) := by decide +kernel
theorem dX5_sumLate_101 : decode cX5_sumLate 101 = .ok (.ireturn, 1) := by decide +kernel
theorem dX5_tellOpen_0 : decode cX5_tellOpen 0 = .ok (.aload_n 0, 1) := by decide +kernel
theorem dX5_tellOpen_1 : decode cX5_tellOpen 1 = .ok (.iload_n 1, 1) := by decide +kernel
theorem dX5_tellOpen_2 : decode cX5_tellOpen 2 = .ok (.iload_n 2, 1) := by decide +kernel
theorem dX5_tellOpen_3 : decode cX5_tellOpen 3 = .ok (.invokevirtual 69, 3) := by decide +kernel
theorem dX5_tellOpen_6 : decode cX5_tellOpen 6 = .ok (.istore 4, 2) := by decide +kernel
theorem dX5_tellOpen_8 : decode cX5_tellOpen 8 = .ok (.iconst 0, 1) := by decide +kernel
theorem dX5_tellOpen_9 : decode cX5_tellOpen 9 = .ok (.istore 5, 2) := by decide +kernel
theorem dX5_tellOpen_11 : decode cX5_tellOpen 11 = .ok (.bipush (-2), 2) := by decide +kernel
theorem dX5_tellOpen_13 : decode cX5_tellOpen 13 = .ok (.istore 6, 2) := by decide +kernel
theorem dX5_tellOpen_15 : decode cX5_tellOpen 15 = .ok (.iconst 0, 1) := by decide +kernel
theorem dX5_tellOpen_16 : decode cX5_tellOpen 16 = .ok (.istore 7, 2) := by decide +kernel
theorem dX5_tellOpen_18 : decode cX5_tellOpen 18 = .ok (.iconst 0, 1) := by decide +kernel
theorem dX5_tellOpen_19 : decode cX5_tellOpen 19 = .ok (.istore 8, 2) := by decide +kernel
theorem dX5_tellOpen_21 : decode cX5_tellOpen 21 = .ok (.iload 8, 2) := by decide +kernel
theorem dX5_tellOpen_23 : decode cX5_tellOpen 23 = .ok (.aload_n 0, 1) := by decide +kernel
theorem dX5_tellOpen_24 : decode cX5_tellOpen 24 = .ok (.getfield 42, 3) := by decide +kernel
theorem dX5_tellOpen_27 : decode cX5_tellOpen 27 = .ok (.if_icmp .ge 94, 3) := by decide +kernel
theorem dX5_tellOpen_30 : decode cX5_tellOpen 30 = .ok (.aload_n 0, 1) := by decide +kernel
theorem dX5_tellOpen_31 : decode cX5_tellOpen 31 = .ok (.iload 8, 2) := by decide +kernel
theorem dX5_tellOpen_33 : decode cX5_tellOpen 33 = .ok (.iload_n 1, 1) := by decide +kernel
theorem dX5_tellOpen_34 : decode cX5_tellOpen 34 = .ok (.invokevirtual 65, 3) := by decide +kernel
theorem dX5_tellOpen_37 : decode cX5_tellOpen 37 = .ok (.ifCond .eq 78, 3) := by decide +kernel
theorem dX5_tellOpen_40 : decode cX5_tellOpen 40 = .ok (.aload_n 0, 1) := by decide +kernel
theorem dX5_tellOpen_41 : decode cX5_tellOpen 41 = .ok (.getfield 33, 3) := by decide +kernel
theorem dX5_tellOpen_44 : decode cX5_tellOpen 44 = .ok (.iload 8, 2) := by decide +kernel
theorem dX5_tellOpen_46 : decode cX5_tellOpen 46 = .ok (.iaload, 1) := by decide +kernel
theorem dX5_tellOpen_47 : decode cX5_tellOpen 47 = .ok (.ifCond .le 68, 3) := by decide +kernel
theorem dX5_tellOpen_50 : decode cX5_tellOpen 50 = .ok (.iload 4, 2) := by decide +kernel
theorem dX5_tellOpen_52 : decode cX5_tellOpen 52 = .ok (.aload_n 0, 1) := by decide +kernel
theorem dX5_tellOpen_53 : decode cX5_tellOpen 53 = .ok (.getfield 33, 3) := by decide +kernel
theorem dX5_tellOpen_56 : decode cX5_tellOpen 56 = .ok (.iload 8, 2) := by decide +kernel
theorem dX5_tellOpen_58 : decode cX5_tellOpen 58 = .ok (.iaload, 1) := by decide +kernel
theorem dX5_tellOpen_59 : decode cX5_tellOpen 59 = .ok (.invokestatic 46, 3) := by decide +kernel
theorem dX5_tellOpen_62 : decode cX5_tellOpen 62 = .ok (.istore 9, 2) := by decide +kernel
theorem dX5_tellOpen_64 : decode cX5_tellOpen 64 = .ok (.iload 4, 2) := by decide +kernel
theorem dX5_tellOpen_66 : decode cX5_tellOpen 66 = .ok (.iload 9, 2) := by decide +kernel
theorem dX5_tellOpen_68 : decode cX5_tellOpen 68 = .ok (.isub, 1) := by decide +kernel
theorem dX5_tellOpen_69 : decode cX5_tellOpen 69 = .ok (.istore 4, 2) := by decide +kernel
theorem dX5_tellOpen_71 : decode cX5_tellOpen 71 = .ok (.iload 9, 2) := by decide +kernel
theorem dX5_tellOpen_73 : decode cX5_tellOpen 73 = .ok (.aload_n 0, 1) := by decide +kernel
theorem dX5_tellOpen_74 : decode cX5_tellOpen 74 = .ok (.getfield 33, 3) := by decide +kernel
theorem dX5_tellOpen_77 : decode cX5_tellOpen 77 = .ok (.iload 8, 2) := by decide +kernel
theorem dX5_tellOpen_79 : decode cX5_tellOpen 79 = .ok (.iaload, 1) := by decide +kernel
theorem dX5_tellOpen_80 : decode cX5_tellOpen 80 = .ok (.if_icmp .ge 35, 3) := by decide +kernel
theorem dX5_tellOpen_83 : decode cX5_tellOpen 83 = .ok (.iload 5, 2) := by decide +kernel
theorem dX5_tellOpen_85 : decode cX5_tellOpen 85 = .ok (.ifCond .ne 8, 3) := by decide +kernel
theorem dX5_tellOpen_88 : decode cX5_tellOpen 88 = .ok (.iload 8, 2) := by decide +kernel
theorem dX5_tellOpen_90 : decode cX5_tellOpen 90 = .ok (.goto 5, 3) := by decide +kernel
theorem dX5_tellOpen_93 : decode cX5_tellOpen 93 = .ok (.iload 6, 2) := by decide +kernel
theorem dX5_tellOpen_95 : decode cX5_tellOpen 95 = .ok (.istore 6, 2) := by decide +kernel
theorem dX5_tellOpen_97 : decode cX5_tellOpen 97 = .ok (.iinc 5 1, 3) := by decide +kernel
theorem dX5_tellOpen_100 : decode cX5_tellOpen 100 = .ok (.iload 7, 2) := by decide +kernel
theorem dX5_tellOpen_102 : decode cX5_tellOpen 102 = .ok (.aload_n 0, 1) := by decide +kernel
theorem dX5_tellOpen_103 : decode cX5_tellOpen 103 = .ok (.getfield 33, 3) := by decide +kernel
theorem dX5_tellOpen_106 : decode cX5_tellOpen 106 = .ok (.iload 8, 2) := by decide +kernel
theorem dX5_tellOpen_108 : decode cX5_tellOpen 108 = .ok (.iaload, 1) := by decide +kernel
theorem dX5_tellOpen_109 : decode cX5_tellOpen 109 = .ok (.iload 9, 2) := by decide +kernel
theorem dX5_tellOpen_111 : decode cX5_tellOpen 111 = .ok (.isub, 1) := by decide +kernel
theorem dX5_tellOpen_112 : decode cX5_tellOpen 112 = .ok (.iadd, 1) := by decide +kernel
theorem dX5_tellOpen_113 : decode cX5_tellOpen 113 = .ok (.istore 7, 2) := by decide +kernel
theorem dX5_tellOpen_115 : decode cX5_tellOpen 115 = .ok (.iinc 8 1, 3) := by decide +kernel
theorem dX5_tellOpen_118 : decode cX5_tellOpen 118 = .ok (.goto (-97), 3) := by decide +kernel
theorem dX5_tellOpen_121 : decode cX5_tellOpen 121 = .ok (.iload_n 3, 1) := by decide +kernel
theorem dX5_tellOpen_122 : decode cX5_tellOpen 122 = .ok (.tableswitch 35 0 2 #[26, 29, 32], 26) := by decide +kernel
theorem dX5_tellOpen_148 : decode cX5_tellOpen 148 = .ok (.iload 5, 2) := by decide +kernel
theorem dX5_tellOpen_150 : decode cX5_tellOpen 150 = .ok (.ireturn, 1) := by decide +kernel
theorem dX5_tellOpen_151 : decode cX5_tellOpen 151 = .ok (.iload 6, 2) := by decide +kernel
theorem dX5_tellOpen_153 : decode cX5_tellOpen 153 = .ok (.ireturn, 1) := by decide +kernel
theorem dX5_tellOpen_154 : decode cX5_tellOpen 154 = .ok (.iload 7, 2) := by decide +kernel
theorem dX5_tellOpen_156 : decode cX5_tellOpen 156 = .ok (.ireturn, 1) := by decide +kernel
theorem dX5_tellOpen_157 : decode cX5_tellOpen 157 = .ok (.iload 4, 2) := by decide +kernel
theorem dX5_tellOpen_159 : decode cX5_tellOpen 159 = .ok (.ireturn, 1) := by decide +kernel
theorem dX5_sumEarned_0 : decode cX5_sumEarned 0 = .ok (.iconst 0, 1) := by decide +kernel
theorem dX5_sumEarned_1 : decode cX5_sumEarned 1 = .ok (.istore_n 3, 1) := by decide +kernel
theorem dX5_sumEarned_2 : decode cX5_sumEarned 2 = .ok (.iconst 0, 1) := by decide +kernel
theorem dX5_sumEarned_3 : decode cX5_sumEarned 3 = .ok (.istore 4, 2) := by decide +kernel
theorem dX5_sumEarned_5 : decode cX5_sumEarned 5 = .ok (.iload 4, 2) := by decide +kernel
theorem dX5_sumEarned_7 : decode cX5_sumEarned 7 = .ok (.aload_n 0, 1) := by decide +kernel
theorem dX5_sumEarned_8 : decode cX5_sumEarned 8 = .ok (.getfield 42, 3) := by decide +kernel
theorem dX5_sumEarned_11 : decode cX5_sumEarned 11 = .ok (.if_icmp .ge 29, 3) := by decide +kernel
theorem dX5_sumEarned_14 : decode cX5_sumEarned 14 = .ok (.aload_n 0, 1) := by decide +kernel
theorem dX5_sumEarned_15 : decode cX5_sumEarned 15 = .ok (.iload 4, 2) := by decide +kernel
theorem dX5_sumEarned_17 : decode cX5_sumEarned 17 = .ok (.iload_n 1, 1) := by decide +kernel
theorem dX5_sumEarned_18 : decode cX5_sumEarned 18 = .ok (.invokevirtual 65, 3) := by decide +kernel
theorem dX5_sumEarned_21 : decode cX5_sumEarned 21 = .ok (.ifCond .eq 13, 3) := by decide +kernel
theorem dX5_sumEarned_24 : decode cX5_sumEarned 24 = .ok (.iload_n 3, 1) := by decide +kernel
theorem dX5_sumEarned_25 : decode cX5_sumEarned 25 = .ok (.aload_n 0, 1) := by decide +kernel
theorem dX5_sumEarned_26 : decode cX5_sumEarned 26 = .ok (.iload 4, 2) := by decide +kernel
theorem dX5_sumEarned_28 : decode cX5_sumEarned 28 = .ok (.iload_n 2, 1) := by decide +kernel
theorem dX5_sumEarned_29 : decode cX5_sumEarned 29 = .ok (.invokevirtual 72, 3) := by decide +kernel
theorem dX5_sumEarned_32 : decode cX5_sumEarned 32 = .ok (.iadd, 1) := by decide +kernel
theorem dX5_sumEarned_33 : decode cX5_sumEarned 33 = .ok (.istore_n 3, 1) := by decide +kernel
theorem dX5_sumEarned_34 : decode cX5_sumEarned 34 = .ok (.iinc 4 1, 3) := by decide +kernel
theorem dX5_sumEarned_37 : decode cX5_sumEarned 37 = .ok (.goto (-32), 3) := by decide +kernel
theorem dX5_sumEarned_40 : decode cX5_sumEarned 40 = .ok (.iload_n 3, 1) := by decide +kernel
theorem dX5_sumEarned_41 : decode cX5_sumEarned 41 = .ok (.ireturn, 1) := by decide +kernel
theorem dX5_earnedOf_0 : decode cX5_earnedOf 0 = .ok (.aload_n 0, 1) := by decide +kernel
theorem dX5_earnedOf_1 : decode cX5_earnedOf 1 = .ok (.iload_n 1, 1) := by decide +kernel
theorem dX5_earnedOf_2 : decode cX5_earnedOf 2 = .ok (.invokevirtual 61, 3) := by decide +kernel
theorem dX5_earnedOf_5 : decode cX5_earnedOf 5 = .ok (.ifCond .ne 5, 3) := by decide +kernel
theorem dX5_earnedOf_8 : decode cX5_earnedOf 8 = .ok (.iconst 0, 1) := by decide +kernel
theorem dX5_earnedOf_9 : decode cX5_earnedOf 9 = .ok (.ireturn, 1) := by decide +kernel
theorem dX5_earnedOf_10 : decode cX5_earnedOf 10 = .ok (.aload_n 0, 1) := by decide +kernel
theorem dX5_earnedOf_11 : decode cX5_earnedOf 11 = .ok (.getfield 27, 3) := by decide +kernel
theorem dX5_earnedOf_14 : decode cX5_earnedOf 14 = .ok (.iload_n 1, 1) := by decide +kernel
theorem dX5_earnedOf_15 : decode cX5_earnedOf 15 = .ok (.iaload, 1) := by decide +kernel
theorem dX5_earnedOf_16 : decode cX5_earnedOf 16 = .ok (.aload_n 0, 1) := by decide +kernel
theorem dX5_earnedOf_17 : decode cX5_earnedOf 17 = .ok (.getfield 24, 3) := by decide +kernel
theorem dX5_earnedOf_20 : decode cX5_earnedOf 20 = .ok (.iload_n 1, 1) := by decide +kernel
theorem dX5_earnedOf_21 : decode cX5_earnedOf 21 = .ok (.iaload, 1) := by decide +kernel
theorem dX5_earnedOf_22 : decode cX5_earnedOf 22 = .ok (.isub, 1) := by decide +kernel
theorem dX5_earnedOf_23 : decode cX5_earnedOf 23 = .ok (.istore_n 3, 1) := by decide +kernel
theorem dX5_earnedOf_24 : decode cX5_earnedOf 24 = .ok (.aload_n 0, 1) := by decide +kernel
theorem dX5_earnedOf_25 : decode cX5_earnedOf 25 = .ok (.getfield 9, 3) := by decide +kernel
theorem dX5_earnedOf_28 : decode cX5_earnedOf 28 = .ok (.iload_n 1, 1) := by decide +kernel
theorem dX5_earnedOf_29 : decode cX5_earnedOf 29 = .ok (.iaload, 1) := by decide +kernel
theorem dX5_earnedOf_30 : decode cX5_earnedOf 30 = .ok (.iconst 1, 1) := by decide +kernel
theorem dX5_earnedOf_31 : decode cX5_earnedOf 31 = .ok (.if_icmp .gt 8, 3) := by decide +kernel
theorem dX5_earnedOf_34 : decode cX5_earnedOf 34 = .ok (.iload_n 3, 1) := by decide +kernel
theorem dX5_earnedOf_35 : decode cX5_earnedOf 35 = .ok (.iconst 1, 1) := by decide +kernel
theorem dX5_earnedOf_36 : decode cX5_earnedOf 36 = .ok (.if_icmp .ge 24, 3) := by decide +kernel
theorem dX5_earnedOf_39 : decode cX5_earnedOf 39 = .ok (.aload_n 0, 1) := by decide +kernel
theorem dX5_earnedOf_40 : decode cX5_earnedOf 40 = .ok (.getfield 18, 3) := by decide +kernel
theorem dX5_earnedOf_43 : decode cX5_earnedOf 43 = .ok (.iload_n 1, 1) := by decide +kernel
theorem dX5_earnedOf_44 : decode cX5_earnedOf 44 = .ok (.iaload, 1) := by decide +kernel
theorem dX5_earnedOf_45 : decode cX5_earnedOf 45 = .ok (.iload_n 2, 1) := by decide +kernel
theorem dX5_earnedOf_46 : decode cX5_earnedOf 46 = .ok (.if_icmp .ge 12, 3) := by decide +kernel
theorem dX5_earnedOf_49 : decode cX5_earnedOf 49 = .ok (.aload_n 0, 1) := by decide +kernel
theorem dX5_earnedOf_50 : decode cX5_earnedOf 50 = .ok (.getfield 33, 3) := by decide +kernel
theorem dX5_earnedOf_53 : decode cX5_earnedOf 53 = .ok (.iload_n 1, 1) := by decide +kernel
theorem dX5_earnedOf_54 : decode cX5_earnedOf 54 = .ok (.iaload, 1) := by decide +kernel
theorem dX5_earnedOf_55 : decode cX5_earnedOf 55 = .ok (.goto 4, 3) := by decide +kernel
theorem dX5_earnedOf_58 : decode cX5_earnedOf 58 = .ok (.iconst 0, 1) := by decide +kernel
theorem dX5_earnedOf_59 : decode cX5_earnedOf 59 = .ok (.ireturn, 1) := by decide +kernel
theorem dX5_earnedOf_60 : decode cX5_earnedOf 60 = .ok (.iconst 0, 1) := by decide +kernel
theorem dX5_earnedOf_61 : decode cX5_earnedOf 61 = .ok (.iload_n 3, 1) := by decide +kernel
theorem dX5_earnedOf_62 : decode cX5_earnedOf 62 = .ok (.iload_n 2, 1) := by decide +kernel
theorem dX5_earnedOf_63 : decode cX5_earnedOf 63 = .ok (.aload_n 0, 1) := by decide +kernel
theorem dX5_earnedOf_64 : decode cX5_earnedOf 64 = .ok (.getfield 24, 3) := by decide +kernel
theorem dX5_earnedOf_67 : decode cX5_earnedOf 67 = .ok (.iload_n 1, 1) := by decide +kernel
theorem dX5_earnedOf_68 : decode cX5_earnedOf 68 = .ok (.iaload, 1) := by decide +kernel
theorem dX5_earnedOf_69 : decode cX5_earnedOf 69 = .ok (.isub, 1) := by decide +kernel
theorem dX5_earnedOf_70 : decode cX5_earnedOf 70 = .ok (.invokestatic 46, 3) := by decide +kernel
theorem dX5_earnedOf_73 : decode cX5_earnedOf 73 = .ok (.invokestatic 52, 3) := by decide +kernel
theorem dX5_earnedOf_76 : decode cX5_earnedOf 76 = .ok (.istore 4, 2) := by decide +kernel
theorem dX5_earnedOf_78 : decode cX5_earnedOf 78 = .ok (.aload_n 0, 1) := by decide +kernel
theorem dX5_earnedOf_79 : decode cX5_earnedOf 79 = .ok (.getfield 33, 3) := by decide +kernel
theorem dX5_earnedOf_82 : decode cX5_earnedOf 82 = .ok (.iload_n 1, 1) := by decide +kernel
theorem dX5_earnedOf_83 : decode cX5_earnedOf 83 = .ok (.iaload, 1) := by decide +kernel
theorem dX5_earnedOf_84 : decode cX5_earnedOf 84 = .ok (.iload 4, 2) := by decide +kernel
theorem dX5_earnedOf_86 : decode cX5_earnedOf 86 = .ok (.imul, 1) := by decide +kernel
theorem dX5_earnedOf_87 : decode cX5_earnedOf 87 = .ok (.iload_n 3, 1) := by decide +kernel
theorem dX5_earnedOf_88 : decode cX5_earnedOf 88 = .ok (.idiv, 1) := by decide +kernel
theorem dX5_earnedOf_89 : decode cX5_earnedOf 89 = .ok (.ireturn, 1) := by decide +kernel
theorem dX5_tell_0 : decode cX5_tell 0 = .ok (.aload_n 0, 1) := by decide +kernel
theorem dX5_tell_1 : decode cX5_tell 1 = .ok (.iload_n 1, 1) := by decide +kernel
theorem dX5_tell_2 : decode cX5_tell 2 = .ok (.invokevirtual 61, 3) := by decide +kernel
theorem dX5_tell_5 : decode cX5_tell 5 = .ok (.ifCond .ne 6, 3) := by decide +kernel
theorem dX5_tell_8 : decode cX5_tell 8 = .ok (.ldc 75, 2) := by decide +kernel
theorem dX5_tell_10 : decode cX5_tell 10 = .ok (.ireturn, 1) := by decide +kernel
theorem dX5_tell_11 : decode cX5_tell 11 = .ok (.iload_n 2, 1) := by decide +kernel
theorem dX5_tell_12 : decode cX5_tell 12 = .ok (.tableswitch 126 0 9 #[56, 63, 70, 77, 84, 91, 98, 105, 112, 119], 56) := by decide +kernel
theorem dX5_tell_68 : decode cX5_tell 68 = .ok (.aload_n 0, 1) := by decide +kernel
theorem dX5_tell_69 : decode cX5_tell 69 = .ok (.getfield 9, 3) := by decide +kernel
theorem dX5_tell_72 : decode cX5_tell 72 = .ok (.iload_n 1, 1) := by decide +kernel
theorem dX5_tell_73 : decode cX5_tell 73 = .ok (.iaload, 1) := by decide +kernel
theorem dX5_tell_74 : decode cX5_tell 74 = .ok (.ireturn, 1) := by decide +kernel
theorem dX5_tell_75 : decode cX5_tell 75 = .ok (.aload_n 0, 1) := by decide +kernel
theorem dX5_tell_76 : decode cX5_tell 76 = .ok (.getfield 15, 3) := by decide +kernel
theorem dX5_tell_79 : decode cX5_tell 79 = .ok (.iload_n 1, 1) := by decide +kernel
theorem dX5_tell_80 : decode cX5_tell 80 = .ok (.iaload, 1) := by decide +kernel
theorem dX5_tell_81 : decode cX5_tell 81 = .ok (.ireturn, 1) := by decide +kernel
theorem dX5_tell_82 : decode cX5_tell 82 = .ok (.aload_n 0, 1) := by decide +kernel
theorem dX5_tell_83 : decode cX5_tell 83 = .ok (.getfield 18, 3) := by decide +kernel
theorem dX5_tell_86 : decode cX5_tell 86 = .ok (.iload_n 1, 1) := by decide +kernel
theorem dX5_tell_87 : decode cX5_tell 87 = .ok (.iaload, 1) := by decide +kernel
theorem dX5_tell_88 : decode cX5_tell 88 = .ok (.ireturn, 1) := by decide +kernel
theorem dX5_tell_89 : decode cX5_tell 89 = .ok (.aload_n 0, 1) := by decide +kernel
theorem dX5_tell_90 : decode cX5_tell 90 = .ok (.getfield 21, 3) := by decide +kernel
theorem dX5_tell_93 : decode cX5_tell 93 = .ok (.iload_n 1, 1) := by decide +kernel
theorem dX5_tell_94 : decode cX5_tell 94 = .ok (.iaload, 1) := by decide +kernel
theorem dX5_tell_95 : decode cX5_tell 95 = .ok (.ireturn, 1) := by decide +kernel
theorem dX5_tell_96 : decode cX5_tell 96 = .ok (.aload_n 0, 1) := by decide +kernel
theorem dX5_tell_97 : decode cX5_tell 97 = .ok (.getfield 24, 3) := by decide +kernel
theorem dX5_tell_100 : decode cX5_tell 100 = .ok (.iload_n 1, 1) := by decide +kernel
theorem dX5_tell_101 : decode cX5_tell 101 = .ok (.iaload, 1) := by decide +kernel
theorem dX5_tell_102 : decode cX5_tell 102 = .ok (.ireturn, 1) := by decide +kernel
theorem dX5_tell_103 : decode cX5_tell 103 = .ok (.aload_n 0, 1) := by decide +kernel
theorem dX5_tell_104 : decode cX5_tell 104 = .ok (.getfield 27, 3) := by decide +kernel
theorem dX5_tell_107 : decode cX5_tell 107 = .ok (.iload_n 1, 1) := by decide +kernel
theorem dX5_tell_108 : decode cX5_tell 108 = .ok (.iaload, 1) := by decide +kernel
theorem dX5_tell_109 : decode cX5_tell 109 = .ok (.ireturn, 1) := by decide +kernel
theorem dX5_tell_110 : decode cX5_tell 110 = .ok (.aload_n 0, 1) := by decide +kernel
theorem dX5_tell_111 : decode cX5_tell 111 = .ok (.getfield 30, 3) := by decide +kernel
theorem dX5_tell_114 : decode cX5_tell 114 = .ok (.iload_n 1, 1) := by decide +kernel
theorem dX5_tell_115 : decode cX5_tell 115 = .ok (.iaload, 1) := by decide +kernel
theorem dX5_tell_116 : decode cX5_tell 116 = .ok (.ireturn, 1) := by decide +kernel
theorem dX5_tell_117 : decode cX5_tell 117 = .ok (.aload_n 0, 1) := by decide +kernel
theorem dX5_tell_118 : decode cX5_tell 118 = .ok (.getfield 33, 3) := by decide +kernel
theorem dX5_tell_121 : decode cX5_tell 121 = .ok (.iload_n 1, 1) := by decide +kernel
theorem dX5_tell_122 : decode cX5_tell 122 = .ok (.iaload, 1) := by decide +kernel
theorem dX5_tell_123 : decode cX5_tell 123 = .ok (.ireturn, 1) := by decide +kernel
theorem dX5_tell_124 : decode cX5_tell 124 = .ok (.aload_n 0, 1) := by decide +kernel
theorem dX5_tell_125 : decode cX5_tell 125 = .ok (.getfield 36, 3) := by decide +kernel
theorem dX5_tell_128 : decode cX5_tell 128 = .ok (.iload_n 1, 1) := by decide +kernel
theorem dX5_tell_129 : decode cX5_tell 129 = .ok (.iaload, 1) := by decide +kernel
theorem dX5_tell_130 : decode cX5_tell 130 = .ok (.ireturn, 1) := by decide +kernel
theorem dX5_tell_131 : decode cX5_tell 131 = .ok (.aload_n 0, 1) := by decide +kernel
theorem dX5_tell_132 : decode cX5_tell 132 = .ok (.getfield 39, 3) := by decide +kernel
theorem dX5_tell_135 : decode cX5_tell 135 = .ok (.iload_n 1, 1) := by decide +kernel
theorem dX5_tell_136 : decode cX5_tell 136 = .ok (.iaload, 1) := by decide +kernel
theorem dX5_tell_137 : decode cX5_tell 137 = .ok (.ireturn, 1) := by decide +kernel
theorem dX5_tell_138 : decode cX5_tell 138 = .ok (.ldc 75, 2) := by decide +kernel
theorem dX5_tell_140 : decode cX5_tell 140 = .ok (.ireturn, 1) := by decide +kernel
theorem dX6_init_0 : decode cX6_init 0 = .ok (.aload_n 0, 1) := by decide +kernel
theorem dX6_init_1 : decode cX6_init 1 = .ok (.invokespecial 1, 3) := by decide +kernel
theorem dX6_init_4 : decode cX6_init 4 = .ok (.aload_n 0, 1) := by decide +kernel
theorem dX6_init_5 : decode cX6_init 5 = .ok (.bipush 80, 2) := by decide +kernel
theorem dX6_init_7 : decode cX6_init 7 = .ok (.newarray .byte, 2) := by decide +kernel
theorem dX6_init_9 : decode cX6_init 9 = .ok (.putfield 9, 3) := by decide +kernel
theorem dX6_init_12 : decode cX6_init 12 = .ok (.aload_n 0, 1) := by decide +kernel
theorem dX6_init_13 : decode cX6_init 13 = .ok (.aload_n 1, 1) := by decide +kernel
theorem dX6_init_14 : decode cX6_init 14 = .ok (.putfield 13, 3) := by decide +kernel
theorem dX6_init_17 : decode cX6_init 17 = .ok (.return_, 1) := by decide +kernel
theorem dX6_byteAt_0 : decode cX6_byteAt 0 = .ok (.iload_n 1, 1) := by decide +kernel
theorem dX6_byteAt_1 : decode cX6_byteAt 1 = .ok (.ifCond .lt 30, 3) := by decide +kernel
theorem dX6_byteAt_4 : decode cX6_byteAt 4 = .ok (.iload_n 1, 1) := by decide +kernel
theorem dX6_byteAt_5 : decode cX6_byteAt 5 = .ok (.aload_n 0, 1) := by decide +kernel
theorem dX6_byteAt_6 : decode cX6_byteAt 6 = .ok (.getfield 17, 3) := by decide +kernel
theorem dX6_byteAt_9 : decode cX6_byteAt 9 = .ok (.if_icmp .ge 22, 3) := by decide +kernel
theorem dX6_byteAt_12 : decode cX6_byteAt 12 = .ok (.iload_n 1, 1) := by decide +kernel
theorem dX6_byteAt_13 : decode cX6_byteAt 13 = .ok (.bipush 80, 2) := by decide +kernel
theorem dX6_byteAt_15 : decode cX6_byteAt 15 = .ok (.if_icmp .ge 16, 3) := by decide +kernel
theorem dX6_byteAt_18 : decode cX6_byteAt 18 = .ok (.aload_n 0, 1) := by decide +kernel
theorem dX6_byteAt_19 : decode cX6_byteAt 19 = .ok (.getfield 9, 3) := by decide +kernel
theorem dX6_byteAt_22 : decode cX6_byteAt 22 = .ok (.iload_n 1, 1) := by decide +kernel
theorem dX6_byteAt_23 : decode cX6_byteAt 23 = .ok (.baload, 1) := by decide +kernel
theorem dX6_byteAt_24 : decode cX6_byteAt 24 = .ok (.sipush 255, 3) := by decide +kernel
theorem dX6_byteAt_27 : decode cX6_byteAt 27 = .ok (.iand, 1) := by decide +kernel
theorem dX6_byteAt_28 : decode cX6_byteAt 28 = .ok (.goto 5, 3) := by decide +kernel
theorem dX6_byteAt_31 : decode cX6_byteAt 31 = .ok (.bipush (-4), 2) := by decide +kernel
theorem dX6_byteAt_33 : decode cX6_byteAt 33 = .ok (.ireturn, 1) := by decide +kernel
theorem dX6_write_0 : decode cX6_write 0 = .ok (.aload_n 0, 1) := by decide +kernel
theorem dX6_write_1 : decode cX6_write 1 = .ok (.iconst 0, 1) := by decide +kernel
theorem dX6_write_2 : decode cX6_write 2 = .ok (.putfield 17, 3) := by decide +kernel
theorem dX6_write_5 : decode cX6_write 5 = .ok (.aload_n 1, 1) := by decide +kernel
theorem dX6_write_6 : decode cX6_write 6 = .ok (.iload_n 2, 1) := by decide +kernel
theorem dX6_write_7 : decode cX6_write 7 = .ok (.invokevirtual 21, 3) := by decide +kernel
theorem dX6_write_10 : decode cX6_write 10 = .ok (.ifCond .ne 4, 3) := by decide +kernel
theorem dX6_write_13 : decode cX6_write 13 = .ok (.return_, 1) := by decide +kernel
theorem dX6_write_14 : decode cX6_write 14 = .ok (.aload_n 0, 1) := by decide +kernel
theorem dX6_write_15 : decode cX6_write 15 = .ok (.bipush 80, 2) := by decide +kernel
theorem dX6_write_17 : decode cX6_write 17 = .ok (.invokevirtual 27, 3) := by decide +kernel
theorem dX6_write_20 : decode cX6_write 20 = .ok (.aload_n 0, 1) := by decide +kernel
theorem dX6_write_21 : decode cX6_write 21 = .ok (.aload_n 1, 1) := by decide +kernel
theorem dX6_write_22 : decode cX6_write 22 = .ok (.getfield 31, 3) := by decide +kernel
theorem dX6_write_25 : decode cX6_write 25 = .ok (.iload_n 2, 1) := by decide +kernel
theorem dX6_write_26 : decode cX6_write 26 = .ok (.iaload, 1) := by decide +kernel
theorem dX6_write_27 : decode cX6_write 27 = .ok (.iconst 1, 1) := by decide +kernel
theorem dX6_write_28 : decode cX6_write 28 = .ok (.invokevirtual 35, 3) := by decide +kernel
theorem dX6_write_31 : decode cX6_write 31 = .ok (.aload_n 0, 1) := by decide +kernel
theorem dX6_write_32 : decode cX6_write 32 = .ok (.bipush 32, 2) := by decide +kernel
theorem dX6_write_34 : decode cX6_write 34 = .ok (.invokevirtual 27, 3) := by decide +kernel
theorem dX6_write_37 : decode cX6_write 37 = .ok (.aload_n 0, 1) := by decide +kernel
theorem dX6_write_38 : decode cX6_write 38 = .ok (.aload_n 1, 1) := by decide +kernel
theorem dX6_write_39 : decode cX6_write 39 = .ok (.getfield 39, 3) := by decide +kernel
theorem dX6_write_42 : decode cX6_write 42 = .ok (.iload_n 2, 1) := by decide +kernel
theorem dX6_write_43 : decode cX6_write 43 = .ok (.iaload, 1) := by decide +kernel
theorem dX6_write_44 : decode cX6_write 44 = .ok (.invokevirtual 42, 3) := by decide +kernel
theorem dX6_write_47 : decode cX6_write 47 = .ok (.aload_n 0, 1) := by decide +kernel
theorem dX6_write_48 : decode cX6_write 48 = .ok (.bipush 32, 2) := by decide +kernel
theorem dX6_write_50 : decode cX6_write 50 = .ok (.invokevirtual 27, 3) := by decide +kernel
theorem dX6_write_53 : decode cX6_write 53 = .ok (.aload_n 0, 1) := by decide +kernel
theorem dX6_write_54 : decode cX6_write 54 = .ok (.bipush 116, 2) := by decide +kernel
theorem dX6_write_56 : decode cX6_write 56 = .ok (.invokevirtual 27, 3) := by decide +kernel
theorem dX6_write_59 : decode cX6_write 59 = .ok (.aload_n 0, 1) := by decide +kernel
theorem dX6_write_60 : decode cX6_write 60 = .ok (.bipush 111, 2) := by decide +kernel
theorem dX6_write_62 : decode cX6_write 62 = .ok (.invokevirtual 27, 3) := by decide +kernel
theorem dX6_write_65 : decode cX6_write 65 = .ok (.aload_n 0, 1) := by decide +kernel
theorem dX6_write_66 : decode cX6_write 66 = .ok (.bipush 32, 2) := by decide +kernel
theorem dX6_write_68 : decode cX6_write 68 = .ok (.invokevirtual 27, 3) := by decide +kernel
theorem dX6_write_71 : decode cX6_write 71 = .ok (.aload_n 0, 1) := by decide +kernel
theorem dX6_write_72 : decode cX6_write 72 = .ok (.aload_n 1, 1) := by decide +kernel
theorem dX6_write_73 : decode cX6_write 73 = .ok (.getfield 45, 3) := by decide +kernel
theorem dX6_write_76 : decode cX6_write 76 = .ok (.iload_n 2, 1) := by decide +kernel
theorem dX6_write_77 : decode cX6_write 77 = .ok (.iaload, 1) := by decide +kernel
theorem dX6_write_78 : decode cX6_write 78 = .ok (.invokevirtual 42, 3) := by decide +kernel
theorem dX6_write_81 : decode cX6_write 81 = .ok (.aload_n 0, 1) := by decide +kernel
theorem dX6_write_82 : decode cX6_write 82 = .ok (.bipush 32, 2) := by decide +kernel
theorem dX6_write_84 : decode cX6_write 84 = .ok (.invokevirtual 27, 3) := by decide +kernel
theorem dX6_write_87 : decode cX6_write 87 = .ok (.aload_n 0, 1) := by decide +kernel
theorem dX6_write_88 : decode cX6_write 88 = .ok (.bipush 65, 2) := by decide +kernel
theorem dX6_write_90 : decode cX6_write 90 = .ok (.aload_n 1, 1) := by decide +kernel
theorem dX6_write_91 : decode cX6_write 91 = .ok (.getfield 48, 3) := by decide +kernel
theorem dX6_write_94 : decode cX6_write 94 = .ok (.iload_n 2, 1) := by decide +kernel
theorem dX6_write_95 : decode cX6_write 95 = .ok (.iaload, 1) := by decide +kernel
theorem dX6_write_96 : decode cX6_write 96 = .ok (.iadd, 1) := by decide +kernel
theorem dX6_write_97 : decode cX6_write 97 = .ok (.invokevirtual 27, 3) := by decide +kernel
theorem dX6_write_100 : decode cX6_write 100 = .ok (.aload_n 0, 1) := by decide +kernel
theorem dX6_write_101 : decode cX6_write 101 = .ok (.bipush 32, 2) := by decide +kernel
theorem dX6_write_103 : decode cX6_write 103 = .ok (.invokevirtual 27, 3) := by decide +kernel
theorem dX6_write_106 : decode cX6_write 106 = .ok (.aload_n 0, 1) := by decide +kernel
theorem dX6_write_107 : decode cX6_write 107 = .ok (.aload_n 1, 1) := by decide +kernel
theorem dX6_write_108 : decode cX6_write 108 = .ok (.getfield 51, 3) := by decide +kernel
theorem dX6_write_111 : decode cX6_write 111 = .ok (.iload_n 2, 1) := by decide +kernel
theorem dX6_write_112 : decode cX6_write 112 = .ok (.iaload, 1) := by decide +kernel
theorem dX6_write_113 : decode cX6_write 113 = .ok (.invokevirtual 54, 3) := by decide +kernel
theorem dX6_write_116 : decode cX6_write 116 = .ok (.aload_n 0, 1) := by decide +kernel
theorem dX6_write_117 : decode cX6_write 117 = .ok (.bipush 32, 2) := by decide +kernel
theorem dX6_write_119 : decode cX6_write 119 = .ok (.invokevirtual 27, 3) := by decide +kernel
theorem dX6_write_122 : decode cX6_write 122 = .ok (.aload_n 0, 1) := by decide +kernel
theorem dX6_write_123 : decode cX6_write 123 = .ok (.aload_n 1, 1) := by decide +kernel
theorem dX6_write_124 : decode cX6_write 124 = .ok (.getfield 57, 3) := by decide +kernel
theorem dX6_write_127 : decode cX6_write 127 = .ok (.iload_n 2, 1) := by decide +kernel
theorem dX6_write_128 : decode cX6_write 128 = .ok (.iaload, 1) := by decide +kernel
theorem dX6_write_129 : decode cX6_write 129 = .ok (.invokevirtual 60, 3) := by decide +kernel
theorem dX6_write_132 : decode cX6_write 132 = .ok (.return_, 1) := by decide +kernel
theorem dX6_put_0 : decode cX6_put 0 = .ok (.aload_n 0, 1) := by decide +kernel
theorem dX6_put_1 : decode cX6_put 1 = .ok (.getfield 17, 3) := by decide +kernel
theorem dX6_put_4 : decode cX6_put 4 = .ok (.ifCond .lt 33, 3) := by decide +kernel
theorem dX6_put_7 : decode cX6_put 7 = .ok (.aload_n 0, 1) := by decide +kernel
theorem dX6_put_8 : decode cX6_put 8 = .ok (.getfield 17, 3) := by decide +kernel
theorem dX6_put_11 : decode cX6_put 11 = .ok (.bipush 80, 2) := by decide +kernel
theorem dX6_put_13 : decode cX6_put 13 = .ok (.if_icmp .ge 24, 3) := by decide +kernel
theorem dX6_put_16 : decode cX6_put 16 = .ok (.aload_n 0, 1) := by decide +kernel
theorem dX6_put_17 : decode cX6_put 17 = .ok (.getfield 9, 3) := by decide +kernel
theorem dX6_put_20 : decode cX6_put 20 = .ok (.aload_n 0, 1) := by decide +kernel
theorem dX6_put_21 : decode cX6_put 21 = .ok (.getfield 17, 3) := by decide +kernel
theorem dX6_put_24 : decode cX6_put 24 = .ok (.iload_n 1, 1) := by decide +kernel
theorem dX6_put_25 : decode cX6_put 25 = .ok (.i2b, 1) := by decide +kernel
theorem dX6_put_26 : decode cX6_put 26 = .ok (.bastore, 1) := by decide +kernel
theorem dX6_put_27 : decode cX6_put 27 = .ok (.aload_n 0, 1) := by decide +kernel
theorem dX6_put_28 : decode cX6_put 28 = .ok (.dup, 1) := by decide +kernel
theorem dX6_put_29 : decode cX6_put 29 = .ok (.getfield 17, 3) := by decide +kernel
theorem dX6_put_32 : decode cX6_put 32 = .ok (.iconst 1, 1) := by decide +kernel
theorem dX6_put_33 : decode cX6_put 33 = .ok (.iadd, 1) := by decide +kernel
theorem dX6_put_34 : decode cX6_put 34 = .ok (.putfield 17, 3) := by decide +kernel
theorem dX6_put_37 : decode cX6_put 37 = .ok (.return_, 1) := by decide +kernel
theorem dX6_putNumber_0 : decode cX6_putNumber 0 = .ok (.iconst 1, 1) := by decide +kernel
theorem dX6_putNumber_1 : decode cX6_putNumber 1 = .ok (.istore_n 3, 1) := by decide +kernel
theorem dX6_putNumber_2 : decode cX6_putNumber 2 = .ok (.iconst 1, 1) := by decide +kernel
theorem dX6_putNumber_3 : decode cX6_putNumber 3 = .ok (.istore 4, 2) := by decide +kernel
theorem dX6_putNumber_5 : decode cX6_putNumber 5 = .ok (.iload 4, 2) := by decide +kernel
theorem dX6_putNumber_7 : decode cX6_putNumber 7 = .ok (.bipush 10, 2) := by decide +kernel
theorem dX6_putNumber_9 : decode cX6_putNumber 9 = .ok (.if_icmp .ge 28, 3) := by decide +kernel
theorem dX6_putNumber_12 : decode cX6_putNumber 12 = .ok (.iload 4, 2) := by decide +kernel
theorem dX6_putNumber_14 : decode cX6_putNumber 14 = .ok (.iload_n 2, 1) := by decide +kernel
theorem dX6_putNumber_15 : decode cX6_putNumber 15 = .ok (.if_icmp .lt 11, 3) := by decide +kernel
theorem dX6_putNumber_18 : decode cX6_putNumber 18 = .ok (.iload_n 1, 1) := by decide +kernel
theorem dX6_putNumber_19 : decode cX6_putNumber 19 = .ok (.bipush 10, 2) := by decide +kernel
theorem dX6_putNumber_21 : decode cX6_putNumber 21 = .ok (.idiv, 1) := by decide +kernel
theorem dX6_putNumber_22 : decode cX6_putNumber 22 = .ok (.iload_n 3, 1) := by decide +kernel
theorem dX6_putNumber_23 : decode cX6_putNumber 23 = .ok (.if_icmp .lt 14, 3) := by decide +kernel
theorem dX6_putNumber_26 : decode cX6_putNumber 26 = .ok (.iload_n 3, 1) := by decide +kernel
theorem dX6_putNumber_27 : decode cX6_putNumber 27 = .ok (.bipush 10, 2) := by decide +kernel
theorem dX6_putNumber_29 : decode cX6_putNumber 29 = .ok (.imul, 1) := by decide +kernel
theorem dX6_putNumber_30 : decode cX6_putNumber 30 = .ok (.istore_n 3, 1) := by decide +kernel
theorem dX6_putNumber_31 : decode cX6_putNumber 31 = .ok (.iinc 4 1, 3) := by decide +kernel
theorem dX6_putNumber_34 : decode cX6_putNumber 34 = .ok (.goto (-29), 3) := by decide +kernel
theorem dX6_putNumber_37 : decode cX6_putNumber 37 = .ok (.iconst 0, 1) := by decide +kernel
theorem dX6_putNumber_38 : decode cX6_putNumber 38 = .ok (.istore 4, 2) := by decide +kernel
theorem dX6_putNumber_40 : decode cX6_putNumber 40 = .ok (.iload 4, 2) := by decide +kernel
theorem dX6_putNumber_42 : decode cX6_putNumber 42 = .ok (.bipush 10, 2) := by decide +kernel
theorem dX6_putNumber_44 : decode cX6_putNumber 44 = .ok (.if_icmp .ge 31, 3) := by decide +kernel
theorem dX6_putNumber_47 : decode cX6_putNumber 47 = .ok (.iload_n 3, 1) := by decide +kernel
theorem dX6_putNumber_48 : decode cX6_putNumber 48 = .ok (.ifCond .le 27, 3) := by decide +kernel
theorem dX6_putNumber_51 : decode cX6_putNumber 51 = .ok (.aload_n 0, 1) := by decide +kernel
theorem dX6_putNumber_52 : decode cX6_putNumber 52 = .ok (.bipush 48, 2) := by decide +kernel
theorem dX6_putNumber_54 : decode cX6_putNumber 54 = .ok (.iload_n 1, 1) := by decide +kernel
theorem dX6_putNumber_55 : decode cX6_putNumber 55 = .ok (.iload_n 3, 1) := by decide +kernel
theorem dX6_putNumber_56 : decode cX6_putNumber 56 = .ok (.idiv, 1) := by decide +kernel
theorem dX6_putNumber_57 : decode cX6_putNumber 57 = .ok (.bipush 10, 2) := by decide +kernel
theorem dX6_putNumber_59 : decode cX6_putNumber 59 = .ok (.irem, 1) := by decide +kernel
theorem dX6_putNumber_60 : decode cX6_putNumber 60 = .ok (.iadd, 1) := by decide +kernel
theorem dX6_putNumber_61 : decode cX6_putNumber 61 = .ok (.invokevirtual 27, 3) := by decide +kernel
theorem dX6_putNumber_64 : decode cX6_putNumber 64 = .ok (.iload_n 3, 1) := by decide +kernel
theorem dX6_putNumber_65 : decode cX6_putNumber 65 = .ok (.bipush 10, 2) := by decide +kernel
theorem dX6_putNumber_67 : decode cX6_putNumber 67 = .ok (.idiv, 1) := by decide +kernel
theorem dX6_putNumber_68 : decode cX6_putNumber 68 = .ok (.istore_n 3, 1) := by decide +kernel
theorem dX6_putNumber_69 : decode cX6_putNumber 69 = .ok (.iinc 4 1, 3) := by decide +kernel
theorem dX6_putNumber_72 : decode cX6_putNumber 72 = .ok (.goto (-32), 3) := by decide +kernel
theorem dX6_putNumber_75 : decode cX6_putNumber 75 = .ok (.return_, 1) := by decide +kernel
theorem dX6_putDate_0 : decode cX6_putDate 0 = .ok (.aload_n 0, 1) := by decide +kernel
theorem dX6_putDate_1 : decode cX6_putDate 1 = .ok (.aload_n 0, 1) := by decide +kernel
theorem dX6_putDate_2 : decode cX6_putDate 2 = .ok (.getfield 13, 3) := by decide +kernel
theorem dX6_putDate_5 : decode cX6_putDate 5 = .ok (.iload_n 1, 1) := by decide +kernel
theorem dX6_putDate_6 : decode cX6_putDate 6 = .ok (.invokevirtual 63, 3) := by decide +kernel
theorem dX6_putDate_9 : decode cX6_putDate 9 = .ok (.iconst 4, 1) := by decide +kernel
theorem dX6_putDate_10 : decode cX6_putDate 10 = .ok (.invokevirtual 35, 3) := by decide +kernel
theorem dX6_putDate_13 : decode cX6_putDate 13 = .ok (.aload_n 0, 1) := by decide +kernel
theorem dX6_putDate_14 : decode cX6_putDate 14 = .ok (.bipush 45, 2) := by decide +kernel
theorem dX6_putDate_16 : decode cX6_putDate 16 = .ok (.invokevirtual 27, 3) := by decide +kernel
theorem dX6_putDate_19 : decode cX6_putDate 19 = .ok (.aload_n 0, 1) := by decide +kernel
theorem dX6_putDate_20 : decode cX6_putDate 20 = .ok (.aload_n 0, 1) := by decide +kernel
theorem dX6_putDate_21 : decode cX6_putDate 21 = .ok (.getfield 13, 3) := by decide +kernel
theorem dX6_putDate_24 : decode cX6_putDate 24 = .ok (.iload_n 1, 1) := by decide +kernel
theorem dX6_putDate_25 : decode cX6_putDate 25 = .ok (.invokevirtual 69, 3) := by decide +kernel
theorem dX6_putDate_28 : decode cX6_putDate 28 = .ok (.iconst 2, 1) := by decide +kernel
theorem dX6_putDate_29 : decode cX6_putDate 29 = .ok (.invokevirtual 35, 3) := by decide +kernel
theorem dX6_putDate_32 : decode cX6_putDate 32 = .ok (.aload_n 0, 1) := by decide +kernel
theorem dX6_putDate_33 : decode cX6_putDate 33 = .ok (.bipush 45, 2) := by decide +kernel
theorem dX6_putDate_35 : decode cX6_putDate 35 = .ok (.invokevirtual 27, 3) := by decide +kernel
theorem dX6_putDate_38 : decode cX6_putDate 38 = .ok (.aload_n 0, 1) := by decide +kernel
theorem dX6_putDate_39 : decode cX6_putDate 39 = .ok (.aload_n 0, 1) := by decide +kernel
theorem dX6_putDate_40 : decode cX6_putDate 40 = .ok (.getfield 13, 3) := by decide +kernel
theorem dX6_putDate_43 : decode cX6_putDate 43 = .ok (.iload_n 1, 1) := by decide +kernel
theorem dX6_putDate_44 : decode cX6_putDate 44 = .ok (.invokevirtual 72, 3) := by decide +kernel
theorem dX6_putDate_47 : decode cX6_putDate 47 = .ok (.iconst 2, 1) := by decide +kernel
theorem dX6_putDate_48 : decode cX6_putDate 48 = .ok (.invokevirtual 35, 3) := by decide +kernel
theorem dX6_putDate_51 : decode cX6_putDate 51 = .ok (.return_, 1) := by decide +kernel
theorem dX6_putKind_0 : decode cX6_putKind 0 = .ok (.iload_n 1, 1) := by decide +kernel
theorem dX6_putKind_1 : decode cX6_putKind 1 = .ok (.bipush 6, 2) := by decide +kernel
theorem dX6_putKind_3 : decode cX6_putKind 3 = .ok (.imul, 1) := by decide +kernel
theorem dX6_putKind_4 : decode cX6_putKind 4 = .ok (.istore_n 2, 1) := by decide +kernel
theorem dX6_putKind_5 : decode cX6_putKind 5 = .ok (.iload_n 2, 1) := by decide +kernel
theorem dX6_putKind_6 : decode cX6_putKind 6 = .ok (.istore_n 3, 1) := by decide +kernel
theorem dX6_putKind_7 : decode cX6_putKind 7 = .ok (.iload_n 3, 1) := by decide +kernel
theorem dX6_putKind_8 : decode cX6_putKind 8 = .ok (.ifCond .lt 47, 3) := by decide +kernel
theorem dX6_putKind_11 : decode cX6_putKind 11 = .ok (.iload_n 3, 1) := by decide +kernel
theorem dX6_putKind_12 : decode cX6_putKind 12 = .ok (.iload_n 2, 1) := by decide +kernel
theorem dX6_putKind_13 : decode cX6_putKind 13 = .ok (.bipush 6, 2) := by decide +kernel
theorem dX6_putKind_15 : decode cX6_putKind 15 = .ok (.iadd, 1) := by decide +kernel
theorem dX6_putKind_16 : decode cX6_putKind 16 = .ok (.if_icmp .ge 39, 3) := by decide +kernel
theorem dX6_putKind_19 : decode cX6_putKind 19 = .ok (.iload_n 3, 1) := by decide +kernel
theorem dX6_putKind_20 : decode cX6_putKind 20 = .ok (.ldc 75, 2) := by decide +kernel
theorem dX6_putKind_22 : decode cX6_putKind 22 = .ok (.invokevirtual 77, 3) := by decide +kernel
theorem dX6_putKind_25 : decode cX6_putKind 25 = .ok (.if_icmp .ge 30, 3) := by decide +kernel
theorem dX6_putKind_28 : decode cX6_putKind 28 = .ok (.ldc 75, 2) := by decide +kernel
theorem dX6_putKind_30 : decode cX6_putKind 30 = .ok (.iload_n 3, 1) := by decide +kernel
theorem dX6_putKind_31 : decode cX6_putKind 31 = .ok (.invokevirtual 82, 3) := by decide +kernel
theorem dX6_putKind_34 : decode cX6_putKind 34 = .ok (.bipush 32, 2) := by decide +kernel
theorem dX6_putKind_36 : decode cX6_putKind 36 = .ok (.if_icmp .eq 13, 3) := by decide +kernel
theorem dX6_putKind_39 : decode cX6_putKind 39 = .ok (.aload_n 0, 1) := by decide +kernel
theorem dX6_putKind_40 : decode cX6_putKind 40 = .ok (.ldc 75, 2) := by decide +kernel
theorem dX6_putKind_42 : decode cX6_putKind 42 = .ok (.iload_n 3, 1) := by decide +kernel
theorem dX6_putKind_43 : decode cX6_putKind 43 = .ok (.invokevirtual 82, 3) := by decide +kernel
theorem dX6_putKind_46 : decode cX6_putKind 46 = .ok (.invokevirtual 27, 3) := by decide +kernel
theorem dX6_putKind_49 : decode cX6_putKind 49 = .ok (.iinc 3 1, 3) := by decide +kernel
theorem dX6_putKind_52 : decode cX6_putKind 52 = .ok (.goto (-45), 3) := by decide +kernel
theorem dX6_putKind_55 : decode cX6_putKind 55 = .ok (.return_, 1) := by decide +kernel
theorem dX6_putEuros_0 : decode cX6_putEuros 0 = .ok (.iload_n 1, 1) := by decide +kernel
theorem dX6_putEuros_1 : decode cX6_putEuros 1 = .ok (.ifCond .ge 9, 3) := by decide +kernel
theorem dX6_putEuros_4 : decode cX6_putEuros 4 = .ok (.aload_n 0, 1) := by decide +kernel
theorem dX6_putEuros_5 : decode cX6_putEuros 5 = .ok (.bipush 45, 2) := by decide +kernel
theorem dX6_putEuros_7 : decode cX6_putEuros 7 = .ok (.invokevirtual 27, 3) := by decide +kernel
theorem dX6_putEuros_10 : decode cX6_putEuros 10 = .ok (.iload_n 1, 1) := by decide +kernel
theorem dX6_putEuros_11 : decode cX6_putEuros 11 = .ok (.invokestatic 86, 3) := by decide +kernel
theorem dX6_putEuros_14 : decode cX6_putEuros 14 = .ok (.istore_n 2, 1) := by decide +kernel
theorem dX6_putEuros_15 : decode cX6_putEuros 15 = .ok (.aload_n 0, 1) := by decide +kernel
theorem dX6_putEuros_16 : decode cX6_putEuros 16 = .ok (.iload_n 2, 1) := by decide +kernel
theorem dX6_putEuros_17 : decode cX6_putEuros 17 = .ok (.bipush 100, 2) := by decide +kernel
theorem dX6_putEuros_19 : decode cX6_putEuros 19 = .ok (.idiv, 1) := by decide +kernel
theorem dX6_putEuros_20 : decode cX6_putEuros 20 = .ok (.iconst 1, 1) := by decide +kernel
theorem dX6_putEuros_21 : decode cX6_putEuros 21 = .ok (.invokevirtual 35, 3) := by decide +kernel
theorem dX6_putEuros_24 : decode cX6_putEuros 24 = .ok (.aload_n 0, 1) := by decide +kernel
theorem dX6_putEuros_25 : decode cX6_putEuros 25 = .ok (.bipush 46, 2) := by decide +kernel
theorem dX6_putEuros_27 : decode cX6_putEuros 27 = .ok (.invokevirtual 27, 3) := by decide +kernel
theorem dX6_putEuros_30 : decode cX6_putEuros 30 = .ok (.aload_n 0, 1) := by decide +kernel
theorem dX6_putEuros_31 : decode cX6_putEuros 31 = .ok (.iload_n 2, 1) := by decide +kernel
theorem dX6_putEuros_32 : decode cX6_putEuros 32 = .ok (.bipush 100, 2) := by decide +kernel
theorem dX6_putEuros_34 : decode cX6_putEuros 34 = .ok (.irem, 1) := by decide +kernel
theorem dX6_putEuros_35 : decode cX6_putEuros 35 = .ok (.iconst 2, 1) := by decide +kernel
theorem dX6_putEuros_36 : decode cX6_putEuros 36 = .ok (.invokevirtual 35, 3) := by decide +kernel
theorem dX6_putEuros_39 : decode cX6_putEuros 39 = .ok (.return_, 1) := by decide +kernel
theorem dX7_init_0 : decode cX7_init 0 = .ok (.aload_n 0, 1) := by decide +kernel
theorem dX7_init_1 : decode cX7_init 1 = .ok (.invokespecial 3, 3) := by decide +kernel
theorem dX7_init_4 : decode cX7_init 4 = .ok (.aload_n 0, 1) := by decide +kernel
theorem dX7_init_5 : decode cX7_init 5 = .ok (.iconst 4, 1) := by decide +kernel
theorem dX7_init_6 : decode cX7_init 6 = .ok (.newarray .int, 2) := by decide +kernel
theorem dX7_init_8 : decode cX7_init 8 = .ok (.putfield 11, 3) := by decide +kernel
theorem dX7_init_11 : decode cX7_init 11 = .ok (.aload_n 0, 1) := by decide +kernel
theorem dX7_init_12 : decode cX7_init 12 = .ok (.iconst 4, 1) := by decide +kernel
theorem dX7_init_13 : decode cX7_init 13 = .ok (.newarray .int, 2) := by decide +kernel
theorem dX7_init_15 : decode cX7_init 15 = .ok (.putfield 15, 3) := by decide +kernel
theorem dX7_init_18 : decode cX7_init 18 = .ok (.aload_n 0, 1) := by decide +kernel
theorem dX7_init_19 : decode cX7_init 19 = .ok (.iconst 3, 1) := by decide +kernel
theorem dX7_init_20 : decode cX7_init 20 = .ok (.newarray .int, 2) := by decide +kernel
theorem dX7_init_22 : decode cX7_init 22 = .ok (.putfield 18, 3) := by decide +kernel
theorem dX7_init_25 : decode cX7_init 25 = .ok (.aload_n 0, 1) := by decide +kernel
theorem dX7_init_26 : decode cX7_init 26 = .ok (.iconst 3, 1) := by decide +kernel
theorem dX7_init_27 : decode cX7_init 27 = .ok (.newarray .int, 2) := by decide +kernel
theorem dX7_init_29 : decode cX7_init 29 = .ok (.putfield 21, 3) := by decide +kernel
theorem dX7_init_32 : decode cX7_init 32 = .ok (.return_, 1) := by decide +kernel
theorem dX7_clear_0 : decode cX7_clear 0 = .ok (.aload_n 0, 1) := by decide +kernel
theorem dX7_clear_1 : decode cX7_clear 1 = .ok (.iconst 0, 1) := by decide +kernel
theorem dX7_clear_2 : decode cX7_clear 2 = .ok (.putfield 24, 3) := by decide +kernel
theorem dX7_clear_5 : decode cX7_clear 5 = .ok (.aload_n 0, 1) := by decide +kernel
theorem dX7_clear_6 : decode cX7_clear 6 = .ok (.iconst 0, 1) := by decide +kernel
theorem dX7_clear_7 : decode cX7_clear 7 = .ok (.putfield 28, 3) := by decide +kernel
theorem dX7_clear_10 : decode cX7_clear 10 = .ok (.aload_n 0, 1) := by decide +kernel
theorem dX7_clear_11 : decode cX7_clear 11 = .ok (.iconst 0, 1) := by decide +kernel
theorem dX7_clear_12 : decode cX7_clear 12 = .ok (.putfield 31, 3) := by decide +kernel
theorem dX7_clear_15 : decode cX7_clear 15 = .ok (.aload_n 0, 1) := by decide +kernel
theorem dX7_clear_16 : decode cX7_clear 16 = .ok (.iconst 0, 1) := by decide +kernel
theorem dX7_clear_17 : decode cX7_clear 17 = .ok (.putfield 34, 3) := by decide +kernel
theorem dX7_clear_20 : decode cX7_clear 20 = .ok (.aload_n 0, 1) := by decide +kernel
theorem dX7_clear_21 : decode cX7_clear 21 = .ok (.iconst 0, 1) := by decide +kernel
theorem dX7_clear_22 : decode cX7_clear 22 = .ok (.putfield 37, 3) := by decide +kernel
theorem dX7_clear_25 : decode cX7_clear 25 = .ok (.aload_n 0, 1) := by decide +kernel
theorem dX7_clear_26 : decode cX7_clear 26 = .ok (.iconst 0, 1) := by decide +kernel
theorem dX7_clear_27 : decode cX7_clear 27 = .ok (.putfield 41, 3) := by decide +kernel
theorem dX7_clear_30 : decode cX7_clear 30 = .ok (.aload_n 0, 1) := by decide +kernel
theorem dX7_clear_31 : decode cX7_clear 31 = .ok (.iconst 0, 1) := by decide +kernel
theorem dX7_clear_32 : decode cX7_clear 32 = .ok (.putfield 44, 3) := by decide +kernel
theorem dX7_clear_35 : decode cX7_clear 35 = .ok (.return_, 1) := by decide +kernel
theorem dX7_copyFrom_0 : decode cX7_copyFrom 0 = .ok (.aload_n 0, 1) := by decide +kernel
theorem dX7_copyFrom_1 : decode cX7_copyFrom 1 = .ok (.aload_n 1, 1) := by decide +kernel
theorem dX7_copyFrom_2 : decode cX7_copyFrom 2 = .ok (.getfield 24, 3) := by decide +kernel
theorem dX7_copyFrom_5 : decode cX7_copyFrom 5 = .ok (.putfield 24, 3) := by decide +kernel
theorem dX7_copyFrom_8 : decode cX7_copyFrom 8 = .ok (.aload_n 0, 1) := by decide +kernel
theorem dX7_copyFrom_9 : decode cX7_copyFrom 9 = .ok (.aload_n 1, 1) := by decide +kernel
theorem dX7_copyFrom_10 : decode cX7_copyFrom 10 = .ok (.getfield 28, 3) := by decide +kernel
theorem dX7_copyFrom_13 : decode cX7_copyFrom 13 = .ok (.putfield 28, 3) := by decide +kernel
theorem dX7_copyFrom_16 : decode cX7_copyFrom 16 = .ok (.aload_n 0, 1) := by decide +kernel
theorem dX7_copyFrom_17 : decode cX7_copyFrom 17 = .ok (.aload_n 1, 1) := by decide +kernel
theorem dX7_copyFrom_18 : decode cX7_copyFrom 18 = .ok (.getfield 31, 3) := by decide +kernel
theorem dX7_copyFrom_21 : decode cX7_copyFrom 21 = .ok (.putfield 31, 3) := by decide +kernel
theorem dX7_copyFrom_24 : decode cX7_copyFrom 24 = .ok (.aload_n 1, 1) := by decide +kernel
theorem dX7_copyFrom_25 : decode cX7_copyFrom 25 = .ok (.getfield 11, 3) := by decide +kernel
theorem dX7_copyFrom_28 : decode cX7_copyFrom 28 = .ok (.iconst 0, 1) := by decide +kernel
theorem dX7_copyFrom_29 : decode cX7_copyFrom 29 = .ok (.aload_n 0, 1) := by decide +kernel
theorem dX7_copyFrom_30 : decode cX7_copyFrom 30 = .ok (.getfield 11, 3) := by decide +kernel
theorem dX7_copyFrom_33 : decode cX7_copyFrom 33 = .ok (.iconst 0, 1) := by decide +kernel
theorem dX7_copyFrom_34 : decode cX7_copyFrom 34 = .ok (.iconst 4, 1) := by decide +kernel
theorem dX7_copyFrom_35 : decode cX7_copyFrom 35 = .ok (.invokestatic 47, 3) := by decide +kernel
theorem dX7_copyFrom_38 : decode cX7_copyFrom 38 = .ok (.aload_n 1, 1) := by decide +kernel
theorem dX7_copyFrom_39 : decode cX7_copyFrom 39 = .ok (.getfield 15, 3) := by decide +kernel
theorem dX7_copyFrom_42 : decode cX7_copyFrom 42 = .ok (.iconst 0, 1) := by decide +kernel
theorem dX7_copyFrom_43 : decode cX7_copyFrom 43 = .ok (.aload_n 0, 1) := by decide +kernel
theorem dX7_copyFrom_44 : decode cX7_copyFrom 44 = .ok (.getfield 15, 3) := by decide +kernel
theorem dX7_copyFrom_47 : decode cX7_copyFrom 47 = .ok (.iconst 0, 1) := by decide +kernel
theorem dX7_copyFrom_48 : decode cX7_copyFrom 48 = .ok (.iconst 4, 1) := by decide +kernel
theorem dX7_copyFrom_49 : decode cX7_copyFrom 49 = .ok (.invokestatic 47, 3) := by decide +kernel
theorem dX7_copyFrom_52 : decode cX7_copyFrom 52 = .ok (.aload_n 0, 1) := by decide +kernel
theorem dX7_copyFrom_53 : decode cX7_copyFrom 53 = .ok (.aload_n 1, 1) := by decide +kernel
theorem dX7_copyFrom_54 : decode cX7_copyFrom 54 = .ok (.getfield 34, 3) := by decide +kernel
theorem dX7_copyFrom_57 : decode cX7_copyFrom 57 = .ok (.putfield 34, 3) := by decide +kernel
theorem dX7_copyFrom_60 : decode cX7_copyFrom 60 = .ok (.aload_n 0, 1) := by decide +kernel
theorem dX7_copyFrom_61 : decode cX7_copyFrom 61 = .ok (.aload_n 1, 1) := by decide +kernel
theorem dX7_copyFrom_62 : decode cX7_copyFrom 62 = .ok (.getfield 37, 3) := by decide +kernel
theorem dX7_copyFrom_65 : decode cX7_copyFrom 65 = .ok (.putfield 37, 3) := by decide +kernel
theorem dX7_copyFrom_68 : decode cX7_copyFrom 68 = .ok (.aload_n 0, 1) := by decide +kernel
theorem dX7_copyFrom_69 : decode cX7_copyFrom 69 = .ok (.aload_n 1, 1) := by decide +kernel
theorem dX7_copyFrom_70 : decode cX7_copyFrom 70 = .ok (.getfield 41, 3) := by decide +kernel
theorem dX7_copyFrom_73 : decode cX7_copyFrom 73 = .ok (.putfield 41, 3) := by decide +kernel
theorem dX7_copyFrom_76 : decode cX7_copyFrom 76 = .ok (.aload_n 0, 1) := by decide +kernel
theorem dX7_copyFrom_77 : decode cX7_copyFrom 77 = .ok (.aload_n 1, 1) := by decide +kernel
theorem dX7_copyFrom_78 : decode cX7_copyFrom 78 = .ok (.getfield 44, 3) := by decide +kernel
theorem dX7_copyFrom_81 : decode cX7_copyFrom 81 = .ok (.putfield 44, 3) := by decide +kernel
theorem dX7_copyFrom_84 : decode cX7_copyFrom 84 = .ok (.aload_n 1, 1) := by decide +kernel
theorem dX7_copyFrom_85 : decode cX7_copyFrom 85 = .ok (.getfield 18, 3) := by decide +kernel
theorem dX7_copyFrom_88 : decode cX7_copyFrom 88 = .ok (.iconst 0, 1) := by decide +kernel
theorem dX7_copyFrom_89 : decode cX7_copyFrom 89 = .ok (.aload_n 0, 1) := by decide +kernel
theorem dX7_copyFrom_90 : decode cX7_copyFrom 90 = .ok (.getfield 18, 3) := by decide +kernel
theorem dX7_copyFrom_93 : decode cX7_copyFrom 93 = .ok (.iconst 0, 1) := by decide +kernel
theorem dX7_copyFrom_94 : decode cX7_copyFrom 94 = .ok (.iconst 3, 1) := by decide +kernel
theorem dX7_copyFrom_95 : decode cX7_copyFrom 95 = .ok (.invokestatic 47, 3) := by decide +kernel
theorem dX7_copyFrom_98 : decode cX7_copyFrom 98 = .ok (.aload_n 1, 1) := by decide +kernel
theorem dX7_copyFrom_99 : decode cX7_copyFrom 99 = .ok (.getfield 21, 3) := by decide +kernel
theorem dX7_copyFrom_102 : decode cX7_copyFrom 102 = .ok (.iconst 0, 1) := by decide +kernel
theorem dX7_copyFrom_103 : decode cX7_copyFrom 103 = .ok (.aload_n 0, 1) := by decide +kernel
theorem dX7_copyFrom_104 : decode cX7_copyFrom 104 = .ok (.getfield 21, 3) := by decide +kernel
theorem dX7_copyFrom_107 : decode cX7_copyFrom 107 = .ok (.iconst 0, 1) := by decide +kernel
theorem dX7_copyFrom_108 : decode cX7_copyFrom 108 = .ok (.iconst 3, 1) := by decide +kernel
theorem dX7_copyFrom_109 : decode cX7_copyFrom 109 = .ok (.invokestatic 47, 3) := by decide +kernel
theorem dX7_copyFrom_112 : decode cX7_copyFrom 112 = .ok (.return_, 1) := by decide +kernel
theorem dX7_isAboveBounds_0 : decode cX7_isAboveBounds 0 = .ok (.aload_n 0, 1) := by decide +kernel
theorem dX7_isAboveBounds_1 : decode cX7_isAboveBounds 1 = .ok (.getfield 31, 3) := by decide +kernel
theorem dX7_isAboveBounds_4 : decode cX7_isAboveBounds 4 = .ok (.iconst 1, 1) := by decide +kernel
theorem dX7_isAboveBounds_5 : decode cX7_isAboveBounds 5 = .ok (.if_icmp .lt 26, 3) := by decide +kernel
theorem dX7_isAboveBounds_8 : decode cX7_isAboveBounds 8 = .ok (.aload_n 0, 1) := by decide +kernel
theorem dX7_isAboveBounds_9 : decode cX7_isAboveBounds 9 = .ok (.getfield 31, 3) := by decide +kernel
theorem dX7_isAboveBounds_12 : decode cX7_isAboveBounds 12 = .ok (.iconst 4, 1) := by decide +kernel
theorem dX7_isAboveBounds_13 : decode cX7_isAboveBounds 13 = .ok (.if_icmp .gt 18, 3) := by decide +kernel
theorem dX7_isAboveBounds_16 : decode cX7_isAboveBounds 16 = .ok (.iload_n 1, 1) := by decide +kernel
theorem dX7_isAboveBounds_17 : decode cX7_isAboveBounds 17 = .ok (.aload_n 0, 1) := by decide +kernel
theorem dX7_isAboveBounds_18 : decode cX7_isAboveBounds 18 = .ok (.getfield 11, 3) := by decide +kernel
theorem dX7_isAboveBounds_21 : decode cX7_isAboveBounds 21 = .ok (.aload_n 0, 1) := by decide +kernel
theorem dX7_isAboveBounds_22 : decode cX7_isAboveBounds 22 = .ok (.getfield 31, 3) := by decide +kernel
theorem dX7_isAboveBounds_25 : decode cX7_isAboveBounds 25 = .ok (.iconst 1, 1) := by decide +kernel
theorem dX7_isAboveBounds_26 : decode cX7_isAboveBounds 26 = .ok (.isub, 1) := by decide +kernel
theorem dX7_isAboveBounds_27 : decode cX7_isAboveBounds 27 = .ok (.iaload, 1) := by decide +kernel
theorem dX7_isAboveBounds_28 : decode cX7_isAboveBounds 28 = .ok (.if_icmp .le 7, 3) := by decide +kernel
theorem dX7_isAboveBounds_31 : decode cX7_isAboveBounds 31 = .ok (.iconst 1, 1) := by decide +kernel
theorem dX7_isAboveBounds_32 : decode cX7_isAboveBounds 32 = .ok (.goto 4, 3) := by decide +kernel
theorem dX7_isAboveBounds_35 : decode cX7_isAboveBounds 35 = .ok (.iconst 0, 1) := by decide +kernel
theorem dX7_isAboveBounds_36 : decode cX7_isAboveBounds 36 = .ok (.ireturn, 1) := by decide +kernel
theorem dX7_addTier_0 : decode cX7_addTier 0 = .ok (.aload_n 0, 1) := by decide +kernel
theorem dX7_addTier_1 : decode cX7_addTier 1 = .ok (.getfield 31, 3) := by decide +kernel
theorem dX7_addTier_4 : decode cX7_addTier 4 = .ok (.ifCond .lt 41, 3) := by decide +kernel
theorem dX7_addTier_7 : decode cX7_addTier 7 = .ok (.aload_n 0, 1) := by decide +kernel
theorem dX7_addTier_8 : decode cX7_addTier 8 = .ok (.getfield 31, 3) := by decide +kernel
theorem dX7_addTier_11 : decode cX7_addTier 11 = .ok (.iconst 4, 1) := by decide +kernel
theorem dX7_addTier_12 : decode cX7_addTier 12 = .ok (.if_icmp .ge 33, 3) := by decide +kernel
theorem dX7_addTier_15 : decode cX7_addTier 15 = .ok (.aload_n 0, 1) := by decide +kernel
theorem dX7_addTier_16 : decode cX7_addTier 16 = .ok (.getfield 11, 3) := by decide +kernel
theorem dX7_addTier_19 : decode cX7_addTier 19 = .ok (.aload_n 0, 1) := by decide +kernel
theorem dX7_addTier_20 : decode cX7_addTier 20 = .ok (.getfield 31, 3) := by decide +kernel
theorem dX7_addTier_23 : decode cX7_addTier 23 = .ok (.iload_n 1, 1) := by decide +kernel
theorem dX7_addTier_24 : decode cX7_addTier 24 = .ok (.iastore, 1) := by decide +kernel
theorem dX7_addTier_25 : decode cX7_addTier 25 = .ok (.aload_n 0, 1) := by decide +kernel
theorem dX7_addTier_26 : decode cX7_addTier 26 = .ok (.getfield 15, 3) := by decide +kernel
theorem dX7_addTier_29 : decode cX7_addTier 29 = .ok (.aload_n 0, 1) := by decide +kernel
theorem dX7_addTier_30 : decode cX7_addTier 30 = .ok (.getfield 31, 3) := by decide +kernel
theorem dX7_addTier_33 : decode cX7_addTier 33 = .ok (.iload_n 2, 1) := by decide +kernel
theorem dX7_addTier_34 : decode cX7_addTier 34 = .ok (.iastore, 1) := by decide +kernel
theorem dX7_addTier_35 : decode cX7_addTier 35 = .ok (.aload_n 0, 1) := by decide +kernel
theorem dX7_addTier_36 : decode cX7_addTier 36 = .ok (.dup, 1) := by decide +kernel
theorem dX7_addTier_37 : decode cX7_addTier 37 = .ok (.getfield 31, 3) := by decide +kernel
theorem dX7_addTier_40 : decode cX7_addTier 40 = .ok (.iconst 1, 1) := by decide +kernel
theorem dX7_addTier_41 : decode cX7_addTier 41 = .ok (.iadd, 1) := by decide +kernel
theorem dX7_addTier_42 : decode cX7_addTier 42 = .ok (.putfield 31, 3) := by decide +kernel
theorem dX7_addTier_45 : decode cX7_addTier 45 = .ok (.return_, 1) := by decide +kernel
theorem dX7_isAboveBulks_0 : decode cX7_isAboveBulks 0 = .ok (.aload_n 0, 1) := by decide +kernel
theorem dX7_isAboveBulks_1 : decode cX7_isAboveBulks 1 = .ok (.getfield 44, 3) := by decide +kernel
theorem dX7_isAboveBulks_4 : decode cX7_isAboveBulks 4 = .ok (.iconst 1, 1) := by decide +kernel
theorem dX7_isAboveBulks_5 : decode cX7_isAboveBulks 5 = .ok (.if_icmp .lt 26, 3) := by decide +kernel
theorem dX7_isAboveBulks_8 : decode cX7_isAboveBulks 8 = .ok (.aload_n 0, 1) := by decide +kernel
theorem dX7_isAboveBulks_9 : decode cX7_isAboveBulks 9 = .ok (.getfield 44, 3) := by decide +kernel
theorem dX7_isAboveBulks_12 : decode cX7_isAboveBulks 12 = .ok (.iconst 3, 1) := by decide +kernel
theorem dX7_isAboveBulks_13 : decode cX7_isAboveBulks 13 = .ok (.if_icmp .gt 18, 3) := by decide +kernel
theorem dX7_isAboveBulks_16 : decode cX7_isAboveBulks 16 = .ok (.iload_n 1, 1) := by decide +kernel
theorem dX7_isAboveBulks_17 : decode cX7_isAboveBulks 17 = .ok (.aload_n 0, 1) := by decide +kernel
theorem dX7_isAboveBulks_18 : decode cX7_isAboveBulks 18 = .ok (.getfield 18, 3) := by decide +kernel
theorem dX7_isAboveBulks_21 : decode cX7_isAboveBulks 21 = .ok (.aload_n 0, 1) := by decide +kernel
theorem dX7_isAboveBulks_22 : decode cX7_isAboveBulks 22 = .ok (.getfield 44, 3) := by decide +kernel
theorem dX7_isAboveBulks_25 : decode cX7_isAboveBulks 25 = .ok (.iconst 1, 1) := by decide +kernel
theorem dX7_isAboveBulks_26 : decode cX7_isAboveBulks 26 = .ok (.isub, 1) := by decide +kernel
theorem dX7_isAboveBulks_27 : decode cX7_isAboveBulks 27 = .ok (.iaload, 1) := by decide +kernel
theorem dX7_isAboveBulks_28 : decode cX7_isAboveBulks 28 = .ok (.if_icmp .le 7, 3) := by decide +kernel
theorem dX7_isAboveBulks_31 : decode cX7_isAboveBulks 31 = .ok (.iconst 1, 1) := by decide +kernel
theorem dX7_isAboveBulks_32 : decode cX7_isAboveBulks 32 = .ok (.goto 4, 3) := by decide +kernel
theorem dX7_isAboveBulks_35 : decode cX7_isAboveBulks 35 = .ok (.iconst 0, 1) := by decide +kernel
theorem dX7_isAboveBulks_36 : decode cX7_isAboveBulks 36 = .ok (.ireturn, 1) := by decide +kernel
theorem dX7_addBulk_0 : decode cX7_addBulk 0 = .ok (.aload_n 0, 1) := by decide +kernel
theorem dX7_addBulk_1 : decode cX7_addBulk 1 = .ok (.getfield 44, 3) := by decide +kernel
theorem dX7_addBulk_4 : decode cX7_addBulk 4 = .ok (.ifCond .lt 41, 3) := by decide +kernel
theorem dX7_addBulk_7 : decode cX7_addBulk 7 = .ok (.aload_n 0, 1) := by decide +kernel
theorem dX7_addBulk_8 : decode cX7_addBulk 8 = .ok (.getfield 44, 3) := by decide +kernel
theorem dX7_addBulk_11 : decode cX7_addBulk 11 = .ok (.iconst 3, 1) := by decide +kernel
theorem dX7_addBulk_12 : decode cX7_addBulk 12 = .ok (.if_icmp .ge 33, 3) := by decide +kernel
theorem dX7_addBulk_15 : decode cX7_addBulk 15 = .ok (.aload_n 0, 1) := by decide +kernel
theorem dX7_addBulk_16 : decode cX7_addBulk 16 = .ok (.getfield 18, 3) := by decide +kernel
theorem dX7_addBulk_19 : decode cX7_addBulk 19 = .ok (.aload_n 0, 1) := by decide +kernel
theorem dX7_addBulk_20 : decode cX7_addBulk 20 = .ok (.getfield 44, 3) := by decide +kernel
theorem dX7_addBulk_23 : decode cX7_addBulk 23 = .ok (.iload_n 1, 1) := by decide +kernel
theorem dX7_addBulk_24 : decode cX7_addBulk 24 = .ok (.iastore, 1) := by decide +kernel
theorem dX7_addBulk_25 : decode cX7_addBulk 25 = .ok (.aload_n 0, 1) := by decide +kernel
theorem dX7_addBulk_26 : decode cX7_addBulk 26 = .ok (.getfield 21, 3) := by decide +kernel
theorem dX7_addBulk_29 : decode cX7_addBulk 29 = .ok (.aload_n 0, 1) := by decide +kernel
theorem dX7_addBulk_30 : decode cX7_addBulk 30 = .ok (.getfield 44, 3) := by decide +kernel
theorem dX7_addBulk_33 : decode cX7_addBulk 33 = .ok (.iload_n 2, 1) := by decide +kernel
theorem dX7_addBulk_34 : decode cX7_addBulk 34 = .ok (.iastore, 1) := by decide +kernel
theorem dX7_addBulk_35 : decode cX7_addBulk 35 = .ok (.aload_n 0, 1) := by decide +kernel
theorem dX7_addBulk_36 : decode cX7_addBulk 36 = .ok (.dup, 1) := by decide +kernel
theorem dX7_addBulk_37 : decode cX7_addBulk 37 = .ok (.getfield 44, 3) := by decide +kernel
theorem dX7_addBulk_40 : decode cX7_addBulk 40 = .ok (.iconst 1, 1) := by decide +kernel
theorem dX7_addBulk_41 : decode cX7_addBulk 41 = .ok (.iadd, 1) := by decide +kernel
theorem dX7_addBulk_42 : decode cX7_addBulk 42 = .ok (.putfield 44, 3) := by decide +kernel
theorem dX7_addBulk_45 : decode cX7_addBulk 45 = .ok (.return_, 1) := by decide +kernel
theorem dX7_usageOf_0 : decode cX7_usageOf 0 = .ok (.iconst 0, 1) := by decide +kernel
theorem dX7_usageOf_1 : decode cX7_usageOf 1 = .ok (.iload_n 1, 1) := by decide +kernel
theorem dX7_usageOf_2 : decode cX7_usageOf 2 = .ok (.aload_n 0, 1) := by decide +kernel
theorem dX7_usageOf_3 : decode cX7_usageOf 3 = .ok (.getfield 28, 3) := by decide +kernel
theorem dX7_usageOf_6 : decode cX7_usageOf 6 = .ok (.isub, 1) := by decide +kernel
theorem dX7_usageOf_7 : decode cX7_usageOf 7 = .ok (.invokestatic 53, 3) := by decide +kernel
theorem dX7_usageOf_10 : decode cX7_usageOf 10 = .ok (.istore_n 2, 1) := by decide +kernel
theorem dX7_usageOf_11 : decode cX7_usageOf 11 = .ok (.aload_n 0, 1) := by decide +kernel
theorem dX7_usageOf_12 : decode cX7_usageOf 12 = .ok (.getfield 37, 3) := by decide +kernel
theorem dX7_usageOf_15 : decode cX7_usageOf 15 = .ok (.ifCond .eq 11, 3) := by decide +kernel
theorem dX7_usageOf_18 : decode cX7_usageOf 18 = .ok (.aload_n 0, 1) := by decide +kernel
theorem dX7_usageOf_19 : decode cX7_usageOf 19 = .ok (.iload_n 2, 1) := by decide +kernel
theorem dX7_usageOf_20 : decode cX7_usageOf 20 = .ok (.invokevirtual 59, 3) := by decide +kernel
theorem dX7_usageOf_23 : decode cX7_usageOf 23 = .ok (.goto 8, 3) := by decide +kernel
theorem dX7_usageOf_26 : decode cX7_usageOf 26 = .ok (.aload_n 0, 1) := by decide +kernel
theorem dX7_usageOf_27 : decode cX7_usageOf 27 = .ok (.iload_n 2, 1) := by decide +kernel
theorem dX7_usageOf_28 : decode cX7_usageOf 28 = .ok (.invokevirtual 63, 3) := by decide +kernel
theorem dX7_usageOf_31 : decode cX7_usageOf 31 = .ok (.ireturn, 1) := by decide +kernel
theorem dX7_wholeUsage_0 : decode cX7_wholeUsage 0 = .ok (.iconst 0, 1) := by decide +kernel
theorem dX7_wholeUsage_1 : decode cX7_wholeUsage 1 = .ok (.istore_n 2, 1) := by decide +kernel
theorem dX7_wholeUsage_2 : decode cX7_wholeUsage 2 = .ok (.iload_n 2, 1) := by decide +kernel
theorem dX7_wholeUsage_3 : decode cX7_wholeUsage 3 = .ok (.aload_n 0, 1) := by decide +kernel
theorem dX7_wholeUsage_4 : decode cX7_wholeUsage 4 = .ok (.getfield 31, 3) := by decide +kernel
theorem dX7_wholeUsage_7 : decode cX7_wholeUsage 7 = .ok (.if_icmp .ge 33, 3) := by decide +kernel
theorem dX7_wholeUsage_10 : decode cX7_wholeUsage 10 = .ok (.iload_n 2, 1) := by decide +kernel
theorem dX7_wholeUsage_11 : decode cX7_wholeUsage 11 = .ok (.iconst 4, 1) := by decide +kernel
theorem dX7_wholeUsage_12 : decode cX7_wholeUsage 12 = .ok (.if_icmp .ge 28, 3) := by decide +kernel
theorem dX7_wholeUsage_15 : decode cX7_wholeUsage 15 = .ok (.aload_n 0, 1) := by decide +kernel
theorem dX7_wholeUsage_16 : decode cX7_wholeUsage 16 = .ok (.getfield 11, 3) := by decide +kernel
theorem dX7_wholeUsage_19 : decode cX7_wholeUsage 19 = .ok (.iload_n 2, 1) := by decide +kernel
theorem dX7_wholeUsage_20 : decode cX7_wholeUsage 20 = .ok (.iaload, 1) := by decide +kernel
theorem dX7_wholeUsage_21 : decode cX7_wholeUsage 21 = .ok (.iload_n 1, 1) := by decide +kernel
theorem dX7_wholeUsage_22 : decode cX7_wholeUsage 22 = .ok (.if_icmp .lt 12, 3) := by decide +kernel
theorem dX7_wholeUsage_25 : decode cX7_wholeUsage 25 = .ok (.iload_n 1, 1) := by decide +kernel
theorem dX7_wholeUsage_26 : decode cX7_wholeUsage 26 = .ok (.aload_n 0, 1) := by decide +kernel
theorem dX7_wholeUsage_27 : decode cX7_wholeUsage 27 = .ok (.getfield 15, 3) := by decide +kernel
theorem dX7_wholeUsage_30 : decode cX7_wholeUsage 30 = .ok (.iload_n 2, 1) := by decide +kernel
theorem dX7_wholeUsage_31 : decode cX7_wholeUsage 31 = .ok (.iaload, 1) := by decide +kernel
theorem dX7_wholeUsage_32 : decode cX7_wholeUsage 32 = .ok (.imul, 1) := by decide +kernel
theorem dX7_wholeUsage_33 : decode cX7_wholeUsage 33 = .ok (.ireturn, 1) := by decide +kernel
theorem dX7_wholeUsage_34 : decode cX7_wholeUsage 34 = .ok (.iinc 2 1, 3) := by decide +kernel
theorem dX7_wholeUsage_37 : decode cX7_wholeUsage 37 = .ok (.goto (-35), 3) := by decide +kernel
theorem dX7_wholeUsage_40 : decode cX7_wholeUsage 40 = .ok (.iload_n 1, 1) := by decide +kernel
theorem dX7_wholeUsage_41 : decode cX7_wholeUsage 41 = .ok (.aload_n 0, 1) := by decide +kernel
theorem dX7_wholeUsage_42 : decode cX7_wholeUsage 42 = .ok (.getfield 34, 3) := by decide +kernel
theorem dX7_wholeUsage_45 : decode cX7_wholeUsage 45 = .ok (.imul, 1) := by decide +kernel
theorem dX7_wholeUsage_46 : decode cX7_wholeUsage 46 = .ok (.ireturn, 1) := by decide +kernel
theorem dX7_addedUsage_0 : decode cX7_addedUsage 0 = .ok (.iconst 0, 1) := by decide +kernel
theorem dX7_addedUsage_1 : decode cX7_addedUsage 1 = .ok (.istore_n 2, 1) := by decide +kernel
theorem dX7_addedUsage_2 : decode cX7_addedUsage 2 = .ok (.iconst 0, 1) := by decide +kernel
theorem dX7_addedUsage_3 : decode cX7_addedUsage 3 = .ok (.istore_n 3, 1) := by decide +kernel
theorem dX7_addedUsage_4 : decode cX7_addedUsage 4 = .ok (.iconst 0, 1) := by decide +kernel
theorem dX7_addedUsage_5 : decode cX7_addedUsage 5 = .ok (.istore 4, 2) := by decide +kernel
theorem dX7_addedUsage_7 : decode cX7_addedUsage 7 = .ok (.iload 4, 2) := by decide +kernel
theorem dX7_addedUsage_9 : decode cX7_addedUsage 9 = .ok (.aload_n 0, 1) := by decide +kernel
theorem dX7_addedUsage_10 : decode cX7_addedUsage 10 = .ok (.getfield 31, 3) := by decide +kernel
theorem dX7_addedUsage_13 : decode cX7_addedUsage 13 = .ok (.if_icmp .ge 46, 3) := by decide +kernel
theorem dX7_addedUsage_16 : decode cX7_addedUsage 16 = .ok (.iload 4, 2) := by decide +kernel
theorem dX7_addedUsage_18 : decode cX7_addedUsage 18 = .ok (.iconst 4, 1) := by decide +kernel
theorem dX7_addedUsage_19 : decode cX7_addedUsage 19 = .ok (.if_icmp .ge 40, 3) := by decide +kernel
theorem dX7_addedUsage_22 : decode cX7_addedUsage 22 = .ok (.iload_n 1, 1) := by decide +kernel
theorem dX7_addedUsage_23 : decode cX7_addedUsage 23 = .ok (.aload_n 0, 1) := by decide +kernel
theorem dX7_addedUsage_24 : decode cX7_addedUsage 24 = .ok (.getfield 11, 3) := by decide +kernel
theorem dX7_addedUsage_27 : decode cX7_addedUsage 27 = .ok (.iload 4, 2) := by decide +kernel
theorem dX7_addedUsage_29 : decode cX7_addedUsage 29 = .ok (.iaload, 1) := by decide +kernel
theorem dX7_addedUsage_30 : decode cX7_addedUsage 30 = .ok (.invokestatic 66, 3) := by decide +kernel
theorem dX7_addedUsage_33 : decode cX7_addedUsage 33 = .ok (.istore 5, 2) := by decide +kernel
theorem dX7_addedUsage_35 : decode cX7_addedUsage 35 = .ok (.iload_n 2, 1) := by decide +kernel
theorem dX7_addedUsage_36 : decode cX7_addedUsage 36 = .ok (.iload 5, 2) := by decide +kernel
theorem dX7_addedUsage_38 : decode cX7_addedUsage 38 = .ok (.iload_n 3, 1) := by decide +kernel
theorem dX7_addedUsage_39 : decode cX7_addedUsage 39 = .ok (.isub, 1) := by decide +kernel
theorem dX7_addedUsage_40 : decode cX7_addedUsage 40 = .ok (.aload_n 0, 1) := by decide +kernel
theorem dX7_addedUsage_41 : decode cX7_addedUsage 41 = .ok (.getfield 15, 3) := by decide +kernel
theorem dX7_addedUsage_44 : decode cX7_addedUsage 44 = .ok (.iload 4, 2) := by decide +kernel
theorem dX7_addedUsage_46 : decode cX7_addedUsage 46 = .ok (.iaload, 1) := by decide +kernel
theorem dX7_addedUsage_47 : decode cX7_addedUsage 47 = .ok (.imul, 1) := by decide +kernel
theorem dX7_addedUsage_48 : decode cX7_addedUsage 48 = .ok (.iadd, 1) := by decide +kernel
theorem dX7_addedUsage_49 : decode cX7_addedUsage 49 = .ok (.istore_n 2, 1) := by decide +kernel
theorem dX7_addedUsage_50 : decode cX7_addedUsage 50 = .ok (.iload 5, 2) := by decide +kernel
theorem dX7_addedUsage_52 : decode cX7_addedUsage 52 = .ok (.istore_n 3, 1) := by decide +kernel
theorem dX7_addedUsage_53 : decode cX7_addedUsage 53 = .ok (.iinc 4 1, 3) := by decide +kernel
theorem dX7_addedUsage_56 : decode cX7_addedUsage 56 = .ok (.goto (-49), 3) := by decide +kernel
theorem dX7_addedUsage_59 : decode cX7_addedUsage 59 = .ok (.iload_n 2, 1) := by decide +kernel
theorem dX7_addedUsage_60 : decode cX7_addedUsage 60 = .ok (.iload_n 1, 1) := by decide +kernel
theorem dX7_addedUsage_61 : decode cX7_addedUsage 61 = .ok (.iload_n 3, 1) := by decide +kernel
theorem dX7_addedUsage_62 : decode cX7_addedUsage 62 = .ok (.isub, 1) := by decide +kernel
theorem dX7_addedUsage_63 : decode cX7_addedUsage 63 = .ok (.aload_n 0, 1) := by decide +kernel
theorem dX7_addedUsage_64 : decode cX7_addedUsage 64 = .ok (.getfield 34, 3) := by decide +kernel
theorem dX7_addedUsage_67 : decode cX7_addedUsage 67 = .ok (.imul, 1) := by decide +kernel
theorem dX7_addedUsage_68 : decode cX7_addedUsage 68 = .ok (.iadd, 1) := by decide +kernel
theorem dX7_addedUsage_69 : decode cX7_addedUsage 69 = .ok (.ireturn, 1) := by decide +kernel
theorem dX7_mostUnits_0 : decode cX7_mostUnits 0 = .ok (.aload_n 0, 1) := by decide +kernel
theorem dX7_mostUnits_1 : decode cX7_mostUnits 1 = .ok (.getfield 37, 3) := by decide +kernel
theorem dX7_mostUnits_4 : decode cX7_mostUnits 4 = .ok (.ifCond .eq 11, 3) := by decide +kernel
theorem dX7_mostUnits_7 : decode cX7_mostUnits 7 = .ok (.aload_n 0, 1) := by decide +kernel
theorem dX7_mostUnits_8 : decode cX7_mostUnits 8 = .ok (.iload_n 1, 1) := by decide +kernel
theorem dX7_mostUnits_9 : decode cX7_mostUnits 9 = .ok (.invokevirtual 69, 3) := by decide +kernel
theorem dX7_mostUnits_12 : decode cX7_mostUnits 12 = .ok (.goto 8, 3) := by decide +kernel
theorem dX7_mostUnits_15 : decode cX7_mostUnits 15 = .ok (.aload_n 0, 1) := by decide +kernel
theorem dX7_mostUnits_16 : decode cX7_mostUnits 16 = .ok (.iload_n 1, 1) := by decide +kernel
theorem dX7_mostUnits_17 : decode cX7_mostUnits 17 = .ok (.invokevirtual 72, 3) := by decide +kernel
theorem dX7_mostUnits_20 : decode cX7_mostUnits 20 = .ok (.istore_n 2, 1) := by decide +kernel
theorem dX7_mostUnits_21 : decode cX7_mostUnits 21 = .ok (.sipush 9999, 3) := by decide +kernel
theorem dX7_mostUnits_24 : decode cX7_mostUnits 24 = .ok (.aload_n 0, 1) := by decide +kernel
theorem dX7_mostUnits_25 : decode cX7_mostUnits 25 = .ok (.getfield 28, 3) := by decide +kernel
theorem dX7_mostUnits_28 : decode cX7_mostUnits 28 = .ok (.iload_n 2, 1) := by decide +kernel
theorem dX7_mostUnits_29 : decode cX7_mostUnits 29 = .ok (.iadd, 1) := by decide +kernel
theorem dX7_mostUnits_30 : decode cX7_mostUnits 30 = .ok (.invokestatic 66, 3) := by decide +kernel
theorem dX7_mostUnits_33 : decode cX7_mostUnits 33 = .ok (.ireturn, 1) := by decide +kernel
theorem dX7_mostWhole_0 : decode cX7_mostWhole 0 = .ok (.iconst 0, 1) := by decide +kernel
theorem dX7_mostWhole_1 : decode cX7_mostWhole 1 = .ok (.istore_n 2, 1) := by decide +kernel
theorem dX7_mostWhole_2 : decode cX7_mostWhole 2 = .ok (.iconst 0, 1) := by decide +kernel
theorem dX7_mostWhole_3 : decode cX7_mostWhole 3 = .ok (.istore_n 3, 1) := by decide +kernel
theorem dX7_mostWhole_4 : decode cX7_mostWhole 4 = .ok (.iload_n 3, 1) := by decide +kernel
theorem dX7_mostWhole_5 : decode cX7_mostWhole 5 = .ok (.aload_n 0, 1) := by decide +kernel
theorem dX7_mostWhole_6 : decode cX7_mostWhole 6 = .ok (.getfield 31, 3) := by decide +kernel
theorem dX7_mostWhole_9 : decode cX7_mostWhole 9 = .ok (.if_icmp .ge 60, 3) := by decide +kernel
theorem dX7_mostWhole_12 : decode cX7_mostWhole 12 = .ok (.iload_n 3, 1) := by decide +kernel
theorem dX7_mostWhole_13 : decode cX7_mostWhole 13 = .ok (.iconst 4, 1) := by decide +kernel
theorem dX7_mostWhole_14 : decode cX7_mostWhole 14 = .ok (.if_icmp .ge 55, 3) := by decide +kernel
theorem dX7_mostWhole_17 : decode cX7_mostWhole 17 = .ok (.aload_n 0, 1) := by decide +kernel
theorem dX7_mostWhole_18 : decode cX7_mostWhole 18 = .ok (.getfield 15, 3) := by decide +kernel
theorem dX7_mostWhole_21 : decode cX7_mostWhole 21 = .ok (.iload_n 3, 1) := by decide +kernel
theorem dX7_mostWhole_22 : decode cX7_mostWhole 22 = .ok (.iaload, 1) := by decide +kernel
theorem dX7_mostWhole_23 : decode cX7_mostWhole 23 = .ok (.ifCond .le 33, 3) := by decide +kernel
theorem dX7_mostWhole_26 : decode cX7_mostWhole 26 = .ok (.aload_n 0, 1) := by decide +kernel
theorem dX7_mostWhole_27 : decode cX7_mostWhole 27 = .ok (.getfield 11, 3) := by decide +kernel
theorem dX7_mostWhole_30 : decode cX7_mostWhole 30 = .ok (.iload_n 3, 1) := by decide +kernel
theorem dX7_mostWhole_31 : decode cX7_mostWhole 31 = .ok (.iaload, 1) := by decide +kernel
theorem dX7_mostWhole_32 : decode cX7_mostWhole 32 = .ok (.aload_n 0, 1) := by decide +kernel
theorem dX7_mostWhole_33 : decode cX7_mostWhole 33 = .ok (.getfield 15, 3) := by decide +kernel
theorem dX7_mostWhole_36 : decode cX7_mostWhole 36 = .ok (.iload_n 3, 1) := by decide +kernel
theorem dX7_mostWhole_37 : decode cX7_mostWhole 37 = .ok (.iaload, 1) := by decide +kernel
theorem dX7_mostWhole_38 : decode cX7_mostWhole 38 = .ok (.imul, 1) := by decide +kernel
theorem dX7_mostWhole_39 : decode cX7_mostWhole 39 = .ok (.iload_n 1, 1) := by decide +kernel
theorem dX7_mostWhole_40 : decode cX7_mostWhole 40 = .ok (.if_icmp .le 16, 3) := by decide +kernel
theorem dX7_mostWhole_43 : decode cX7_mostWhole 43 = .ok (.iload_n 2, 1) := by decide +kernel
theorem dX7_mostWhole_44 : decode cX7_mostWhole 44 = .ok (.iload_n 1, 1) := by decide +kernel
theorem dX7_mostWhole_45 : decode cX7_mostWhole 45 = .ok (.aload_n 0, 1) := by decide +kernel
theorem dX7_mostWhole_46 : decode cX7_mostWhole 46 = .ok (.getfield 15, 3) := by decide +kernel
theorem dX7_mostWhole_49 : decode cX7_mostWhole 49 = .ok (.iload_n 3, 1) := by decide +kernel
theorem dX7_mostWhole_50 : decode cX7_mostWhole 50 = .ok (.iaload, 1) := by decide +kernel
theorem dX7_mostWhole_51 : decode cX7_mostWhole 51 = .ok (.idiv, 1) := by decide +kernel
theorem dX7_mostWhole_52 : decode cX7_mostWhole 52 = .ok (.invokestatic 53, 3) := by decide +kernel
theorem dX7_mostWhole_55 : decode cX7_mostWhole 55 = .ok (.ireturn, 1) := by decide +kernel
theorem dX7_mostWhole_56 : decode cX7_mostWhole 56 = .ok (.aload_n 0, 1) := by decide +kernel
theorem dX7_mostWhole_57 : decode cX7_mostWhole 57 = .ok (.getfield 11, 3) := by decide +kernel
theorem dX7_mostWhole_60 : decode cX7_mostWhole 60 = .ok (.iload_n 3, 1) := by decide +kernel
theorem dX7_mostWhole_61 : decode cX7_mostWhole 61 = .ok (.iaload, 1) := by decide +kernel
theorem dX7_mostWhole_62 : decode cX7_mostWhole 62 = .ok (.istore_n 2, 1) := by decide +kernel
theorem dX7_mostWhole_63 : decode cX7_mostWhole 63 = .ok (.iinc 3 1, 3) := by decide +kernel
theorem dX7_mostWhole_66 : decode cX7_mostWhole 66 = .ok (.goto (-62), 3) := by decide +kernel
theorem dX7_mostWhole_69 : decode cX7_mostWhole 69 = .ok (.aload_n 0, 1) := by decide +kernel
theorem dX7_mostWhole_70 : decode cX7_mostWhole 70 = .ok (.getfield 34, 3) := by decide +kernel
theorem dX7_mostWhole_73 : decode cX7_mostWhole 73 = .ok (.ifCond .le 16, 3) := by decide +kernel
theorem dX7_mostWhole_76 : decode cX7_mostWhole 76 = .ok (.iload_n 2, 1) := by decide +kernel
theorem dX7_mostWhole_77 : decode cX7_mostWhole 77 = .ok (.iload_n 1, 1) := by decide +kernel
theorem dX7_mostWhole_78 : decode cX7_mostWhole 78 = .ok (.aload_n 0, 1) := by decide +kernel
theorem dX7_mostWhole_79 : decode cX7_mostWhole 79 = .ok (.getfield 34, 3) := by decide +kernel
theorem dX7_mostWhole_82 : decode cX7_mostWhole 82 = .ok (.idiv, 1) := by decide +kernel
theorem dX7_mostWhole_83 : decode cX7_mostWhole 83 = .ok (.invokestatic 53, 3) := by decide +kernel
theorem dX7_mostWhole_86 : decode cX7_mostWhole 86 = .ok (.goto 6, 3) := by decide +kernel
theorem dX7_mostWhole_89 : decode cX7_mostWhole 89 = .ok (.sipush 9999, 3) := by decide +kernel
theorem dX7_mostWhole_92 : decode cX7_mostWhole 92 = .ok (.ireturn, 1) := by decide +kernel
theorem dX7_mostAdded_0 : decode cX7_mostAdded 0 = .ok (.iconst 0, 1) := by decide +kernel
theorem dX7_mostAdded_1 : decode cX7_mostAdded 1 = .ok (.istore_n 2, 1) := by decide +kernel
theorem dX7_mostAdded_2 : decode cX7_mostAdded 2 = .ok (.iload_n 1, 1) := by decide +kernel
theorem dX7_mostAdded_3 : decode cX7_mostAdded 3 = .ok (.istore_n 3, 1) := by decide +kernel
theorem dX7_mostAdded_4 : decode cX7_mostAdded 4 = .ok (.iconst 0, 1) := by decide +kernel
theorem dX7_mostAdded_5 : decode cX7_mostAdded 5 = .ok (.istore 4, 2) := by decide +kernel
theorem dX7_mostAdded_7 : decode cX7_mostAdded 7 = .ok (.iload 4, 2) := by decide +kernel
theorem dX7_mostAdded_9 : decode cX7_mostAdded 9 = .ok (.aload_n 0, 1) := by decide +kernel
theorem dX7_mostAdded_10 : decode cX7_mostAdded 10 = .ok (.getfield 31, 3) := by decide +kernel
theorem dX7_mostAdded_13 : decode cX7_mostAdded 13 = .ok (.if_icmp .ge 75, 3) := by decide +kernel
theorem dX7_mostAdded_16 : decode cX7_mostAdded 16 = .ok (.iload 4, 2) := by decide +kernel
theorem dX7_mostAdded_18 : decode cX7_mostAdded 18 = .ok (.iconst 4, 1) := by decide +kernel
theorem dX7_mostAdded_19 : decode cX7_mostAdded 19 = .ok (.if_icmp .ge 69, 3) := by decide +kernel
theorem dX7_mostAdded_22 : decode cX7_mostAdded 22 = .ok (.aload_n 0, 1) := by decide +kernel
theorem dX7_mostAdded_23 : decode cX7_mostAdded 23 = .ok (.getfield 11, 3) := by decide +kernel
theorem dX7_mostAdded_26 : decode cX7_mostAdded 26 = .ok (.iload 4, 2) := by decide +kernel
theorem dX7_mostAdded_28 : decode cX7_mostAdded 28 = .ok (.iaload, 1) := by decide +kernel
theorem dX7_mostAdded_29 : decode cX7_mostAdded 29 = .ok (.iload_n 2, 1) := by decide +kernel
theorem dX7_mostAdded_30 : decode cX7_mostAdded 30 = .ok (.isub, 1) := by decide +kernel
theorem dX7_mostAdded_31 : decode cX7_mostAdded 31 = .ok (.aload_n 0, 1) := by decide +kernel
theorem dX7_mostAdded_32 : decode cX7_mostAdded 32 = .ok (.getfield 15, 3) := by decide +kernel
theorem dX7_mostAdded_35 : decode cX7_mostAdded 35 = .ok (.iload 4, 2) := by decide +kernel
theorem dX7_mostAdded_37 : decode cX7_mostAdded 37 = .ok (.iaload, 1) := by decide +kernel
theorem dX7_mostAdded_38 : decode cX7_mostAdded 38 = .ok (.imul, 1) := by decide +kernel
theorem dX7_mostAdded_39 : decode cX7_mostAdded 39 = .ok (.istore 5, 2) := by decide +kernel
theorem dX7_mostAdded_41 : decode cX7_mostAdded 41 = .ok (.aload_n 0, 1) := by decide +kernel
theorem dX7_mostAdded_42 : decode cX7_mostAdded 42 = .ok (.getfield 15, 3) := by decide +kernel
theorem dX7_mostAdded_45 : decode cX7_mostAdded 45 = .ok (.iload 4, 2) := by decide +kernel
theorem dX7_mostAdded_47 : decode cX7_mostAdded 47 = .ok (.iaload, 1) := by decide +kernel
theorem dX7_mostAdded_48 : decode cX7_mostAdded 48 = .ok (.ifCond .le 21, 3) := by decide +kernel
theorem dX7_mostAdded_51 : decode cX7_mostAdded 51 = .ok (.iload 5, 2) := by decide +kernel
theorem dX7_mostAdded_53 : decode cX7_mostAdded 53 = .ok (.iload_n 3, 1) := by decide +kernel
theorem dX7_mostAdded_54 : decode cX7_mostAdded 54 = .ok (.if_icmp .le 15, 3) := by decide +kernel
theorem dX7_mostAdded_57 : decode cX7_mostAdded 57 = .ok (.iload_n 2, 1) := by decide +kernel
theorem dX7_mostAdded_58 : decode cX7_mostAdded 58 = .ok (.iload_n 3, 1) := by decide +kernel
theorem dX7_mostAdded_59 : decode cX7_mostAdded 59 = .ok (.aload_n 0, 1) := by decide +kernel
theorem dX7_mostAdded_60 : decode cX7_mostAdded 60 = .ok (.getfield 15, 3) := by decide +kernel
theorem dX7_mostAdded_63 : decode cX7_mostAdded 63 = .ok (.iload 4, 2) := by decide +kernel
theorem dX7_mostAdded_65 : decode cX7_mostAdded 65 = .ok (.iaload, 1) := by decide +kernel
theorem dX7_mostAdded_66 : decode cX7_mostAdded 66 = .ok (.idiv, 1) := by decide +kernel
theorem dX7_mostAdded_67 : decode cX7_mostAdded 67 = .ok (.iadd, 1) := by decide +kernel
theorem dX7_mostAdded_68 : decode cX7_mostAdded 68 = .ok (.ireturn, 1) := by decide +kernel
theorem dX7_mostAdded_69 : decode cX7_mostAdded 69 = .ok (.iload_n 3, 1) := by decide +kernel
theorem dX7_mostAdded_70 : decode cX7_mostAdded 70 = .ok (.iload 5, 2) := by decide +kernel
theorem dX7_mostAdded_72 : decode cX7_mostAdded 72 = .ok (.isub, 1) := by decide +kernel
theorem dX7_mostAdded_73 : decode cX7_mostAdded 73 = .ok (.istore_n 3, 1) := by decide +kernel
theorem dX7_mostAdded_74 : decode cX7_mostAdded 74 = .ok (.aload_n 0, 1) := by decide +kernel
theorem dX7_mostAdded_75 : decode cX7_mostAdded 75 = .ok (.getfield 11, 3) := by decide +kernel
theorem dX7_mostAdded_78 : decode cX7_mostAdded 78 = .ok (.iload 4, 2) := by decide +kernel
theorem dX7_mostAdded_80 : decode cX7_mostAdded 80 = .ok (.iaload, 1) := by decide +kernel
theorem dX7_mostAdded_81 : decode cX7_mostAdded 81 = .ok (.istore_n 2, 1) := by decide +kernel
theorem dX7_mostAdded_82 : decode cX7_mostAdded 82 = .ok (.iinc 4 1, 3) := by decide +kernel
theorem dX7_mostAdded_85 : decode cX7_mostAdded 85 = .ok (.goto (-78), 3) := by decide +kernel
theorem dX7_mostAdded_88 : decode cX7_mostAdded 88 = .ok (.aload_n 0, 1) := by decide +kernel
theorem dX7_mostAdded_89 : decode cX7_mostAdded 89 = .ok (.getfield 34, 3) := by decide +kernel
theorem dX7_mostAdded_92 : decode cX7_mostAdded 92 = .ok (.ifCond .le 14, 3) := by decide +kernel
theorem dX7_mostAdded_95 : decode cX7_mostAdded 95 = .ok (.iload_n 2, 1) := by decide +kernel
theorem dX7_mostAdded_96 : decode cX7_mostAdded 96 = .ok (.iload_n 3, 1) := by decide +kernel
theorem dX7_mostAdded_97 : decode cX7_mostAdded 97 = .ok (.aload_n 0, 1) := by decide +kernel
theorem dX7_mostAdded_98 : decode cX7_mostAdded 98 = .ok (.getfield 34, 3) := by decide +kernel
theorem dX7_mostAdded_101 : decode cX7_mostAdded 101 = .ok (.idiv, 1) := by decide +kernel
theorem dX7_mostAdded_102 : decode cX7_mostAdded 102 = .ok (.iadd, 1) := by decide +kernel
theorem dX7_mostAdded_103 : decode cX7_mostAdded 103 = .ok (.goto 6, 3) := by decide +kernel
theorem dX7_mostAdded_106 : decode cX7_mostAdded 106 = .ok (.sipush 9999, 3) := by decide +kernel
theorem dX7_mostAdded_109 : decode cX7_mostAdded 109 = .ok (.ireturn, 1) := by decide +kernel
theorem dX7_priceOf_0 : decode cX7_priceOf 0 = .ok (.iconst 0, 1) := by decide +kernel
theorem dX7_priceOf_1 : decode cX7_priceOf 1 = .ok (.istore_n 2, 1) := by decide +kernel
theorem dX7_priceOf_2 : decode cX7_priceOf 2 = .ok (.iconst 0, 1) := by decide +kernel
theorem dX7_priceOf_3 : decode cX7_priceOf 3 = .ok (.istore_n 3, 1) := by decide +kernel
theorem dX7_priceOf_4 : decode cX7_priceOf 4 = .ok (.iload_n 3, 1) := by decide +kernel
theorem dX7_priceOf_5 : decode cX7_priceOf 5 = .ok (.aload_n 0, 1) := by decide +kernel
theorem dX7_priceOf_6 : decode cX7_priceOf 6 = .ok (.getfield 44, 3) := by decide +kernel
theorem dX7_priceOf_9 : decode cX7_priceOf 9 = .ok (.if_icmp .ge 31, 3) := by decide +kernel
theorem dX7_priceOf_12 : decode cX7_priceOf 12 = .ok (.iload_n 3, 1) := by decide +kernel
theorem dX7_priceOf_13 : decode cX7_priceOf 13 = .ok (.iconst 3, 1) := by decide +kernel
theorem dX7_priceOf_14 : decode cX7_priceOf 14 = .ok (.if_icmp .ge 26, 3) := by decide +kernel
theorem dX7_priceOf_17 : decode cX7_priceOf 17 = .ok (.aload_n 0, 1) := by decide +kernel
theorem dX7_priceOf_18 : decode cX7_priceOf 18 = .ok (.getfield 18, 3) := by decide +kernel
theorem dX7_priceOf_21 : decode cX7_priceOf 21 = .ok (.iload_n 3, 1) := by decide +kernel
theorem dX7_priceOf_22 : decode cX7_priceOf 22 = .ok (.iaload, 1) := by decide +kernel
theorem dX7_priceOf_23 : decode cX7_priceOf 23 = .ok (.iload_n 1, 1) := by decide +kernel
theorem dX7_priceOf_24 : decode cX7_priceOf 24 = .ok (.if_icmp .gt 10, 3) := by decide +kernel
theorem dX7_priceOf_27 : decode cX7_priceOf 27 = .ok (.aload_n 0, 1) := by decide +kernel
theorem dX7_priceOf_28 : decode cX7_priceOf 28 = .ok (.getfield 21, 3) := by decide +kernel
theorem dX7_priceOf_31 : decode cX7_priceOf 31 = .ok (.iload_n 3, 1) := by decide +kernel
theorem dX7_priceOf_32 : decode cX7_priceOf 32 = .ok (.iaload, 1) := by decide +kernel
theorem dX7_priceOf_33 : decode cX7_priceOf 33 = .ok (.istore_n 2, 1) := by decide +kernel
theorem dX7_priceOf_34 : decode cX7_priceOf 34 = .ok (.iinc 3 1, 3) := by decide +kernel
theorem dX7_priceOf_37 : decode cX7_priceOf 37 = .ok (.goto (-33), 3) := by decide +kernel
theorem dX7_priceOf_40 : decode cX7_priceOf 40 = .ok (.aload_n 0, 1) := by decide +kernel
theorem dX7_priceOf_41 : decode cX7_priceOf 41 = .ok (.getfield 24, 3) := by decide +kernel
theorem dX7_priceOf_44 : decode cX7_priceOf 44 = .ok (.iload_n 1, 1) := by decide +kernel
theorem dX7_priceOf_45 : decode cX7_priceOf 45 = .ok (.imul, 1) := by decide +kernel
theorem dX7_priceOf_46 : decode cX7_priceOf 46 = .ok (.istore_n 3, 1) := by decide +kernel
theorem dX7_priceOf_47 : decode cX7_priceOf 47 = .ok (.iload_n 3, 1) := by decide +kernel
theorem dX7_priceOf_48 : decode cX7_priceOf 48 = .ok (.iload_n 3, 1) := by decide +kernel
theorem dX7_priceOf_49 : decode cX7_priceOf 49 = .ok (.iload_n 2, 1) := by decide +kernel
theorem dX7_priceOf_50 : decode cX7_priceOf 50 = .ok (.imul, 1) := by decide +kernel
theorem dX7_priceOf_51 : decode cX7_priceOf 51 = .ok (.bipush 100, 2) := by decide +kernel
theorem dX7_priceOf_53 : decode cX7_priceOf 53 = .ok (.idiv, 1) := by decide +kernel
theorem dX7_priceOf_54 : decode cX7_priceOf 54 = .ok (.isub, 1) := by decide +kernel
theorem dX7_priceOf_55 : decode cX7_priceOf 55 = .ok (.ireturn, 1) := by decide +kernel
theorem dX7_tell_0 : decode cX7_tell 0 = .ok (.iload_n 1, 1) := by decide +kernel
theorem dX7_tell_1 : decode cX7_tell 1 = .ok (.tableswitch 289 0 42 #[187, 192, 197, 202, 207, 220, 289, 289, 289, 289, 225, 225, 225, 225, 289, 289, 289, 289, 289, 289, 241, 241, 241, 241, 289, 289, 289, 289, 289, 289, 257, 257, 257, 289, 289, 289, 289, 289, 289, 289, 273, 273, 273], 187) := by decide +kernel
theorem dX7_tell_188 : decode cX7_tell 188 = .ok (.aload_n 0, 1) := by decide +kernel
theorem dX7_tell_189 : decode cX7_tell 189 = .ok (.getfield 24, 3) := by decide +kernel
theorem dX7_tell_192 : decode cX7_tell 192 = .ok (.ireturn, 1) := by decide +kernel
theorem dX7_tell_193 : decode cX7_tell 193 = .ok (.aload_n 0, 1) := by decide +kernel
theorem dX7_tell_194 : decode cX7_tell 194 = .ok (.getfield 28, 3) := by decide +kernel
theorem dX7_tell_197 : decode cX7_tell 197 = .ok (.ireturn, 1) := by decide +kernel
theorem dX7_tell_198 : decode cX7_tell 198 = .ok (.aload_n 0, 1) := by decide +kernel
theorem dX7_tell_199 : decode cX7_tell 199 = .ok (.getfield 31, 3) := by decide +kernel
theorem dX7_tell_202 : decode cX7_tell 202 = .ok (.ireturn, 1) := by decide +kernel
theorem dX7_tell_203 : decode cX7_tell 203 = .ok (.aload_n 0, 1) := by decide +kernel
theorem dX7_tell_204 : decode cX7_tell 204 = .ok (.getfield 34, 3) := by decide +kernel
theorem dX7_tell_207 : decode cX7_tell 207 = .ok (.ireturn, 1) := by decide +kernel
theorem dX7_tell_208 : decode cX7_tell 208 = .ok (.aload_n 0, 1) := by decide +kernel
theorem dX7_tell_209 : decode cX7_tell 209 = .ok (.getfield 37, 3) := by decide +kernel
theorem dX7_tell_212 : decode cX7_tell 212 = .ok (.ifCond .eq 7, 3) := by decide +kernel
theorem dX7_tell_215 : decode cX7_tell 215 = .ok (.iconst 1, 1) := by decide +kernel
theorem dX7_tell_216 : decode cX7_tell 216 = .ok (.goto 4, 3) := by decide +kernel
theorem dX7_tell_219 : decode cX7_tell 219 = .ok (.iconst 0, 1) := by decide +kernel
theorem dX7_tell_220 : decode cX7_tell 220 = .ok (.ireturn, 1) := by decide +kernel
theorem dX7_tell_221 : decode cX7_tell 221 = .ok (.aload_n 0, 1) := by decide +kernel
theorem dX7_tell_222 : decode cX7_tell 222 = .ok (.getfield 41, 3) := by decide +kernel
theorem dX7_tell_225 : decode cX7_tell 225 = .ok (.ireturn, 1) := by decide +kernel
theorem dX7_tell_226 : decode cX7_tell 226 = .ok (.aload_n 0, 1) := by decide +kernel
theorem dX7_tell_227 : decode cX7_tell 227 = .ok (.getfield 11, 3) := by decide +kernel
theorem dX7_tell_230 : decode cX7_tell 230 = .ok (.aload_n 0, 1) := by decide +kernel
theorem dX7_tell_231 : decode cX7_tell 231 = .ok (.getfield 31, 3) := by decide +kernel
theorem dX7_tell_234 : decode cX7_tell 234 = .ok (.iload_n 1, 1) := by decide +kernel
theorem dX7_tell_235 : decode cX7_tell 235 = .ok (.bipush 10, 2) := by decide +kernel
theorem dX7_tell_237 : decode cX7_tell 237 = .ok (.isub, 1) := by decide +kernel
theorem dX7_tell_238 : decode cX7_tell 238 = .ok (.invokestatic 75, 3) := by decide +kernel
theorem dX7_tell_241 : decode cX7_tell 241 = .ok (.ireturn, 1) := by decide +kernel
theorem dX7_tell_242 : decode cX7_tell 242 = .ok (.aload_n 0, 1) := by decide +kernel
theorem dX7_tell_243 : decode cX7_tell 243 = .ok (.getfield 15, 3) := by decide +kernel
theorem dX7_tell_246 : decode cX7_tell 246 = .ok (.aload_n 0, 1) := by decide +kernel
theorem dX7_tell_247 : decode cX7_tell 247 = .ok (.getfield 31, 3) := by decide +kernel
theorem dX7_tell_250 : decode cX7_tell 250 = .ok (.iload_n 1, 1) := by decide +kernel
theorem dX7_tell_251 : decode cX7_tell 251 = .ok (.bipush 20, 2) := by decide +kernel
theorem dX7_tell_253 : decode cX7_tell 253 = .ok (.isub, 1) := by decide +kernel
theorem dX7_tell_254 : decode cX7_tell 254 = .ok (.invokestatic 75, 3) := by decide +kernel
theorem dX7_tell_257 : decode cX7_tell 257 = .ok (.ireturn, 1) := by decide +kernel
theorem dX7_tell_258 : decode cX7_tell 258 = .ok (.aload_n 0, 1) := by decide +kernel
theorem dX7_tell_259 : decode cX7_tell 259 = .ok (.getfield 18, 3) := by decide +kernel
theorem dX7_tell_262 : decode cX7_tell 262 = .ok (.aload_n 0, 1) := by decide +kernel
theorem dX7_tell_263 : decode cX7_tell 263 = .ok (.getfield 44, 3) := by decide +kernel
theorem dX7_tell_266 : decode cX7_tell 266 = .ok (.iload_n 1, 1) := by decide +kernel
theorem dX7_tell_267 : decode cX7_tell 267 = .ok (.bipush 30, 2) := by decide +kernel
theorem dX7_tell_269 : decode cX7_tell 269 = .ok (.isub, 1) := by decide +kernel
theorem dX7_tell_270 : decode cX7_tell 270 = .ok (.invokestatic 75, 3) := by decide +kernel
theorem dX7_tell_273 : decode cX7_tell 273 = .ok (.ireturn, 1) := by decide +kernel
theorem dX7_tell_274 : decode cX7_tell 274 = .ok (.aload_n 0, 1) := by decide +kernel
theorem dX7_tell_275 : decode cX7_tell 275 = .ok (.getfield 21, 3) := by decide +kernel
theorem dX7_tell_278 : decode cX7_tell 278 = .ok (.aload_n 0, 1) := by decide +kernel
theorem dX7_tell_279 : decode cX7_tell 279 = .ok (.getfield 44, 3) := by decide +kernel
theorem dX7_tell_282 : decode cX7_tell 282 = .ok (.iload_n 1, 1) := by decide +kernel
theorem dX7_tell_283 : decode cX7_tell 283 = .ok (.bipush 40, 2) := by decide +kernel
theorem dX7_tell_285 : decode cX7_tell 285 = .ok (.isub, 1) := by decide +kernel
theorem dX7_tell_286 : decode cX7_tell 286 = .ok (.invokestatic 75, 3) := by decide +kernel
theorem dX7_tell_289 : decode cX7_tell 289 = .ok (.ireturn, 1) := by decide +kernel
theorem dX7_tell_290 : decode cX7_tell 290 = .ok (.iconst (-1), 1) := by decide +kernel
theorem dX7_tell_291 : decode cX7_tell 291 = .ok (.ireturn, 1) := by decide +kernel
theorem dX8_init_0 : decode cX8_init 0 = .ok (.aload_n 0, 1) := by decide +kernel
theorem dX8_init_1 : decode cX8_init 1 = .ok (.invokespecial 3, 3) := by decide +kernel
theorem dX8_init_4 : decode cX8_init 4 = .ok (.aload_n 0, 1) := by decide +kernel
theorem dX8_init_5 : decode cX8_init 5 = .ok (.aload_n 1, 1) := by decide +kernel
theorem dX8_init_6 : decode cX8_init 6 = .ok (.putfield 9, 3) := by decide +kernel
theorem dX8_init_9 : decode cX8_init 9 = .ok (.return_, 1) := by decide +kernel
theorem dX8_start_0 : decode cX8_start 0 = .ok (.aload_n 0, 1) := by decide +kernel
theorem dX8_start_1 : decode cX8_start 1 = .ok (.iconst 0, 1) := by decide +kernel
theorem dX8_start_2 : decode cX8_start 2 = .ok (.iload_n 1, 1) := by decide +kernel
theorem dX8_start_3 : decode cX8_start 3 = .ok (.aload_n 0, 1) := by decide +kernel
theorem dX8_start_4 : decode cX8_start 4 = .ok (.getfield 9, 3) := by decide +kernel
theorem dX8_start_7 : decode cX8_start 7 = .ok (.arraylength, 1) := by decide +kernel
theorem dX8_start_8 : decode cX8_start 8 = .ok (.invokestatic 15, 3) := by decide +kernel
theorem dX8_start_11 : decode cX8_start 11 = .ok (.invokestatic 21, 3) := by decide +kernel
theorem dX8_start_14 : decode cX8_start 14 = .ok (.putfield 24, 3) := by decide +kernel
theorem dX8_start_17 : decode cX8_start 17 = .ok (.aload_n 0, 1) := by decide +kernel
theorem dX8_start_18 : decode cX8_start 18 = .ok (.iconst 0, 1) := by decide +kernel
theorem dX8_start_19 : decode cX8_start 19 = .ok (.putfield 28, 3) := by decide +kernel
theorem dX8_start_22 : decode cX8_start 22 = .ok (.aload_n 0, 1) := by decide +kernel
theorem dX8_start_23 : decode cX8_start 23 = .ok (.iconst 0, 1) := by decide +kernel
theorem dX8_start_24 : decode cX8_start 24 = .ok (.putfield 31, 3) := by decide +kernel
theorem dX8_start_27 : decode cX8_start 27 = .ok (.aload_n 0, 1) := by decide +kernel
theorem dX8_start_28 : decode cX8_start 28 = .ok (.iconst 0, 1) := by decide +kernel
theorem dX8_start_29 : decode cX8_start 29 = .ok (.putfield 34, 3) := by decide +kernel
theorem dX8_start_32 : decode cX8_start 32 = .ok (.return_, 1) := by decide +kernel
theorem dX8_isSound_0 : decode cX8_isSound 0 = .ok (.aload_n 0, 1) := by decide +kernel
theorem dX8_isSound_1 : decode cX8_isSound 1 = .ok (.getfield 31, 3) := by decide +kernel
theorem dX8_isSound_4 : decode cX8_isSound 4 = .ok (.ifCond .ne 7, 3) := by decide +kernel
theorem dX8_isSound_7 : decode cX8_isSound 7 = .ok (.iconst 1, 1) := by decide +kernel
theorem dX8_isSound_8 : decode cX8_isSound 8 = .ok (.goto 4, 3) := by decide +kernel
theorem dX8_isSound_11 : decode cX8_isSound 11 = .ok (.iconst 0, 1) := by decide +kernel
theorem dX8_isSound_12 : decode cX8_isSound 12 = .ok (.ireturn, 1) := by decide +kernel
theorem dX8_faultAnswer_0 : decode cX8_faultAnswer 0 = .ok (.sipush (-1000), 3) := by decide +kernel
theorem dX8_faultAnswer_3 : decode cX8_faultAnswer 3 = .ok (.aload_n 0, 1) := by decide +kernel
theorem dX8_faultAnswer_4 : decode cX8_faultAnswer 4 = .ok (.getfield 31, 3) := by decide +kernel
theorem dX8_faultAnswer_7 : decode cX8_faultAnswer 7 = .ok (.imul, 1) := by decide +kernel
theorem dX8_faultAnswer_8 : decode cX8_faultAnswer 8 = .ok (.aload_n 0, 1) := by decide +kernel
theorem dX8_faultAnswer_9 : decode cX8_faultAnswer 9 = .ok (.getfield 34, 3) := by decide +kernel
theorem dX8_faultAnswer_12 : decode cX8_faultAnswer 12 = .ok (.isub, 1) := by decide +kernel
theorem dX8_faultAnswer_13 : decode cX8_faultAnswer 13 = .ok (.ireturn, 1) := by decide +kernel
theorem dX8_mark_0 : decode cX8_mark 0 = .ok (.aload_n 0, 1) := by decide +kernel
theorem dX8_mark_1 : decode cX8_mark 1 = .ok (.getfield 31, 3) := by decide +kernel
theorem dX8_mark_4 : decode cX8_mark 4 = .ok (.ifCond .ne 13, 3) := by decide +kernel
theorem dX8_mark_7 : decode cX8_mark 7 = .ok (.aload_n 0, 1) := by decide +kernel
theorem dX8_mark_8 : decode cX8_mark 8 = .ok (.iload_n 1, 1) := by decide +kernel
theorem dX8_mark_9 : decode cX8_mark 9 = .ok (.putfield 31, 3) := by decide +kernel
theorem dX8_mark_12 : decode cX8_mark 12 = .ok (.aload_n 0, 1) := by decide +kernel
theorem dX8_mark_13 : decode cX8_mark 13 = .ok (.iload_n 2, 1) := by decide +kernel
theorem dX8_mark_14 : decode cX8_mark 14 = .ok (.putfield 34, 3) := by decide +kernel
theorem dX8_mark_17 : decode cX8_mark 17 = .ok (.return_, 1) := by decide +kernel
theorem dX8_byteAt_0 : decode cX8_byteAt 0 = .ok (.iload_n 1, 1) := by decide +kernel
theorem dX8_byteAt_1 : decode cX8_byteAt 1 = .ok (.ifCond .lt 33, 3) := by decide +kernel
theorem dX8_byteAt_4 : decode cX8_byteAt 4 = .ok (.iload_n 1, 1) := by decide +kernel
theorem dX8_byteAt_5 : decode cX8_byteAt 5 = .ok (.aload_n 0, 1) := by decide +kernel
theorem dX8_byteAt_6 : decode cX8_byteAt 6 = .ok (.getfield 24, 3) := by decide +kernel
theorem dX8_byteAt_9 : decode cX8_byteAt 9 = .ok (.if_icmp .ge 25, 3) := by decide +kernel
theorem dX8_byteAt_12 : decode cX8_byteAt 12 = .ok (.iload_n 1, 1) := by decide +kernel
theorem dX8_byteAt_13 : decode cX8_byteAt 13 = .ok (.aload_n 0, 1) := by decide +kernel
theorem dX8_byteAt_14 : decode cX8_byteAt 14 = .ok (.getfield 9, 3) := by decide +kernel
theorem dX8_byteAt_17 : decode cX8_byteAt 17 = .ok (.arraylength, 1) := by decide +kernel
theorem dX8_byteAt_18 : decode cX8_byteAt 18 = .ok (.if_icmp .ge 16, 3) := by decide +kernel
theorem dX8_byteAt_21 : decode cX8_byteAt 21 = .ok (.aload_n 0, 1) := by decide +kernel
theorem dX8_byteAt_22 : decode cX8_byteAt 22 = .ok (.getfield 9, 3) := by decide +kernel
theorem dX8_byteAt_25 : decode cX8_byteAt 25 = .ok (.iload_n 1, 1) := by decide +kernel
theorem dX8_byteAt_26 : decode cX8_byteAt 26 = .ok (.baload, 1) := by decide +kernel
theorem dX8_byteAt_27 : decode cX8_byteAt 27 = .ok (.sipush 255, 3) := by decide +kernel
theorem dX8_byteAt_30 : decode cX8_byteAt 30 = .ok (.iand, 1) := by decide +kernel
theorem dX8_byteAt_31 : decode cX8_byteAt 31 = .ok (.goto 4, 3) := by decide +kernel
theorem dX8_byteAt_34 : decode cX8_byteAt 34 = .ok (.iconst (-1), 1) := by decide +kernel
theorem dX8_byteAt_35 : decode cX8_byteAt 35 = .ok (.ireturn, 1) := by decide +kernel
theorem dX8_blank_0 : decode cX8_blank 0 = .ok (.aload_n 0, 1) := by decide +kernel
theorem dX8_blank_1 : decode cX8_blank 1 = .ok (.getfield 31, 3) := by decide +kernel
theorem dX8_blank_4 : decode cX8_blank 4 = .ok (.ifCond .eq 4, 3) := by decide +kernel
theorem dX8_blank_7 : decode cX8_blank 7 = .ok (.return_, 1) := by decide +kernel
theorem dX8_blank_8 : decode cX8_blank 8 = .ok (.aload_n 0, 1) := by decide +kernel
theorem dX8_blank_9 : decode cX8_blank 9 = .ok (.aload_n 0, 1) := by decide +kernel
theorem dX8_blank_10 : decode cX8_blank 10 = .ok (.getfield 28, 3) := by decide +kernel
theorem dX8_blank_13 : decode cX8_blank 13 = .ok (.invokevirtual 37, 3) := by decide +kernel
theorem dX8_blank_16 : decode cX8_blank 16 = .ok (.bipush 32, 2) := by decide +kernel
theorem dX8_blank_18 : decode cX8_blank 18 = .ok (.if_icmp .ne 16, 3) := by decide +kernel
theorem dX8_blank_21 : decode cX8_blank 21 = .ok (.aload_n 0, 1) := by decide +kernel
theorem dX8_blank_22 : decode cX8_blank 22 = .ok (.dup, 1) := by decide +kernel
theorem dX8_blank_23 : decode cX8_blank 23 = .ok (.getfield 28, 3) := by decide +kernel
theorem dX8_blank_26 : decode cX8_blank 26 = .ok (.iconst 1, 1) := by decide +kernel
theorem dX8_blank_27 : decode cX8_blank 27 = .ok (.iadd, 1) := by decide +kernel
theorem dX8_blank_28 : decode cX8_blank 28 = .ok (.putfield 28, 3) := by decide +kernel
theorem dX8_blank_31 : decode cX8_blank 31 = .ok (.goto 12, 3) := by decide +kernel
theorem dX8_blank_34 : decode cX8_blank 34 = .ok (.aload_n 0, 1) := by decide +kernel
theorem dX8_blank_35 : decode cX8_blank 35 = .ok (.iconst 1, 1) := by decide +kernel
theorem dX8_blank_36 : decode cX8_blank 36 = .ok (.aload_n 0, 1) := by decide +kernel
theorem dX8_blank_37 : decode cX8_blank 37 = .ok (.getfield 28, 3) := by decide +kernel
theorem dX8_blank_40 : decode cX8_blank 40 = .ok (.invokevirtual 41, 3) := by decide +kernel
theorem dX8_blank_43 : decode cX8_blank 43 = .ok (.return_, 1) := by decide +kernel
theorem dX8_goesOn_0 : decode cX8_goesOn 0 = .ok (.aload_n 0, 1) := by decide +kernel
theorem dX8_goesOn_1 : decode cX8_goesOn 1 = .ok (.getfield 31, 3) := by decide +kernel
theorem dX8_goesOn_4 : decode cX8_goesOn 4 = .ok (.ifCond .ne 14, 3) := by decide +kernel
theorem dX8_goesOn_7 : decode cX8_goesOn 7 = .ok (.aload_n 0, 1) := by decide +kernel
theorem dX8_goesOn_8 : decode cX8_goesOn 8 = .ok (.getfield 28, 3) := by decide +kernel
theorem dX8_goesOn_11 : decode cX8_goesOn 11 = .ok (.aload_n 0, 1) := by decide +kernel
theorem dX8_goesOn_12 : decode cX8_goesOn 12 = .ok (.getfield 24, 3) := by decide +kernel
theorem dX8_goesOn_15 : decode cX8_goesOn 15 = .ok (.if_icmp .lt 5, 3) := by decide +kernel
theorem dX8_goesOn_18 : decode cX8_goesOn 18 = .ok (.iconst 0, 1) := by decide +kernel
theorem dX8_goesOn_19 : decode cX8_goesOn 19 = .ok (.ireturn, 1) := by decide +kernel
theorem dX8_goesOn_20 : decode cX8_goesOn 20 = .ok (.aload_n 0, 1) := by decide +kernel
theorem dX8_goesOn_21 : decode cX8_goesOn 21 = .ok (.aload_n 0, 1) := by decide +kernel
theorem dX8_goesOn_22 : decode cX8_goesOn 22 = .ok (.getfield 28, 3) := by decide +kernel
theorem dX8_goesOn_25 : decode cX8_goesOn 25 = .ok (.invokevirtual 37, 3) := by decide +kernel
theorem dX8_goesOn_28 : decode cX8_goesOn 28 = .ok (.bipush 59, 2) := by decide +kernel
theorem dX8_goesOn_30 : decode cX8_goesOn 30 = .ok (.if_icmp .ne 15, 3) := by decide +kernel
theorem dX8_goesOn_33 : decode cX8_goesOn 33 = .ok (.aload_n 0, 1) := by decide +kernel
theorem dX8_goesOn_34 : decode cX8_goesOn 34 = .ok (.dup, 1) := by decide +kernel
theorem dX8_goesOn_35 : decode cX8_goesOn 35 = .ok (.getfield 28, 3) := by decide +kernel
theorem dX8_goesOn_38 : decode cX8_goesOn 38 = .ok (.iconst 1, 1) := by decide +kernel
theorem dX8_goesOn_39 : decode cX8_goesOn 39 = .ok (.iadd, 1) := by decide +kernel
theorem dX8_goesOn_40 : decode cX8_goesOn 40 = .ok (.putfield 28, 3) := by decide +kernel
theorem dX8_goesOn_43 : decode cX8_goesOn 43 = .ok (.iconst 1, 1) := by decide +kernel
theorem dX8_goesOn_44 : decode cX8_goesOn 44 = .ok (.ireturn, 1) := by decide +kernel
theorem dX8_goesOn_45 : decode cX8_goesOn 45 = .ok (.aload_n 0, 1) := by decide +kernel
theorem dX8_goesOn_46 : decode cX8_goesOn 46 = .ok (.iconst 1, 1) := by decide +kernel
theorem dX8_goesOn_47 : decode cX8_goesOn 47 = .ok (.aload_n 0, 1) := by decide +kernel
theorem dX8_goesOn_48 : decode cX8_goesOn 48 = .ok (.getfield 28, 3) := by decide +kernel
theorem dX8_goesOn_51 : decode cX8_goesOn 51 = .ok (.invokevirtual 41, 3) := by decide +kernel
theorem dX8_goesOn_54 : decode cX8_goesOn 54 = .ok (.iconst 0, 1) := by decide +kernel
theorem dX8_goesOn_55 : decode cX8_goesOn 55 = .ok (.ireturn, 1) := by decide +kernel
theorem dX8_word_0 : decode cX8_word 0 = .ok (.aload_n 0, 1) := by decide +kernel
theorem dX8_word_1 : decode cX8_word 1 = .ok (.getfield 31, 3) := by decide +kernel
theorem dX8_word_4 : decode cX8_word 4 = .ok (.ifCond .eq 5, 3) := by decide +kernel
theorem dX8_word_7 : decode cX8_word 7 = .ok (.iconst (-1), 1) := by decide +kernel
theorem dX8_word_8 : decode cX8_word 8 = .ok (.ireturn, 1) := by decide +kernel
theorem dX8_word_9 : decode cX8_word 9 = .ok (.aload_n 0, 1) := by decide +kernel
theorem dX8_word_10 : decode cX8_word 10 = .ok (.getfield 28, 3) := by decide +kernel
theorem dX8_word_13 : decode cX8_word 13 = .ok (.istore_n 2, 1) := by decide +kernel
theorem dX8_word_14 : decode cX8_word 14 = .ok (.iload_n 2, 1) := by decide +kernel
theorem dX8_word_15 : decode cX8_word 15 = .ok (.aload_n 0, 1) := by decide +kernel
theorem dX8_word_16 : decode cX8_word 16 = .ok (.getfield 24, 3) := by decide +kernel
theorem dX8_word_19 : decode cX8_word 19 = .ok (.if_icmp .ge 29, 3) := by decide +kernel
theorem dX8_word_22 : decode cX8_word 22 = .ok (.aload_n 0, 1) := by decide +kernel
theorem dX8_word_23 : decode cX8_word 23 = .ok (.iload_n 2, 1) := by decide +kernel
theorem dX8_word_24 : decode cX8_word 24 = .ok (.invokevirtual 37, 3) := by decide +kernel
theorem dX8_word_27 : decode cX8_word 27 = .ok (.bipush 97, 2) := by decide +kernel
theorem dX8_word_29 : decode cX8_word 29 = .ok (.if_icmp .lt 19, 3) := by decide +kernel
theorem dX8_word_32 : decode cX8_word 32 = .ok (.aload_n 0, 1) := by decide +kernel
theorem dX8_word_33 : decode cX8_word 33 = .ok (.iload_n 2, 1) := by decide +kernel
theorem dX8_word_34 : decode cX8_word 34 = .ok (.invokevirtual 37, 3) := by decide +kernel
theorem dX8_word_37 : decode cX8_word 37 = .ok (.bipush 122, 2) := by decide +kernel
theorem dX8_word_39 : decode cX8_word 39 = .ok (.if_icmp .gt 9, 3) := by decide +kernel
theorem dX8_word_42 : decode cX8_word 42 = .ok (.iinc 2 1, 3) := by decide +kernel
theorem dX8_word_45 : decode cX8_word 45 = .ok (.goto (-31), 3) := by decide +kernel
theorem dX8_word_48 : decode cX8_word 48 = .ok (.iconst 0, 1) := by decide +kernel
theorem dX8_word_49 : decode cX8_word 49 = .ok (.istore_n 3, 1) := by decide +kernel
theorem dX8_word_50 : decode cX8_word 50 = .ok (.iconst 0, 1) := by decide +kernel
theorem dX8_word_51 : decode cX8_word 51 = .ok (.istore 4, 2) := by decide +kernel
theorem dX8_word_53 : decode cX8_word 53 = .ok (.iconst 0, 1) := by decide +kernel
theorem dX8_word_54 : decode cX8_word 54 = .ok (.istore 5, 2) := by decide +kernel
theorem dX8_word_56 : decode cX8_word 56 = .ok (.iload 5, 2) := by decide +kernel
theorem dX8_word_58 : decode cX8_word 58 = .ok (.aload_n 1, 1) := by decide +kernel
theorem dX8_word_59 : decode cX8_word 59 = .ok (.invokevirtual 45, 3) := by decide +kernel
theorem dX8_word_62 : decode cX8_word 62 = .ok (.if_icmp .gt 69, 3) := by decide +kernel
theorem dX8_word_65 : decode cX8_word 65 = .ok (.iload 5, 2) := by decide +kernel
theorem dX8_word_67 : decode cX8_word 67 = .ok (.aload_n 1, 1) := by decide +kernel
theorem dX8_word_68 : decode cX8_word 68 = .ok (.invokevirtual 45, 3) := by decide +kernel
theorem dX8_word_71 : decode cX8_word 71 = .ok (.if_icmp .eq 14, 3) := by decide +kernel
theorem dX8_word_74 : decode cX8_word 74 = .ok (.aload_n 1, 1) := by decide +kernel
theorem dX8_word_75 : decode cX8_word 75 = .ok (.iload 5, 2) := by decide +kernel
theorem dX8_word_77 : decode cX8_word 77 = .ok (.invokevirtual 50, 3) := by decide +kernel
theorem dX8_word_80 : decode cX8_word 80 = .ok (.bipush 32, 2) := by decide +kernel
theorem dX8_word_82 : decode cX8_word 82 = .ok (.if_icmp .ne 43, 3) := by decide +kernel
theorem dX8_word_85 : decode cX8_word 85 = .ok (.iload 5, 2) := by decide +kernel
theorem dX8_word_87 : decode cX8_word 87 = .ok (.iload_n 3, 1) := by decide +kernel
theorem dX8_word_88 : decode cX8_word 88 = .ok (.isub, 1) := by decide +kernel
theorem dX8_word_89 : decode cX8_word 89 = .ok (.iload_n 2, 1) := by decide +kernel
theorem dX8_word_90 : decode cX8_word 90 = .ok (.aload_n 0, 1) := by decide +kernel
theorem dX8_word_91 : decode cX8_word 91 = .ok (.getfield 28, 3) := by decide +kernel
theorem dX8_word_94 : decode cX8_word 94 = .ok (.isub, 1) := by decide +kernel
theorem dX8_word_95 : decode cX8_word 95 = .ok (.if_icmp .ne 22, 3) := by decide +kernel
theorem dX8_word_98 : decode cX8_word 98 = .ok (.aload_n 0, 1) := by decide +kernel
theorem dX8_word_99 : decode cX8_word 99 = .ok (.aload_n 1, 1) := by decide +kernel
theorem dX8_word_100 : decode cX8_word 100 = .ok (.iload_n 3, 1) := by decide +kernel
theorem dX8_word_101 : decode cX8_word 101 = .ok (.iload 5, 2) := by decide +kernel
theorem dX8_word_103 : decode cX8_word 103 = .ok (.invokevirtual 54, 3) := by decide +kernel
theorem dX8_word_106 : decode cX8_word 106 = .ok (.ifCond .eq 11, 3) := by decide +kernel
theorem dX8_word_109 : decode cX8_word 109 = .ok (.aload_n 0, 1) := by decide +kernel
theorem dX8_word_110 : decode cX8_word 110 = .ok (.iload_n 2, 1) := by decide +kernel
theorem dX8_word_111 : decode cX8_word 111 = .ok (.putfield 28, 3) := by decide +kernel
theorem dX8_word_114 : decode cX8_word 114 = .ok (.iload 4, 2) := by decide +kernel
theorem dX8_word_116 : decode cX8_word 116 = .ok (.ireturn, 1) := by decide +kernel
theorem dX8_word_117 : decode cX8_word 117 = .ok (.iload 5, 2) := by decide +kernel
theorem dX8_word_119 : decode cX8_word 119 = .ok (.iconst 1, 1) := by decide +kernel
theorem dX8_word_120 : decode cX8_word 120 = .ok (.iadd, 1) := by decide +kernel
theorem dX8_word_121 : decode cX8_word 121 = .ok (.istore_n 3, 1) := by decide +kernel
theorem dX8_word_122 : decode cX8_word 122 = .ok (.iinc 4 1, 3) := by decide +kernel
theorem dX8_word_125 : decode cX8_word 125 = .ok (.iinc 5 1, 3) := by decide +kernel
theorem dX8_word_128 : decode cX8_word 128 = .ok (.goto (-72), 3) := by decide +kernel
theorem dX8_word_131 : decode cX8_word 131 = .ok (.aload_n 0, 1) := by decide +kernel
theorem dX8_word_132 : decode cX8_word 132 = .ok (.iconst 1, 1) := by decide +kernel
theorem dX8_word_133 : decode cX8_word 133 = .ok (.aload_n 0, 1) := by decide +kernel
theorem dX8_word_134 : decode cX8_word 134 = .ok (.getfield 28, 3) := by decide +kernel
theorem dX8_word_137 : decode cX8_word 137 = .ok (.invokevirtual 41, 3) := by decide +kernel
theorem dX8_word_140 : decode cX8_word 140 = .ok (.iconst (-1), 1) := by decide +kernel
theorem dX8_word_141 : decode cX8_word 141 = .ok (.ireturn, 1) := by decide +kernel
theorem dX8_isSame_0 : decode cX8_isSame 0 = .ok (.iload_n 2, 1) := by decide +kernel
theorem dX8_isSame_1 : decode cX8_isSame 1 = .ok (.istore 4, 2) := by decide +kernel
theorem dX8_isSame_3 : decode cX8_isSame 3 = .ok (.iload 4, 2) := by decide +kernel
theorem dX8_isSame_5 : decode cX8_isSame 5 = .ok (.iload_n 3, 1) := by decide +kernel
theorem dX8_isSame_6 : decode cX8_isSame 6 = .ok (.if_icmp .ge 42, 3) := by decide +kernel
theorem dX8_isSame_9 : decode cX8_isSame 9 = .ok (.iload 4, 2) := by decide +kernel
theorem dX8_isSame_11 : decode cX8_isSame 11 = .ok (.aload_n 1, 1) := by decide +kernel
theorem dX8_isSame_12 : decode cX8_isSame 12 = .ok (.invokevirtual 45, 3) := by decide +kernel
theorem dX8_isSame_15 : decode cX8_isSame 15 = .ok (.if_icmp .ge 33, 3) := by decide +kernel
theorem dX8_isSame_18 : decode cX8_isSame 18 = .ok (.aload_n 1, 1) := by decide +kernel
theorem dX8_isSame_19 : decode cX8_isSame 19 = .ok (.iload 4, 2) := by decide +kernel
theorem dX8_isSame_21 : decode cX8_isSame 21 = .ok (.invokevirtual 50, 3) := by decide +kernel
theorem dX8_isSame_24 : decode cX8_isSame 24 = .ok (.aload_n 0, 1) := by decide +kernel
theorem dX8_isSame_25 : decode cX8_isSame 25 = .ok (.aload_n 0, 1) := by decide +kernel
theorem dX8_isSame_26 : decode cX8_isSame 26 = .ok (.getfield 28, 3) := by decide +kernel
theorem dX8_isSame_29 : decode cX8_isSame 29 = .ok (.iload 4, 2) := by decide +kernel
theorem dX8_isSame_31 : decode cX8_isSame 31 = .ok (.iadd, 1) := by decide +kernel
theorem dX8_isSame_32 : decode cX8_isSame 32 = .ok (.iload_n 2, 1) := by decide +kernel
theorem dX8_isSame_33 : decode cX8_isSame 33 = .ok (.isub, 1) := by decide +kernel
theorem dX8_isSame_34 : decode cX8_isSame 34 = .ok (.invokevirtual 37, 3) := by decide +kernel
theorem dX8_isSame_37 : decode cX8_isSame 37 = .ok (.if_icmp .eq 5, 3) := by decide +kernel
theorem dX8_isSame_40 : decode cX8_isSame 40 = .ok (.iconst 0, 1) := by decide +kernel
theorem dX8_isSame_41 : decode cX8_isSame 41 = .ok (.ireturn, 1) := by decide +kernel
theorem dX8_isSame_42 : decode cX8_isSame 42 = .ok (.iinc 4 1, 3) := by decide +kernel
theorem dX8_isSame_45 : decode cX8_isSame 45 = .ok (.goto (-42), 3) := by decide +kernel
theorem dX8_isSame_48 : decode cX8_isSame 48 = .ok (.iconst 1, 1) := by decide +kernel
theorem dX8_isSame_49 : decode cX8_isSame 49 = .ok (.ireturn, 1) := by decide +kernel
theorem dX8_planLetter_0 : decode cX8_planLetter 0 = .ok (.aload_n 0, 1) := by decide +kernel
theorem dX8_planLetter_1 : decode cX8_planLetter 1 = .ok (.aload_n 0, 1) := by decide +kernel
theorem dX8_planLetter_2 : decode cX8_planLetter 2 = .ok (.getfield 28, 3) := by decide +kernel
theorem dX8_planLetter_5 : decode cX8_planLetter 5 = .ok (.invokevirtual 37, 3) := by decide +kernel
theorem dX8_planLetter_8 : decode cX8_planLetter 8 = .ok (.istore_n 1, 1) := by decide +kernel
theorem dX8_planLetter_9 : decode cX8_planLetter 9 = .ok (.aload_n 0, 1) := by decide +kernel
theorem dX8_planLetter_10 : decode cX8_planLetter 10 = .ok (.getfield 31, 3) := by decide +kernel
theorem dX8_planLetter_13 : decode cX8_planLetter 13 = .ok (.ifCond .eq 5, 3) := by decide +kernel
theorem dX8_planLetter_16 : decode cX8_planLetter 16 = .ok (.iconst 0, 1) := by decide +kernel
theorem dX8_planLetter_17 : decode cX8_planLetter 17 = .ok (.ireturn, 1) := by decide +kernel
theorem dX8_planLetter_18 : decode cX8_planLetter 18 = .ok (.iload_n 1, 1) := by decide +kernel
theorem dX8_planLetter_19 : decode cX8_planLetter 19 = .ok (.bipush 65, 2) := by decide +kernel
theorem dX8_planLetter_21 : decode cX8_planLetter 21 = .ok (.if_icmp .lt 9, 3) := by decide +kernel
theorem dX8_planLetter_24 : decode cX8_planLetter 24 = .ok (.iload_n 1, 1) := by decide +kernel
theorem dX8_planLetter_25 : decode cX8_planLetter 25 = .ok (.bipush 70, 2) := by decide +kernel
theorem dX8_planLetter_27 : decode cX8_planLetter 27 = .ok (.if_icmp .le 14, 3) := by decide +kernel
theorem dX8_planLetter_30 : decode cX8_planLetter 30 = .ok (.aload_n 0, 1) := by decide +kernel
theorem dX8_planLetter_31 : decode cX8_planLetter 31 = .ok (.iconst 1, 1) := by decide +kernel
theorem dX8_planLetter_32 : decode cX8_planLetter 32 = .ok (.aload_n 0, 1) := by decide +kernel
theorem dX8_planLetter_33 : decode cX8_planLetter 33 = .ok (.getfield 28, 3) := by decide +kernel
theorem dX8_planLetter_36 : decode cX8_planLetter 36 = .ok (.invokevirtual 41, 3) := by decide +kernel
theorem dX8_planLetter_39 : decode cX8_planLetter 39 = .ok (.iconst 0, 1) := by decide +kernel
theorem dX8_planLetter_40 : decode cX8_planLetter 40 = .ok (.ireturn, 1) := by decide +kernel
theorem dX8_planLetter_41 : decode cX8_planLetter 41 = .ok (.aload_n 0, 1) := by decide +kernel
theorem dX8_planLetter_42 : decode cX8_planLetter 42 = .ok (.dup, 1) := by decide +kernel
theorem dX8_planLetter_43 : decode cX8_planLetter 43 = .ok (.getfield 28, 3) := by decide +kernel
theorem dX8_planLetter_46 : decode cX8_planLetter 46 = .ok (.iconst 1, 1) := by decide +kernel
theorem dX8_planLetter_47 : decode cX8_planLetter 47 = .ok (.iadd, 1) := by decide +kernel
theorem dX8_planLetter_48 : decode cX8_planLetter 48 = .ok (.putfield 28, 3) := by decide +kernel
theorem dX8_planLetter_51 : decode cX8_planLetter 51 = .ok (.iload_n 1, 1) := by decide +kernel
theorem dX8_planLetter_52 : decode cX8_planLetter 52 = .ok (.bipush 65, 2) := by decide +kernel
theorem dX8_planLetter_54 : decode cX8_planLetter 54 = .ok (.isub, 1) := by decide +kernel
theorem dX8_planLetter_55 : decode cX8_planLetter 55 = .ok (.ireturn, 1) := by decide +kernel
theorem dX8_accountDigit_0 : decode cX8_accountDigit 0 = .ok (.aload_n 0, 1) := by decide +kernel
theorem dX8_accountDigit_1 : decode cX8_accountDigit 1 = .ok (.aload_n 0, 1) := by decide +kernel
theorem dX8_accountDigit_2 : decode cX8_accountDigit 2 = .ok (.getfield 28, 3) := by decide +kernel
theorem dX8_accountDigit_5 : decode cX8_accountDigit 5 = .ok (.invokevirtual 37, 3) := by decide +kernel
theorem dX8_accountDigit_8 : decode cX8_accountDigit 8 = .ok (.istore_n 1, 1) := by decide +kernel
theorem dX8_accountDigit_9 : decode cX8_accountDigit 9 = .ok (.aload_n 0, 1) := by decide +kernel
theorem dX8_accountDigit_10 : decode cX8_accountDigit 10 = .ok (.getfield 31, 3) := by decide +kernel
theorem dX8_accountDigit_13 : decode cX8_accountDigit 13 = .ok (.ifCond .eq 5, 3) := by decide +kernel
theorem dX8_accountDigit_16 : decode cX8_accountDigit 16 = .ok (.iconst 0, 1) := by decide +kernel
theorem dX8_accountDigit_17 : decode cX8_accountDigit 17 = .ok (.ireturn, 1) := by decide +kernel
theorem dX8_accountDigit_18 : decode cX8_accountDigit 18 = .ok (.iload_n 1, 1) := by decide +kernel
theorem dX8_accountDigit_19 : decode cX8_accountDigit 19 = .ok (.bipush 48, 2) := by decide +kernel
theorem dX8_accountDigit_21 : decode cX8_accountDigit 21 = .ok (.if_icmp .lt 9, 3) := by decide +kernel
theorem dX8_accountDigit_24 : decode cX8_accountDigit 24 = .ok (.iload_n 1, 1) := by decide +kernel
theorem dX8_accountDigit_25 : decode cX8_accountDigit 25 = .ok (.bipush 57, 2) := by decide +kernel
theorem dX8_accountDigit_27 : decode cX8_accountDigit 27 = .ok (.if_icmp .le 14, 3) := by decide +kernel
theorem dX8_accountDigit_30 : decode cX8_accountDigit 30 = .ok (.aload_n 0, 1) := by decide +kernel
theorem dX8_accountDigit_31 : decode cX8_accountDigit 31 = .ok (.iconst 1, 1) := by decide +kernel
theorem dX8_accountDigit_32 : decode cX8_accountDigit 32 = .ok (.aload_n 0, 1) := by decide +kernel
theorem dX8_accountDigit_33 : decode cX8_accountDigit 33 = .ok (.getfield 28, 3) := by decide +kernel
theorem dX8_accountDigit_36 : decode cX8_accountDigit 36 = .ok (.invokevirtual 41, 3) := by decide +kernel
theorem dX8_accountDigit_39 : decode cX8_accountDigit 39 = .ok (.iconst 0, 1) := by decide +kernel
theorem dX8_accountDigit_40 : decode cX8_accountDigit 40 = .ok (.ireturn, 1) := by decide +kernel
theorem dX8_accountDigit_41 : decode cX8_accountDigit 41 = .ok (.iload_n 1, 1) := by decide +kernel
theorem dX8_accountDigit_42 : decode cX8_accountDigit 42 = .ok (.bipush 48, 2) := by decide +kernel
theorem dX8_accountDigit_44 : decode cX8_accountDigit 44 = .ok (.isub, 1) := by decide +kernel
theorem dX8_accountDigit_45 : decode cX8_accountDigit 45 = .ok (.bipush 6, 2) := by decide +kernel
theorem dX8_accountDigit_47 : decode cX8_accountDigit 47 = .ok (.if_icmp .lt 14, 3) := by decide +kernel
theorem dX8_accountDigit_50 : decode cX8_accountDigit 50 = .ok (.aload_n 0, 1) := by decide +kernel
theorem dX8_accountDigit_51 : decode cX8_accountDigit 51 = .ok (.iconst 3, 1) := by decide +kernel
