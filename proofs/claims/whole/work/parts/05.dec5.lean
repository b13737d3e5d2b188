theorem dX9_sorts_142 : decode cX9_sorts 142 = .ok (.iload_n 1, 1) := by decide +kernel
theorem dX9_sorts_143 : decode cX9_sorts 143 = .ok (.iconst 1, 1) := by decide +kernel
theorem dX9_sorts_144 : decode cX9_sorts 144 = .ok (.if_icmp .ne 7, 3) := by decide +kernel
theorem dX9_sorts_147 : decode cX9_sorts 147 = .ok (.iload_n 3, 1) := by decide +kernel
theorem dX9_sorts_148 : decode cX9_sorts 148 = .ok (.goto 9, 3) := by decide +kernel
theorem dX9_sorts_151 : decode cX9_sorts 151 = .ok (.iload 4, 2) := by decide +kernel
theorem dX9_sorts_153 : decode cX9_sorts 153 = .ok (.iload_n 2, 1) := by decide +kernel
theorem dX9_sorts_154 : decode cX9_sorts 154 = .ok (.iconst (-1), 1) := by decide +kernel
theorem dX9_sorts_155 : decode cX9_sorts 155 = .ok (.ixor, 1) := by decide +kernel
theorem dX9_sorts_156 : decode cX9_sorts 156 = .ok (.iand, 1) := by decide +kernel
theorem dX9_sorts_157 : decode cX9_sorts 157 = .ok (.ireturn, 1) := by decide +kernel
theorem dX9_isNobodyGraceless_0 : decode cX9_isNobodyGraceless 0 = .ok (.iconst 0, 1) := by decide +kernel
theorem dX9_isNobodyGraceless_1 : decode cX9_isNobodyGraceless 1 = .ok (.istore_n 2, 1) := by decide +kernel
theorem dX9_isNobodyGraceless_2 : decode cX9_isNobodyGraceless 2 = .ok (.iload_n 2, 1) := by decide +kernel
theorem dX9_isNobodyGraceless_3 : decode cX9_isNobodyGraceless 3 = .ok (.iload_n 1, 1) := by decide +kernel
theorem dX9_isNobodyGraceless_4 : decode cX9_isNobodyGraceless 4 = .ok (.if_icmp .gt 49, 3) := by decide +kernel
theorem dX9_isNobodyGraceless_7 : decode cX9_isNobodyGraceless 7 = .ok (.iconst 0, 1) := by decide +kernel
theorem dX9_isNobodyGraceless_8 : decode cX9_isNobodyGraceless 8 = .ok (.istore_n 3, 1) := by decide +kernel
theorem dX9_isNobodyGraceless_9 : decode cX9_isNobodyGraceless 9 = .ok (.iload_n 3, 1) := by decide +kernel
theorem dX9_isNobodyGraceless_10 : decode cX9_isNobodyGraceless 10 = .ok (.aload_n 0, 1) := by decide +kernel
theorem dX9_isNobodyGraceless_11 : decode cX9_isNobodyGraceless 11 = .ok (.getfield 13, 3) := by decide +kernel
theorem dX9_isNobodyGraceless_14 : decode cX9_isNobodyGraceless 14 = .ok (.iconst 1, 1) := by decide +kernel
theorem dX9_isNobodyGraceless_15 : decode cX9_isNobodyGraceless 15 = .ok (.iaload, 1) := by decide +kernel
theorem dX9_isNobodyGraceless_16 : decode cX9_isNobodyGraceless 16 = .ok (.if_icmp .ge 24, 3) := by decide +kernel
theorem dX9_isNobodyGraceless_19 : decode cX9_isNobodyGraceless 19 = .ok (.aload_n 0, 1) := by decide +kernel
theorem dX9_isNobodyGraceless_20 : decode cX9_isNobodyGraceless 20 = .ok (.getfield 13, 3) := by decide +kernel
theorem dX9_isNobodyGraceless_23 : decode cX9_isNobodyGraceless 23 = .ok (.iload_n 3, 1) := by decide +kernel
theorem dX9_isNobodyGraceless_24 : decode cX9_isNobodyGraceless 24 = .ok (.iconst 1, 1) := by decide +kernel
theorem dX9_isNobodyGraceless_25 : decode cX9_isNobodyGraceless 25 = .ok (.invokestatic 52, 3) := by decide +kernel
theorem dX9_isNobodyGraceless_28 : decode cX9_isNobodyGraceless 28 = .ok (.iaload, 1) := by decide +kernel
theorem dX9_isNobodyGraceless_29 : decode cX9_isNobodyGraceless 29 = .ok (.ifCond .ne 5, 3) := by decide +kernel
theorem dX9_isNobodyGraceless_32 : decode cX9_isNobodyGraceless 32 = .ok (.iconst 0, 1) := by decide +kernel
theorem dX9_isNobodyGraceless_33 : decode cX9_isNobodyGraceless 33 = .ok (.ireturn, 1) := by decide +kernel
theorem dX9_isNobodyGraceless_34 : decode cX9_isNobodyGraceless 34 = .ok (.iinc 3 1, 3) := by decide +kernel
theorem dX9_isNobodyGraceless_37 : decode cX9_isNobodyGraceless 37 = .ok (.goto (-28), 3) := by decide +kernel
theorem dX9_isNobodyGraceless_40 : decode cX9_isNobodyGraceless 40 = .ok (.aload_n 0, 1) := by decide +kernel
theorem dX9_isNobodyGraceless_41 : decode cX9_isNobodyGraceless 41 = .ok (.getfield 13, 3) := by decide +kernel
theorem dX9_isNobodyGraceless_44 : decode cX9_isNobodyGraceless 44 = .ok (.invokestatic 69, 3) := by decide +kernel
theorem dX9_isNobodyGraceless_47 : decode cX9_isNobodyGraceless 47 = .ok (.iinc 2 1, 3) := by decide +kernel
theorem dX9_isNobodyGraceless_50 : decode cX9_isNobodyGraceless 50 = .ok (.goto (-48), 3) := by decide +kernel
theorem dX9_isNobodyGraceless_53 : decode cX9_isNobodyGraceless 53 = .ok (.iconst 1, 1) := by decide +kernel
theorem dX9_isNobodyGraceless_54 : decode cX9_isNobodyGraceless 54 = .ok (.ireturn, 1) := by decide +kernel
theorem dX9_fewest_0 : decode cX9_fewest 0 = .ok (.iload_n 1, 1) := by decide +kernel
theorem dX9_fewest_1 : decode cX9_fewest 1 = .ok (.iconst 0, 1) := by decide +kernel
theorem dX9_fewest_2 : decode cX9_fewest 2 = .ok (.bipush 20, 2) := by decide +kernel
theorem dX9_fewest_4 : decode cX9_fewest 4 = .ok (.invokestatic 125, 3) := by decide +kernel
theorem dX9_fewest_7 : decode cX9_fewest 7 = .ok (.istore_n 2, 1) := by decide +kernel
theorem dX9_fewest_8 : decode cX9_fewest 8 = .ok (.iload_n 2, 1) := by decide +kernel
theorem dX9_fewest_9 : decode cX9_fewest 9 = .ok (.ifCond .eq 9, 3) := by decide +kernel
theorem dX9_fewest_12 : decode cX9_fewest 12 = .ok (.aload_n 0, 1) := by decide +kernel
theorem dX9_fewest_13 : decode cX9_fewest 13 = .ok (.iload_n 2, 1) := by decide +kernel
theorem dX9_fewest_14 : decode cX9_fewest 14 = .ok (.invokevirtual 35, 3) := by decide +kernel
theorem dX9_fewest_17 : decode cX9_fewest 17 = .ok (.ireturn, 1) := by decide +kernel
theorem dX9_fewest_18 : decode cX9_fewest 18 = .ok (.bipush (-9), 2) := by decide +kernel
theorem dX9_fewest_20 : decode cX9_fewest 20 = .ok (.istore_n 3, 1) := by decide +kernel
theorem dX9_fewest_21 : decode cX9_fewest 21 = .ok (.iconst 0, 1) := by decide +kernel
theorem dX9_fewest_22 : decode cX9_fewest 22 = .ok (.istore 4, 2) := by decide +kernel
theorem dX9_fewest_24 : decode cX9_fewest 24 = .ok (.iload 4, 2) := by decide +kernel
theorem dX9_fewest_26 : decode cX9_fewest 26 = .ok (.iconst 1, 1) := by decide +kernel
theorem dX9_fewest_27 : decode cX9_fewest 27 = .ok (.aload_n 0, 1) := by decide +kernel
theorem dX9_fewest_28 : decode cX9_fewest 28 = .ok (.getfield 9, 3) := by decide +kernel
theorem dX9_fewest_31 : decode cX9_fewest 31 = .ok (.iconst 0, 1) := by decide +kernel
theorem dX9_fewest_32 : decode cX9_fewest 32 = .ok (.iaload, 1) := by decide +kernel
theorem dX9_fewest_33 : decode cX9_fewest 33 = .ok (.ishl, 1) := by decide +kernel
theorem dX9_fewest_34 : decode cX9_fewest 34 = .ok (.if_icmp .ge 102, 3) := by decide +kernel
theorem dX9_fewest_37 : decode cX9_fewest 37 = .ok (.iload_n 3, 1) := by decide +kernel
theorem dX9_fewest_38 : decode cX9_fewest 38 = .ok (.ifCond .lt 18, 3) := by decide +kernel
theorem dX9_fewest_41 : decode cX9_fewest 41 = .ok (.iload 4, 2) := by decide +kernel
theorem dX9_fewest_43 : decode cX9_fewest 43 = .ok (.invokestatic 164, 3) := by decide +kernel
theorem dX9_fewest_46 : decode cX9_fewest 46 = .ok (.iload_n 3, 1) := by decide +kernel
theorem dX9_fewest_47 : decode cX9_fewest 47 = .ok (.invokestatic 164, 3) := by decide +kernel
theorem dX9_fewest_50 : decode cX9_fewest 50 = .ok (.if_icmp .lt 6, 3) := by decide +kernel
theorem dX9_fewest_53 : decode cX9_fewest 53 = .ok (.goto 77, 3) := by decide +kernel
theorem dX9_fewest_56 : decode cX9_fewest 56 = .ok (.aload_n 0, 1) := by decide +kernel
theorem dX9_fewest_57 : decode cX9_fewest 57 = .ok (.getfield 9, 3) := by decide +kernel
theorem dX9_fewest_60 : decode cX9_fewest 60 = .ok (.aload_n 0, 1) := by decide +kernel
theorem dX9_fewest_61 : decode cX9_fewest 61 = .ok (.getfield 13, 3) := by decide +kernel
theorem dX9_fewest_64 : decode cX9_fewest 64 = .ok (.invokestatic 112, 3) := by decide +kernel
theorem dX9_fewest_67 : decode cX9_fewest 67 = .ok (.iconst 0, 1) := by decide +kernel
theorem dX9_fewest_68 : decode cX9_fewest 68 = .ok (.istore 5, 2) := by decide +kernel
theorem dX9_fewest_70 : decode cX9_fewest 70 = .ok (.iload 5, 2) := by decide +kernel
theorem dX9_fewest_72 : decode cX9_fewest 72 = .ok (.aload_n 0, 1) := by decide +kernel
theorem dX9_fewest_73 : decode cX9_fewest 73 = .ok (.getfield 9, 3) := by decide +kernel
theorem dX9_fewest_76 : decode cX9_fewest 76 = .ok (.iconst 0, 1) := by decide +kernel
theorem dX9_fewest_77 : decode cX9_fewest 77 = .ok (.iaload, 1) := by decide +kernel
theorem dX9_fewest_78 : decode cX9_fewest 78 = .ok (.if_icmp .ge 41, 3) := by decide +kernel
theorem dX9_fewest_81 : decode cX9_fewest 81 = .ok (.iload 4, 2) := by decide +kernel
theorem dX9_fewest_83 : decode cX9_fewest 83 = .ok (.iload 5, 2) := by decide +kernel
theorem dX9_fewest_85 : decode cX9_fewest 85 = .ok (.invokestatic 167, 3) := by decide +kernel
theorem dX9_fewest_88 : decode cX9_fewest 88 = .ok (.ifCond .eq 25, 3) := by decide +kernel
theorem dX9_fewest_91 : decode cX9_fewest 91 = .ok (.aload_n 0, 1) := by decide +kernel
theorem dX9_fewest_92 : decode cX9_fewest 92 = .ok (.getfield 13, 3) := by decide +kernel
theorem dX9_fewest_95 : decode cX9_fewest 95 = .ok (.iload 5, 2) := by decide +kernel
theorem dX9_fewest_97 : decode cX9_fewest 97 = .ok (.iconst 3, 1) := by decide +kernel
theorem dX9_fewest_98 : decode cX9_fewest 98 = .ok (.invokestatic 45, 3) := by decide +kernel
theorem dX9_fewest_101 : decode cX9_fewest 101 = .ok (.aload_n 0, 1) := by decide +kernel
theorem dX9_fewest_102 : decode cX9_fewest 102 = .ok (.getfield 9, 3) := by decide +kernel
theorem dX9_fewest_105 : decode cX9_fewest 105 = .ok (.iload 5, 2) := by decide +kernel
theorem dX9_fewest_107 : decode cX9_fewest 107 = .ok (.iconst 2, 1) := by decide +kernel
theorem dX9_fewest_108 : decode cX9_fewest 108 = .ok (.invokestatic 45, 3) := by decide +kernel
theorem dX9_fewest_111 : decode cX9_fewest 111 = .ok (.iaload, 1) := by decide +kernel
theorem dX9_fewest_112 : decode cX9_fewest 112 = .ok (.iastore, 1) := by decide +kernel
theorem dX9_fewest_113 : decode cX9_fewest 113 = .ok (.iinc 5 1, 3) := by decide +kernel
theorem dX9_fewest_116 : decode cX9_fewest 116 = .ok (.goto (-46), 3) := by decide +kernel
theorem dX9_fewest_119 : decode cX9_fewest 119 = .ok (.aload_n 0, 1) := by decide +kernel
theorem dX9_fewest_120 : decode cX9_fewest 120 = .ok (.iload_n 1, 1) := by decide +kernel
theorem dX9_fewest_121 : decode cX9_fewest 121 = .ok (.invokevirtual 170, 3) := by decide +kernel
theorem dX9_fewest_124 : decode cX9_fewest 124 = .ok (.ifCond .eq 6, 3) := by decide +kernel
theorem dX9_fewest_127 : decode cX9_fewest 127 = .ok (.iload 4, 2) := by decide +kernel
theorem dX9_fewest_129 : decode cX9_fewest 129 = .ok (.istore_n 3, 1) := by decide +kernel
theorem dX9_fewest_130 : decode cX9_fewest 130 = .ok (.iinc 4 1, 3) := by decide +kernel
theorem dX9_fewest_133 : decode cX9_fewest 133 = .ok (.goto (-109), 3) := by decide +kernel
theorem dX9_fewest_136 : decode cX9_fewest 136 = .ok (.iload_n 3, 1) := by decide +kernel
theorem dX9_fewest_137 : decode cX9_fewest 137 = .ok (.ireturn, 1) := by decide +kernel
theorem dX9_warn_0 : decode cX9_warn 0 = .ok (.aload_n 0, 1) := by decide +kernel
theorem dX9_warn_1 : decode cX9_warn 1 = .ok (.iload_n 1, 1) := by decide +kernel
theorem dX9_warn_2 : decode cX9_warn 2 = .ok (.invokevirtual 95, 3) := by decide +kernel
theorem dX9_warn_5 : decode cX9_warn 5 = .ok (.ifCond .eq 13, 3) := by decide +kernel
theorem dX9_warn_8 : decode cX9_warn 8 = .ok (.iload_n 2, 1) := by decide +kernel
theorem dX9_warn_9 : decode cX9_warn 9 = .ok (.iconst 0, 1) := by decide +kernel
theorem dX9_warn_10 : decode cX9_warn 10 = .ok (.bipush 30, 2) := by decide +kernel
theorem dX9_warn_12 : decode cX9_warn 12 = .ok (.invokestatic 125, 3) := by decide +kernel
theorem dX9_warn_15 : decode cX9_warn 15 = .ok (.goto 4, 3) := by decide +kernel
theorem dX9_warn_18 : decode cX9_warn 18 = .ok (.iconst (-1), 1) := by decide +kernel
theorem dX9_warn_19 : decode cX9_warn 19 = .ok (.istore_n 3, 1) := by decide +kernel
theorem dX9_warn_20 : decode cX9_warn 20 = .ok (.iload_n 3, 1) := by decide +kernel
theorem dX9_warn_21 : decode cX9_warn 21 = .ok (.ifCond .eq 9, 3) := by decide +kernel
theorem dX9_warn_24 : decode cX9_warn 24 = .ok (.aload_n 0, 1) := by decide +kernel
theorem dX9_warn_25 : decode cX9_warn 25 = .ok (.iload_n 3, 1) := by decide +kernel
theorem dX9_warn_26 : decode cX9_warn 26 = .ok (.invokevirtual 35, 3) := by decide +kernel
theorem dX9_warn_29 : decode cX9_warn 29 = .ok (.ireturn, 1) := by decide +kernel
theorem dX9_warn_30 : decode cX9_warn 30 = .ok (.aload_n 0, 1) := by decide +kernel
theorem dX9_warn_31 : decode cX9_warn 31 = .ok (.iload_n 2, 1) := by decide +kernel
theorem dX9_warn_32 : decode cX9_warn 32 = .ok (.invokevirtual 133, 3) := by decide +kernel
theorem dX9_warn_35 : decode cX9_warn 35 = .ok (.aload_n 0, 1) := by decide +kernel
theorem dX9_warn_36 : decode cX9_warn 36 = .ok (.getfield 13, 3) := by decide +kernel
theorem dX9_warn_39 : decode cX9_warn 39 = .ok (.iload_n 1, 1) := by decide +kernel
theorem dX9_warn_40 : decode cX9_warn 40 = .ok (.iconst 1, 1) := by decide +kernel
theorem dX9_warn_41 : decode cX9_warn 41 = .ok (.invokestatic 52, 3) := by decide +kernel
theorem dX9_warn_44 : decode cX9_warn 44 = .ok (.iaload, 1) := by decide +kernel
theorem dX9_warn_45 : decode cX9_warn 45 = .ok (.istore 4, 2) := by decide +kernel
theorem dX9_warn_47 : decode cX9_warn 47 = .ok (.bipush (-9), 2) := by decide +kernel
theorem dX9_warn_49 : decode cX9_warn 49 = .ok (.istore 5, 2) := by decide +kernel
theorem dX9_warn_51 : decode cX9_warn 51 = .ok (.iconst 0, 1) := by decide +kernel
theorem dX9_warn_52 : decode cX9_warn 52 = .ok (.istore 6, 2) := by decide +kernel
theorem dX9_warn_54 : decode cX9_warn 54 = .ok (.iload 6, 2) := by decide +kernel
theorem dX9_warn_56 : decode cX9_warn 56 = .ok (.aload_n 0, 1) := by decide +kernel
theorem dX9_warn_57 : decode cX9_warn 57 = .ok (.getfield 9, 3) := by decide +kernel
theorem dX9_warn_60 : decode cX9_warn 60 = .ok (.iconst 0, 1) := by decide +kernel
theorem dX9_warn_61 : decode cX9_warn 61 = .ok (.iaload, 1) := by decide +kernel
theorem dX9_warn_62 : decode cX9_warn 62 = .ok (.if_icmp .ge 92, 3) := by decide +kernel
theorem dX9_warn_65 : decode cX9_warn 65 = .ok (.aload_n 0, 1) := by decide +kernel
theorem dX9_warn_66 : decode cX9_warn 66 = .ok (.getfield 9, 3) := by decide +kernel
theorem dX9_warn_69 : decode cX9_warn 69 = .ok (.iload 6, 2) := by decide +kernel
theorem dX9_warn_71 : decode cX9_warn 71 = .ok (.iconst 5, 1) := by decide +kernel
theorem dX9_warn_72 : decode cX9_warn 72 = .ok (.invokestatic 45, 3) := by decide +kernel
theorem dX9_warn_75 : decode cX9_warn 75 = .ok (.iaload, 1) := by decide +kernel
theorem dX9_warn_76 : decode cX9_warn 76 = .ok (.iload_n 1, 1) := by decide +kernel
theorem dX9_warn_77 : decode cX9_warn 77 = .ok (.if_icmp .eq 6, 3) := by decide +kernel
theorem dX9_warn_80 : decode cX9_warn 80 = .ok (.goto 68, 3) := by decide +kernel
theorem dX9_warn_83 : decode cX9_warn 83 = .ok (.aload_n 0, 1) := by decide +kernel
theorem dX9_warn_84 : decode cX9_warn 84 = .ok (.getfield 9, 3) := by decide +kernel
theorem dX9_warn_87 : decode cX9_warn 87 = .ok (.aload_n 0, 1) := by decide +kernel
theorem dX9_warn_88 : decode cX9_warn 88 = .ok (.getfield 13, 3) := by decide +kernel
theorem dX9_warn_91 : decode cX9_warn 91 = .ok (.invokestatic 112, 3) := by decide +kernel
theorem dX9_warn_94 : decode cX9_warn 94 = .ok (.aload_n 0, 1) := by decide +kernel
theorem dX9_warn_95 : decode cX9_warn 95 = .ok (.getfield 13, 3) := by decide +kernel
theorem dX9_warn_98 : decode cX9_warn 98 = .ok (.iload 6, 2) := by decide +kernel
theorem dX9_warn_100 : decode cX9_warn 100 = .ok (.iconst 4, 1) := by decide +kernel
theorem dX9_warn_101 : decode cX9_warn 101 = .ok (.invokestatic 45, 3) := by decide +kernel
theorem dX9_warn_104 : decode cX9_warn 104 = .ok (.iconst 0, 1) := by decide +kernel
theorem dX9_warn_105 : decode cX9_warn 105 = .ok (.iastore, 1) := by decide +kernel
theorem dX9_warn_106 : decode cX9_warn 106 = .ok (.aload_n 0, 1) := by decide +kernel
theorem dX9_warn_107 : decode cX9_warn 107 = .ok (.getfield 13, 3) := by decide +kernel
theorem dX9_warn_110 : decode cX9_warn 110 = .ok (.iload_n 2, 1) := by decide +kernel
theorem dX9_warn_111 : decode cX9_warn 111 = .ok (.invokestatic 105, 3) := by decide +kernel
theorem dX9_warn_114 : decode cX9_warn 114 = .ok (.aload_n 0, 1) := by decide +kernel
theorem dX9_warn_115 : decode cX9_warn 115 = .ok (.getfield 13, 3) := by decide +kernel
theorem dX9_warn_118 : decode cX9_warn 118 = .ok (.iload_n 1, 1) := by decide +kernel
theorem dX9_warn_119 : decode cX9_warn 119 = .ok (.iconst 1, 1) := by decide +kernel
theorem dX9_warn_120 : decode cX9_warn 120 = .ok (.invokestatic 52, 3) := by decide +kernel
theorem dX9_warn_123 : decode cX9_warn 123 = .ok (.iaload, 1) := by decide +kernel
theorem dX9_warn_124 : decode cX9_warn 124 = .ok (.iload 4, 2) := by decide +kernel
theorem dX9_warn_126 : decode cX9_warn 126 = .ok (.if_icmp .gt 6, 3) := by decide +kernel
theorem dX9_warn_129 : decode cX9_warn 129 = .ok (.goto 19, 3) := by decide +kernel
theorem dX9_warn_132 : decode cX9_warn 132 = .ok (.iload 6, 2) := by decide +kernel
theorem dX9_warn_134 : decode cX9_warn 134 = .ok (.istore 5, 2) := by decide +kernel
theorem dX9_warn_136 : decode cX9_warn 136 = .ok (.aload_n 0, 1) := by decide +kernel
theorem dX9_warn_137 : decode cX9_warn 137 = .ok (.getfield 13, 3) := by decide +kernel
theorem dX9_warn_140 : decode cX9_warn 140 = .ok (.iload_n 1, 1) := by decide +kernel
theorem dX9_warn_141 : decode cX9_warn 141 = .ok (.iconst 1, 1) := by decide +kernel
theorem dX9_warn_142 : decode cX9_warn 142 = .ok (.invokestatic 52, 3) := by decide +kernel
theorem dX9_warn_145 : decode cX9_warn 145 = .ok (.iaload, 1) := by decide +kernel
theorem dX9_warn_146 : decode cX9_warn 146 = .ok (.istore 4, 2) := by decide +kernel
theorem dX9_warn_148 : decode cX9_warn 148 = .ok (.iinc 6 1, 3) := by decide +kernel
theorem dX9_warn_151 : decode cX9_warn 151 = .ok (.goto (-97), 3) := by decide +kernel
theorem dX9_warn_154 : decode cX9_warn 154 = .ok (.iload 5, 2) := by decide +kernel
theorem dX9_warn_156 : decode cX9_warn 156 = .ok (.ireturn, 1) := by decide +kernel
theorem dX9_heir_0 : decode cX9_heir 0 = .ok (.aload_n 0, 1) := by decide +kernel
theorem dX9_heir_1 : decode cX9_heir 1 = .ok (.iload_n 1, 1) := by decide +kernel
theorem dX9_heir_2 : decode cX9_heir 2 = .ok (.invokevirtual 102, 3) := by decide +kernel
theorem dX9_heir_5 : decode cX9_heir 5 = .ok (.ifCond .eq 13, 3) := by decide +kernel
theorem dX9_heir_8 : decode cX9_heir 8 = .ok (.iload_n 2, 1) := by decide +kernel
theorem dX9_heir_9 : decode cX9_heir 9 = .ok (.iconst 0, 1) := by decide +kernel
theorem dX9_heir_10 : decode cX9_heir 10 = .ok (.bipush 30, 2) := by decide +kernel
theorem dX9_heir_12 : decode cX9_heir 12 = .ok (.invokestatic 125, 3) := by decide +kernel
theorem dX9_heir_15 : decode cX9_heir 15 = .ok (.goto 4, 3) := by decide +kernel
theorem dX9_heir_18 : decode cX9_heir 18 = .ok (.iconst (-1), 1) := by decide +kernel
theorem dX9_heir_19 : decode cX9_heir 19 = .ok (.istore_n 3, 1) := by decide +kernel
theorem dX9_heir_20 : decode cX9_heir 20 = .ok (.iload_n 3, 1) := by decide +kernel
theorem dX9_heir_21 : decode cX9_heir 21 = .ok (.ifCond .eq 9, 3) := by decide +kernel
theorem dX9_heir_24 : decode cX9_heir 24 = .ok (.aload_n 0, 1) := by decide +kernel
theorem dX9_heir_25 : decode cX9_heir 25 = .ok (.iload_n 3, 1) := by decide +kernel
theorem dX9_heir_26 : decode cX9_heir 26 = .ok (.invokevirtual 35, 3) := by decide +kernel
theorem dX9_heir_29 : decode cX9_heir 29 = .ok (.ireturn, 1) := by decide +kernel
theorem dX9_heir_30 : decode cX9_heir 30 = .ok (.bipush (-9), 2) := by decide +kernel
theorem dX9_heir_32 : decode cX9_heir 32 = .ok (.istore 4, 2) := by decide +kernel
theorem dX9_heir_34 : decode cX9_heir 34 = .ok (.iconst (-1), 1) := by decide +kernel
theorem dX9_heir_35 : decode cX9_heir 35 = .ok (.istore 5, 2) := by decide +kernel
theorem dX9_heir_37 : decode cX9_heir 37 = .ok (.iconst 0, 1) := by decide +kernel
theorem dX9_heir_38 : decode cX9_heir 38 = .ok (.istore 6, 2) := by decide +kernel
theorem dX9_heir_40 : decode cX9_heir 40 = .ok (.iload 6, 2) := by decide +kernel
theorem dX9_heir_42 : decode cX9_heir 42 = .ok (.aload_n 0, 1) := by decide +kernel
theorem dX9_heir_43 : decode cX9_heir 43 = .ok (.getfield 9, 3) := by decide +kernel
theorem dX9_heir_46 : decode cX9_heir 46 = .ok (.iconst 1, 1) := by decide +kernel
theorem dX9_heir_47 : decode cX9_heir 47 = .ok (.iaload, 1) := by decide +kernel
theorem dX9_heir_48 : decode cX9_heir 48 = .ok (.if_icmp .ge 37, 3) := by decide +kernel
theorem dX9_heir_51 : decode cX9_heir 51 = .ok (.aload_n 0, 1) := by decide +kernel
theorem dX9_heir_52 : decode cX9_heir 52 = .ok (.iload_n 1, 1) := by decide +kernel
theorem dX9_heir_53 : decode cX9_heir 53 = .ok (.iload 6, 2) := by decide +kernel
theorem dX9_heir_55 : decode cX9_heir 55 = .ok (.iload_n 2, 1) := by decide +kernel
theorem dX9_heir_56 : decode cX9_heir 56 = .ok (.invokevirtual 152, 3) := by decide +kernel
theorem dX9_heir_59 : decode cX9_heir 59 = .ok (.istore 7, 2) := by decide +kernel
theorem dX9_heir_61 : decode cX9_heir 61 = .ok (.iload 7, 2) := by decide +kernel
theorem dX9_heir_63 : decode cX9_heir 63 = .ok (.iload 5, 2) := by decide +kernel
theorem dX9_heir_65 : decode cX9_heir 65 = .ok (.if_icmp .gt 6, 3) := by decide +kernel
theorem dX9_heir_68 : decode cX9_heir 68 = .ok (.goto 11, 3) := by decide +kernel
theorem dX9_heir_71 : decode cX9_heir 71 = .ok (.iload 6, 2) := by decide +kernel
theorem dX9_heir_73 : decode cX9_heir 73 = .ok (.istore 4, 2) := by decide +kernel
theorem dX9_heir_75 : decode cX9_heir 75 = .ok (.iload 7, 2) := by decide +kernel
theorem dX9_heir_77 : decode cX9_heir 77 = .ok (.istore 5, 2) := by decide +kernel
theorem dX9_heir_79 : decode cX9_heir 79 = .ok (.iinc 6 1, 3) := by decide +kernel
theorem dX9_heir_82 : decode cX9_heir 82 = .ok (.goto (-42), 3) := by decide +kernel
theorem dX9_heir_85 : decode cX9_heir 85 = .ok (.iload 4, 2) := by decide +kernel
theorem dX9_heir_87 : decode cX9_heir 87 = .ok (.ireturn, 1) := by decide +kernel
theorem dX9_leadBy_0 : decode cX9_leadBy 0 = .ok (.aload_n 0, 1) := by decide +kernel
theorem dX9_leadBy_1 : decode cX9_leadBy 1 = .ok (.getfield 9, 3) := by decide +kernel
theorem dX9_leadBy_4 : decode cX9_leadBy 4 = .ok (.aload_n 0, 1) := by decide +kernel
theorem dX9_leadBy_5 : decode cX9_leadBy 5 = .ok (.getfield 13, 3) := by decide +kernel
theorem dX9_leadBy_8 : decode cX9_leadBy 8 = .ok (.invokestatic 112, 3) := by decide +kernel
theorem dX9_leadBy_11 : decode cX9_leadBy 11 = .ok (.iload 4, 2) := by decide +kernel
theorem dX9_leadBy_13 : decode cX9_leadBy 13 = .ok (.iconst 1, 1) := by decide +kernel
theorem dX9_leadBy_14 : decode cX9_leadBy 14 = .ok (.if_icmp .ne 14, 3) := by decide +kernel
theorem dX9_leadBy_17 : decode cX9_leadBy 17 = .ok (.aload_n 0, 1) := by decide +kernel
theorem dX9_leadBy_18 : decode cX9_leadBy 18 = .ok (.getfield 13, 3) := by decide +kernel
theorem dX9_leadBy_21 : decode cX9_leadBy 21 = .ok (.iload_n 3, 1) := by decide +kernel
theorem dX9_leadBy_22 : decode cX9_leadBy 22 = .ok (.iconst 4, 1) := by decide +kernel
theorem dX9_leadBy_23 : decode cX9_leadBy 23 = .ok (.invokestatic 45, 3) := by decide +kernel
theorem dX9_leadBy_26 : decode cX9_leadBy 26 = .ok (.iconst 0, 1) := by decide +kernel
theorem dX9_leadBy_27 : decode cX9_leadBy 27 = .ok (.iastore, 1) := by decide +kernel
theorem dX9_leadBy_28 : decode cX9_leadBy 28 = .ok (.iload 6, 2) := by decide +kernel
theorem dX9_leadBy_30 : decode cX9_leadBy 30 = .ok (.iconst 1, 1) := by decide +kernel
theorem dX9_leadBy_31 : decode cX9_leadBy 31 = .ok (.if_icmp .ne 15, 3) := by decide +kernel
theorem dX9_leadBy_34 : decode cX9_leadBy 34 = .ok (.aload_n 0, 1) := by decide +kernel
theorem dX9_leadBy_35 : decode cX9_leadBy 35 = .ok (.getfield 13, 3) := by decide +kernel
theorem dX9_leadBy_38 : decode cX9_leadBy 38 = .ok (.iload 5, 2) := by decide +kernel
theorem dX9_leadBy_40 : decode cX9_leadBy 40 = .ok (.iconst 4, 1) := by decide +kernel
theorem dX9_leadBy_41 : decode cX9_leadBy 41 = .ok (.invokestatic 45, 3) := by decide +kernel
theorem dX9_leadBy_44 : decode cX9_leadBy 44 = .ok (.iconst 0, 1) := by decide +kernel
theorem dX9_leadBy_45 : decode cX9_leadBy 45 = .ok (.iastore, 1) := by decide +kernel
theorem dX9_leadBy_46 : decode cX9_leadBy 46 = .ok (.aload_n 0, 1) := by decide +kernel
theorem dX9_leadBy_47 : decode cX9_leadBy 47 = .ok (.getfield 13, 3) := by decide +kernel
theorem dX9_leadBy_50 : decode cX9_leadBy 50 = .ok (.iload 7, 2) := by decide +kernel
theorem dX9_leadBy_52 : decode cX9_leadBy 52 = .ok (.invokestatic 105, 3) := by decide +kernel
theorem dX9_leadBy_55 : decode cX9_leadBy 55 = .ok (.aload_n 0, 1) := by decide +kernel
theorem dX9_leadBy_56 : decode cX9_leadBy 56 = .ok (.getfield 13, 3) := by decide +kernel
theorem dX9_leadBy_59 : decode cX9_leadBy 59 = .ok (.iload_n 1, 1) := by decide +kernel
theorem dX9_leadBy_60 : decode cX9_leadBy 60 = .ok (.iconst 1, 1) := by decide +kernel
theorem dX9_leadBy_61 : decode cX9_leadBy 61 = .ok (.invokestatic 52, 3) := by decide +kernel
theorem dX9_leadBy_64 : decode cX9_leadBy 64 = .ok (.iaload, 1) := by decide +kernel
theorem dX9_leadBy_65 : decode cX9_leadBy 65 = .ok (.aload_n 0, 1) := by decide +kernel
theorem dX9_leadBy_66 : decode cX9_leadBy 66 = .ok (.getfield 13, 3) := by decide +kernel
theorem dX9_leadBy_69 : decode cX9_leadBy 69 = .ok (.iload_n 2, 1) := by decide +kernel
theorem dX9_leadBy_70 : decode cX9_leadBy 70 = .ok (.iconst 1, 1) := by decide +kernel
theorem dX9_leadBy_71 : decode cX9_leadBy 71 = .ok (.invokestatic 52, 3) := by decide +kernel
theorem dX9_leadBy_74 : decode cX9_leadBy 74 = .ok (.iaload, 1) := by decide +kernel
theorem dX9_leadBy_75 : decode cX9_leadBy 75 = .ok (.isub, 1) := by decide +kernel
theorem dX9_leadBy_76 : decode cX9_leadBy 76 = .ok (.ireturn, 1) := by decide +kernel
theorem dX9_two_0 : decode cX9_two 0 = .ok (.aload_n 0, 1) := by decide +kernel
theorem dX9_two_1 : decode cX9_two 1 = .ok (.iload_n 1, 1) := by decide +kernel
theorem dX9_two_2 : decode cX9_two 2 = .ok (.invokevirtual 102, 3) := by decide +kernel
theorem dX9_two_5 : decode cX9_two 5 = .ok (.ifCond .eq 26, 3) := by decide +kernel
theorem dX9_two_8 : decode cX9_two 8 = .ok (.aload_n 0, 1) := by decide +kernel
theorem dX9_two_9 : decode cX9_two 9 = .ok (.iload_n 2, 1) := by decide +kernel
theorem dX9_two_10 : decode cX9_two 10 = .ok (.invokevirtual 102, 3) := by decide +kernel
theorem dX9_two_13 : decode cX9_two 13 = .ok (.ifCond .eq 18, 3) := by decide +kernel
theorem dX9_two_16 : decode cX9_two 16 = .ok (.iload_n 1, 1) := by decide +kernel
theorem dX9_two_17 : decode cX9_two 17 = .ok (.iload_n 2, 1) := by decide +kernel
theorem dX9_two_18 : decode cX9_two 18 = .ok (.if_icmp .eq 13, 3) := by decide +kernel
theorem dX9_two_21 : decode cX9_two 21 = .ok (.iload_n 3, 1) := by decide +kernel
theorem dX9_two_22 : decode cX9_two 22 = .ok (.iconst 0, 1) := by decide +kernel
theorem dX9_two_23 : decode cX9_two 23 = .ok (.bipush 30, 2) := by decide +kernel
theorem dX9_two_25 : decode cX9_two 25 = .ok (.invokestatic 125, 3) := by decide +kernel
theorem dX9_two_28 : decode cX9_two 28 = .ok (.goto 4, 3) := by decide +kernel
theorem dX9_two_31 : decode cX9_two 31 = .ok (.iconst (-1), 1) := by decide +kernel
theorem dX9_two_32 : decode cX9_two 32 = .ok (.istore 4, 2) := by decide +kernel
theorem dX9_two_34 : decode cX9_two 34 = .ok (.iload 4, 2) := by decide +kernel
theorem dX9_two_36 : decode cX9_two 36 = .ok (.ifCond .ne 56, 3) := by decide +kernel
theorem dX9_two_39 : decode cX9_two 39 = .ok (.aload_n 0, 1) := by decide +kernel
theorem dX9_two_40 : decode cX9_two 40 = .ok (.getfield 9, 3) := by decide +kernel
theorem dX9_two_43 : decode cX9_two 43 = .ok (.iload_n 1, 1) := by decide +kernel
theorem dX9_two_44 : decode cX9_two 44 = .ok (.iconst 4, 1) := by decide +kernel
theorem dX9_two_45 : decode cX9_two 45 = .ok (.invokestatic 45, 3) := by decide +kernel
theorem dX9_two_48 : decode cX9_two 48 = .ok (.iaload, 1) := by decide +kernel
theorem dX9_two_49 : decode cX9_two 49 = .ok (.ifCond .eq 39, 3) := by decide +kernel
theorem dX9_two_52 : decode cX9_two 52 = .ok (.aload_n 0, 1) := by decide +kernel
theorem dX9_two_53 : decode cX9_two 53 = .ok (.getfield 9, 3) := by decide +kernel
theorem dX9_two_56 : decode cX9_two 56 = .ok (.iload_n 2, 1) := by decide +kernel
theorem dX9_two_57 : decode cX9_two 57 = .ok (.iconst 4, 1) := by decide +kernel
theorem dX9_two_58 : decode cX9_two 58 = .ok (.invokestatic 45, 3) := by decide +kernel
theorem dX9_two_61 : decode cX9_two 61 = .ok (.iaload, 1) := by decide +kernel
theorem dX9_two_62 : decode cX9_two 62 = .ok (.ifCond .eq 26, 3) := by decide +kernel
theorem dX9_two_65 : decode cX9_two 65 = .ok (.aload_n 0, 1) := by decide +kernel
theorem dX9_two_66 : decode cX9_two 66 = .ok (.getfield 9, 3) := by decide +kernel
theorem dX9_two_69 : decode cX9_two 69 = .ok (.iload_n 1, 1) := by decide +kernel
theorem dX9_two_70 : decode cX9_two 70 = .ok (.iconst 5, 1) := by decide +kernel
theorem dX9_two_71 : decode cX9_two 71 = .ok (.invokestatic 45, 3) := by decide +kernel
theorem dX9_two_74 : decode cX9_two 74 = .ok (.iaload, 1) := by decide +kernel
theorem dX9_two_75 : decode cX9_two 75 = .ok (.aload_n 0, 1) := by decide +kernel
theorem dX9_two_76 : decode cX9_two 76 = .ok (.getfield 9, 3) := by decide +kernel
theorem dX9_two_79 : decode cX9_two 79 = .ok (.iload_n 2, 1) := by decide +kernel
theorem dX9_two_80 : decode cX9_two 80 = .ok (.iconst 5, 1) := by decide +kernel
theorem dX9_two_81 : decode cX9_two 81 = .ok (.invokestatic 45, 3) := by decide +kernel
theorem dX9_two_84 : decode cX9_two 84 = .ok (.iaload, 1) := by decide +kernel
theorem dX9_two_85 : decode cX9_two 85 = .ok (.if_icmp .ne 7, 3) := by decide +kernel
theorem dX9_two_88 : decode cX9_two 88 = .ok (.bipush (-3), 2) := by decide +kernel
theorem dX9_two_90 : decode cX9_two 90 = .ok (.istore 4, 2) := by decide +kernel
theorem dX9_two_92 : decode cX9_two 92 = .ok (.iload 4, 2) := by decide +kernel
theorem dX9_two_94 : decode cX9_two 94 = .ok (.ifCond .eq 10, 3) := by decide +kernel
theorem dX9_two_97 : decode cX9_two 97 = .ok (.aload_n 0, 1) := by decide +kernel
theorem dX9_two_98 : decode cX9_two 98 = .ok (.iload 4, 2) := by decide +kernel
theorem dX9_two_100 : decode cX9_two 100 = .ok (.invokevirtual 35, 3) := by decide +kernel
theorem dX9_two_103 : decode cX9_two 103 = .ok (.ireturn, 1) := by decide +kernel
theorem dX9_two_104 : decode cX9_two 104 = .ok (.aload_n 0, 1) := by decide +kernel
theorem dX9_two_105 : decode cX9_two 105 = .ok (.getfield 9, 3) := by decide +kernel
theorem dX9_two_108 : decode cX9_two 108 = .ok (.iload_n 1, 1) := by decide +kernel
theorem dX9_two_109 : decode cX9_two 109 = .ok (.iconst 5, 1) := by decide +kernel
theorem dX9_two_110 : decode cX9_two 110 = .ok (.invokestatic 45, 3) := by decide +kernel
theorem dX9_two_113 : decode cX9_two 113 = .ok (.iaload, 1) := by decide +kernel
theorem dX9_two_114 : decode cX9_two 114 = .ok (.istore 5, 2) := by decide +kernel
theorem dX9_two_116 : decode cX9_two 116 = .ok (.aload_n 0, 1) := by decide +kernel
theorem dX9_two_117 : decode cX9_two 117 = .ok (.getfield 9, 3) := by decide +kernel
theorem dX9_two_120 : decode cX9_two 120 = .ok (.iload_n 2, 1) := by decide +kernel
theorem dX9_two_121 : decode cX9_two 121 = .ok (.iconst 5, 1) := by decide +kernel
theorem dX9_two_122 : decode cX9_two 122 = .ok (.invokestatic 45, 3) := by decide +kernel
theorem dX9_two_125 : decode cX9_two 125 = .ok (.iaload, 1) := by decide +kernel
theorem dX9_two_126 : decode cX9_two 126 = .ok (.istore 6, 2) := by decide +kernel
theorem dX9_two_128 : decode cX9_two 128 = .ok (.iconst 0, 1) := by decide +kernel
theorem dX9_two_129 : decode cX9_two 129 = .ok (.istore 7, 2) := by decide +kernel
theorem dX9_two_131 : decode cX9_two 131 = .ok (.iload 7, 2) := by decide +kernel
theorem dX9_two_133 : decode cX9_two 133 = .ok (.iconst 4, 1) := by decide +kernel
theorem dX9_two_134 : decode cX9_two 134 = .ok (.if_icmp .ge 100, 3) := by decide +kernel
theorem dX9_two_137 : decode cX9_two 137 = .ok (.iload 7, 2) := by decide +kernel
theorem dX9_two_139 : decode cX9_two 139 = .ok (.iconst 2, 1) := by decide +kernel
theorem dX9_two_140 : decode cX9_two 140 = .ok (.idiv, 1) := by decide +kernel
theorem dX9_two_141 : decode cX9_two 141 = .ok (.istore 8, 2) := by decide +kernel
theorem dX9_two_143 : decode cX9_two 143 = .ok (.iload 7, 2) := by decide +kernel
theorem dX9_two_145 : decode cX9_two 145 = .ok (.iconst 2, 1) := by decide +kernel
theorem dX9_two_146 : decode cX9_two 146 = .ok (.irem, 1) := by decide +kernel
theorem dX9_two_147 : decode cX9_two 147 = .ok (.istore 9, 2) := by decide +kernel
theorem dX9_two_149 : decode cX9_two 149 = .ok (.aload_n 0, 1) := by decide +kernel
theorem dX9_two_150 : decode cX9_two 150 = .ok (.iload 5, 2) := by decide +kernel
theorem dX9_two_152 : decode cX9_two 152 = .ok (.iload 6, 2) := by decide +kernel
theorem dX9_two_154 : decode cX9_two 154 = .ok (.iload_n 1, 1) := by decide +kernel
theorem dX9_two_155 : decode cX9_two 155 = .ok (.iconst 1, 1) := by decide +kernel
theorem dX9_two_156 : decode cX9_two 156 = .ok (.iload 8, 2) := by decide +kernel
theorem dX9_two_158 : decode cX9_two 158 = .ok (.isub, 1) := by decide +kernel
theorem dX9_two_159 : decode cX9_two 159 = .ok (.iload_n 2, 1) := by decide +kernel
theorem dX9_two_160 : decode cX9_two 160 = .ok (.iload 9, 2) := by decide +kernel
theorem dX9_two_162 : decode cX9_two 162 = .ok (.iload_n 3, 1) := by decide +kernel
theorem dX9_two_163 : decode cX9_two 163 = .ok (.invokevirtual 173, 3) := by decide +kernel
theorem dX9_two_166 : decode cX9_two 166 = .ok (.aload_n 0, 1) := by decide +kernel
theorem dX9_two_167 : decode cX9_two 167 = .ok (.iload 5, 2) := by decide +kernel
theorem dX9_two_169 : decode cX9_two 169 = .ok (.iload 6, 2) := by decide +kernel
theorem dX9_two_171 : decode cX9_two 171 = .ok (.iload_n 1, 1) := by decide +kernel
theorem dX9_two_172 : decode cX9_two 172 = .ok (.iload 8, 2) := by decide +kernel
theorem dX9_two_174 : decode cX9_two 174 = .ok (.iload_n 2, 1) := by decide +kernel
theorem dX9_two_175 : decode cX9_two 175 = .ok (.iload 9, 2) := by decide +kernel
theorem dX9_two_177 : decode cX9_two 177 = .ok (.iload_n 3, 1) := by decide +kernel
theorem dX9_two_178 : decode cX9_two 178 = .ok (.invokevirtual 173, 3) := by decide +kernel
theorem dX9_two_181 : decode cX9_two 181 = .ok (.if_icmp .gt 47, 3) := by decide +kernel
theorem dX9_two_184 : decode cX9_two 184 = .ok (.aload_n 0, 1) := by decide +kernel
theorem dX9_two_185 : decode cX9_two 185 = .ok (.iload 6, 2) := by decide +kernel
theorem dX9_two_187 : decode cX9_two 187 = .ok (.iload 5, 2) := by decide +kernel
theorem dX9_two_189 : decode cX9_two 189 = .ok (.iload_n 1, 1) := by decide +kernel
theorem dX9_two_190 : decode cX9_two 190 = .ok (.iload 8, 2) := by decide +kernel
theorem dX9_two_192 : decode cX9_two 192 = .ok (.iload_n 2, 1) := by decide +kernel
theorem dX9_two_193 : decode cX9_two 193 = .ok (.iconst 1, 1) := by decide +kernel
theorem dX9_two_194 : decode cX9_two 194 = .ok (.iload 9, 2) := by decide +kernel
theorem dX9_two_196 : decode cX9_two 196 = .ok (.isub, 1) := by decide +kernel
theorem dX9_two_197 : decode cX9_two 197 = .ok (.iload_n 3, 1) := by decide +kernel
theorem dX9_two_198 : decode cX9_two 198 = .ok (.invokevirtual 173, 3) := by decide +kernel
theorem dX9_two_201 : decode cX9_two 201 = .ok (.aload_n 0, 1) := by decide +kernel
theorem dX9_two_202 : decode cX9_two 202 = .ok (.iload 6, 2) := by decide +kernel
theorem dX9_two_204 : decode cX9_two 204 = .ok (.iload 5, 2) := by decide +kernel
theorem dX9_two_206 : decode cX9_two 206 = .ok (.iload_n 1, 1) := by decide +kernel
theorem dX9_two_207 : decode cX9_two 207 = .ok (.iload 8, 2) := by decide +kernel
theorem dX9_two_209 : decode cX9_two 209 = .ok (.iload_n 2, 1) := by decide +kernel
theorem dX9_two_210 : decode cX9_two 210 = .ok (.iload 9, 2) := by decide +kernel
theorem dX9_two_212 : decode cX9_two 212 = .ok (.iload_n 3, 1) := by decide +kernel
theorem dX9_two_213 : decode cX9_two 213 = .ok (.invokevirtual 173, 3) := by decide +kernel
theorem dX9_two_216 : decode cX9_two 216 = .ok (.if_icmp .gt 12, 3) := by decide +kernel
theorem dX9_two_219 : decode cX9_two 219 = .ok (.bipush 10, 2) := by decide +kernel
theorem dX9_two_221 : decode cX9_two 221 = .ok (.iload 8, 2) := by decide +kernel
theorem dX9_two_223 : decode cX9_two 223 = .ok (.imul, 1) := by decide +kernel
theorem dX9_two_224 : decode cX9_two 224 = .ok (.iload 9, 2) := by decide +kernel
theorem dX9_two_226 : decode cX9_two 226 = .ok (.iadd, 1) := by decide +kernel
theorem dX9_two_227 : decode cX9_two 227 = .ok (.ireturn, 1) := by decide +kernel
theorem dX9_two_228 : decode cX9_two 228 = .ok (.iinc 7 1, 3) := by decide +kernel
theorem dX9_two_231 : decode cX9_two 231 = .ok (.goto (-100), 3) := by decide +kernel
theorem dX9_two_234 : decode cX9_two 234 = .ok (.bipush (-9), 2) := by decide +kernel
theorem dX9_two_236 : decode cX9_two 236 = .ok (.ireturn, 1) := by decide +kernel
theorem dX9_gcd_0 : decode cX9_gcd 0 = .ok (.lload_n 0, 1) := by decide +kernel
theorem dX9_gcd_1 : decode cX9_gcd 1 = .ok (.lstore 4, 2) := by decide +kernel
theorem dX9_gcd_3 : decode cX9_gcd 3 = .ok (.lload_n 2, 1) := by decide +kernel
theorem dX9_gcd_4 : decode cX9_gcd 4 = .ok (.lstore 6, 2) := by decide +kernel
theorem dX9_gcd_6 : decode cX9_gcd 6 = .ok (.lload 6, 2) := by decide +kernel
theorem dX9_gcd_8 : decode cX9_gcd 8 = .ok (.lconst 0, 1) := by decide +kernel
theorem dX9_gcd_9 : decode cX9_gcd 9 = .ok (.lcmp, 1) := by decide +kernel
theorem dX9_gcd_10 : decode cX9_gcd 10 = .ok (.ifCond .eq 21, 3) := by decide +kernel
theorem dX9_gcd_13 : decode cX9_gcd 13 = .ok (.lload 4, 2) := by decide +kernel
theorem dX9_gcd_15 : decode cX9_gcd 15 = .ok (.lload 6, 2) := by decide +kernel
theorem dX9_gcd_17 : decode cX9_gcd 17 = .ok (.lrem, 1) := by decide +kernel
theorem dX9_gcd_18 : decode cX9_gcd 18 = .ok (.lstore 8, 2) := by decide +kernel
theorem dX9_gcd_20 : decode cX9_gcd 20 = .ok (.lload 6, 2) := by decide +kernel
theorem dX9_gcd_22 : decode cX9_gcd 22 = .ok (.lstore 4, 2) := by decide +kernel
theorem dX9_gcd_24 : decode cX9_gcd 24 = .ok (.lload 8, 2) := by decide +kernel
theorem dX9_gcd_26 : decode cX9_gcd 26 = .ok (.lstore 6, 2) := by decide +kernel
theorem dX9_gcd_28 : decode cX9_gcd 28 = .ok (.goto (-22), 3) := by decide +kernel
theorem dX9_gcd_31 : decode cX9_gcd 31 = .ok (.lload 4, 2) := by decide +kernel
theorem dX9_gcd_33 : decode cX9_gcd 33 = .ok (.lreturn, 1) := by decide +kernel
theorem dX9_partOf_0 : decode cX9_partOf 0 = .ok (.lload_n 0, 1) := by decide +kernel
theorem dX9_partOf_1 : decode cX9_partOf 1 = .ok (.lconst 0, 1) := by decide +kernel
theorem dX9_partOf_2 : decode cX9_partOf 2 = .ok (.lcmp, 1) := by decide +kernel
theorem dX9_partOf_3 : decode cX9_partOf 3 = .ok (.ifCond .ne 7, 3) := by decide +kernel
theorem dX9_partOf_6 : decode cX9_partOf 6 = .ok (.iload 4, 2) := by decide +kernel
theorem dX9_partOf_8 : decode cX9_partOf 8 = .ok (.i2l, 1) := by decide +kernel
theorem dX9_partOf_9 : decode cX9_partOf 9 = .ok (.lreturn, 1) := by decide +kernel
theorem dX9_partOf_10 : decode cX9_partOf 10 = .ok (.iload 4, 2) := by decide +kernel
theorem dX9_partOf_12 : decode cX9_partOf 12 = .ok (.ifCond .ne 7, 3) := by decide +kernel
theorem dX9_partOf_15 : decode cX9_partOf 15 = .ok (.lload_n 0, 1) := by decide +kernel
theorem dX9_partOf_16 : decode cX9_partOf 16 = .ok (.goto 4, 3) := by decide +kernel
theorem dX9_partOf_19 : decode cX9_partOf 19 = .ok (.lload_n 2, 1) := by decide +kernel
theorem dX9_partOf_20 : decode cX9_partOf 20 = .ok (.lload_n 0, 1) := by decide +kernel
theorem dX9_partOf_21 : decode cX9_partOf 21 = .ok (.lload_n 2, 1) := by decide +kernel
theorem dX9_partOf_22 : decode cX9_partOf 22 = .ok (.invokestatic 177, 3) := by decide +kernel
theorem dX9_partOf_25 : decode cX9_partOf 25 = .ok (.ldiv, 1) := by decide +kernel
theorem dX9_partOf_26 : decode cX9_partOf 26 = .ok (.lreturn, 1) := by decide +kernel
theorem dX9_errsIn_0 : decode cX9_errsIn 0 = .ok (.iconst 0, 1) := by decide +kernel
theorem dX9_errsIn_1 : decode cX9_errsIn 1 = .ok (.istore_n 1, 1) := by decide +kernel
theorem dX9_errsIn_2 : decode cX9_errsIn 2 = .ok (.iload_n 1, 1) := by decide +kernel
theorem dX9_errsIn_3 : decode cX9_errsIn 3 = .ok (.aload_n 0, 1) := by decide +kernel
theorem dX9_errsIn_4 : decode cX9_errsIn 4 = .ok (.iconst 0, 1) := by decide +kernel
theorem dX9_errsIn_5 : decode cX9_errsIn 5 = .ok (.iaload, 1) := by decide +kernel
theorem dX9_errsIn_6 : decode cX9_errsIn 6 = .ok (.if_icmp .ge 40, 3) := by decide +kernel
theorem dX9_errsIn_9 : decode cX9_errsIn 9 = .ok (.aload_n 0, 1) := by decide +kernel
theorem dX9_errsIn_10 : decode cX9_errsIn 10 = .ok (.iload_n 1, 1) := by decide +kernel
theorem dX9_errsIn_11 : decode cX9_errsIn 11 = .ok (.iconst 3, 1) := by decide +kernel
theorem dX9_errsIn_12 : decode cX9_errsIn 12 = .ok (.invokestatic 45, 3) := by decide +kernel
theorem dX9_errsIn_15 : decode cX9_errsIn 15 = .ok (.iaload, 1) := by decide +kernel
theorem dX9_errsIn_16 : decode cX9_errsIn 16 = .ok (.bipush 6, 2) := by decide +kernel
theorem dX9_errsIn_18 : decode cX9_errsIn 18 = .ok (.if_icmp .eq 22, 3) := by decide +kernel
theorem dX9_errsIn_21 : decode cX9_errsIn 21 = .ok (.aload_n 0, 1) := by decide +kernel
theorem dX9_errsIn_22 : decode cX9_errsIn 22 = .ok (.iload_n 1, 1) := by decide +kernel
theorem dX9_errsIn_23 : decode cX9_errsIn 23 = .ok (.iconst 3, 1) := by decide +kernel
theorem dX9_errsIn_24 : decode cX9_errsIn 24 = .ok (.invokestatic 45, 3) := by decide +kernel
theorem dX9_errsIn_27 : decode cX9_errsIn 27 = .ok (.aload_n 0, 1) := by decide +kernel
theorem dX9_errsIn_28 : decode cX9_errsIn 28 = .ok (.iload_n 1, 1) := by decide +kernel
theorem dX9_errsIn_29 : decode cX9_errsIn 29 = .ok (.iconst 3, 1) := by decide +kernel
theorem dX9_errsIn_30 : decode cX9_errsIn 30 = .ok (.invokestatic 45, 3) := by decide +kernel
theorem dX9_errsIn_33 : decode cX9_errsIn 33 = .ok (.iaload, 1) := by decide +kernel
theorem dX9_errsIn_34 : decode cX9_errsIn 34 = .ok (.iconst 1, 1) := by decide +kernel
theorem dX9_errsIn_35 : decode cX9_errsIn 35 = .ok (.iadd, 1) := by decide +kernel
theorem dX9_errsIn_36 : decode cX9_errsIn 36 = .ok (.bipush 6, 2) := by decide +kernel
theorem dX9_errsIn_38 : decode cX9_errsIn 38 = .ok (.irem, 1) := by decide +kernel
theorem dX9_errsIn_39 : decode cX9_errsIn 39 = .ok (.iastore, 1) := by decide +kernel
theorem dX9_errsIn_40 : decode cX9_errsIn 40 = .ok (.iinc 1 1, 3) := by decide +kernel
theorem dX9_errsIn_43 : decode cX9_errsIn 43 = .ok (.goto (-41), 3) := by decide +kernel
theorem dX9_errsIn_46 : decode cX9_errsIn 46 = .ok (.return_, 1) := by decide +kernel
theorem dX9_errs_0 : decode cX9_errs 0 = .ok (.aload_n 0, 1) := by decide +kernel
theorem dX9_errs_1 : decode cX9_errs 1 = .ok (.iload_n 1, 1) := by decide +kernel
theorem dX9_errs_2 : decode cX9_errs 2 = .ok (.invokevirtual 95, 3) := by decide +kernel
theorem dX9_errs_5 : decode cX9_errs 5 = .ok (.ifCond .ne 9, 3) := by decide +kernel
theorem dX9_errs_8 : decode cX9_errs 8 = .ok (.aload_n 0, 1) := by decide +kernel
theorem dX9_errs_9 : decode cX9_errs 9 = .ok (.iconst (-1), 1) := by decide +kernel
theorem dX9_errs_10 : decode cX9_errs 10 = .ok (.invokevirtual 181, 3) := by decide +kernel
theorem dX9_errs_13 : decode cX9_errs 13 = .ok (.lreturn, 1) := by decide +kernel
theorem dX9_errs_14 : decode cX9_errs 14 = .ok (.iload_n 2, 1) := by decide +kernel
theorem dX9_errs_15 : decode cX9_errs 15 = .ok (.ifCond .lt 13, 3) := by decide +kernel
theorem dX9_errs_18 : decode cX9_errs 18 = .ok (.iload 4, 2) := by decide +kernel
theorem dX9_errs_20 : decode cX9_errs 20 = .ok (.ifCond .lt 8, 3) := by decide +kernel
theorem dX9_errs_23 : decode cX9_errs 23 = .ok (.iload_n 3, 1) := by decide +kernel
theorem dX9_errs_24 : decode cX9_errs 24 = .ok (.iconst 2, 1) := by decide +kernel
theorem dX9_errs_25 : decode cX9_errs 25 = .ok (.if_icmp .ge 10, 3) := by decide +kernel
theorem dX9_errs_28 : decode cX9_errs 28 = .ok (.aload_n 0, 1) := by decide +kernel
theorem dX9_errs_29 : decode cX9_errs 29 = .ok (.bipush (-4), 2) := by decide +kernel
theorem dX9_errs_31 : decode cX9_errs 31 = .ok (.invokevirtual 181, 3) := by decide +kernel
theorem dX9_errs_34 : decode cX9_errs 34 = .ok (.lreturn, 1) := by decide +kernel
theorem dX9_errs_35 : decode cX9_errs 35 = .ok (.iload_n 2, 1) := by decide +kernel
theorem dX9_errs_36 : decode cX9_errs 36 = .ok (.bipush 7, 2) := by decide +kernel
theorem dX9_errs_38 : decode cX9_errs 38 = .ok (.if_icmp .gt 16, 3) := by decide +kernel
theorem dX9_errs_41 : decode cX9_errs 41 = .ok (.iload_n 3, 1) := by decide +kernel
theorem dX9_errs_42 : decode cX9_errs 42 = .ok (.bipush 20, 2) := by decide +kernel
theorem dX9_errs_44 : decode cX9_errs 44 = .ok (.if_icmp .gt 10, 3) := by decide +kernel
theorem dX9_errs_47 : decode cX9_errs 47 = .ok (.iload 4, 2) := by decide +kernel
theorem dX9_errs_49 : decode cX9_errs 49 = .ok (.bipush 99, 2) := by decide +kernel
theorem dX9_errs_51 : decode cX9_errs 51 = .ok (.if_icmp .le 10, 3) := by decide +kernel
theorem dX9_errs_54 : decode cX9_errs 54 = .ok (.aload_n 0, 1) := by decide +kernel
theorem dX9_errs_55 : decode cX9_errs 55 = .ok (.bipush (-6), 2) := by decide +kernel
theorem dX9_errs_57 : decode cX9_errs 57 = .ok (.invokevirtual 181, 3) := by decide +kernel
theorem dX9_errs_60 : decode cX9_errs 60 = .ok (.lreturn, 1) := by decide +kernel
theorem dX9_errs_61 : decode cX9_errs 61 = .ok (.iload 5, 2) := by decide +kernel
theorem dX9_errs_63 : decode cX9_errs 63 = .ok (.iconst 0, 1) := by decide +kernel
theorem dX9_errs_64 : decode cX9_errs 64 = .ok (.iconst 1, 1) := by decide +kernel
theorem dX9_errs_65 : decode cX9_errs 65 = .ok (.invokestatic 41, 3) := by decide +kernel
theorem dX9_errs_68 : decode cX9_errs 68 = .ok (.ifCond .ne 10, 3) := by decide +kernel
theorem dX9_errs_71 : decode cX9_errs 71 = .ok (.aload_n 0, 1) := by decide +kernel
theorem dX9_errs_72 : decode cX9_errs 72 = .ok (.bipush (-2), 2) := by decide +kernel
theorem dX9_errs_74 : decode cX9_errs 74 = .ok (.invokevirtual 181, 3) := by decide +kernel
theorem dX9_errs_77 : decode cX9_errs 77 = .ok (.lreturn, 1) := by decide +kernel
theorem dX9_errs_78 : decode cX9_errs 78 = .ok (.lconst 0, 1) := by decide +kernel
theorem dX9_errs_79 : decode cX9_errs 79 = .ok (.lstore 6, 2) := by decide +kernel
theorem dX9_errs_81 : decode cX9_errs 81 = .ok (.lconst 1, 1) := by decide +kernel
theorem dX9_errs_82 : decode cX9_errs 82 = .ok (.lstore 8, 2) := by decide +kernel
theorem dX9_errs_84 : decode cX9_errs 84 = .ok (.iconst 0, 1) := by decide +kernel
theorem dX9_errs_85 : decode cX9_errs 85 = .ok (.istore 10, 2) := by decide +kernel
theorem dX9_errs_87 : decode cX9_errs 87 = .ok (.iload 10, 2) := by decide +kernel
theorem dX9_errs_89 : decode cX9_errs 89 = .ok (.iload_n 2, 1) := by decide +kernel
theorem dX9_errs_90 : decode cX9_errs 90 = .ok (.if_icmp .ge 16, 3) := by decide +kernel
theorem dX9_errs_93 : decode cX9_errs 93 = .ok (.lload 8, 2) := by decide +kernel
theorem dX9_errs_95 : decode cX9_errs 95 = .ok (.iload_n 3, 1) := by decide +kernel
theorem dX9_errs_96 : decode cX9_errs 96 = .ok (.i2l, 1) := by decide +kernel
theorem dX9_errs_97 : decode cX9_errs 97 = .ok (.lmul, 1) := by decide +kernel
theorem dX9_errs_98 : decode cX9_errs 98 = .ok (.lstore 8, 2) := by decide +kernel
theorem dX9_errs_100 : decode cX9_errs 100 = .ok (.iinc 10 1, 3) := by decide +kernel
theorem dX9_errs_103 : decode cX9_errs 103 = .ok (.goto (-16), 3) := by decide +kernel
theorem dX9_errs_106 : decode cX9_errs 106 = .ok (.iconst 0, 1) := by decide +kernel
theorem dX9_errs_107 : decode cX9_errs 107 = .ok (.istore 10, 2) := by decide +kernel
theorem dX9_errs_109 : decode cX9_errs 109 = .ok (.iload 10, 2) := by decide +kernel
theorem dX9_errs_111 : decode cX9_errs 111 = .ok (.iconst 1, 1) := by decide +kernel
theorem dX9_errs_112 : decode cX9_errs 112 = .ok (.iload_n 2, 1) := by decide +kernel
theorem dX9_errs_113 : decode cX9_errs 113 = .ok (.ishl, 1) := by decide +kernel
theorem dX9_errs_114 : decode cX9_errs 114 = .ok (.if_icmp .ge 111, 3) := by decide +kernel
theorem dX9_errs_117 : decode cX9_errs 117 = .ok (.lconst 1, 1) := by decide +kernel
theorem dX9_errs_118 : decode cX9_errs 118 = .ok (.lstore 11, 2) := by decide +kernel
theorem dX9_errs_120 : decode cX9_errs 120 = .ok (.aload_n 0, 1) := by decide +kernel
theorem dX9_errs_121 : decode cX9_errs 121 = .ok (.getfield 9, 3) := by decide +kernel
theorem dX9_errs_124 : decode cX9_errs 124 = .ok (.aload_n 0, 1) := by decide +kernel
theorem dX9_errs_125 : decode cX9_errs 125 = .ok (.getfield 13, 3) := by decide +kernel
theorem dX9_errs_128 : decode cX9_errs 128 = .ok (.invokestatic 112, 3) := by decide +kernel
theorem dX9_errs_131 : decode cX9_errs 131 = .ok (.iconst 0, 1) := by decide +kernel
theorem dX9_errs_132 : decode cX9_errs 132 = .ok (.istore 13, 2) := by decide +kernel
theorem dX9_errs_134 : decode cX9_errs 134 = .ok (.iload 13, 2) := by decide +kernel
theorem dX9_errs_136 : decode cX9_errs 136 = .ok (.iload_n 2, 1) := by decide +kernel
theorem dX9_errs_137 : decode cX9_errs 137 = .ok (.if_icmp .ge 56, 3) := by decide +kernel
theorem dX9_errs_140 : decode cX9_errs 140 = .ok (.lload 11, 2) := by decide +kernel
theorem dX9_errs_142 : decode cX9_errs 142 = .ok (.iload 10, 2) := by decide +kernel
theorem dX9_errs_144 : decode cX9_errs 144 = .ok (.iload 13, 2) := by decide +kernel
theorem dX9_errs_146 : decode cX9_errs 146 = .ok (.invokestatic 167, 3) := by decide +kernel
theorem dX9_errs_149 : decode cX9_errs 149 = .ok (.ifCond .eq 7, 3) := by decide +kernel
theorem dX9_errs_152 : decode cX9_errs 152 = .ok (.lconst 1, 1) := by decide +kernel
theorem dX9_errs_153 : decode cX9_errs 153 = .ok (.goto 7, 3) := by decide +kernel
theorem dX9_errs_156 : decode cX9_errs 156 = .ok (.iload_n 3, 1) := by decide +kernel
theorem dX9_errs_157 : decode cX9_errs 157 = .ok (.iconst 1, 1) := by decide +kernel
theorem dX9_errs_158 : decode cX9_errs 158 = .ok (.isub, 1) := by decide +kernel
theorem dX9_errs_159 : decode cX9_errs 159 = .ok (.i2l, 1) := by decide +kernel
theorem dX9_errs_160 : decode cX9_errs 160 = .ok (.lmul, 1) := by decide +kernel
theorem dX9_errs_161 : decode cX9_errs 161 = .ok (.lstore 11, 2) := by decide +kernel
theorem dX9_errs_163 : decode cX9_errs 163 = .ok (.iload 10, 2) := by decide +kernel
theorem dX9_errs_165 : decode cX9_errs 165 = .ok (.iload 13, 2) := by decide +kernel
theorem dX9_errs_167 : decode cX9_errs 167 = .ok (.invokestatic 167, 3) := by decide +kernel
theorem dX9_errs_170 : decode cX9_errs 170 = .ok (.ifCond .eq 10, 3) := by decide +kernel
theorem dX9_errs_173 : decode cX9_errs 173 = .ok (.aload_n 0, 1) := by decide +kernel
theorem dX9_errs_174 : decode cX9_errs 174 = .ok (.getfield 13, 3) := by decide +kernel
theorem dX9_errs_177 : decode cX9_errs 177 = .ok (.invokestatic 185, 3) := by decide +kernel
theorem dX9_errs_180 : decode cX9_errs 180 = .ok (.aload_n 0, 1) := by decide +kernel
theorem dX9_errs_181 : decode cX9_errs 181 = .ok (.getfield 13, 3) := by decide +kernel
theorem dX9_errs_184 : decode cX9_errs 184 = .ok (.invokestatic 69, 3) := by decide +kernel
theorem dX9_errs_187 : decode cX9_errs 187 = .ok (.iinc 13 1, 3) := by decide +kernel
theorem dX9_errs_190 : decode cX9_errs 190 = .ok (.goto (-56), 3) := by decide +kernel
theorem dX9_errs_193 : decode cX9_errs 193 = .ok (.lload 6, 2) := by decide +kernel
theorem dX9_errs_195 : decode cX9_errs 195 = .ok (.aload_n 0, 1) := by decide +kernel
theorem dX9_errs_196 : decode cX9_errs 196 = .ok (.getfield 13, 3) := by decide +kernel
theorem dX9_errs_199 : decode cX9_errs 199 = .ok (.iload_n 1, 1) := by decide +kernel
theorem dX9_errs_200 : decode cX9_errs 200 = .ok (.iconst 1, 1) := by decide +kernel
theorem dX9_errs_201 : decode cX9_errs 201 = .ok (.invokestatic 52, 3) := by decide +kernel
theorem dX9_errs_204 : decode cX9_errs 204 = .ok (.iaload, 1) := by decide +kernel
theorem dX9_errs_205 : decode cX9_errs 205 = .ok (.iload 4, 2) := by decide +kernel
theorem dX9_errs_207 : decode cX9_errs 207 = .ok (.if_icmp .lt 8, 3) := by decide +kernel
theorem dX9_errs_210 : decode cX9_errs 210 = .ok (.lload 11, 2) := by decide +kernel
theorem dX9_errs_212 : decode cX9_errs 212 = .ok (.goto 4, 3) := by decide +kernel
theorem dX9_errs_215 : decode cX9_errs 215 = .ok (.lconst 0, 1) := by decide +kernel
theorem dX9_errs_216 : decode cX9_errs 216 = .ok (.ladd, 1) := by decide +kernel
theorem dX9_errs_217 : decode cX9_errs 217 = .ok (.lstore 6, 2) := by decide +kernel
theorem dX9_errs_219 : decode cX9_errs 219 = .ok (.iinc 10 1, 3) := by decide +kernel
theorem dX9_errs_222 : decode cX9_errs 222 = .ok (.goto (-113), 3) := by decide +kernel
theorem dX9_errs_225 : decode cX9_errs 225 = .ok (.lload 6, 2) := by decide +kernel
theorem dX9_errs_227 : decode cX9_errs 227 = .ok (.lload 8, 2) := by decide +kernel
theorem dX9_errs_229 : decode cX9_errs 229 = .ok (.iload 5, 2) := by decide +kernel
theorem dX9_errs_231 : decode cX9_errs 231 = .ok (.invokestatic 188, 3) := by decide +kernel
theorem dX9_errs_234 : decode cX9_errs 234 = .ok (.lreturn, 1) := by decide +kernel
theorem dX9_mean_0 : decode cX9_mean 0 = .ok (.iload_n 1, 1) := by decide +kernel
theorem dX9_mean_1 : decode cX9_mean 1 = .ok (.iconst 0, 1) := by decide +kernel
theorem dX9_mean_2 : decode cX9_mean 2 = .ok (.iconst 1, 1) := by decide +kernel
theorem dX9_mean_3 : decode cX9_mean 3 = .ok (.invokestatic 41, 3) := by decide +kernel
theorem dX9_mean_6 : decode cX9_mean 6 = .ok (.ifCond .eq 25, 3) := by decide +kernel
theorem dX9_mean_9 : decode cX9_mean 9 = .ok (.aload_n 0, 1) := by decide +kernel
theorem dX9_mean_10 : decode cX9_mean 10 = .ok (.getfield 9, 3) := by decide +kernel
theorem dX9_mean_13 : decode cX9_mean 13 = .ok (.invokestatic 129, 3) := by decide +kernel
theorem dX9_mean_16 : decode cX9_mean 16 = .ok (.i2l, 1) := by decide +kernel
theorem dX9_mean_17 : decode cX9_mean 17 = .ok (.aload_n 0, 1) := by decide +kernel
theorem dX9_mean_18 : decode cX9_mean 18 = .ok (.getfield 9, 3) := by decide +kernel
theorem dX9_mean_21 : decode cX9_mean 21 = .ok (.iconst 1, 1) := by decide +kernel
theorem dX9_mean_22 : decode cX9_mean 22 = .ok (.iaload, 1) := by decide +kernel
theorem dX9_mean_23 : decode cX9_mean 23 = .ok (.i2l, 1) := by decide +kernel
theorem dX9_mean_24 : decode cX9_mean 24 = .ok (.iload_n 1, 1) := by decide +kernel
theorem dX9_mean_25 : decode cX9_mean 25 = .ok (.invokestatic 188, 3) := by decide +kernel
theorem dX9_mean_28 : decode cX9_mean 28 = .ok (.goto 9, 3) := by decide +kernel
theorem dX9_mean_31 : decode cX9_mean 31 = .ok (.aload_n 0, 1) := by decide +kernel
theorem dX9_mean_32 : decode cX9_mean 32 = .ok (.bipush (-2), 2) := by decide +kernel
theorem dX9_mean_34 : decode cX9_mean 34 = .ok (.invokevirtual 181, 3) := by decide +kernel
theorem dX9_mean_37 : decode cX9_mean 37 = .ok (.lreturn, 1) := by decide +kernel
theorem dX9_whatIn_0 : decode cX9_whatIn 0 = .ok (.aload_n 0, 1) := by decide +kernel
theorem dX9_whatIn_1 : decode cX9_whatIn 1 = .ok (.iload_n 1, 1) := by decide +kernel
theorem dX9_whatIn_2 : decode cX9_whatIn 2 = .ok (.invokevirtual 102, 3) := by decide +kernel
theorem dX9_whatIn_5 : decode cX9_whatIn 5 = .ok (.ifCond .ne 9, 3) := by decide +kernel
theorem dX9_whatIn_8 : decode cX9_whatIn 8 = .ok (.aload_n 0, 1) := by decide +kernel
theorem dX9_whatIn_9 : decode cX9_whatIn 9 = .ok (.iconst (-1), 1) := by decide +kernel
theorem dX9_whatIn_10 : decode cX9_whatIn 10 = .ok (.invokevirtual 35, 3) := by decide +kernel
theorem dX9_whatIn_13 : decode cX9_whatIn 13 = .ok (.ireturn, 1) := by decide +kernel
theorem dX9_whatIn_14 : decode cX9_whatIn 14 = .ok (.iload_n 2, 1) := by decide +kernel
theorem dX9_whatIn_15 : decode cX9_whatIn 15 = .ok (.iconst 0, 1) := by decide +kernel
theorem dX9_whatIn_16 : decode cX9_whatIn 16 = .ok (.iconst 1, 1) := by decide +kernel
theorem dX9_whatIn_17 : decode cX9_whatIn 17 = .ok (.invokestatic 41, 3) := by decide +kernel
theorem dX9_whatIn_20 : decode cX9_whatIn 20 = .ok (.ifCond .ne 10, 3) := by decide +kernel
theorem dX9_whatIn_23 : decode cX9_whatIn 23 = .ok (.aload_n 0, 1) := by decide +kernel
theorem dX9_whatIn_24 : decode cX9_whatIn 24 = .ok (.bipush (-2), 2) := by decide +kernel
theorem dX9_whatIn_26 : decode cX9_whatIn 26 = .ok (.invokevirtual 35, 3) := by decide +kernel
theorem dX9_whatIn_29 : decode cX9_whatIn 29 = .ok (.ireturn, 1) := by decide +kernel
theorem dX9_whatIn_30 : decode cX9_whatIn 30 = .ok (.aload_n 0, 1) := by decide +kernel
theorem dX9_whatIn_31 : decode cX9_whatIn 31 = .ok (.getfield 9, 3) := by decide +kernel
theorem dX9_whatIn_34 : decode cX9_whatIn 34 = .ok (.iload_n 1, 1) := by decide +kernel
theorem dX9_whatIn_35 : decode cX9_whatIn 35 = .ok (.iconst 5, 1) := by decide +kernel
theorem dX9_whatIn_36 : decode cX9_whatIn 36 = .ok (.invokestatic 45, 3) := by decide +kernel
theorem dX9_whatIn_39 : decode cX9_whatIn 39 = .ok (.iaload, 1) := by decide +kernel
theorem dX9_whatIn_40 : decode cX9_whatIn 40 = .ok (.istore_n 3, 1) := by decide +kernel
theorem dX9_whatIn_41 : decode cX9_whatIn 41 = .ok (.iconst 0, 1) := by decide +kernel
theorem dX9_whatIn_42 : decode cX9_whatIn 42 = .ok (.istore 4, 2) := by decide +kernel
theorem dX9_whatIn_44 : decode cX9_whatIn 44 = .ok (.iconst 0, 1) := by decide +kernel
theorem dX9_whatIn_45 : decode cX9_whatIn 45 = .ok (.istore 5, 2) := by decide +kernel
theorem dX9_whatIn_47 : decode cX9_whatIn 47 = .ok (.iload 5, 2) := by decide +kernel
theorem dX9_whatIn_49 : decode cX9_whatIn 49 = .ok (.iload_n 2, 1) := by decide +kernel
theorem dX9_whatIn_50 : decode cX9_whatIn 50 = .ok (.ifCond .ne 8, 3) := by decide +kernel
theorem dX9_whatIn_53 : decode cX9_whatIn 53 = .ok (.bipush 6, 2) := by decide +kernel
theorem dX9_whatIn_55 : decode cX9_whatIn 55 = .ok (.goto 5, 3) := by decide +kernel
theorem dX9_whatIn_58 : decode cX9_whatIn 58 = .ok (.bipush 6, 2) := by decide +kernel
theorem dX9_whatIn_60 : decode cX9_whatIn 60 = .ok (.if_icmp .ge 116, 3) := by decide +kernel
theorem dX9_whatIn_63 : decode cX9_whatIn 63 = .ok (.iconst 1, 1) := by decide +kernel
theorem dX9_whatIn_64 : decode cX9_whatIn 64 = .ok (.istore 6, 2) := by decide +kernel
theorem dX9_whatIn_66 : decode cX9_whatIn 66 = .ok (.aload_n 0, 1) := by decide +kernel
theorem dX9_whatIn_67 : decode cX9_whatIn 67 = .ok (.getfield 9, 3) := by decide +kernel
theorem dX9_whatIn_70 : decode cX9_whatIn 70 = .ok (.aload_n 0, 1) := by decide +kernel
theorem dX9_whatIn_71 : decode cX9_whatIn 71 = .ok (.getfield 13, 3) := by decide +kernel
theorem dX9_whatIn_74 : decode cX9_whatIn 74 = .ok (.invokestatic 112, 3) := by decide +kernel
theorem dX9_whatIn_77 : decode cX9_whatIn 77 = .ok (.aload_n 0, 1) := by decide +kernel
theorem dX9_whatIn_78 : decode cX9_whatIn 78 = .ok (.getfield 13, 3) := by decide +kernel
theorem dX9_whatIn_81 : decode cX9_whatIn 81 = .ok (.iload_n 1, 1) := by decide +kernel
theorem dX9_whatIn_82 : decode cX9_whatIn 82 = .ok (.iload_n 2, 1) := by decide +kernel
theorem dX9_whatIn_83 : decode cX9_whatIn 83 = .ok (.ifCond .ne 7, 3) := by decide +kernel
theorem dX9_whatIn_86 : decode cX9_whatIn 86 = .ok (.iconst 2, 1) := by decide +kernel
theorem dX9_whatIn_87 : decode cX9_whatIn 87 = .ok (.goto 4, 3) := by decide +kernel
theorem dX9_whatIn_90 : decode cX9_whatIn 90 = .ok (.iconst 0, 1) := by decide +kernel
theorem dX9_whatIn_91 : decode cX9_whatIn 91 = .ok (.invokestatic 45, 3) := by decide +kernel
theorem dX9_whatIn_94 : decode cX9_whatIn 94 = .ok (.iload 5, 2) := by decide +kernel
theorem dX9_whatIn_96 : decode cX9_whatIn 96 = .ok (.iastore, 1) := by decide +kernel
theorem dX9_whatIn_97 : decode cX9_whatIn 97 = .ok (.iconst 0, 1) := by decide +kernel
theorem dX9_whatIn_98 : decode cX9_whatIn 98 = .ok (.istore 7, 2) := by decide +kernel
theorem dX9_whatIn_100 : decode cX9_whatIn 100 = .ok (.iload 7, 2) := by decide +kernel
theorem dX9_whatIn_102 : decode cX9_whatIn 102 = .ok (.aload_n 0, 1) := by decide +kernel
theorem dX9_whatIn_103 : decode cX9_whatIn 103 = .ok (.getfield 192, 3) := by decide +kernel
theorem dX9_whatIn_106 : decode cX9_whatIn 106 = .ok (.if_icmp .ge 46, 3) := by decide +kernel
theorem dX9_whatIn_109 : decode cX9_whatIn 109 = .ok (.iload 6, 2) := by decide +kernel
theorem dX9_whatIn_111 : decode cX9_whatIn 111 = .ok (.aload_n 0, 1) := by decide +kernel
theorem dX9_whatIn_112 : decode cX9_whatIn 112 = .ok (.getfield 13, 3) := by decide +kernel
theorem dX9_whatIn_115 : decode cX9_whatIn 115 = .ok (.iload_n 3, 1) := by decide +kernel
theorem dX9_whatIn_116 : decode cX9_whatIn 116 = .ok (.iconst 1, 1) := by decide +kernel
theorem dX9_whatIn_117 : decode cX9_whatIn 117 = .ok (.invokestatic 52, 3) := by decide +kernel
theorem dX9_whatIn_120 : decode cX9_whatIn 120 = .ok (.iaload, 1) := by decide +kernel
theorem dX9_whatIn_121 : decode cX9_whatIn 121 = .ok (.aload_n 0, 1) := by decide +kernel
theorem dX9_whatIn_122 : decode cX9_whatIn 122 = .ok (.getfield 25, 3) := by decide +kernel
theorem dX9_whatIn_125 : decode cX9_whatIn 125 = .ok (.iload 7, 2) := by decide +kernel
theorem dX9_whatIn_127 : decode cX9_whatIn 127 = .ok (.iaload, 1) := by decide +kernel
theorem dX9_whatIn_128 : decode cX9_whatIn 128 = .ok (.if_icmp .ne 7, 3) := by decide +kernel
theorem dX9_whatIn_131 : decode cX9_whatIn 131 = .ok (.iconst 1, 1) := by decide +kernel
theorem dX9_whatIn_132 : decode cX9_whatIn 132 = .ok (.goto 4, 3) := by decide +kernel
theorem dX9_whatIn_135 : decode cX9_whatIn 135 = .ok (.iconst 0, 1) := by decide +kernel
theorem dX9_whatIn_136 : decode cX9_whatIn 136 = .ok (.iand, 1) := by decide +kernel
theorem dX9_whatIn_137 : decode cX9_whatIn 137 = .ok (.istore 6, 2) := by decide +kernel
theorem dX9_whatIn_139 : decode cX9_whatIn 139 = .ok (.aload_n 0, 1) := by decide +kernel
theorem dX9_whatIn_140 : decode cX9_whatIn 140 = .ok (.getfield 13, 3) := by decide +kernel
theorem dX9_whatIn_143 : decode cX9_whatIn 143 = .ok (.invokestatic 69, 3) := by decide +kernel
theorem dX9_whatIn_146 : decode cX9_whatIn 146 = .ok (.iinc 7 1, 3) := by decide +kernel
theorem dX9_whatIn_149 : decode cX9_whatIn 149 = .ok (.goto (-49), 3) := by decide +kernel
theorem dX9_whatIn_152 : decode cX9_whatIn 152 = .ok (.iload 4, 2) := by decide +kernel
theorem dX9_whatIn_154 : decode cX9_whatIn 154 = .ok (.iload 6, 2) := by decide +kernel
theorem dX9_whatIn_156 : decode cX9_whatIn 156 = .ok (.ifCond .eq 10, 3) := by decide +kernel
theorem dX9_whatIn_159 : decode cX9_whatIn 159 = .ok (.iconst 1, 1) := by decide +kernel
theorem dX9_whatIn_160 : decode cX9_whatIn 160 = .ok (.iload 5, 2) := by decide +kernel
theorem dX9_whatIn_162 : decode cX9_whatIn 162 = .ok (.ishl, 1) := by decide +kernel
theorem dX9_whatIn_163 : decode cX9_whatIn 163 = .ok (.goto 4, 3) := by decide +kernel
theorem dX9_whatIn_166 : decode cX9_whatIn 166 = .ok (.iconst 0, 1) := by decide +kernel
theorem dX9_whatIn_167 : decode cX9_whatIn 167 = .ok (.ior, 1) := by decide +kernel
theorem dX9_whatIn_168 : decode cX9_whatIn 168 = .ok (.istore 4, 2) := by decide +kernel
theorem dX9_whatIn_170 : decode cX9_whatIn 170 = .ok (.iinc 5 1, 3) := by decide +kernel
theorem dX9_whatIn_173 : decode cX9_whatIn 173 = .ok (.goto (-126), 3) := by decide +kernel
theorem dX9_whatIn_176 : decode cX9_whatIn 176 = .ok (.iload 4, 2) := by decide +kernel
theorem dX9_whatIn_178 : decode cX9_whatIn 178 = .ok (.ireturn, 1) := by decide +kernel
theorem dX9_row_0 : decode cX9_row 0 = .ok (.iload_n 1, 1) := by decide +kernel
theorem dX9_row_1 : decode cX9_row 1 = .ok (.iconst 0, 1) := by decide +kernel
theorem dX9_row_2 : decode cX9_row 2 = .ok (.bipush 99, 2) := by decide +kernel
theorem dX9_row_4 : decode cX9_row 4 = .ok (.invokestatic 125, 3) := by decide +kernel
theorem dX9_row_7 : decode cX9_row 7 = .ok (.istore_n 2, 1) := by decide +kernel
theorem dX9_row_8 : decode cX9_row 8 = .ok (.iload_n 2, 1) := by decide +kernel
theorem dX9_row_9 : decode cX9_row 9 = .ok (.ifCond .ne 15, 3) := by decide +kernel
theorem dX9_row_12 : decode cX9_row 12 = .ok (.aload_n 0, 1) := by decide +kernel
theorem dX9_row_13 : decode cX9_row 13 = .ok (.getfield 192, 3) := by decide +kernel
theorem dX9_row_16 : decode cX9_row 16 = .ok (.bipush 16, 2) := by decide +kernel
theorem dX9_row_18 : decode cX9_row 18 = .ok (.if_icmp .ne 6, 3) := by decide +kernel
theorem dX9_row_21 : decode cX9_row 21 = .ok (.bipush (-6), 2) := by decide +kernel
theorem dX9_row_23 : decode cX9_row 23 = .ok (.istore_n 2, 1) := by decide +kernel
theorem dX9_row_24 : decode cX9_row 24 = .ok (.iload_n 2, 1) := by decide +kernel
theorem dX9_row_25 : decode cX9_row 25 = .ok (.ifCond .eq 9, 3) := by decide +kernel
theorem dX9_row_28 : decode cX9_row 28 = .ok (.aload_n 0, 1) := by decide +kernel
theorem dX9_row_29 : decode cX9_row 29 = .ok (.iload_n 2, 1) := by decide +kernel
theorem dX9_row_30 : decode cX9_row 30 = .ok (.invokevirtual 35, 3) := by decide +kernel
theorem dX9_row_33 : decode cX9_row 33 = .ok (.ireturn, 1) := by decide +kernel
theorem dX9_row_34 : decode cX9_row 34 = .ok (.aload_n 0, 1) := by decide +kernel
theorem dX9_row_35 : decode cX9_row 35 = .ok (.getfield 25, 3) := by decide +kernel
theorem dX9_row_38 : decode cX9_row 38 = .ok (.aload_n 0, 1) := by decide +kernel
theorem dX9_row_39 : decode cX9_row 39 = .ok (.getfield 192, 3) := by decide +kernel
theorem dX9_row_42 : decode cX9_row 42 = .ok (.iload_n 1, 1) := by decide +kernel
theorem dX9_row_43 : decode cX9_row 43 = .ok (.iastore, 1) := by decide +kernel
theorem dX9_row_44 : decode cX9_row 44 = .ok (.aload_n 0, 1) := by decide +kernel
theorem dX9_row_45 : decode cX9_row 45 = .ok (.dup, 1) := by decide +kernel
theorem dX9_row_46 : decode cX9_row 46 = .ok (.getfield 192, 3) := by decide +kernel
theorem dX9_row_49 : decode cX9_row 49 = .ok (.iconst 1, 1) := by decide +kernel
theorem dX9_row_50 : decode cX9_row 50 = .ok (.iadd, 1) := by decide +kernel
theorem dX9_row_51 : decode cX9_row 51 = .ok (.putfield 192, 3) := by decide +kernel
theorem dX9_row_54 : decode cX9_row 54 = .ok (.aload_n 0, 1) := by decide +kernel
theorem dX9_row_55 : decode cX9_row 55 = .ok (.getfield 192, 3) := by decide +kernel
theorem dX9_row_58 : decode cX9_row 58 = .ok (.ireturn, 1) := by decide +kernel
theorem dX9_judge_0 : decode cX9_judge 0 = .ok (.aload_n 0, 1) := by decide +kernel
theorem dX9_judge_1 : decode cX9_judge 1 = .ok (.getfield 192, 3) := by decide +kernel
theorem dX9_judge_4 : decode cX9_judge 4 = .ok (.istore_n 1, 1) := by decide +kernel
theorem dX9_judge_5 : decode cX9_judge 5 = .ok (.aload_n 0, 1) := by decide +kernel
theorem dX9_judge_6 : decode cX9_judge 6 = .ok (.iconst 0, 1) := by decide +kernel
theorem dX9_judge_7 : decode cX9_judge 7 = .ok (.putfield 192, 3) := by decide +kernel
theorem dX9_judge_10 : decode cX9_judge 10 = .ok (.iconst 0, 1) := by decide +kernel
theorem dX9_judge_11 : decode cX9_judge 11 = .ok (.istore_n 2, 1) := by decide +kernel
theorem dX9_judge_12 : decode cX9_judge 12 = .ok (.iload_n 2, 1) := by decide +kernel
theorem dX9_judge_13 : decode cX9_judge 13 = .ok (.iload_n 1, 1) := by decide +kernel
theorem dX9_judge_14 : decode cX9_judge 14 = .ok (.if_icmp .ge 38, 3) := by decide +kernel
theorem dX9_judge_17 : decode cX9_judge 17 = .ok (.aload_n 0, 1) := by decide +kernel
theorem dX9_judge_18 : decode cX9_judge 18 = .ok (.iload_n 2, 1) := by decide +kernel
theorem dX9_judge_19 : decode cX9_judge 19 = .ok (.invokevirtual 102, 3) := by decide +kernel
theorem dX9_judge_22 : decode cX9_judge 22 = .ok (.ifCond .eq 22, 3) := by decide +kernel
theorem dX9_judge_25 : decode cX9_judge 25 = .ok (.aload_n 0, 1) := by decide +kernel
theorem dX9_judge_26 : decode cX9_judge 26 = .ok (.getfield 9, 3) := by decide +kernel
theorem dX9_judge_29 : decode cX9_judge 29 = .ok (.iload_n 2, 1) := by decide +kernel
theorem dX9_judge_30 : decode cX9_judge 30 = .ok (.iconst 3, 1) := by decide +kernel
theorem dX9_judge_31 : decode cX9_judge 31 = .ok (.invokestatic 45, 3) := by decide +kernel
theorem dX9_judge_34 : decode cX9_judge 34 = .ok (.iaload, 1) := by decide +kernel
theorem dX9_judge_35 : decode cX9_judge 35 = .ok (.aload_n 0, 1) := by decide +kernel
theorem dX9_judge_36 : decode cX9_judge 36 = .ok (.getfield 25, 3) := by decide +kernel
theorem dX9_judge_39 : decode cX9_judge 39 = .ok (.iload_n 2, 1) := by decide +kernel
theorem dX9_judge_40 : decode cX9_judge 40 = .ok (.iaload, 1) := by decide +kernel
theorem dX9_judge_41 : decode cX9_judge 41 = .ok (.if_icmp .eq 5, 3) := by decide +kernel
theorem dX9_judge_44 : decode cX9_judge 44 = .ok (.iload_n 2, 1) := by decide +kernel
theorem dX9_judge_45 : decode cX9_judge 45 = .ok (.ireturn, 1) := by decide +kernel
theorem dX9_judge_46 : decode cX9_judge 46 = .ok (.iinc 2 1, 3) := by decide +kernel
theorem dX9_judge_49 : decode cX9_judge 49 = .ok (.goto (-37), 3) := by decide +kernel
theorem dX9_judge_52 : decode cX9_judge 52 = .ok (.bipush (-9), 2) := by decide +kernel
theorem dX9_judge_54 : decode cX9_judge 54 = .ok (.ireturn, 1) := by decide +kernel
theorem dX9_clear_0 : decode cX9_clear 0 = .ok (.aload_n 0, 1) := by decide +kernel
theorem dX9_clear_1 : decode cX9_clear 1 = .ok (.getfield 192, 3) := by decide +kernel
theorem dX9_clear_4 : decode cX9_clear 4 = .ok (.istore_n 1, 1) := by decide +kernel
theorem dX9_clear_5 : decode cX9_clear 5 = .ok (.aload_n 0, 1) := by decide +kernel
theorem dX9_clear_6 : decode cX9_clear 6 = .ok (.iconst 0, 1) := by decide +kernel
theorem dX9_clear_7 : decode cX9_clear 7 = .ok (.putfield 192, 3) := by decide +kernel
theorem dX9_clear_10 : decode cX9_clear 10 = .ok (.iload_n 1, 1) := by decide +kernel
theorem dX9_clear_11 : decode cX9_clear 11 = .ok (.ireturn, 1) := by decide +kernel
theorem dX9_drawn_0 : decode cX9_drawn 0 = .ok (.aload_n 0, 1) := by decide +kernel
theorem dX9_drawn_1 : decode cX9_drawn 1 = .ok (.aload_n 0, 1) := by decide +kernel
theorem dX9_drawn_2 : decode cX9_drawn 2 = .ok (.getfield 195, 3) := by decide +kernel
theorem dX9_drawn_5 : decode cX9_drawn 5 = .ok (.ldc 198, 2) := by decide +kernel
theorem dX9_drawn_7 : decode cX9_drawn 7 = .ok (.imul, 1) := by decide +kernel
theorem dX9_drawn_8 : decode cX9_drawn 8 = .ok (.ldc 199, 2) := by decide +kernel
theorem dX9_drawn_10 : decode cX9_drawn 10 = .ok (.iadd, 1) := by decide +kernel
theorem dX9_drawn_11 : decode cX9_drawn 11 = .ok (.putfield 195, 3) := by decide +kernel
theorem dX9_drawn_14 : decode cX9_drawn 14 = .ok (.aload_n 0, 1) := by decide +kernel
theorem dX9_drawn_15 : decode cX9_drawn 15 = .ok (.getfield 195, 3) := by decide +kernel
theorem dX9_drawn_18 : decode cX9_drawn 18 = .ok (.ldc 200, 2) := by decide +kernel
theorem dX9_drawn_20 : decode cX9_drawn 20 = .ok (.iand, 1) := by decide +kernel
theorem dX9_drawn_21 : decode cX9_drawn 21 = .ok (.sipush 256, 3) := by decide +kernel
theorem dX9_drawn_24 : decode cX9_drawn 24 = .ok (.idiv, 1) := by decide +kernel
theorem dX9_drawn_25 : decode cX9_drawn 25 = .ok (.iload_n 1, 1) := by decide +kernel
theorem dX9_drawn_26 : decode cX9_drawn 26 = .ok (.irem, 1) := by decide +kernel
theorem dX9_drawn_27 : decode cX9_drawn 27 = .ok (.ireturn, 1) := by decide +kernel
theorem dX9_lots_0 : decode cX9_lots 0 = .ok (.iload_n 1, 1) := by decide +kernel
theorem dX9_lots_1 : decode cX9_lots 1 = .ok (.iconst 1, 1) := by decide +kernel
theorem dX9_lots_2 : decode cX9_lots 2 = .ok (.if_icmp .ge 10, 3) := by decide +kernel
theorem dX9_lots_5 : decode cX9_lots 5 = .ok (.aload_n 0, 1) := by decide +kernel
theorem dX9_lots_6 : decode cX9_lots 6 = .ok (.bipush (-4), 2) := by decide +kernel
theorem dX9_lots_8 : decode cX9_lots 8 = .ok (.invokevirtual 35, 3) := by decide +kernel
theorem dX9_lots_11 : decode cX9_lots 11 = .ok (.ireturn, 1) := by decide +kernel
theorem dX9_lots_12 : decode cX9_lots 12 = .ok (.iload_n 1, 1) := by decide +kernel
theorem dX9_lots_13 : decode cX9_lots 13 = .ok (.bipush 20, 2) := by decide +kernel
theorem dX9_lots_15 : decode cX9_lots 15 = .ok (.if_icmp .le 10, 3) := by decide +kernel
theorem dX9_lots_18 : decode cX9_lots 18 = .ok (.aload_n 0, 1) := by decide +kernel
theorem dX9_lots_19 : decode cX9_lots 19 = .ok (.bipush (-6), 2) := by decide +kernel
theorem dX9_lots_21 : decode cX9_lots 21 = .ok (.invokevirtual 35, 3) := by decide +kernel
theorem dX9_lots_24 : decode cX9_lots 24 = .ok (.ireturn, 1) := by decide +kernel
theorem dX9_lots_25 : decode cX9_lots 25 = .ok (.iload_n 3, 1) := by decide +kernel
theorem dX9_lots_26 : decode cX9_lots 26 = .ok (.iconst 0, 1) := by decide +kernel
theorem dX9_lots_27 : decode cX9_lots 27 = .ok (.iconst 1, 1) := by decide +kernel
theorem dX9_lots_28 : decode cX9_lots 28 = .ok (.invokestatic 41, 3) := by decide +kernel
theorem dX9_lots_31 : decode cX9_lots 31 = .ok (.ifCond .ne 10, 3) := by decide +kernel
theorem dX9_lots_34 : decode cX9_lots 34 = .ok (.aload_n 0, 1) := by decide +kernel
theorem dX9_lots_35 : decode cX9_lots 35 = .ok (.bipush (-2), 2) := by decide +kernel
theorem dX9_lots_37 : decode cX9_lots 37 = .ok (.invokevirtual 35, 3) := by decide +kernel
theorem dX9_lots_40 : decode cX9_lots 40 = .ok (.ireturn, 1) := by decide +kernel
theorem dX9_lots_41 : decode cX9_lots 41 = .ok (.aload_n 0, 1) := by decide +kernel
theorem dX9_lots_42 : decode cX9_lots 42 = .ok (.iload_n 2, 1) := by decide +kernel
theorem dX9_lots_43 : decode cX9_lots 43 = .ok (.putfield 195, 3) := by decide +kernel
theorem dX9_lots_46 : decode cX9_lots 46 = .ok (.iconst 0, 1) := by decide +kernel
theorem dX9_lots_47 : decode cX9_lots 47 = .ok (.istore 4, 2) := by decide +kernel
theorem dX9_lots_49 : decode cX9_lots 49 = .ok (.iconst 0, 1) := by decide +kernel
theorem dX9_lots_50 : decode cX9_lots 50 = .ok (.istore 5, 2) := by decide +kernel
theorem dX9_lots_52 : decode cX9_lots 52 = .ok (.iload 5, 2) := by decide +kernel
theorem dX9_lots_54 : decode cX9_lots 54 = .ok (.iload_n 1, 1) := by decide +kernel
theorem dX9_lots_55 : decode cX9_lots 55 = .ok (.if_icmp .ge 152, 3) := by decide +kernel
theorem dX9_lots_58 : decode cX9_lots 58 = .ok (.aload_n 0, 1) := by decide +kernel
theorem dX9_lots_59 : decode cX9_lots 59 = .ok (.getfield 9, 3) := by decide +kernel
theorem dX9_lots_62 : decode cX9_lots 62 = .ok (.aload_n 0, 1) := by decide +kernel
theorem dX9_lots_63 : decode cX9_lots 63 = .ok (.getfield 13, 3) := by decide +kernel
theorem dX9_lots_66 : decode cX9_lots 66 = .ok (.invokestatic 112, 3) := by decide +kernel
theorem dX9_lots_69 : decode cX9_lots 69 = .ok (.iconst 0, 1) := by decide +kernel
theorem dX9_lots_70 : decode cX9_lots 70 = .ok (.istore 6, 2) := by decide +kernel
theorem dX9_lots_72 : decode cX9_lots 72 = .ok (.iload 6, 2) := by decide +kernel
theorem dX9_lots_74 : decode cX9_lots 74 = .ok (.aload_n 0, 1) := by decide +kernel
theorem dX9_lots_75 : decode cX9_lots 75 = .ok (.getfield 9, 3) := by decide +kernel
theorem dX9_lots_78 : decode cX9_lots 78 = .ok (.iconst 0, 1) := by decide +kernel
theorem dX9_lots_79 : decode cX9_lots 79 = .ok (.iaload, 1) := by decide +kernel
theorem dX9_lots_80 : decode cX9_lots 80 = .ok (.if_icmp .ge 43, 3) := by decide +kernel
theorem dX9_lots_83 : decode cX9_lots 83 = .ok (.aload_n 0, 1) := by decide +kernel
theorem dX9_lots_84 : decode cX9_lots 84 = .ok (.getfield 13, 3) := by decide +kernel
theorem dX9_lots_87 : decode cX9_lots 87 = .ok (.iload 6, 2) := by decide +kernel
theorem dX9_lots_89 : decode cX9_lots 89 = .ok (.iconst 3, 1) := by decide +kernel
theorem dX9_lots_90 : decode cX9_lots 90 = .ok (.invokestatic 45, 3) := by decide +kernel
theorem dX9_lots_93 : decode cX9_lots 93 = .ok (.aload_n 0, 1) := by decide +kernel
theorem dX9_lots_94 : decode cX9_lots 94 = .ok (.bipush 7, 2) := by decide +kernel
theorem dX9_lots_96 : decode cX9_lots 96 = .ok (.invokevirtual 201, 3) := by decide +kernel
theorem dX9_lots_99 : decode cX9_lots 99 = .ok (.iastore, 1) := by decide +kernel
theorem dX9_lots_100 : decode cX9_lots 100 = .ok (.aload_n 0, 1) := by decide +kernel
theorem dX9_lots_101 : decode cX9_lots 101 = .ok (.getfield 13, 3) := by decide +kernel
theorem dX9_lots_104 : decode cX9_lots 104 = .ok (.iload 6, 2) := by decide +kernel
theorem dX9_lots_106 : decode cX9_lots 106 = .ok (.iconst 4, 1) := by decide +kernel
theorem dX9_lots_107 : decode cX9_lots 107 = .ok (.invokestatic 45, 3) := by decide +kernel
theorem dX9_lots_110 : decode cX9_lots 110 = .ok (.aload_n 0, 1) := by decide +kernel
theorem dX9_lots_111 : decode cX9_lots 111 = .ok (.bipush 10, 2) := by decide +kernel
theorem dX9_lots_113 : decode cX9_lots 113 = .ok (.invokevirtual 201, 3) := by decide +kernel
theorem dX9_lots_116 : decode cX9_lots 116 = .ok (.iastore, 1) := by decide +kernel
theorem dX9_lots_117 : decode cX9_lots 117 = .ok (.iinc 6 1, 3) := by decide +kernel
theorem dX9_lots_120 : decode cX9_lots 120 = .ok (.goto (-48), 3) := by decide +kernel
theorem dX9_lots_123 : decode cX9_lots 123 = .ok (.aload_n 0, 1) := by decide +kernel
theorem dX9_lots_124 : decode cX9_lots 124 = .ok (.getfield 13, 3) := by decide +kernel
theorem dX9_lots_127 : decode cX9_lots 127 = .ok (.bipush 6, 2) := by decide +kernel
theorem dX9_lots_129 : decode cX9_lots 129 = .ok (.invokestatic 105, 3) := by decide +kernel
theorem dX9_lots_132 : decode cX9_lots 132 = .ok (.iconst 0, 1) := by decide +kernel
theorem dX9_lots_133 : decode cX9_lots 133 = .ok (.istore 6, 2) := by decide +kernel
theorem dX9_lots_135 : decode cX9_lots 135 = .ok (.iload 6, 2) := by decide +kernel
theorem dX9_lots_137 : decode cX9_lots 137 = .ok (.aload_n 0, 1) := by decide +kernel
theorem dX9_lots_138 : decode cX9_lots 138 = .ok (.getfield 9, 3) := by decide +kernel
theorem dX9_lots_141 : decode cX9_lots 141 = .ok (.iconst 1, 1) := by decide +kernel
theorem dX9_lots_142 : decode cX9_lots 142 = .ok (.iaload, 1) := by decide +kernel
theorem dX9_lots_143 : decode cX9_lots 143 = .ok (.if_icmp .ge 38, 3) := by decide +kernel
theorem dX9_lots_146 : decode cX9_lots 146 = .ok (.iload_n 3, 1) := by decide +kernel
theorem dX9_lots_147 : decode cX9_lots 147 = .ok (.iconst 1, 1) := by decide +kernel
theorem dX9_lots_148 : decode cX9_lots 148 = .ok (.if_icmp .ne 33, 3) := by decide +kernel
theorem dX9_lots_151 : decode cX9_lots 151 = .ok (.iload 4, 2) := by decide +kernel
theorem dX9_lots_153 : decode cX9_lots 153 = .ok (.aload_n 0, 1) := by decide +kernel
theorem dX9_lots_154 : decode cX9_lots 154 = .ok (.getfield 13, 3) := by decide +kernel
theorem dX9_lots_157 : decode cX9_lots 157 = .ok (.iload 6, 2) := by decide +kernel
theorem dX9_lots_159 : decode cX9_lots 159 = .ok (.iconst 1, 1) := by decide +kernel
theorem dX9_lots_160 : decode cX9_lots 160 = .ok (.invokestatic 52, 3) := by decide +kernel
theorem dX9_lots_163 : decode cX9_lots 163 = .ok (.iaload, 1) := by decide +kernel
theorem dX9_lots_164 : decode cX9_lots 164 = .ok (.ifCond .ne 7, 3) := by decide +kernel
theorem dX9_lots_167 : decode cX9_lots 167 = .ok (.iconst 1, 1) := by decide +kernel
theorem dX9_lots_168 : decode cX9_lots 168 = .ok (.goto 4, 3) := by decide +kernel
theorem dX9_lots_171 : decode cX9_lots 171 = .ok (.iconst 0, 1) := by decide +kernel
theorem dX9_lots_172 : decode cX9_lots 172 = .ok (.iadd, 1) := by decide +kernel
theorem dX9_lots_173 : decode cX9_lots 173 = .ok (.istore 4, 2) := by decide +kernel
theorem dX9_lots_175 : decode cX9_lots 175 = .ok (.iinc 6 1, 3) := by decide +kernel
theorem dX9_lots_178 : decode cX9_lots 178 = .ok (.goto (-43), 3) := by decide +kernel
theorem dX9_lots_181 : decode cX9_lots 181 = .ok (.iload 4, 2) := by decide +kernel
theorem dX9_lots_183 : decode cX9_lots 183 = .ok (.iload_n 3, 1) := by decide +kernel
theorem dX9_lots_184 : decode cX9_lots 184 = .ok (.ifCond .ne 13, 3) := by decide +kernel
theorem dX9_lots_187 : decode cX9_lots 187 = .ok (.aload_n 0, 1) := by decide +kernel
theorem dX9_lots_188 : decode cX9_lots 188 = .ok (.getfield 13, 3) := by decide +kernel
theorem dX9_lots_191 : decode cX9_lots 191 = .ok (.invokestatic 129, 3) := by decide +kernel
theorem dX9_lots_194 : decode cX9_lots 194 = .ok (.goto 4, 3) := by decide +kernel
theorem dX9_lots_197 : decode cX9_lots 197 = .ok (.iconst 0, 1) := by decide +kernel
theorem dX9_lots_198 : decode cX9_lots 198 = .ok (.iadd, 1) := by decide +kernel
theorem dX9_lots_199 : decode cX9_lots 199 = .ok (.istore 4, 2) := by decide +kernel
theorem dX9_lots_201 : decode cX9_lots 201 = .ok (.iinc 5 1, 3) := by decide +kernel
theorem dX9_lots_204 : decode cX9_lots 204 = .ok (.goto (-152), 3) := by decide +kernel
theorem dX9_lots_207 : decode cX9_lots 207 = .ok (.iload 4, 2) := by decide +kernel
theorem dX9_lots_209 : decode cX9_lots 209 = .ok (.ireturn, 1) := by decide +kernel
theorem dX9_image_0 : decode cX9_image 0 = .ok (.aload_n 0, 1) := by decide +kernel
theorem dX9_image_1 : decode cX9_image 1 = .ok (.getfield 9, 3) := by decide +kernel
theorem dX9_image_4 : decode cX9_image 4 = .ok (.aload_n 0, 1) := by decide +kernel
theorem dX9_image_5 : decode cX9_image 5 = .ok (.getfield 16, 3) := by decide +kernel
theorem dX9_image_8 : decode cX9_image 8 = .ok (.invokestatic 112, 3) := by decide +kernel
theorem dX9_image_11 : decode cX9_image 11 = .ok (.aload_n 0, 1) := by decide +kernel
theorem dX9_image_12 : decode cX9_image 12 = .ok (.iconst 1, 1) := by decide +kernel
theorem dX9_image_13 : decode cX9_image 13 = .ok (.putfield 204, 3) := by decide +kernel
theorem dX9_image_16 : decode cX9_image 16 = .ok (.aload_n 0, 1) := by decide +kernel
theorem dX9_image_17 : decode cX9_image 17 = .ok (.getfield 9, 3) := by decide +kernel
theorem dX9_image_20 : decode cX9_image 20 = .ok (.iconst 2, 1) := by decide +kernel
theorem dX9_image_21 : decode cX9_image 21 = .ok (.iaload, 1) := by decide +kernel
theorem dX9_image_22 : decode cX9_image 22 = .ok (.ireturn, 1) := by decide +kernel
theorem dX9_on_0 : decode cX9_on 0 = .ok (.aload_n 0, 1) := by decide +kernel
theorem dX9_on_1 : decode cX9_on 1 = .ok (.getfield 204, 3) := by decide +kernel
theorem dX9_on_4 : decode cX9_on 4 = .ok (.ifCond .ne 10, 3) := by decide +kernel
theorem dX9_on_7 : decode cX9_on 7 = .ok (.aload_n 0, 1) := by decide +kernel
theorem dX9_on_8 : decode cX9_on 8 = .ok (.bipush (-3), 2) := by decide +kernel
theorem dX9_on_10 : decode cX9_on 10 = .ok (.invokevirtual 35, 3) := by decide +kernel
theorem dX9_on_13 : decode cX9_on 13 = .ok (.ireturn, 1) := by decide +kernel
theorem dX9_on_14 : decode cX9_on 14 = .ok (.aload_n 0, 1) := by decide +kernel
theorem dX9_on_15 : decode cX9_on 15 = .ok (.getfield 16, 3) := by decide +kernel
theorem dX9_on_18 : decode cX9_on 18 = .ok (.aload_n 0, 1) := by decide +kernel
theorem dX9_on_19 : decode cX9_on 19 = .ok (.getfield 9, 3) := by decide +kernel
theorem dX9_on_22 : decode cX9_on 22 = .ok (.invokestatic 112, 3) := by decide +kernel
theorem dX9_on_25 : decode cX9_on 25 = .ok (.aload_n 0, 1) := by decide +kernel
theorem dX9_on_26 : decode cX9_on 26 = .ok (.getfield 9, 3) := by decide +kernel
theorem dX9_on_29 : decode cX9_on 29 = .ok (.iconst 2, 1) := by decide +kernel
theorem dX9_on_30 : decode cX9_on 30 = .ok (.iaload, 1) := by decide +kernel
theorem dX9_on_31 : decode cX9_on 31 = .ok (.ireturn, 1) := by decide +kernel
theorem dX9_count_0 : decode cX9_count 0 = .ok (.iload_n 1, 1) := by decide +kernel
theorem dX9_count_1 : decode cX9_count 1 = .ok (.bipush 11, 2) := by decide +kernel
theorem dX9_count_3 : decode cX9_count 3 = .ok (.bipush 16, 2) := by decide +kernel
theorem dX9_count_5 : decode cX9_count 5 = .ok (.invokestatic 41, 3) := by decide +kernel
theorem dX9_count_8 : decode cX9_count 8 = .ok (.ifCond .eq 13, 3) := by decide +kernel
theorem dX9_count_11 : decode cX9_count 11 = .ok (.aload_n 0, 1) := by decide +kernel
theorem dX9_count_12 : decode cX9_count 12 = .ok (.getfield 28, 3) := by decide +kernel
theorem dX9_count_15 : decode cX9_count 15 = .ok (.iload_n 1, 1) := by decide +kernel
theorem dX9_count_16 : decode cX9_count 16 = .ok (.bipush 10, 2) := by decide +kernel
theorem dX9_count_18 : decode cX9_count 18 = .ok (.isub, 1) := by decide +kernel
theorem dX9_count_19 : decode cX9_count 19 = .ok (.iaload, 1) := by decide +kernel
theorem dX9_count_20 : decode cX9_count 20 = .ok (.ireturn, 1) := by decide +kernel
theorem dX9_count_21 : decode cX9_count 21 = .ok (.iconst 0, 1) := by decide +kernel
theorem dX9_count_22 : decode cX9_count 22 = .ok (.istore_n 2, 1) := by decide +kernel
theorem dX9_count_23 : decode cX9_count 23 = .ok (.iload_n 1, 1) := by decide +kernel
theorem dX9_count_24 : decode cX9_count 24 = .ok (.tableswitch 114 0 7 #[48, 48, 48, 55, 63, 96, 104, 109], 48) := by decide +kernel
theorem dX9_count_72 : decode cX9_count 72 = .ok (.aload_n 0, 1) := by decide +kernel
theorem dX9_count_73 : decode cX9_count 73 = .ok (.getfield 9, 3) := by decide +kernel
theorem dX9_count_76 : decode cX9_count 76 = .ok (.iload_n 1, 1) := by decide +kernel
theorem dX9_count_77 : decode cX9_count 77 = .ok (.iaload, 1) := by decide +kernel
theorem dX9_count_78 : decode cX9_count 78 = .ok (.ireturn, 1) := by decide +kernel
theorem dX9_count_79 : decode cX9_count 79 = .ok (.aload_n 0, 1) := by decide +kernel
theorem dX9_count_80 : decode cX9_count 80 = .ok (.getfield 9, 3) := by decide +kernel
theorem dX9_count_83 : decode cX9_count 83 = .ok (.invokestatic 129, 3) := by decide +kernel
theorem dX9_count_86 : decode cX9_count 86 = .ok (.ireturn, 1) := by decide +kernel
theorem dX9_count_87 : decode cX9_count 87 = .ok (.iconst 0, 1) := by decide +kernel
theorem dX9_count_88 : decode cX9_count 88 = .ok (.istore_n 3, 1) := by decide +kernel
theorem dX9_count_89 : decode cX9_count 89 = .ok (.iload_n 3, 1) := by decide +kernel
theorem dX9_count_90 : decode cX9_count 90 = .ok (.aload_n 0, 1) := by decide +kernel
theorem dX9_count_91 : decode cX9_count 91 = .ok (.getfield 9, 3) := by decide +kernel
theorem dX9_count_94 : decode cX9_count 94 = .ok (.iconst 0, 1) := by decide +kernel
theorem dX9_count_95 : decode cX9_count 95 = .ok (.iaload, 1) := by decide +kernel
theorem dX9_count_96 : decode cX9_count 96 = .ok (.if_icmp .ge 22, 3) := by decide +kernel
theorem dX9_count_99 : decode cX9_count 99 = .ok (.iload_n 2, 1) := by decide +kernel
theorem dX9_count_100 : decode cX9_count 100 = .ok (.aload_n 0, 1) := by decide +kernel
theorem dX9_count_101 : decode cX9_count 101 = .ok (.getfield 9, 3) := by decide +kernel
theorem dX9_count_104 : decode cX9_count 104 = .ok (.iload_n 3, 1) := by decide +kernel
theorem dX9_count_105 : decode cX9_count 105 = .ok (.iconst 4, 1) := by decide +kernel
theorem dX9_count_106 : decode cX9_count 106 = .ok (.invokestatic 45, 3) := by decide +kernel
theorem dX9_count_109 : decode cX9_count 109 = .ok (.iaload, 1) := by decide +kernel
theorem dX9_count_110 : decode cX9_count 110 = .ok (.iadd, 1) := by decide +kernel
theorem dX9_count_111 : decode cX9_count 111 = .ok (.istore_n 2, 1) := by decide +kernel
theorem dX9_count_112 : decode cX9_count 112 = .ok (.iinc 3 1, 3) := by decide +kernel
theorem dX9_count_115 : decode cX9_count 115 = .ok (.goto (-26), 3) := by decide +kernel
theorem dX9_count_118 : decode cX9_count 118 = .ok (.iload_n 2, 1) := by decide +kernel
theorem dX9_count_119 : decode cX9_count 119 = .ok (.ireturn, 1) := by decide +kernel
theorem dX9_count_120 : decode cX9_count 120 = .ok (.aload_n 0, 1) := by decide +kernel
theorem dX9_count_121 : decode cX9_count 121 = .ok (.invokevirtual 143, 3) := by decide +kernel
theorem dX9_count_124 : decode cX9_count 124 = .ok (.invokestatic 164, 3) := by decide +kernel
theorem dX9_count_127 : decode cX9_count 127 = .ok (.ireturn, 1) := by decide +kernel
theorem dX9_count_128 : decode cX9_count 128 = .ok (.aload_n 0, 1) := by decide +kernel
theorem dX9_count_129 : decode cX9_count 129 = .ok (.getfield 192, 3) := by decide +kernel
theorem dX9_count_132 : decode cX9_count 132 = .ok (.ireturn, 1) := by decide +kernel
theorem dX9_count_133 : decode cX9_count 133 = .ok (.aload_n 0, 1) := by decide +kernel
theorem dX9_count_134 : decode cX9_count 134 = .ok (.getfield 73, 3) := by decide +kernel
theorem dX9_count_137 : decode cX9_count 137 = .ok (.ireturn, 1) := by decide +kernel
theorem dX9_count_138 : decode cX9_count 138 = .ok (.bipush (-9), 2) := by decide +kernel
theorem dX9_count_140 : decode cX9_count 140 = .ok (.ireturn, 1) := by decide +kernel
