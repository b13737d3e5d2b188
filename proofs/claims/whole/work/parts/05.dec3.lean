theorem dX9_init_0 : decode cX9_init 0 = .ok (.aload_n 0, 1) := by decide +kernel
theorem dX9_init_1 : decode cX9_init 1 = .ok (.invokespecial 1, 3) := by decide +kernel
theorem dX9_init_4 : decode cX9_init 4 = .ok (.aload_n 0, 1) := by decide +kernel
theorem dX9_init_5 : decode cX9_init 5 = .ok (.bipush 61, 2) := by decide +kernel
theorem dX9_init_7 : decode cX9_init 7 = .ok (.newarray .int, 2) := by decide +kernel
theorem dX9_init_9 : decode cX9_init 9 = .ok (.putfield 9, 3) := by decide +kernel
theorem dX9_init_12 : decode cX9_init 12 = .ok (.aload_n 0, 1) := by decide +kernel
theorem dX9_init_13 : decode cX9_init 13 = .ok (.bipush 61, 2) := by decide +kernel
theorem dX9_init_15 : decode cX9_init 15 = .ok (.newarray .int, 2) := by decide +kernel
theorem dX9_init_17 : decode cX9_init 17 = .ok (.putfield 13, 3) := by decide +kernel
theorem dX9_init_20 : decode cX9_init 20 = .ok (.aload_n 0, 1) := by decide +kernel
theorem dX9_init_21 : decode cX9_init 21 = .ok (.bipush 61, 2) := by decide +kernel
theorem dX9_init_23 : decode cX9_init 23 = .ok (.newarray .int, 2) := by decide +kernel
theorem dX9_init_25 : decode cX9_init 25 = .ok (.putfield 16, 3) := by decide +kernel
theorem dX9_init_28 : decode cX9_init 28 = .ok (.aload_n 0, 1) := by decide +kernel
theorem dX9_init_29 : decode cX9_init 29 = .ok (.bipush 61, 2) := by decide +kernel
theorem dX9_init_31 : decode cX9_init 31 = .ok (.newarray .int, 2) := by decide +kernel
theorem dX9_init_33 : decode cX9_init 33 = .ok (.putfield 19, 3) := by decide +kernel
theorem dX9_init_36 : decode cX9_init 36 = .ok (.aload_n 0, 1) := by decide +kernel
theorem dX9_init_37 : decode cX9_init 37 = .ok (.bipush 96, 2) := by decide +kernel
theorem dX9_init_39 : decode cX9_init 39 = .ok (.newarray .int, 2) := by decide +kernel
theorem dX9_init_41 : decode cX9_init 41 = .ok (.putfield 22, 3) := by decide +kernel
theorem dX9_init_44 : decode cX9_init 44 = .ok (.aload_n 0, 1) := by decide +kernel
theorem dX9_init_45 : decode cX9_init 45 = .ok (.bipush 16, 2) := by decide +kernel
theorem dX9_init_47 : decode cX9_init 47 = .ok (.newarray .int, 2) := by decide +kernel
theorem dX9_init_49 : decode cX9_init 49 = .ok (.putfield 25, 3) := by decide +kernel
theorem dX9_init_52 : decode cX9_init 52 = .ok (.aload_n 0, 1) := by decide +kernel
theorem dX9_init_53 : decode cX9_init 53 = .ok (.bipush 7, 2) := by decide +kernel
theorem dX9_init_55 : decode cX9_init 55 = .ok (.newarray .int, 2) := by decide +kernel
theorem dX9_init_57 : decode cX9_init 57 = .ok (.putfield 28, 3) := by decide +kernel
theorem dX9_init_60 : decode cX9_init 60 = .ok (.aload_n 0, 1) := by decide +kernel
theorem dX9_init_61 : decode cX9_init 61 = .ok (.bipush 6, 2) := by decide +kernel
theorem dX9_init_63 : decode cX9_init 63 = .ok (.newarray .int, 2) := by decide +kernel
theorem dX9_init_65 : decode cX9_init 65 = .ok (.putfield 31, 3) := by decide +kernel
theorem dX9_init_68 : decode cX9_init 68 = .ok (.return_, 1) := by decide +kernel
theorem dX9_isIn_0 : decode cX9_isIn 0 = .ok (.iload_n 0, 1) := by decide +kernel
theorem dX9_isIn_1 : decode cX9_isIn 1 = .ok (.iload_n 1, 1) := by decide +kernel
theorem dX9_isIn_2 : decode cX9_isIn 2 = .ok (.if_icmp .lt 12, 3) := by decide +kernel
theorem dX9_isIn_5 : decode cX9_isIn 5 = .ok (.iload_n 0, 1) := by decide +kernel
theorem dX9_isIn_6 : decode cX9_isIn 6 = .ok (.iload_n 2, 1) := by decide +kernel
theorem dX9_isIn_7 : decode cX9_isIn 7 = .ok (.if_icmp .gt 7, 3) := by decide +kernel
theorem dX9_isIn_10 : decode cX9_isIn 10 = .ok (.iconst 1, 1) := by decide +kernel
theorem dX9_isIn_11 : decode cX9_isIn 11 = .ok (.goto 4, 3) := by decide +kernel
theorem dX9_isIn_14 : decode cX9_isIn 14 = .ok (.iconst 0, 1) := by decide +kernel
theorem dX9_isIn_15 : decode cX9_isIn 15 = .ok (.ireturn, 1) := by decide +kernel
theorem dX9_held_0 : decode cX9_held 0 = .ok (.iload_n 0, 1) := by decide +kernel
theorem dX9_held_1 : decode cX9_held 1 = .ok (.ifCond .ge 7, 3) := by decide +kernel
theorem dX9_held_4 : decode cX9_held 4 = .ok (.iconst 0, 1) := by decide +kernel
theorem dX9_held_5 : decode cX9_held 5 = .ok (.goto 15, 3) := by decide +kernel
theorem dX9_held_8 : decode cX9_held 8 = .ok (.iload_n 0, 1) := by decide +kernel
theorem dX9_held_9 : decode cX9_held 9 = .ok (.bipush 99, 2) := by decide +kernel
theorem dX9_held_11 : decode cX9_held 11 = .ok (.if_icmp .le 8, 3) := by decide +kernel
theorem dX9_held_14 : decode cX9_held 14 = .ok (.bipush 99, 2) := by decide +kernel
theorem dX9_held_16 : decode cX9_held 16 = .ok (.goto 4, 3) := by decide +kernel
theorem dX9_held_19 : decode cX9_held 19 = .ok (.iload_n 0, 1) := by decide +kernel
theorem dX9_held_20 : decode cX9_held 20 = .ok (.ireturn, 1) := by decide +kernel
theorem dX9_copies_0 : decode cX9_copies 0 = .ok (.iconst 0, 1) := by decide +kernel
theorem dX9_copies_1 : decode cX9_copies 1 = .ok (.istore_n 2, 1) := by decide +kernel
theorem dX9_copies_2 : decode cX9_copies 2 = .ok (.iload_n 2, 1) := by decide +kernel
theorem dX9_copies_3 : decode cX9_copies 3 = .ok (.bipush 61, 2) := by decide +kernel
theorem dX9_copies_5 : decode cX9_copies 5 = .ok (.if_icmp .ge 15, 3) := by decide +kernel
theorem dX9_copies_8 : decode cX9_copies 8 = .ok (.aload_n 1, 1) := by decide +kernel
theorem dX9_copies_9 : decode cX9_copies 9 = .ok (.iload_n 2, 1) := by decide +kernel
theorem dX9_copies_10 : decode cX9_copies 10 = .ok (.aload_n 0, 1) := by decide +kernel
theorem dX9_copies_11 : decode cX9_copies 11 = .ok (.iload_n 2, 1) := by decide +kernel
theorem dX9_copies_12 : decode cX9_copies 12 = .ok (.iaload, 1) := by decide +kernel
theorem dX9_copies_13 : decode cX9_copies 13 = .ok (.iastore, 1) := by decide +kernel
theorem dX9_copies_14 : decode cX9_copies 14 = .ok (.iinc 2 1, 3) := by decide +kernel
theorem dX9_copies_17 : decode cX9_copies 17 = .ok (.goto (-15), 3) := by decide +kernel
theorem dX9_copies_20 : decode cX9_copies 20 = .ok (.return_, 1) := by decide +kernel
theorem dX9_no_0 : decode cX9_no 0 = .ok (.aload_n 0, 1) := by decide +kernel
theorem dX9_no_1 : decode cX9_no 1 = .ok (.getfield 28, 3) := by decide +kernel
theorem dX9_no_4 : decode cX9_no 4 = .ok (.iload_n 1, 1) := by decide +kernel
theorem dX9_no_5 : decode cX9_no 5 = .ok (.ineg, 1) := by decide +kernel
theorem dX9_no_6 : decode cX9_no 6 = .ok (.dup2, 1) := by decide +kernel
theorem dX9_no_7 : decode cX9_no 7 = .ok (.iaload, 1) := by decide +kernel
theorem dX9_no_8 : decode cX9_no 8 = .ok (.iconst 1, 1) := by decide +kernel
theorem dX9_no_9 : decode cX9_no 9 = .ok (.iadd, 1) := by decide +kernel
theorem dX9_no_10 : decode cX9_no 10 = .ok (.iastore, 1) := by decide +kernel
theorem dX9_no_11 : decode cX9_no 11 = .ok (.iload_n 1, 1) := by decide +kernel
theorem dX9_no_12 : decode cX9_no 12 = .ok (.ireturn, 1) := by decide +kernel
theorem dX9_noFar_0 : decode cX9_noFar 0 = .ok (.ldc 34, 2) := by decide +kernel
theorem dX9_noFar_2 : decode cX9_noFar 2 = .ok (.aload_n 0, 1) := by decide +kernel
theorem dX9_noFar_3 : decode cX9_noFar 3 = .ok (.iload_n 1, 1) := by decide +kernel
theorem dX9_noFar_4 : decode cX9_noFar 4 = .ok (.invokevirtual 35, 3) := by decide +kernel
theorem dX9_noFar_7 : decode cX9_noFar 7 = .ok (.isub, 1) := by decide +kernel
theorem dX9_noFar_8 : decode cX9_noFar 8 = .ok (.ireturn, 1) := by decide +kernel
theorem dX9_noWide_0 : decode cX9_noWide 0 = .ok (.ldc2_w 39, 3) := by decide +kernel
theorem dX9_noWide_3 : decode cX9_noWide 3 = .ok (.aload_n 0, 1) := by decide +kernel
theorem dX9_noWide_4 : decode cX9_noWide 4 = .ok (.iload_n 1, 1) := by decide +kernel
theorem dX9_noWide_5 : decode cX9_noWide 5 = .ok (.invokevirtual 35, 3) := by decide +kernel
theorem dX9_noWide_8 : decode cX9_noWide 8 = .ok (.i2l, 1) := by decide +kernel
theorem dX9_noWide_9 : decode cX9_noWide 9 = .ok (.lsub, 1) := by decide +kernel
theorem dX9_noWide_10 : decode cX9_noWide 10 = .ok (.lreturn, 1) := by decide +kernel
theorem dX9_ofT_0 : decode cX9_ofT 0 = .ok (.iconst 3, 1) := by decide +kernel
theorem dX9_ofT_1 : decode cX9_ofT 1 = .ok (.bipush 6, 2) := by decide +kernel
theorem dX9_ofT_3 : decode cX9_ofT 3 = .ok (.iload_n 0, 1) := by decide +kernel
theorem dX9_ofT_4 : decode cX9_ofT 4 = .ok (.imul, 1) := by decide +kernel
theorem dX9_ofT_5 : decode cX9_ofT 5 = .ok (.iadd, 1) := by decide +kernel
theorem dX9_ofT_6 : decode cX9_ofT 6 = .ok (.iload_n 1, 1) := by decide +kernel
theorem dX9_ofT_7 : decode cX9_ofT 7 = .ok (.iadd, 1) := by decide +kernel
theorem dX9_ofT_8 : decode cX9_ofT 8 = .ok (.ireturn, 1) := by decide +kernel
theorem dX9_ofP_0 : decode cX9_ofP 0 = .ok (.bipush 51, 2) := by decide +kernel
theorem dX9_ofP_2 : decode cX9_ofP 2 = .ok (.iconst 2, 1) := by decide +kernel
theorem dX9_ofP_3 : decode cX9_ofP 3 = .ok (.iload_n 0, 1) := by decide +kernel
theorem dX9_ofP_4 : decode cX9_ofP 4 = .ok (.imul, 1) := by decide +kernel
theorem dX9_ofP_5 : decode cX9_ofP 5 = .ok (.iadd, 1) := by decide +kernel
theorem dX9_ofP_6 : decode cX9_ofP 6 = .ok (.iload_n 1, 1) := by decide +kernel
theorem dX9_ofP_7 : decode cX9_ofP 7 = .ok (.iadd, 1) := by decide +kernel
theorem dX9_ofP_8 : decode cX9_ofP 8 = .ok (.ireturn, 1) := by decide +kernel
theorem dX9_isPot_0 : decode cX9_isPot 0 = .ok (.iload_n 1, 1) := by decide +kernel
theorem dX9_isPot_1 : decode cX9_isPot 1 = .ok (.iconst 0, 1) := by decide +kernel
theorem dX9_isPot_2 : decode cX9_isPot 2 = .ok (.aload_n 0, 1) := by decide +kernel
theorem dX9_isPot_3 : decode cX9_isPot 3 = .ok (.getfield 9, 3) := by decide +kernel
theorem dX9_isPot_6 : decode cX9_isPot 6 = .ok (.iconst 0, 1) := by decide +kernel
theorem dX9_isPot_7 : decode cX9_isPot 7 = .ok (.iaload, 1) := by decide +kernel
theorem dX9_isPot_8 : decode cX9_isPot 8 = .ok (.iconst 1, 1) := by decide +kernel
theorem dX9_isPot_9 : decode cX9_isPot 9 = .ok (.isub, 1) := by decide +kernel
theorem dX9_isPot_10 : decode cX9_isPot 10 = .ok (.invokestatic 41, 3) := by decide +kernel
theorem dX9_isPot_13 : decode cX9_isPot 13 = .ok (.ireturn, 1) := by decide +kernel
theorem dX9_isPerson_0 : decode cX9_isPerson 0 = .ok (.iload_n 1, 1) := by decide +kernel
theorem dX9_isPerson_1 : decode cX9_isPerson 1 = .ok (.iconst 0, 1) := by decide +kernel
theorem dX9_isPerson_2 : decode cX9_isPerson 2 = .ok (.aload_n 0, 1) := by decide +kernel
theorem dX9_isPerson_3 : decode cX9_isPerson 3 = .ok (.getfield 9, 3) := by decide +kernel
theorem dX9_isPerson_6 : decode cX9_isPerson 6 = .ok (.iconst 1, 1) := by decide +kernel
theorem dX9_isPerson_7 : decode cX9_isPerson 7 = .ok (.iaload, 1) := by decide +kernel
theorem dX9_isPerson_8 : decode cX9_isPerson 8 = .ok (.iconst 1, 1) := by decide +kernel
theorem dX9_isPerson_9 : decode cX9_isPerson 9 = .ok (.isub, 1) := by decide +kernel
theorem dX9_isPerson_10 : decode cX9_isPerson 10 = .ok (.invokestatic 41, 3) := by decide +kernel
theorem dX9_isPerson_13 : decode cX9_isPerson 13 = .ok (.ireturn, 1) := by decide +kernel
theorem dX9_has_0 : decode cX9_has 0 = .ok (.iload_n 0, 1) := by decide +kernel
theorem dX9_has_1 : decode cX9_has 1 = .ok (.iload_n 1, 1) := by decide +kernel
theorem dX9_has_2 : decode cX9_has 2 = .ok (.ishr, 1) := by decide +kernel
theorem dX9_has_3 : decode cX9_has 3 = .ok (.iconst 1, 1) := by decide +kernel
theorem dX9_has_4 : decode cX9_has 4 = .ok (.iand, 1) := by decide +kernel
theorem dX9_has_5 : decode cX9_has 5 = .ok (.iconst 1, 1) := by decide +kernel
theorem dX9_has_6 : decode cX9_has 6 = .ok (.if_icmp .ne 7, 3) := by decide +kernel
theorem dX9_has_9 : decode cX9_has 9 = .ok (.iconst 1, 1) := by decide +kernel
theorem dX9_has_10 : decode cX9_has 10 = .ok (.goto 4, 3) := by decide +kernel
theorem dX9_has_13 : decode cX9_has 13 = .ok (.iconst 0, 1) := by decide +kernel
theorem dX9_has_14 : decode cX9_has 14 = .ok (.ireturn, 1) := by decide +kernel
theorem dX9_bits_0 : decode cX9_bits 0 = .ok (.iconst 0, 1) := by decide +kernel
theorem dX9_bits_1 : decode cX9_bits 1 = .ok (.istore_n 1, 1) := by decide +kernel
theorem dX9_bits_2 : decode cX9_bits 2 = .ok (.iconst 0, 1) := by decide +kernel
theorem dX9_bits_3 : decode cX9_bits 3 = .ok (.istore_n 2, 1) := by decide +kernel
theorem dX9_bits_4 : decode cX9_bits 4 = .ok (.iload_n 2, 1) := by decide +kernel
theorem dX9_bits_5 : decode cX9_bits 5 = .ok (.bipush 8, 2) := by decide +kernel
theorem dX9_bits_7 : decode cX9_bits 7 = .ok (.if_icmp .ge 17, 3) := by decide +kernel
theorem dX9_bits_10 : decode cX9_bits 10 = .ok (.iload_n 1, 1) := by decide +kernel
theorem dX9_bits_11 : decode cX9_bits 11 = .ok (.iload_n 0, 1) := by decide +kernel
theorem dX9_bits_12 : decode cX9_bits 12 = .ok (.iload_n 2, 1) := by decide +kernel
theorem dX9_bits_13 : decode cX9_bits 13 = .ok (.ishr, 1) := by decide +kernel
theorem dX9_bits_14 : decode cX9_bits 14 = .ok (.iconst 1, 1) := by decide +kernel
theorem dX9_bits_15 : decode cX9_bits 15 = .ok (.iand, 1) := by decide +kernel
theorem dX9_bits_16 : decode cX9_bits 16 = .ok (.iadd, 1) := by decide +kernel
theorem dX9_bits_17 : decode cX9_bits 17 = .ok (.istore_n 1, 1) := by decide +kernel
theorem dX9_bits_18 : decode cX9_bits 18 = .ok (.iinc 2 1, 3) := by decide +kernel
theorem dX9_bits_21 : decode cX9_bits 21 = .ok (.goto (-17), 3) := by decide +kernel
theorem dX9_bits_24 : decode cX9_bits 24 = .ok (.iload_n 1, 1) := by decide +kernel
theorem dX9_bits_25 : decode cX9_bits 25 = .ok (.ireturn, 1) := by decide +kernel
theorem dX9_off_0 : decode cX9_off 0 = .ok (.iload_n 0, 1) := by decide +kernel
theorem dX9_off_1 : decode cX9_off 1 = .ok (.iload_n 1, 1) := by decide +kernel
theorem dX9_off_2 : decode cX9_off 2 = .ok (.if_icmp .ge 9, 3) := by decide +kernel
theorem dX9_off_5 : decode cX9_off 5 = .ok (.iload_n 1, 1) := by decide +kernel
theorem dX9_off_6 : decode cX9_off 6 = .ok (.iload_n 0, 1) := by decide +kernel
theorem dX9_off_7 : decode cX9_off 7 = .ok (.isub, 1) := by decide +kernel
theorem dX9_off_8 : decode cX9_off 8 = .ok (.goto 6, 3) := by decide +kernel
theorem dX9_off_11 : decode cX9_off 11 = .ok (.iload_n 0, 1) := by decide +kernel
theorem dX9_off_12 : decode cX9_off 12 = .ok (.iload_n 1, 1) := by decide +kernel
theorem dX9_off_13 : decode cX9_off 13 = .ok (.isub, 1) := by decide +kernel
theorem dX9_off_14 : decode cX9_off 14 = .ok (.istore_n 2, 1) := by decide +kernel
theorem dX9_off_15 : decode cX9_off 15 = .ok (.iload_n 2, 1) := by decide +kernel
theorem dX9_off_16 : decode cX9_off 16 = .ok (.iconst 3, 1) := by decide +kernel
theorem dX9_off_17 : decode cX9_off 17 = .ok (.if_icmp .le 10, 3) := by decide +kernel
theorem dX9_off_20 : decode cX9_off 20 = .ok (.bipush 6, 2) := by decide +kernel
theorem dX9_off_22 : decode cX9_off 22 = .ok (.iload_n 2, 1) := by decide +kernel
theorem dX9_off_23 : decode cX9_off 23 = .ok (.isub, 1) := by decide +kernel
theorem dX9_off_24 : decode cX9_off 24 = .ok (.goto 4, 3) := by decide +kernel
theorem dX9_off_27 : decode cX9_off 27 = .ok (.iload_n 2, 1) := by decide +kernel
theorem dX9_off_28 : decode cX9_off 28 = .ok (.ireturn, 1) := by decide +kernel
theorem dX9_gainsIn_0 : decode cX9_gainsIn 0 = .ok (.aload_n 0, 1) := by decide +kernel
theorem dX9_gainsIn_1 : decode cX9_gainsIn 1 = .ok (.iload_n 1, 1) := by decide +kernel
theorem dX9_gainsIn_2 : decode cX9_gainsIn 2 = .ok (.iconst 3, 1) := by decide +kernel
theorem dX9_gainsIn_3 : decode cX9_gainsIn 3 = .ok (.invokestatic 45, 3) := by decide +kernel
theorem dX9_gainsIn_6 : decode cX9_gainsIn 6 = .ok (.iaload, 1) := by decide +kernel
theorem dX9_gainsIn_7 : decode cX9_gainsIn 7 = .ok (.bipush 6, 2) := by decide +kernel
theorem dX9_gainsIn_9 : decode cX9_gainsIn 9 = .ok (.if_icmp .ne 7, 3) := by decide +kernel
theorem dX9_gainsIn_12 : decode cX9_gainsIn 12 = .ok (.iconst 1, 1) := by decide +kernel
theorem dX9_gainsIn_13 : decode cX9_gainsIn 13 = .ok (.goto 20, 3) := by decide +kernel
theorem dX9_gainsIn_16 : decode cX9_gainsIn 16 = .ok (.aload_n 0, 1) := by decide +kernel
theorem dX9_gainsIn_17 : decode cX9_gainsIn 17 = .ok (.iload_n 1, 1) := by decide +kernel
theorem dX9_gainsIn_18 : decode cX9_gainsIn 18 = .ok (.iconst 2, 1) := by decide +kernel
theorem dX9_gainsIn_19 : decode cX9_gainsIn 19 = .ok (.invokestatic 45, 3) := by decide +kernel
theorem dX9_gainsIn_22 : decode cX9_gainsIn 22 = .ok (.iaload, 1) := by decide +kernel
theorem dX9_gainsIn_23 : decode cX9_gainsIn 23 = .ok (.aload_n 0, 1) := by decide +kernel
theorem dX9_gainsIn_24 : decode cX9_gainsIn 24 = .ok (.iload_n 1, 1) := by decide +kernel
theorem dX9_gainsIn_25 : decode cX9_gainsIn 25 = .ok (.iconst 3, 1) := by decide +kernel
theorem dX9_gainsIn_26 : decode cX9_gainsIn 26 = .ok (.invokestatic 45, 3) := by decide +kernel
theorem dX9_gainsIn_29 : decode cX9_gainsIn 29 = .ok (.iaload, 1) := by decide +kernel
theorem dX9_gainsIn_30 : decode cX9_gainsIn 30 = .ok (.invokestatic 49, 3) := by decide +kernel
theorem dX9_gainsIn_33 : decode cX9_gainsIn 33 = .ok (.istore_n 3, 1) := by decide +kernel
theorem dX9_gainsIn_34 : decode cX9_gainsIn 34 = .ok (.aload_n 0, 1) := by decide +kernel
theorem dX9_gainsIn_35 : decode cX9_gainsIn 35 = .ok (.iload_n 1, 1) := by decide +kernel
theorem dX9_gainsIn_36 : decode cX9_gainsIn 36 = .ok (.iconst 1, 1) := by decide +kernel
theorem dX9_gainsIn_37 : decode cX9_gainsIn 37 = .ok (.invokestatic 45, 3) := by decide +kernel
theorem dX9_gainsIn_40 : decode cX9_gainsIn 40 = .ok (.iaload, 1) := by decide +kernel
theorem dX9_gainsIn_41 : decode cX9_gainsIn 41 = .ok (.istore 4, 2) := by decide +kernel
theorem dX9_gainsIn_43 : decode cX9_gainsIn 43 = .ok (.iload_n 3, 1) := by decide +kernel
theorem dX9_gainsIn_44 : decode cX9_gainsIn 44 = .ok (.ifCond .ne 7, 3) := by decide +kernel
theorem dX9_gainsIn_47 : decode cX9_gainsIn 47 = .ok (.iconst 2, 1) := by decide +kernel
theorem dX9_gainsIn_48 : decode cX9_gainsIn 48 = .ok (.goto 5, 3) := by decide +kernel
theorem dX9_gainsIn_51 : decode cX9_gainsIn 51 = .ok (.iload_n 3, 1) := by decide +kernel
theorem dX9_gainsIn_52 : decode cX9_gainsIn 52 = .ok (.ineg, 1) := by decide +kernel
theorem dX9_gainsIn_53 : decode cX9_gainsIn 53 = .ok (.istore 5, 2) := by decide +kernel
theorem dX9_gainsIn_55 : decode cX9_gainsIn 55 = .ok (.iload 5, 2) := by decide +kernel
theorem dX9_gainsIn_57 : decode cX9_gainsIn 57 = .ok (.iload 4, 2) := by decide +kernel
theorem dX9_gainsIn_59 : decode cX9_gainsIn 59 = .ok (.iconst 4, 1) := by decide +kernel
theorem dX9_gainsIn_60 : decode cX9_gainsIn 60 = .ok (.idiv, 1) := by decide +kernel
theorem dX9_gainsIn_61 : decode cX9_gainsIn 61 = .ok (.iadd, 1) := by decide +kernel
theorem dX9_gainsIn_62 : decode cX9_gainsIn 62 = .ok (.istore 6, 2) := by decide +kernel
theorem dX9_gainsIn_64 : decode cX9_gainsIn 64 = .ok (.aload_n 0, 1) := by decide +kernel
theorem dX9_gainsIn_65 : decode cX9_gainsIn 65 = .ok (.iload_n 1, 1) := by decide +kernel
theorem dX9_gainsIn_66 : decode cX9_gainsIn 66 = .ok (.iconst 0, 1) := by decide +kernel
theorem dX9_gainsIn_67 : decode cX9_gainsIn 67 = .ok (.invokestatic 45, 3) := by decide +kernel
theorem dX9_gainsIn_70 : decode cX9_gainsIn 70 = .ok (.iaload, 1) := by decide +kernel
theorem dX9_gainsIn_71 : decode cX9_gainsIn 71 = .ok (.tableswitch 96 1 5 #[33, 38, 41, 63, 75], 33) := by decide +kernel
theorem dX9_gainsIn_104 : decode cX9_gainsIn 104 = .ok (.iconst 2, 1) := by decide +kernel
theorem dX9_gainsIn_105 : decode cX9_gainsIn 105 = .ok (.iload 5, 2) := by decide +kernel
theorem dX9_gainsIn_107 : decode cX9_gainsIn 107 = .ok (.imul, 1) := by decide +kernel
theorem dX9_gainsIn_108 : decode cX9_gainsIn 108 = .ok (.ireturn, 1) := by decide +kernel
theorem dX9_gainsIn_109 : decode cX9_gainsIn 109 = .ok (.iload 6, 2) := by decide +kernel
theorem dX9_gainsIn_111 : decode cX9_gainsIn 111 = .ok (.ireturn, 1) := by decide +kernel
theorem dX9_gainsIn_112 : decode cX9_gainsIn 112 = .ok (.iload_n 3, 1) := by decide +kernel
theorem dX9_gainsIn_113 : decode cX9_gainsIn 113 = .ok (.iconst 1, 1) := by decide +kernel
theorem dX9_gainsIn_114 : decode cX9_gainsIn 114 = .ok (.if_icmp .le 15, 3) := by decide +kernel
theorem dX9_gainsIn_117 : decode cX9_gainsIn 117 = .ok (.iconst 2, 1) := by decide +kernel
theorem dX9_gainsIn_118 : decode cX9_gainsIn 118 = .ok (.iload 5, 2) := by decide +kernel
theorem dX9_gainsIn_120 : decode cX9_gainsIn 120 = .ok (.imul, 1) := by decide +kernel
theorem dX9_gainsIn_121 : decode cX9_gainsIn 121 = .ok (.iload 4, 2) := by decide +kernel
theorem dX9_gainsIn_123 : decode cX9_gainsIn 123 = .ok (.iconst 2, 1) := by decide +kernel
theorem dX9_gainsIn_124 : decode cX9_gainsIn 124 = .ok (.idiv, 1) := by decide +kernel
theorem dX9_gainsIn_125 : decode cX9_gainsIn 125 = .ok (.isub, 1) := by decide +kernel
theorem dX9_gainsIn_126 : decode cX9_gainsIn 126 = .ok (.goto 7, 3) := by decide +kernel
theorem dX9_gainsIn_129 : decode cX9_gainsIn 129 = .ok (.iconst 2, 1) := by decide +kernel
theorem dX9_gainsIn_130 : decode cX9_gainsIn 130 = .ok (.iload 5, 2) := by decide +kernel
theorem dX9_gainsIn_132 : decode cX9_gainsIn 132 = .ok (.imul, 1) := by decide +kernel
theorem dX9_gainsIn_133 : decode cX9_gainsIn 133 = .ok (.ireturn, 1) := by decide +kernel
theorem dX9_gainsIn_134 : decode cX9_gainsIn 134 = .ok (.iload 6, 2) := by decide +kernel
theorem dX9_gainsIn_136 : decode cX9_gainsIn 136 = .ok (.ifCond .ge 7, 3) := by decide +kernel
theorem dX9_gainsIn_139 : decode cX9_gainsIn 139 = .ok (.iconst 0, 1) := by decide +kernel
theorem dX9_gainsIn_140 : decode cX9_gainsIn 140 = .ok (.goto 5, 3) := by decide +kernel
theorem dX9_gainsIn_143 : decode cX9_gainsIn 143 = .ok (.iload 6, 2) := by decide +kernel
theorem dX9_gainsIn_145 : decode cX9_gainsIn 145 = .ok (.ireturn, 1) := by decide +kernel
theorem dX9_gainsIn_146 : decode cX9_gainsIn 146 = .ok (.iload 5, 2) := by decide +kernel
theorem dX9_gainsIn_148 : decode cX9_gainsIn 148 = .ok (.aload_n 0, 1) := by decide +kernel
theorem dX9_gainsIn_149 : decode cX9_gainsIn 149 = .ok (.iload_n 1, 1) := by decide +kernel
theorem dX9_gainsIn_150 : decode cX9_gainsIn 150 = .ok (.iconst 2, 1) := by decide +kernel
theorem dX9_gainsIn_151 : decode cX9_gainsIn 151 = .ok (.invokestatic 45, 3) := by decide +kernel
theorem dX9_gainsIn_154 : decode cX9_gainsIn 154 = .ok (.iaload, 1) := by decide +kernel
theorem dX9_gainsIn_155 : decode cX9_gainsIn 155 = .ok (.aload_n 0, 1) := by decide +kernel
theorem dX9_gainsIn_156 : decode cX9_gainsIn 156 = .ok (.iload_n 2, 1) := by decide +kernel
theorem dX9_gainsIn_157 : decode cX9_gainsIn 157 = .ok (.iconst 0, 1) := by decide +kernel
theorem dX9_gainsIn_158 : decode cX9_gainsIn 158 = .ok (.invokestatic 52, 3) := by decide +kernel
theorem dX9_gainsIn_161 : decode cX9_gainsIn 161 = .ok (.iaload, 1) := by decide +kernel
theorem dX9_gainsIn_162 : decode cX9_gainsIn 162 = .ok (.invokestatic 49, 3) := by decide +kernel
theorem dX9_gainsIn_165 : decode cX9_gainsIn 165 = .ok (.isub, 1) := by decide +kernel
theorem dX9_gainsIn_166 : decode cX9_gainsIn 166 = .ok (.ireturn, 1) := by decide +kernel
theorem dX9_gainsIn_167 : decode cX9_gainsIn 167 = .ok (.iload 5, 2) := by decide +kernel
theorem dX9_gainsIn_169 : decode cX9_gainsIn 169 = .ok (.ireturn, 1) := by decide +kernel
theorem dX9_wishedOff_0 : decode cX9_wishedOff 0 = .ok (.aload_n 0, 1) := by decide +kernel
theorem dX9_wishedOff_1 : decode cX9_wishedOff 1 = .ok (.iload_n 1, 1) := by decide +kernel
theorem dX9_wishedOff_2 : decode cX9_wishedOff 2 = .ok (.iconst 3, 1) := by decide +kernel
theorem dX9_wishedOff_3 : decode cX9_wishedOff 3 = .ok (.invokestatic 45, 3) := by decide +kernel
theorem dX9_wishedOff_6 : decode cX9_wishedOff 6 = .ok (.iaload, 1) := by decide +kernel
theorem dX9_wishedOff_7 : decode cX9_wishedOff 7 = .ok (.bipush 6, 2) := by decide +kernel
theorem dX9_wishedOff_9 : decode cX9_wishedOff 9 = .ok (.if_icmp .ne 7, 3) := by decide +kernel
theorem dX9_wishedOff_12 : decode cX9_wishedOff 12 = .ok (.iconst 2, 1) := by decide +kernel
theorem dX9_wishedOff_13 : decode cX9_wishedOff 13 = .ok (.goto 20, 3) := by decide +kernel
theorem dX9_wishedOff_16 : decode cX9_wishedOff 16 = .ok (.aload_n 0, 1) := by decide +kernel
theorem dX9_wishedOff_17 : decode cX9_wishedOff 17 = .ok (.iload_n 1, 1) := by decide +kernel
theorem dX9_wishedOff_18 : decode cX9_wishedOff 18 = .ok (.iconst 3, 1) := by decide +kernel
theorem dX9_wishedOff_19 : decode cX9_wishedOff 19 = .ok (.invokestatic 45, 3) := by decide +kernel
theorem dX9_wishedOff_22 : decode cX9_wishedOff 22 = .ok (.iaload, 1) := by decide +kernel
theorem dX9_wishedOff_23 : decode cX9_wishedOff 23 = .ok (.aload_n 0, 1) := by decide +kernel
theorem dX9_wishedOff_24 : decode cX9_wishedOff 24 = .ok (.iload_n 2, 1) := by decide +kernel
theorem dX9_wishedOff_25 : decode cX9_wishedOff 25 = .ok (.iconst 0, 1) := by decide +kernel
theorem dX9_wishedOff_26 : decode cX9_wishedOff 26 = .ok (.invokestatic 52, 3) := by decide +kernel
theorem dX9_wishedOff_29 : decode cX9_wishedOff 29 = .ok (.iaload, 1) := by decide +kernel
theorem dX9_wishedOff_30 : decode cX9_wishedOff 30 = .ok (.invokestatic 49, 3) := by decide +kernel
theorem dX9_wishedOff_33 : decode cX9_wishedOff 33 = .ok (.ireturn, 1) := by decide +kernel
theorem dX9_opensIn_0 : decode cX9_opensIn 0 = .ok (.bipush (-9), 2) := by decide +kernel
theorem dX9_opensIn_2 : decode cX9_opensIn 2 = .ok (.istore_n 2, 1) := by decide +kernel
theorem dX9_opensIn_3 : decode cX9_opensIn 3 = .ok (.iconst 0, 1) := by decide +kernel
theorem dX9_opensIn_4 : decode cX9_opensIn 4 = .ok (.istore_n 3, 1) := by decide +kernel
theorem dX9_opensIn_5 : decode cX9_opensIn 5 = .ok (.iload_n 3, 1) := by decide +kernel
theorem dX9_opensIn_6 : decode cX9_opensIn 6 = .ok (.aload_n 0, 1) := by decide +kernel
theorem dX9_opensIn_7 : decode cX9_opensIn 7 = .ok (.iconst 0, 1) := by decide +kernel
theorem dX9_opensIn_8 : decode cX9_opensIn 8 = .ok (.iaload, 1) := by decide +kernel
theorem dX9_opensIn_9 : decode cX9_opensIn 9 = .ok (.if_icmp .ge 51, 3) := by decide +kernel
theorem dX9_opensIn_12 : decode cX9_opensIn 12 = .ok (.aload_n 0, 1) := by decide +kernel
theorem dX9_opensIn_13 : decode cX9_opensIn 13 = .ok (.iload_n 3, 1) := by decide +kernel
theorem dX9_opensIn_14 : decode cX9_opensIn 14 = .ok (.iconst 5, 1) := by decide +kernel
theorem dX9_opensIn_15 : decode cX9_opensIn 15 = .ok (.invokestatic 45, 3) := by decide +kernel
theorem dX9_opensIn_18 : decode cX9_opensIn 18 = .ok (.iaload, 1) := by decide +kernel
theorem dX9_opensIn_19 : decode cX9_opensIn 19 = .ok (.iload_n 1, 1) := by decide +kernel
theorem dX9_opensIn_20 : decode cX9_opensIn 20 = .ok (.if_icmp .ne 34, 3) := by decide +kernel
theorem dX9_opensIn_23 : decode cX9_opensIn 23 = .ok (.aload_n 0, 1) := by decide +kernel
theorem dX9_opensIn_24 : decode cX9_opensIn 24 = .ok (.iload_n 3, 1) := by decide +kernel
theorem dX9_opensIn_25 : decode cX9_opensIn 25 = .ok (.iconst 4, 1) := by decide +kernel
theorem dX9_opensIn_26 : decode cX9_opensIn 26 = .ok (.invokestatic 45, 3) := by decide +kernel
theorem dX9_opensIn_29 : decode cX9_opensIn 29 = .ok (.iaload, 1) := by decide +kernel
theorem dX9_opensIn_30 : decode cX9_opensIn 30 = .ok (.ifCond .le 24, 3) := by decide +kernel
theorem dX9_opensIn_33 : decode cX9_opensIn 33 = .ok (.iload_n 2, 1) := by decide +kernel
theorem dX9_opensIn_34 : decode cX9_opensIn 34 = .ok (.ifCond .lt 18, 3) := by decide +kernel
theorem dX9_opensIn_37 : decode cX9_opensIn 37 = .ok (.aload_n 0, 1) := by decide +kernel
theorem dX9_opensIn_38 : decode cX9_opensIn 38 = .ok (.iload_n 3, 1) := by decide +kernel
theorem dX9_opensIn_39 : decode cX9_opensIn 39 = .ok (.iload_n 1, 1) := by decide +kernel
theorem dX9_opensIn_40 : decode cX9_opensIn 40 = .ok (.invokestatic 55, 3) := by decide +kernel
theorem dX9_opensIn_43 : decode cX9_opensIn 43 = .ok (.aload_n 0, 1) := by decide +kernel
theorem dX9_opensIn_44 : decode cX9_opensIn 44 = .ok (.iload_n 2, 1) := by decide +kernel
theorem dX9_opensIn_45 : decode cX9_opensIn 45 = .ok (.iload_n 1, 1) := by decide +kernel
theorem dX9_opensIn_46 : decode cX9_opensIn 46 = .ok (.invokestatic 55, 3) := by decide +kernel
theorem dX9_opensIn_49 : decode cX9_opensIn 49 = .ok (.if_icmp .ge 5, 3) := by decide +kernel
theorem dX9_opensIn_52 : decode cX9_opensIn 52 = .ok (.iload_n 3, 1) := by decide +kernel
theorem dX9_opensIn_53 : decode cX9_opensIn 53 = .ok (.istore_n 2, 1) := by decide +kernel
theorem dX9_opensIn_54 : decode cX9_opensIn 54 = .ok (.iinc 3 1, 3) := by decide +kernel
theorem dX9_opensIn_57 : decode cX9_opensIn 57 = .ok (.goto (-52), 3) := by decide +kernel
theorem dX9_opensIn_60 : decode cX9_opensIn 60 = .ok (.iload_n 2, 1) := by decide +kernel
theorem dX9_opensIn_61 : decode cX9_opensIn 61 = .ok (.ireturn, 1) := by decide +kernel
theorem dX9_year_0 : decode cX9_year 0 = .ok (.aload_n 0, 1) := by decide +kernel
theorem dX9_year_1 : decode cX9_year 1 = .ok (.iconst 2, 1) := by decide +kernel
theorem dX9_year_2 : decode cX9_year 2 = .ok (.dup2, 1) := by decide +kernel
theorem dX9_year_3 : decode cX9_year 3 = .ok (.iaload, 1) := by decide +kernel
theorem dX9_year_4 : decode cX9_year 4 = .ok (.iconst 1, 1) := by decide +kernel
theorem dX9_year_5 : decode cX9_year 5 = .ok (.iadd, 1) := by decide +kernel
theorem dX9_year_6 : decode cX9_year 6 = .ok (.iastore, 1) := by decide +kernel
theorem dX9_year_7 : decode cX9_year 7 = .ok (.iconst 0, 1) := by decide +kernel
theorem dX9_year_8 : decode cX9_year 8 = .ok (.istore_n 1, 1) := by decide +kernel
theorem dX9_year_9 : decode cX9_year 9 = .ok (.iload_n 1, 1) := by decide +kernel
theorem dX9_year_10 : decode cX9_year 10 = .ok (.aload_n 0, 1) := by decide +kernel
theorem dX9_year_11 : decode cX9_year 11 = .ok (.iconst 1, 1) := by decide +kernel
theorem dX9_year_12 : decode cX9_year 12 = .ok (.iaload, 1) := by decide +kernel
theorem dX9_year_13 : decode cX9_year 13 = .ok (.if_icmp .ge 62, 3) := by decide +kernel
theorem dX9_year_16 : decode cX9_year 16 = .ok (.aload_n 0, 1) := by decide +kernel
theorem dX9_year_17 : decode cX9_year 17 = .ok (.iload_n 1, 1) := by decide +kernel
theorem dX9_year_18 : decode cX9_year 18 = .ok (.invokestatic 59, 3) := by decide +kernel
theorem dX9_year_21 : decode cX9_year 21 = .ok (.istore_n 2, 1) := by decide +kernel
theorem dX9_year_22 : decode cX9_year 22 = .ok (.aload_n 0, 1) := by decide +kernel
theorem dX9_year_23 : decode cX9_year 23 = .ok (.iload_n 1, 1) := by decide +kernel
theorem dX9_year_24 : decode cX9_year 24 = .ok (.iconst 1, 1) := by decide +kernel
theorem dX9_year_25 : decode cX9_year 25 = .ok (.invokestatic 52, 3) := by decide +kernel
theorem dX9_year_28 : decode cX9_year 28 = .ok (.aload_n 0, 1) := by decide +kernel
theorem dX9_year_29 : decode cX9_year 29 = .ok (.iload_n 1, 1) := by decide +kernel
theorem dX9_year_30 : decode cX9_year 30 = .ok (.iconst 1, 1) := by decide +kernel
theorem dX9_year_31 : decode cX9_year 31 = .ok (.invokestatic 52, 3) := by decide +kernel
theorem dX9_year_34 : decode cX9_year 34 = .ok (.iaload, 1) := by decide +kernel
theorem dX9_year_35 : decode cX9_year 35 = .ok (.iload_n 2, 1) := by decide +kernel
theorem dX9_year_36 : decode cX9_year 36 = .ok (.ifCond .ge 7, 3) := by decide +kernel
theorem dX9_year_39 : decode cX9_year 39 = .ok (.iconst (-1), 1) := by decide +kernel
theorem dX9_year_40 : decode cX9_year 40 = .ok (.goto 9, 3) := by decide +kernel
theorem dX9_year_43 : decode cX9_year 43 = .ok (.aload_n 0, 1) := by decide +kernel
theorem dX9_year_44 : decode cX9_year 44 = .ok (.iload_n 2, 1) := by decide +kernel
theorem dX9_year_45 : decode cX9_year 45 = .ok (.iload_n 1, 1) := by decide +kernel
theorem dX9_year_46 : decode cX9_year 46 = .ok (.invokestatic 63, 3) := by decide +kernel
theorem dX9_year_49 : decode cX9_year 49 = .ok (.iadd, 1) := by decide +kernel
theorem dX9_year_50 : decode cX9_year 50 = .ok (.invokestatic 66, 3) := by decide +kernel
theorem dX9_year_53 : decode cX9_year 53 = .ok (.iastore, 1) := by decide +kernel
theorem dX9_year_54 : decode cX9_year 54 = .ok (.iload_n 2, 1) := by decide +kernel
theorem dX9_year_55 : decode cX9_year 55 = .ok (.ifCond .lt 14, 3) := by decide +kernel
theorem dX9_year_58 : decode cX9_year 58 = .ok (.aload_n 0, 1) := by decide +kernel
theorem dX9_year_59 : decode cX9_year 59 = .ok (.iload_n 2, 1) := by decide +kernel
theorem dX9_year_60 : decode cX9_year 60 = .ok (.iconst 4, 1) := by decide +kernel
theorem dX9_year_61 : decode cX9_year 61 = .ok (.invokestatic 45, 3) := by decide +kernel
theorem dX9_year_64 : decode cX9_year 64 = .ok (.dup2, 1) := by decide +kernel
theorem dX9_year_65 : decode cX9_year 65 = .ok (.iaload, 1) := by decide +kernel
theorem dX9_year_66 : decode cX9_year 66 = .ok (.iconst 1, 1) := by decide +kernel
theorem dX9_year_67 : decode cX9_year 67 = .ok (.isub, 1) := by decide +kernel
theorem dX9_year_68 : decode cX9_year 68 = .ok (.iastore, 1) := by decide +kernel
theorem dX9_year_69 : decode cX9_year 69 = .ok (.iinc 1 1, 3) := by decide +kernel
theorem dX9_year_72 : decode cX9_year 72 = .ok (.goto (-63), 3) := by decide +kernel
theorem dX9_year_75 : decode cX9_year 75 = .ok (.return_, 1) := by decide +kernel
theorem dX9_yearsOn_0 : decode cX9_yearsOn 0 = .ok (.iconst 0, 1) := by decide +kernel
theorem dX9_yearsOn_1 : decode cX9_yearsOn 1 = .ok (.istore_n 2, 1) := by decide +kernel
theorem dX9_yearsOn_2 : decode cX9_yearsOn 2 = .ok (.iload_n 2, 1) := by decide +kernel
theorem dX9_yearsOn_3 : decode cX9_yearsOn 3 = .ok (.iload_n 1, 1) := by decide +kernel
theorem dX9_yearsOn_4 : decode cX9_yearsOn 4 = .ok (.if_icmp .ge 13, 3) := by decide +kernel
theorem dX9_yearsOn_7 : decode cX9_yearsOn 7 = .ok (.aload_n 0, 1) := by decide +kernel
theorem dX9_yearsOn_8 : decode cX9_yearsOn 8 = .ok (.invokestatic 69, 3) := by decide +kernel
theorem dX9_yearsOn_11 : decode cX9_yearsOn 11 = .ok (.iinc 2 1, 3) := by decide +kernel
theorem dX9_yearsOn_14 : decode cX9_yearsOn 14 = .ok (.goto (-12), 3) := by decide +kernel
theorem dX9_yearsOn_17 : decode cX9_yearsOn 17 = .ok (.return_, 1) := by decide +kernel
theorem dX9_allGrace_0 : decode cX9_allGrace 0 = .ok (.iconst 0, 1) := by decide +kernel
theorem dX9_allGrace_1 : decode cX9_allGrace 1 = .ok (.istore_n 1, 1) := by decide +kernel
theorem dX9_allGrace_2 : decode cX9_allGrace 2 = .ok (.iconst 0, 1) := by decide +kernel
theorem dX9_allGrace_3 : decode cX9_allGrace 3 = .ok (.istore_n 2, 1) := by decide +kernel
theorem dX9_allGrace_4 : decode cX9_allGrace 4 = .ok (.iload_n 2, 1) := by decide +kernel
theorem dX9_allGrace_5 : decode cX9_allGrace 5 = .ok (.aload_n 0, 1) := by decide +kernel
theorem dX9_allGrace_6 : decode cX9_allGrace 6 = .ok (.iconst 1, 1) := by decide +kernel
theorem dX9_allGrace_7 : decode cX9_allGrace 7 = .ok (.iaload, 1) := by decide +kernel
theorem dX9_allGrace_8 : decode cX9_allGrace 8 = .ok (.if_icmp .ge 19, 3) := by decide +kernel
theorem dX9_allGrace_11 : decode cX9_allGrace 11 = .ok (.iload_n 1, 1) := by decide +kernel
theorem dX9_allGrace_12 : decode cX9_allGrace 12 = .ok (.aload_n 0, 1) := by decide +kernel
theorem dX9_allGrace_13 : decode cX9_allGrace 13 = .ok (.iload_n 2, 1) := by decide +kernel
theorem dX9_allGrace_14 : decode cX9_allGrace 14 = .ok (.iconst 1, 1) := by decide +kernel
theorem dX9_allGrace_15 : decode cX9_allGrace 15 = .ok (.invokestatic 52, 3) := by decide +kernel
theorem dX9_allGrace_18 : decode cX9_allGrace 18 = .ok (.iaload, 1) := by decide +kernel
theorem dX9_allGrace_19 : decode cX9_allGrace 19 = .ok (.iadd, 1) := by decide +kernel
theorem dX9_allGrace_20 : decode cX9_allGrace 20 = .ok (.istore_n 1, 1) := by decide +kernel
theorem dX9_allGrace_21 : decode cX9_allGrace 21 = .ok (.iinc 2 1, 3) := by decide +kernel
theorem dX9_allGrace_24 : decode cX9_allGrace 24 = .ok (.goto (-20), 3) := by decide +kernel
theorem dX9_allGrace_27 : decode cX9_allGrace 27 = .ok (.iload_n 1, 1) := by decide +kernel
theorem dX9_allGrace_28 : decode cX9_allGrace 28 = .ok (.ireturn, 1) := by decide +kernel
theorem dX9_letter_0 : decode cX9_letter 0 = .ok (.iload_n 1, 1) := by decide +kernel
theorem dX9_letter_1 : decode cX9_letter 1 = .ok (.ifCond .ge 10, 3) := by decide +kernel
theorem dX9_letter_4 : decode cX9_letter 4 = .ok (.aload_n 0, 1) := by decide +kernel
theorem dX9_letter_5 : decode cX9_letter 5 = .ok (.bipush (-4), 2) := by decide +kernel
theorem dX9_letter_7 : decode cX9_letter 7 = .ok (.invokevirtual 35, 3) := by decide +kernel
theorem dX9_letter_10 : decode cX9_letter 10 = .ok (.ireturn, 1) := by decide +kernel
theorem dX9_letter_11 : decode cX9_letter 11 = .ok (.iload_n 1, 1) := by decide +kernel
theorem dX9_letter_12 : decode cX9_letter 12 = .ok (.sipush 255, 3) := by decide +kernel
theorem dX9_letter_15 : decode cX9_letter 15 = .ok (.if_icmp .gt 12, 3) := by decide +kernel
theorem dX9_letter_18 : decode cX9_letter 18 = .ok (.aload_n 0, 1) := by decide +kernel
theorem dX9_letter_19 : decode cX9_letter 19 = .ok (.getfield 73, 3) := by decide +kernel
theorem dX9_letter_22 : decode cX9_letter 22 = .ok (.bipush 96, 2) := by decide +kernel
theorem dX9_letter_24 : decode cX9_letter 24 = .ok (.if_icmp .ne 10, 3) := by decide +kernel
theorem dX9_letter_27 : decode cX9_letter 27 = .ok (.aload_n 0, 1) := by decide +kernel
theorem dX9_letter_28 : decode cX9_letter 28 = .ok (.bipush (-6), 2) := by decide +kernel
theorem dX9_letter_30 : decode cX9_letter 30 = .ok (.invokevirtual 35, 3) := by decide +kernel
theorem dX9_letter_33 : decode cX9_letter 33 = .ok (.ireturn, 1) := by decide +kernel
theorem dX9_letter_34 : decode cX9_letter 34 = .ok (.aload_n 0, 1) := by decide +kernel
theorem dX9_letter_35 : decode cX9_letter 35 = .ok (.getfield 22, 3) := by decide +kernel
theorem dX9_letter_38 : decode cX9_letter 38 = .ok (.aload_n 0, 1) := by decide +kernel
theorem dX9_letter_39 : decode cX9_letter 39 = .ok (.getfield 73, 3) := by decide +kernel
theorem dX9_letter_42 : decode cX9_letter 42 = .ok (.iload_n 1, 1) := by decide +kernel
theorem dX9_letter_43 : decode cX9_letter 43 = .ok (.iastore, 1) := by decide +kernel
theorem dX9_letter_44 : decode cX9_letter 44 = .ok (.aload_n 0, 1) := by decide +kernel
theorem dX9_letter_45 : decode cX9_letter 45 = .ok (.dup, 1) := by decide +kernel
theorem dX9_letter_46 : decode cX9_letter 46 = .ok (.getfield 73, 3) := by decide +kernel
theorem dX9_letter_49 : decode cX9_letter 49 = .ok (.iconst 1, 1) := by decide +kernel
theorem dX9_letter_50 : decode cX9_letter 50 = .ok (.iadd, 1) := by decide +kernel
theorem dX9_letter_51 : decode cX9_letter 51 = .ok (.putfield 73, 3) := by decide +kernel
theorem dX9_letter_54 : decode cX9_letter 54 = .ok (.aload_n 0, 1) := by decide +kernel
theorem dX9_letter_55 : decode cX9_letter 55 = .ok (.getfield 73, 3) := by decide +kernel
theorem dX9_letter_58 : decode cX9_letter 58 = .ok (.ireturn, 1) := by decide +kernel
theorem dX9_here_0 : decode cX9_here 0 = .ok (.aload_n 0, 1) := by decide +kernel
theorem dX9_here_1 : decode cX9_here 1 = .ok (.getfield 77, 3) := by decide +kernel
theorem dX9_here_4 : decode cX9_here 4 = .ok (.aload_n 0, 1) := by decide +kernel
theorem dX9_here_5 : decode cX9_here 5 = .ok (.getfield 73, 3) := by decide +kernel
theorem dX9_here_8 : decode cX9_here 8 = .ok (.if_icmp .ge 15, 3) := by decide +kernel
theorem dX9_here_11 : decode cX9_here 11 = .ok (.aload_n 0, 1) := by decide +kernel
theorem dX9_here_12 : decode cX9_here 12 = .ok (.getfield 22, 3) := by decide +kernel
theorem dX9_here_15 : decode cX9_here 15 = .ok (.aload_n 0, 1) := by decide +kernel
theorem dX9_here_16 : decode cX9_here 16 = .ok (.getfield 77, 3) := by decide +kernel
theorem dX9_here_19 : decode cX9_here 19 = .ok (.iaload, 1) := by decide +kernel
theorem dX9_here_20 : decode cX9_here 20 = .ok (.goto 4, 3) := by decide +kernel
theorem dX9_here_23 : decode cX9_here 23 = .ok (.iconst (-1), 1) := by decide +kernel
theorem dX9_here_24 : decode cX9_here 24 = .ok (.ireturn, 1) := by decide +kernel
theorem dX9_readsNumber_0 : decode cX9_readsNumber 0 = .ok (.aload_n 0, 1) := by decide +kernel
theorem dX9_readsNumber_1 : decode cX9_readsNumber 1 = .ok (.getfield 31, 3) := by decide +kernel
theorem dX9_readsNumber_4 : decode cX9_readsNumber 4 = .ok (.iload_n 1, 1) := by decide +kernel
theorem dX9_readsNumber_5 : decode cX9_readsNumber 5 = .ok (.iconst 0, 1) := by decide +kernel
theorem dX9_readsNumber_6 : decode cX9_readsNumber 6 = .ok (.iastore, 1) := by decide +kernel
theorem dX9_readsNumber_7 : decode cX9_readsNumber 7 = .ok (.iconst 0, 1) := by decide +kernel
theorem dX9_readsNumber_8 : decode cX9_readsNumber 8 = .ok (.istore_n 3, 1) := by decide +kernel
theorem dX9_readsNumber_9 : decode cX9_readsNumber 9 = .ok (.iload_n 3, 1) := by decide +kernel
theorem dX9_readsNumber_10 : decode cX9_readsNumber 10 = .ok (.iload_n 2, 1) := by decide +kernel
theorem dX9_readsNumber_11 : decode cX9_readsNumber 11 = .ok (.if_icmp .ge 58, 3) := by decide +kernel
theorem dX9_readsNumber_14 : decode cX9_readsNumber 14 = .ok (.aload_n 0, 1) := by decide +kernel
theorem dX9_readsNumber_15 : decode cX9_readsNumber 15 = .ok (.invokevirtual 80, 3) := by decide +kernel
theorem dX9_readsNumber_18 : decode cX9_readsNumber 18 = .ok (.bipush 48, 2) := by decide +kernel
theorem dX9_readsNumber_20 : decode cX9_readsNumber 20 = .ok (.bipush 57, 2) := by decide +kernel
theorem dX9_readsNumber_22 : decode cX9_readsNumber 22 = .ok (.invokestatic 41, 3) := by decide +kernel
theorem dX9_readsNumber_25 : decode cX9_readsNumber 25 = .ok (.ifCond .ne 5, 3) := by decide +kernel
theorem dX9_readsNumber_28 : decode cX9_readsNumber 28 = .ok (.iconst 0, 1) := by decide +kernel
theorem dX9_readsNumber_29 : decode cX9_readsNumber 29 = .ok (.ireturn, 1) := by decide +kernel
theorem dX9_readsNumber_30 : decode cX9_readsNumber 30 = .ok (.aload_n 0, 1) := by decide +kernel
theorem dX9_readsNumber_31 : decode cX9_readsNumber 31 = .ok (.getfield 31, 3) := by decide +kernel
theorem dX9_readsNumber_34 : decode cX9_readsNumber 34 = .ok (.iload_n 1, 1) := by decide +kernel
theorem dX9_readsNumber_35 : decode cX9_readsNumber 35 = .ok (.bipush 10, 2) := by decide +kernel
theorem dX9_readsNumber_37 : decode cX9_readsNumber 37 = .ok (.aload_n 0, 1) := by decide +kernel
theorem dX9_readsNumber_38 : decode cX9_readsNumber 38 = .ok (.getfield 31, 3) := by decide +kernel
theorem dX9_readsNumber_41 : decode cX9_readsNumber 41 = .ok (.iload_n 1, 1) := by decide +kernel
theorem dX9_readsNumber_42 : decode cX9_readsNumber 42 = .ok (.iaload, 1) := by decide +kernel
theorem dX9_readsNumber_43 : decode cX9_readsNumber 43 = .ok (.imul, 1) := by decide +kernel
theorem dX9_readsNumber_44 : decode cX9_readsNumber 44 = .ok (.aload_n 0, 1) := by decide +kernel
theorem dX9_readsNumber_45 : decode cX9_readsNumber 45 = .ok (.invokevirtual 80, 3) := by decide +kernel
theorem dX9_readsNumber_48 : decode cX9_readsNumber 48 = .ok (.iadd, 1) := by decide +kernel
theorem dX9_readsNumber_49 : decode cX9_readsNumber 49 = .ok (.bipush 48, 2) := by decide +kernel
theorem dX9_readsNumber_51 : decode cX9_readsNumber 51 = .ok (.isub, 1) := by decide +kernel
theorem dX9_readsNumber_52 : decode cX9_readsNumber 52 = .ok (.iastore, 1) := by decide +kernel
theorem dX9_readsNumber_53 : decode cX9_readsNumber 53 = .ok (.aload_n 0, 1) := by decide +kernel
theorem dX9_readsNumber_54 : decode cX9_readsNumber 54 = .ok (.dup, 1) := by decide +kernel
theorem dX9_readsNumber_55 : decode cX9_readsNumber 55 = .ok (.getfield 77, 3) := by decide +kernel
theorem dX9_readsNumber_58 : decode cX9_readsNumber 58 = .ok (.iconst 1, 1) := by decide +kernel
theorem dX9_readsNumber_59 : decode cX9_readsNumber 59 = .ok (.iadd, 1) := by decide +kernel
theorem dX9_readsNumber_60 : decode cX9_readsNumber 60 = .ok (.putfield 77, 3) := by decide +kernel
theorem dX9_readsNumber_63 : decode cX9_readsNumber 63 = .ok (.iinc 3 1, 3) := by decide +kernel
theorem dX9_readsNumber_66 : decode cX9_readsNumber 66 = .ok (.goto (-57), 3) := by decide +kernel
theorem dX9_readsNumber_69 : decode cX9_readsNumber 69 = .ok (.iconst 1, 1) := by decide +kernel
theorem dX9_readsNumber_70 : decode cX9_readsNumber 70 = .ok (.ireturn, 1) := by decide +kernel
theorem dX9_kindBy_0 : decode cX9_kindBy 0 = .ok (.iload_n 0, 1) := by decide +kernel
theorem dX9_kindBy_1 : decode cX9_kindBy 1 = .ok (.tableswitch 107 97 116 #[101, 105, 107, 107, 107, 107, 107, 103, 107, 95, 107, 107, 107, 107, 107, 107, 107, 107, 99, 97], 95) := by decide +kernel
theorem dX9_kindBy_96 : decode cX9_kindBy 96 = .ok (.iconst 0, 1) := by decide +kernel
theorem dX9_kindBy_97 : decode cX9_kindBy 97 = .ok (.ireturn, 1) := by decide +kernel
theorem dX9_kindBy_98 : decode cX9_kindBy 98 = .ok (.iconst 1, 1) := by decide +kernel
theorem dX9_kindBy_99 : decode cX9_kindBy 99 = .ok (.ireturn, 1) := by decide +kernel
theorem dX9_kindBy_100 : decode cX9_kindBy 100 = .ok (.iconst 2, 1) := by decide +kernel
theorem dX9_kindBy_101 : decode cX9_kindBy 101 = .ok (.ireturn, 1) := by decide +kernel
theorem dX9_kindBy_102 : decode cX9_kindBy 102 = .ok (.iconst 3, 1) := by decide +kernel
theorem dX9_kindBy_103 : decode cX9_kindBy 103 = .ok (.ireturn, 1) := by decide +kernel
theorem dX9_kindBy_104 : decode cX9_kindBy 104 = .ok (.iconst 4, 1) := by decide +kernel
theorem dX9_kindBy_105 : decode cX9_kindBy 105 = .ok (.ireturn, 1) := by decide +kernel
theorem dX9_kindBy_106 : decode cX9_kindBy 106 = .ok (.iconst 5, 1) := by decide +kernel
theorem dX9_kindBy_107 : decode cX9_kindBy 107 = .ok (.ireturn, 1) := by decide +kernel
theorem dX9_kindBy_108 : decode cX9_kindBy 108 = .ok (.bipush (-9), 2) := by decide +kernel
theorem dX9_kindBy_110 : decode cX9_kindBy 110 = .ok (.ireturn, 1) := by decide +kernel
theorem dX9_readsKind_0 : decode cX9_readsKind 0 = .ok (.aload_n 0, 1) := by decide +kernel
theorem dX9_readsKind_1 : decode cX9_readsKind 1 = .ok (.getfield 31, 3) := by decide +kernel
theorem dX9_readsKind_4 : decode cX9_readsKind 4 = .ok (.iconst 0, 1) := by decide +kernel
theorem dX9_readsKind_5 : decode cX9_readsKind 5 = .ok (.aload_n 0, 1) := by decide +kernel
theorem dX9_readsKind_6 : decode cX9_readsKind 6 = .ok (.invokevirtual 80, 3) := by decide +kernel
theorem dX9_readsKind_9 : decode cX9_readsKind 9 = .ok (.invokestatic 84, 3) := by decide +kernel
theorem dX9_readsKind_12 : decode cX9_readsKind 12 = .ok (.iastore, 1) := by decide +kernel
theorem dX9_readsKind_13 : decode cX9_readsKind 13 = .ok (.aload_n 0, 1) := by decide +kernel
theorem dX9_readsKind_14 : decode cX9_readsKind 14 = .ok (.dup, 1) := by decide +kernel
theorem dX9_readsKind_15 : decode cX9_readsKind 15 = .ok (.getfield 77, 3) := by decide +kernel
theorem dX9_readsKind_18 : decode cX9_readsKind 18 = .ok (.aload_n 0, 1) := by decide +kernel
theorem dX9_readsKind_19 : decode cX9_readsKind 19 = .ok (.getfield 31, 3) := by decide +kernel
theorem dX9_readsKind_22 : decode cX9_readsKind 22 = .ok (.iconst 0, 1) := by decide +kernel
theorem dX9_readsKind_23 : decode cX9_readsKind 23 = .ok (.iaload, 1) := by decide +kernel
theorem dX9_readsKind_24 : decode cX9_readsKind 24 = .ok (.ifCond .ge 7, 3) := by decide +kernel
theorem dX9_readsKind_27 : decode cX9_readsKind 27 = .ok (.iconst 0, 1) := by decide +kernel
theorem dX9_readsKind_28 : decode cX9_readsKind 28 = .ok (.goto 4, 3) := by decide +kernel
theorem dX9_readsKind_31 : decode cX9_readsKind 31 = .ok (.iconst 1, 1) := by decide +kernel
theorem dX9_readsKind_32 : decode cX9_readsKind 32 = .ok (.iadd, 1) := by decide +kernel
theorem dX9_readsKind_33 : decode cX9_readsKind 33 = .ok (.putfield 77, 3) := by decide +kernel
theorem dX9_readsKind_36 : decode cX9_readsKind 36 = .ok (.aload_n 0, 1) := by decide +kernel
theorem dX9_readsKind_37 : decode cX9_readsKind 37 = .ok (.getfield 31, 3) := by decide +kernel
theorem dX9_readsKind_40 : decode cX9_readsKind 40 = .ok (.iconst 0, 1) := by decide +kernel
theorem dX9_readsKind_41 : decode cX9_readsKind 41 = .ok (.iaload, 1) := by decide +kernel
theorem dX9_readsKind_42 : decode cX9_readsKind 42 = .ok (.ifCond .lt 7, 3) := by decide +kernel
theorem dX9_readsKind_45 : decode cX9_readsKind 45 = .ok (.iconst 1, 1) := by decide +kernel
theorem dX9_readsKind_46 : decode cX9_readsKind 46 = .ok (.goto 4, 3) := by decide +kernel
theorem dX9_readsKind_49 : decode cX9_readsKind 49 = .ok (.iconst 0, 1) := by decide +kernel
theorem dX9_readsKind_50 : decode cX9_readsKind 50 = .ok (.ireturn, 1) := by decide +kernel
theorem dX9_readsStatement_0 : decode cX9_readsStatement 0 = .ok (.aload_n 0, 1) := by decide +kernel
theorem dX9_readsStatement_1 : decode cX9_readsStatement 1 = .ok (.invokevirtual 80, 3) := by decide +kernel
theorem dX9_readsStatement_4 : decode cX9_readsStatement 4 = .ok (.istore_n 1, 1) := by decide +kernel
theorem dX9_readsStatement_5 : decode cX9_readsStatement 5 = .ok (.aload_n 0, 1) := by decide +kernel
theorem dX9_readsStatement_6 : decode cX9_readsStatement 6 = .ok (.dup, 1) := by decide +kernel
theorem dX9_readsStatement_7 : decode cX9_readsStatement 7 = .ok (.getfield 77, 3) := by decide +kernel
theorem dX9_readsStatement_10 : decode cX9_readsStatement 10 = .ok (.iconst 1, 1) := by decide +kernel
theorem dX9_readsStatement_11 : decode cX9_readsStatement 11 = .ok (.iadd, 1) := by decide +kernel
theorem dX9_readsStatement_12 : decode cX9_readsStatement 12 = .ok (.putfield 77, 3) := by decide +kernel
theorem dX9_readsStatement_15 : decode cX9_readsStatement 15 = .ok (.iload_n 1, 1) := by decide +kernel
theorem dX9_readsStatement_16 : decode cX9_readsStatement 16 = .ok (.tableswitch 204 102 121 #[167, 167, 204, 204, 106, 167, 167, 204, 204, 204, 96, 204, 204, 204, 204, 204, 204, 204, 204, 194], 96) := by decide +kernel
theorem dX9_readsStatement_112 : decode cX9_readsStatement 112 = .ok (.aload_n 0, 1) := by decide +kernel
theorem dX9_readsStatement_113 : decode cX9_readsStatement 113 = .ok (.iconst 0, 1) := by decide +kernel
theorem dX9_readsStatement_114 : decode cX9_readsStatement 114 = .ok (.iconst 1, 1) := by decide +kernel
theorem dX9_readsStatement_115 : decode cX9_readsStatement 115 = .ok (.invokevirtual 87, 3) := by decide +kernel
theorem dX9_readsStatement_118 : decode cX9_readsStatement 118 = .ok (.istore_n 2, 1) := by decide +kernel
theorem dX9_readsStatement_119 : decode cX9_readsStatement 119 = .ok (.goto 113, 3) := by decide +kernel
theorem dX9_readsStatement_122 : decode cX9_readsStatement 122 = .ok (.aload_n 0, 1) := by decide +kernel
theorem dX9_readsStatement_123 : decode cX9_readsStatement 123 = .ok (.invokevirtual 91, 3) := by decide +kernel
theorem dX9_readsStatement_126 : decode cX9_readsStatement 126 = .ok (.ifCond .eq 52, 3) := by decide +kernel
theorem dX9_readsStatement_129 : decode cX9_readsStatement 129 = .ok (.aload_n 0, 1) := by decide +kernel
theorem dX9_readsStatement_130 : decode cX9_readsStatement 130 = .ok (.iconst 1, 1) := by decide +kernel
theorem dX9_readsStatement_131 : decode cX9_readsStatement 131 = .ok (.iconst 1, 1) := by decide +kernel
theorem dX9_readsStatement_132 : decode cX9_readsStatement 132 = .ok (.invokevirtual 87, 3) := by decide +kernel
theorem dX9_readsStatement_135 : decode cX9_readsStatement 135 = .ok (.ifCond .eq 43, 3) := by decide +kernel
theorem dX9_readsStatement_138 : decode cX9_readsStatement 138 = .ok (.aload_n 0, 1) := by decide +kernel
theorem dX9_readsStatement_139 : decode cX9_readsStatement 139 = .ok (.iconst 2, 1) := by decide +kernel
theorem dX9_readsStatement_140 : decode cX9_readsStatement 140 = .ok (.iconst 1, 1) := by decide +kernel
theorem dX9_readsStatement_141 : decode cX9_readsStatement 141 = .ok (.invokevirtual 87, 3) := by decide +kernel
theorem dX9_readsStatement_144 : decode cX9_readsStatement 144 = .ok (.ifCond .eq 34, 3) := by decide +kernel
theorem dX9_readsStatement_147 : decode cX9_readsStatement 147 = .ok (.aload_n 0, 1) := by decide +kernel
theorem dX9_readsStatement_148 : decode cX9_readsStatement 148 = .ok (.iconst 3, 1) := by decide +kernel
theorem dX9_readsStatement_149 : decode cX9_readsStatement 149 = .ok (.iconst 1, 1) := by decide +kernel
theorem dX9_readsStatement_150 : decode cX9_readsStatement 150 = .ok (.invokevirtual 87, 3) := by decide +kernel
theorem dX9_readsStatement_153 : decode cX9_readsStatement 153 = .ok (.ifCond .eq 25, 3) := by decide +kernel
theorem dX9_readsStatement_156 : decode cX9_readsStatement 156 = .ok (.aload_n 0, 1) := by decide +kernel
theorem dX9_readsStatement_157 : decode cX9_readsStatement 157 = .ok (.iconst 4, 1) := by decide +kernel
theorem dX9_readsStatement_158 : decode cX9_readsStatement 158 = .ok (.iconst 1, 1) := by decide +kernel
theorem dX9_readsStatement_159 : decode cX9_readsStatement 159 = .ok (.invokevirtual 87, 3) := by decide +kernel
theorem dX9_readsStatement_162 : decode cX9_readsStatement 162 = .ok (.ifCond .eq 16, 3) := by decide +kernel
theorem dX9_readsStatement_165 : decode cX9_readsStatement 165 = .ok (.aload_n 0, 1) := by decide +kernel
theorem dX9_readsStatement_166 : decode cX9_readsStatement 166 = .ok (.iconst 5, 1) := by decide +kernel
theorem dX9_readsStatement_167 : decode cX9_readsStatement 167 = .ok (.iconst 1, 1) := by decide +kernel
theorem dX9_readsStatement_168 : decode cX9_readsStatement 168 = .ok (.invokevirtual 87, 3) := by decide +kernel
theorem dX9_readsStatement_171 : decode cX9_readsStatement 171 = .ok (.ifCond .eq 7, 3) := by decide +kernel
theorem dX9_readsStatement_174 : decode cX9_readsStatement 174 = .ok (.iconst 1, 1) := by decide +kernel
theorem dX9_readsStatement_175 : decode cX9_readsStatement 175 = .ok (.goto 4, 3) := by decide +kernel
theorem dX9_readsStatement_178 : decode cX9_readsStatement 178 = .ok (.iconst 0, 1) := by decide +kernel
theorem dX9_readsStatement_179 : decode cX9_readsStatement 179 = .ok (.istore_n 2, 1) := by decide +kernel
theorem dX9_readsStatement_180 : decode cX9_readsStatement 180 = .ok (.goto 52, 3) := by decide +kernel
theorem dX9_readsStatement_183 : decode cX9_readsStatement 183 = .ok (.aload_n 0, 1) := by decide +kernel
theorem dX9_readsStatement_184 : decode cX9_readsStatement 184 = .ok (.iconst 0, 1) := by decide +kernel
theorem dX9_readsStatement_185 : decode cX9_readsStatement 185 = .ok (.iconst 1, 1) := by decide +kernel
theorem dX9_readsStatement_186 : decode cX9_readsStatement 186 = .ok (.invokevirtual 87, 3) := by decide +kernel
theorem dX9_readsStatement_189 : decode cX9_readsStatement 189 = .ok (.ifCond .eq 16, 3) := by decide +kernel
theorem dX9_readsStatement_192 : decode cX9_readsStatement 192 = .ok (.aload_n 0, 1) := by decide +kernel
theorem dX9_readsStatement_193 : decode cX9_readsStatement 193 = .ok (.iconst 1, 1) := by decide +kernel
theorem dX9_readsStatement_194 : decode cX9_readsStatement 194 = .ok (.iconst 1, 1) := by decide +kernel
theorem dX9_readsStatement_195 : decode cX9_readsStatement 195 = .ok (.invokevirtual 87, 3) := by decide +kernel
theorem dX9_readsStatement_198 : decode cX9_readsStatement 198 = .ok (.ifCond .eq 7, 3) := by decide +kernel
theorem dX9_readsStatement_201 : decode cX9_readsStatement 201 = .ok (.iconst 1, 1) := by decide +kernel
theorem dX9_readsStatement_202 : decode cX9_readsStatement 202 = .ok (.goto 4, 3) := by decide +kernel
theorem dX9_readsStatement_205 : decode cX9_readsStatement 205 = .ok (.iconst 0, 1) := by decide +kernel
theorem dX9_readsStatement_206 : decode cX9_readsStatement 206 = .ok (.istore_n 2, 1) := by decide +kernel
theorem dX9_readsStatement_207 : decode cX9_readsStatement 207 = .ok (.goto 25, 3) := by decide +kernel
theorem dX9_readsStatement_210 : decode cX9_readsStatement 210 = .ok (.aload_n 0, 1) := by decide +kernel
theorem dX9_readsStatement_211 : decode cX9_readsStatement 211 = .ok (.iconst 0, 1) := by decide +kernel
theorem dX9_readsStatement_212 : decode cX9_readsStatement 212 = .ok (.iconst 2, 1) := by decide +kernel
theorem dX9_readsStatement_213 : decode cX9_readsStatement 213 = .ok (.invokevirtual 87, 3) := by decide +kernel
theorem dX9_readsStatement_216 : decode cX9_readsStatement 216 = .ok (.istore_n 2, 1) := by decide +kernel
theorem dX9_readsStatement_217 : decode cX9_readsStatement 217 = .ok (.goto 15, 3) := by decide +kernel
theorem dX9_readsStatement_220 : decode cX9_readsStatement 220 = .ok (.aload_n 0, 1) := by decide +kernel
theorem dX9_readsStatement_221 : decode cX9_readsStatement 221 = .ok (.dup, 1) := by decide +kernel
theorem dX9_readsStatement_222 : decode cX9_readsStatement 222 = .ok (.getfield 77, 3) := by decide +kernel
theorem dX9_readsStatement_225 : decode cX9_readsStatement 225 = .ok (.iconst 1, 1) := by decide +kernel
theorem dX9_readsStatement_226 : decode cX9_readsStatement 226 = .ok (.isub, 1) := by decide +kernel
theorem dX9_readsStatement_227 : decode cX9_readsStatement 227 = .ok (.putfield 77, 3) := by decide +kernel
theorem dX9_readsStatement_230 : decode cX9_readsStatement 230 = .ok (.iconst 0, 1) := by decide +kernel
theorem dX9_readsStatement_231 : decode cX9_readsStatement 231 = .ok (.ireturn, 1) := by decide +kernel
theorem dX9_readsStatement_232 : decode cX9_readsStatement 232 = .ok (.iload_n 2, 1) := by decide +kernel
theorem dX9_readsStatement_233 : decode cX9_readsStatement 233 = .ok (.ifCond .eq 12, 3) := by decide +kernel
theorem dX9_readsStatement_236 : decode cX9_readsStatement 236 = .ok (.aload_n 0, 1) := by decide +kernel
theorem dX9_readsStatement_237 : decode cX9_readsStatement 237 = .ok (.invokevirtual 80, 3) := by decide +kernel
theorem dX9_readsStatement_240 : decode cX9_readsStatement 240 = .ok (.bipush 59, 2) := by decide +kernel
theorem dX9_readsStatement_242 : decode cX9_readsStatement 242 = .ok (.if_icmp .eq 5, 3) := by decide +kernel
theorem dX9_readsStatement_245 : decode cX9_readsStatement 245 = .ok (.iconst 0, 1) := by decide +kernel
theorem dX9_readsStatement_246 : decode cX9_readsStatement 246 = .ok (.ireturn, 1) := by decide +kernel
theorem dX9_readsStatement_247 : decode cX9_readsStatement 247 = .ok (.aload_n 0, 1) := by decide +kernel
theorem dX9_readsStatement_248 : decode cX9_readsStatement 248 = .ok (.dup, 1) := by decide +kernel
theorem dX9_readsStatement_249 : decode cX9_readsStatement 249 = .ok (.getfield 77, 3) := by decide +kernel
theorem dX9_readsStatement_252 : decode cX9_readsStatement 252 = .ok (.iconst 1, 1) := by decide +kernel
theorem dX9_readsStatement_253 : decode cX9_readsStatement 253 = .ok (.iadd, 1) := by decide +kernel
theorem dX9_readsStatement_254 : decode cX9_readsStatement 254 = .ok (.putfield 77, 3) := by decide +kernel
theorem dX9_readsStatement_257 : decode cX9_readsStatement 257 = .ok (.iconst 1, 1) := by decide +kernel
theorem dX9_readsStatement_258 : decode cX9_readsStatement 258 = .ok (.ireturn, 1) := by decide +kernel
theorem dX9_addsPot_0 : decode cX9_addsPot 0 = .ok (.aload_n 0, 1) := by decide +kernel
theorem dX9_addsPot_1 : decode cX9_addsPot 1 = .ok (.getfield 31, 3) := by decide +kernel
theorem dX9_addsPot_4 : decode cX9_addsPot 4 = .ok (.iconst 2, 1) := by decide +kernel
theorem dX9_addsPot_5 : decode cX9_addsPot 5 = .ok (.iaload, 1) := by decide +kernel
theorem dX9_addsPot_6 : decode cX9_addsPot 6 = .ok (.bipush 6, 2) := by decide +kernel
theorem dX9_addsPot_8 : decode cX9_addsPot 8 = .ok (.if_icmp .ge 38, 3) := by decide +kernel
theorem dX9_addsPot_11 : decode cX9_addsPot 11 = .ok (.aload_n 0, 1) := by decide +kernel
theorem dX9_addsPot_12 : decode cX9_addsPot 12 = .ok (.getfield 31, 3) := by decide +kernel
theorem dX9_addsPot_15 : decode cX9_addsPot 15 = .ok (.iconst 3, 1) := by decide +kernel
theorem dX9_addsPot_16 : decode cX9_addsPot 16 = .ok (.iaload, 1) := by decide +kernel
theorem dX9_addsPot_17 : decode cX9_addsPot 17 = .ok (.bipush 6, 2) := by decide +kernel
theorem dX9_addsPot_19 : decode cX9_addsPot 19 = .ok (.if_icmp .gt 27, 3) := by decide +kernel
theorem dX9_addsPot_22 : decode cX9_addsPot 22 = .ok (.aload_n 0, 1) := by decide +kernel
theorem dX9_addsPot_23 : decode cX9_addsPot 23 = .ok (.aload_n 0, 1) := by decide +kernel
theorem dX9_addsPot_24 : decode cX9_addsPot 24 = .ok (.getfield 31, 3) := by decide +kernel
theorem dX9_addsPot_27 : decode cX9_addsPot 27 = .ok (.iconst 5, 1) := by decide +kernel
theorem dX9_addsPot_28 : decode cX9_addsPot 28 = .ok (.iaload, 1) := by decide +kernel
theorem dX9_addsPot_29 : decode cX9_addsPot 29 = .ok (.invokevirtual 95, 3) := by decide +kernel
theorem dX9_addsPot_32 : decode cX9_addsPot 32 = .ok (.ifCond .eq 14, 3) := by decide +kernel
theorem dX9_addsPot_35 : decode cX9_addsPot 35 = .ok (.aload_n 0, 1) := by decide +kernel
theorem dX9_addsPot_36 : decode cX9_addsPot 36 = .ok (.getfield 9, 3) := by decide +kernel
theorem dX9_addsPot_39 : decode cX9_addsPot 39 = .ok (.iconst 0, 1) := by decide +kernel
theorem dX9_addsPot_40 : decode cX9_addsPot 40 = .ok (.iaload, 1) := by decide +kernel
theorem dX9_addsPot_41 : decode cX9_addsPot 41 = .ok (.bipush 8, 2) := by decide +kernel
theorem dX9_addsPot_43 : decode cX9_addsPot 43 = .ok (.if_icmp .ne 5, 3) := by decide +kernel
theorem dX9_addsPot_46 : decode cX9_addsPot 46 = .ok (.iconst 0, 1) := by decide +kernel
theorem dX9_addsPot_47 : decode cX9_addsPot 47 = .ok (.ireturn, 1) := by decide +kernel
theorem dX9_addsPot_48 : decode cX9_addsPot 48 = .ok (.iconst 0, 1) := by decide +kernel
theorem dX9_addsPot_49 : decode cX9_addsPot 49 = .ok (.istore_n 1, 1) := by decide +kernel
theorem dX9_addsPot_50 : decode cX9_addsPot 50 = .ok (.iload_n 1, 1) := by decide +kernel
theorem dX9_addsPot_51 : decode cX9_addsPot 51 = .ok (.bipush 6, 2) := by decide +kernel
theorem dX9_addsPot_53 : decode cX9_addsPot 53 = .ok (.if_icmp .ge 30, 3) := by decide +kernel
theorem dX9_addsPot_56 : decode cX9_addsPot 56 = .ok (.aload_n 0, 1) := by decide +kernel
theorem dX9_addsPot_57 : decode cX9_addsPot 57 = .ok (.getfield 9, 3) := by decide +kernel
theorem dX9_addsPot_60 : decode cX9_addsPot 60 = .ok (.aload_n 0, 1) := by decide +kernel
theorem dX9_addsPot_61 : decode cX9_addsPot 61 = .ok (.getfield 9, 3) := by decide +kernel
theorem dX9_addsPot_64 : decode cX9_addsPot 64 = .ok (.iconst 0, 1) := by decide +kernel
theorem dX9_addsPot_65 : decode cX9_addsPot 65 = .ok (.iaload, 1) := by decide +kernel
theorem dX9_addsPot_66 : decode cX9_addsPot 66 = .ok (.iload_n 1, 1) := by decide +kernel
theorem dX9_addsPot_67 : decode cX9_addsPot 67 = .ok (.invokestatic 45, 3) := by decide +kernel
theorem dX9_addsPot_70 : decode cX9_addsPot 70 = .ok (.aload_n 0, 1) := by decide +kernel
theorem dX9_addsPot_71 : decode cX9_addsPot 71 = .ok (.getfield 31, 3) := by decide +kernel
theorem dX9_addsPot_74 : decode cX9_addsPot 74 = .ok (.iload_n 1, 1) := by decide +kernel
theorem dX9_addsPot_75 : decode cX9_addsPot 75 = .ok (.iaload, 1) := by decide +kernel
theorem dX9_addsPot_76 : decode cX9_addsPot 76 = .ok (.iastore, 1) := by decide +kernel
theorem dX9_addsPot_77 : decode cX9_addsPot 77 = .ok (.iinc 1 1, 3) := by decide +kernel
theorem dX9_addsPot_80 : decode cX9_addsPot 80 = .ok (.goto (-30), 3) := by decide +kernel
theorem dX9_addsPot_83 : decode cX9_addsPot 83 = .ok (.aload_n 0, 1) := by decide +kernel
theorem dX9_addsPot_84 : decode cX9_addsPot 84 = .ok (.getfield 9, 3) := by decide +kernel
theorem dX9_addsPot_87 : decode cX9_addsPot 87 = .ok (.iconst 0, 1) := by decide +kernel
theorem dX9_addsPot_88 : decode cX9_addsPot 88 = .ok (.dup2, 1) := by decide +kernel
theorem dX9_addsPot_89 : decode cX9_addsPot 89 = .ok (.iaload, 1) := by decide +kernel
theorem dX9_addsPot_90 : decode cX9_addsPot 90 = .ok (.iconst 1, 1) := by decide +kernel
theorem dX9_addsPot_91 : decode cX9_addsPot 91 = .ok (.iadd, 1) := by decide +kernel
theorem dX9_addsPot_92 : decode cX9_addsPot 92 = .ok (.iastore, 1) := by decide +kernel
theorem dX9_addsPot_93 : decode cX9_addsPot 93 = .ok (.iconst 1, 1) := by decide +kernel
theorem dX9_addsPot_94 : decode cX9_addsPot 94 = .ok (.ireturn, 1) := by decide +kernel
theorem dX9_isDone_0 : decode cX9_isDone 0 = .ok (.aload_n 0, 1) := by decide +kernel
theorem dX9_isDone_1 : decode cX9_isDone 1 = .ok (.getfield 31, 3) := by decide +kernel
theorem dX9_isDone_4 : decode cX9_isDone 4 = .ok (.iconst 0, 1) := by decide +kernel
theorem dX9_isDone_5 : decode cX9_isDone 5 = .ok (.iaload, 1) := by decide +kernel
theorem dX9_isDone_6 : decode cX9_isDone 6 = .ok (.istore_n 2, 1) := by decide +kernel
theorem dX9_isDone_7 : decode cX9_isDone 7 = .ok (.aload_n 0, 1) := by decide +kernel
theorem dX9_isDone_8 : decode cX9_isDone 8 = .ok (.getfield 31, 3) := by decide +kernel
theorem dX9_isDone_11 : decode cX9_isDone 11 = .ok (.iconst 1, 1) := by decide +kernel
theorem dX9_isDone_12 : decode cX9_isDone 12 = .ok (.iaload, 1) := by decide +kernel
theorem dX9_isDone_13 : decode cX9_isDone 13 = .ok (.istore_n 3, 1) := by decide +kernel
theorem dX9_isDone_14 : decode cX9_isDone 14 = .ok (.iload_n 1, 1) := by decide +kernel
theorem dX9_isDone_15 : decode cX9_isDone 15 = .ok (.tableswitch 237 102 112 #[214, 154, 237, 237, 120, 185, 125, 237, 237, 237, 57], 57) := by decide +kernel
theorem dX9_isDone_72 : decode cX9_isDone 72 = .ok (.iload_n 2, 1) := by decide +kernel
theorem dX9_isDone_73 : decode cX9_isDone 73 = .ok (.bipush 6, 2) := by decide +kernel
theorem dX9_isDone_75 : decode cX9_isDone 75 = .ok (.if_icmp .ge 13, 3) := by decide +kernel
theorem dX9_isDone_78 : decode cX9_isDone 78 = .ok (.aload_n 0, 1) := by decide +kernel
theorem dX9_isDone_79 : decode cX9_isDone 79 = .ok (.getfield 9, 3) := by decide +kernel
theorem dX9_isDone_82 : decode cX9_isDone 82 = .ok (.iconst 1, 1) := by decide +kernel
theorem dX9_isDone_83 : decode cX9_isDone 83 = .ok (.iaload, 1) := by decide +kernel
theorem dX9_isDone_84 : decode cX9_isDone 84 = .ok (.iconst 5, 1) := by decide +kernel
theorem dX9_isDone_85 : decode cX9_isDone 85 = .ok (.if_icmp .ne 5, 3) := by decide +kernel
theorem dX9_isDone_88 : decode cX9_isDone 88 = .ok (.iconst 0, 1) := by decide +kernel
theorem dX9_isDone_89 : decode cX9_isDone 89 = .ok (.ireturn, 1) := by decide +kernel
theorem dX9_isDone_90 : decode cX9_isDone 90 = .ok (.aload_n 0, 1) := by decide +kernel
theorem dX9_isDone_91 : decode cX9_isDone 91 = .ok (.getfield 9, 3) := by decide +kernel
theorem dX9_isDone_94 : decode cX9_isDone 94 = .ok (.aload_n 0, 1) := by decide +kernel
theorem dX9_isDone_95 : decode cX9_isDone 95 = .ok (.getfield 9, 3) := by decide +kernel
theorem dX9_isDone_98 : decode cX9_isDone 98 = .ok (.iconst 1, 1) := by decide +kernel
theorem dX9_isDone_99 : decode cX9_isDone 99 = .ok (.iaload, 1) := by decide +kernel
theorem dX9_isDone_100 : decode cX9_isDone 100 = .ok (.iconst 0, 1) := by decide +kernel
theorem dX9_isDone_101 : decode cX9_isDone 101 = .ok (.invokestatic 52, 3) := by decide +kernel
theorem dX9_isDone_104 : decode cX9_isDone 104 = .ok (.iload_n 2, 1) := by decide +kernel
theorem dX9_isDone_105 : decode cX9_isDone 105 = .ok (.iastore, 1) := by decide +kernel
theorem dX9_isDone_106 : decode cX9_isDone 106 = .ok (.aload_n 0, 1) := by decide +kernel
theorem dX9_isDone_107 : decode cX9_isDone 107 = .ok (.getfield 9, 3) := by decide +kernel
theorem dX9_isDone_110 : decode cX9_isDone 110 = .ok (.aload_n 0, 1) := by decide +kernel
theorem dX9_isDone_111 : decode cX9_isDone 111 = .ok (.getfield 9, 3) := by decide +kernel
theorem dX9_isDone_114 : decode cX9_isDone 114 = .ok (.iconst 1, 1) := by decide +kernel
theorem dX9_isDone_115 : decode cX9_isDone 115 = .ok (.iaload, 1) := by decide +kernel
theorem dX9_isDone_116 : decode cX9_isDone 116 = .ok (.iconst 1, 1) := by decide +kernel
theorem dX9_isDone_117 : decode cX9_isDone 117 = .ok (.invokestatic 52, 3) := by decide +kernel
theorem dX9_isDone_120 : decode cX9_isDone 120 = .ok (.bipush 20, 2) := by decide +kernel
theorem dX9_isDone_122 : decode cX9_isDone 122 = .ok (.iastore, 1) := by decide +kernel
theorem dX9_isDone_123 : decode cX9_isDone 123 = .ok (.aload_n 0, 1) := by decide +kernel
theorem dX9_isDone_124 : decode cX9_isDone 124 = .ok (.getfield 9, 3) := by decide +kernel
theorem dX9_isDone_127 : decode cX9_isDone 127 = .ok (.iconst 1, 1) := by decide +kernel
theorem dX9_isDone_128 : decode cX9_isDone 128 = .ok (.dup2, 1) := by decide +kernel
theorem dX9_isDone_129 : decode cX9_isDone 129 = .ok (.iaload, 1) := by decide +kernel
theorem dX9_isDone_130 : decode cX9_isDone 130 = .ok (.iconst 1, 1) := by decide +kernel
theorem dX9_isDone_131 : decode cX9_isDone 131 = .ok (.iadd, 1) := by decide +kernel
theorem dX9_isDone_132 : decode cX9_isDone 132 = .ok (.iastore, 1) := by decide +kernel
theorem dX9_isDone_133 : decode cX9_isDone 133 = .ok (.iconst 1, 1) := by decide +kernel
theorem dX9_isDone_134 : decode cX9_isDone 134 = .ok (.ireturn, 1) := by decide +kernel
theorem dX9_isDone_135 : decode cX9_isDone 135 = .ok (.aload_n 0, 1) := by decide +kernel
theorem dX9_isDone_136 : decode cX9_isDone 136 = .ok (.invokevirtual 99, 3) := by decide +kernel
theorem dX9_isDone_139 : decode cX9_isDone 139 = .ok (.ireturn, 1) := by decide +kernel
theorem dX9_isDone_140 : decode cX9_isDone 140 = .ok (.aload_n 0, 1) := by decide +kernel
theorem dX9_isDone_141 : decode cX9_isDone 141 = .ok (.iload_n 2, 1) := by decide +kernel
theorem dX9_isDone_142 : decode cX9_isDone 142 = .ok (.invokevirtual 102, 3) := by decide +kernel
theorem dX9_isDone_145 : decode cX9_isDone 145 = .ok (.ifCond .eq 9, 3) := by decide +kernel
theorem dX9_isDone_148 : decode cX9_isDone 148 = .ok (.iload_n 3, 1) := by decide +kernel
theorem dX9_isDone_149 : decode cX9_isDone 149 = .ok (.bipush 6, 2) := by decide +kernel
theorem dX9_isDone_151 : decode cX9_isDone 151 = .ok (.if_icmp .le 5, 3) := by decide +kernel
theorem dX9_isDone_154 : decode cX9_isDone 154 = .ok (.iconst 0, 1) := by decide +kernel
theorem dX9_isDone_155 : decode cX9_isDone 155 = .ok (.ireturn, 1) := by decide +kernel
theorem dX9_isDone_156 : decode cX9_isDone 156 = .ok (.aload_n 0, 1) := by decide +kernel
theorem dX9_isDone_157 : decode cX9_isDone 157 = .ok (.getfield 9, 3) := by decide +kernel
theorem dX9_isDone_160 : decode cX9_isDone 160 = .ok (.iload_n 2, 1) := by decide +kernel
theorem dX9_isDone_161 : decode cX9_isDone 161 = .ok (.iconst 3, 1) := by decide +kernel
theorem dX9_isDone_162 : decode cX9_isDone 162 = .ok (.invokestatic 45, 3) := by decide +kernel
theorem dX9_isDone_165 : decode cX9_isDone 165 = .ok (.iload_n 3, 1) := by decide +kernel
theorem dX9_isDone_166 : decode cX9_isDone 166 = .ok (.iastore, 1) := by decide +kernel
theorem dX9_isDone_167 : decode cX9_isDone 167 = .ok (.iconst 1, 1) := by decide +kernel
theorem dX9_isDone_168 : decode cX9_isDone 168 = .ok (.ireturn, 1) := by decide +kernel
theorem dX9_isDone_169 : decode cX9_isDone 169 = .ok (.aload_n 0, 1) := by decide +kernel
theorem dX9_isDone_170 : decode cX9_isDone 170 = .ok (.iload_n 2, 1) := by decide +kernel
theorem dX9_isDone_171 : decode cX9_isDone 171 = .ok (.invokevirtual 102, 3) := by decide +kernel
theorem dX9_isDone_174 : decode cX9_isDone 174 = .ok (.ifCond .eq 11, 3) := by decide +kernel
theorem dX9_isDone_177 : decode cX9_isDone 177 = .ok (.aload_n 0, 1) := by decide +kernel
theorem dX9_isDone_178 : decode cX9_isDone 178 = .ok (.iload_n 3, 1) := by decide +kernel
theorem dX9_isDone_179 : decode cX9_isDone 179 = .ok (.invokevirtual 95, 3) := by decide +kernel
theorem dX9_isDone_182 : decode cX9_isDone 182 = .ok (.ifCond .ne 5, 3) := by decide +kernel
theorem dX9_isDone_185 : decode cX9_isDone 185 = .ok (.iconst 0, 1) := by decide +kernel
theorem dX9_isDone_186 : decode cX9_isDone 186 = .ok (.ireturn, 1) := by decide +kernel
theorem dX9_isDone_187 : decode cX9_isDone 187 = .ok (.aload_n 0, 1) := by decide +kernel
theorem dX9_isDone_188 : decode cX9_isDone 188 = .ok (.getfield 9, 3) := by decide +kernel
theorem dX9_isDone_191 : decode cX9_isDone 191 = .ok (.iload_n 2, 1) := by decide +kernel
theorem dX9_isDone_192 : decode cX9_isDone 192 = .ok (.iconst 5, 1) := by decide +kernel
theorem dX9_isDone_193 : decode cX9_isDone 193 = .ok (.invokestatic 45, 3) := by decide +kernel
theorem dX9_isDone_196 : decode cX9_isDone 196 = .ok (.iload_n 3, 1) := by decide +kernel
theorem dX9_isDone_197 : decode cX9_isDone 197 = .ok (.iastore, 1) := by decide +kernel
theorem dX9_isDone_198 : decode cX9_isDone 198 = .ok (.iconst 1, 1) := by decide +kernel
theorem dX9_isDone_199 : decode cX9_isDone 199 = .ok (.ireturn, 1) := by decide +kernel
theorem dX9_isDone_200 : decode cX9_isDone 200 = .ok (.aload_n 0, 1) := by decide +kernel
theorem dX9_isDone_201 : decode cX9_isDone 201 = .ok (.iload_n 2, 1) := by decide +kernel
theorem dX9_isDone_202 : decode cX9_isDone 202 = .ok (.invokevirtual 95, 3) := by decide +kernel
theorem dX9_isDone_205 : decode cX9_isDone 205 = .ok (.ifCond .eq 9, 3) := by decide +kernel
theorem dX9_isDone_208 : decode cX9_isDone 208 = .ok (.iload_n 3, 1) := by decide +kernel
theorem dX9_isDone_209 : decode cX9_isDone 209 = .ok (.bipush 6, 2) := by decide +kernel
theorem dX9_isDone_211 : decode cX9_isDone 211 = .ok (.if_icmp .lt 5, 3) := by decide +kernel
theorem dX9_isDone_214 : decode cX9_isDone 214 = .ok (.iconst 0, 1) := by decide +kernel
theorem dX9_isDone_215 : decode cX9_isDone 215 = .ok (.ireturn, 1) := by decide +kernel
theorem dX9_isDone_216 : decode cX9_isDone 216 = .ok (.aload_n 0, 1) := by decide +kernel
theorem dX9_isDone_217 : decode cX9_isDone 217 = .ok (.getfield 9, 3) := by decide +kernel
theorem dX9_isDone_220 : decode cX9_isDone 220 = .ok (.iload_n 2, 1) := by decide +kernel
theorem dX9_isDone_221 : decode cX9_isDone 221 = .ok (.iconst 0, 1) := by decide +kernel
theorem dX9_isDone_222 : decode cX9_isDone 222 = .ok (.invokestatic 52, 3) := by decide +kernel
theorem dX9_isDone_225 : decode cX9_isDone 225 = .ok (.iload_n 3, 1) := by decide +kernel
theorem dX9_isDone_226 : decode cX9_isDone 226 = .ok (.iastore, 1) := by decide +kernel
theorem dX9_isDone_227 : decode cX9_isDone 227 = .ok (.iconst 1, 1) := by decide +kernel
theorem dX9_isDone_228 : decode cX9_isDone 228 = .ok (.ireturn, 1) := by decide +kernel
theorem dX9_isDone_229 : decode cX9_isDone 229 = .ok (.aload_n 0, 1) := by decide +kernel
theorem dX9_isDone_230 : decode cX9_isDone 230 = .ok (.iload_n 2, 1) := by decide +kernel
theorem dX9_isDone_231 : decode cX9_isDone 231 = .ok (.invokevirtual 102, 3) := by decide +kernel
theorem dX9_isDone_234 : decode cX9_isDone 234 = .ok (.ifCond .ne 5, 3) := by decide +kernel
theorem dX9_isDone_237 : decode cX9_isDone 237 = .ok (.iconst 0, 1) := by decide +kernel
theorem dX9_isDone_238 : decode cX9_isDone 238 = .ok (.ireturn, 1) := by decide +kernel
theorem dX9_isDone_239 : decode cX9_isDone 239 = .ok (.aload_n 0, 1) := by decide +kernel
theorem dX9_isDone_240 : decode cX9_isDone 240 = .ok (.getfield 9, 3) := by decide +kernel
theorem dX9_isDone_243 : decode cX9_isDone 243 = .ok (.iload_n 2, 1) := by decide +kernel
theorem dX9_isDone_244 : decode cX9_isDone 244 = .ok (.iconst 4, 1) := by decide +kernel
theorem dX9_isDone_245 : decode cX9_isDone 245 = .ok (.invokestatic 45, 3) := by decide +kernel
theorem dX9_isDone_248 : decode cX9_isDone 248 = .ok (.iload_n 3, 1) := by decide +kernel
theorem dX9_isDone_249 : decode cX9_isDone 249 = .ok (.iastore, 1) := by decide +kernel
theorem dX9_isDone_250 : decode cX9_isDone 250 = .ok (.iconst 1, 1) := by decide +kernel
theorem dX9_isDone_251 : decode cX9_isDone 251 = .ok (.ireturn, 1) := by decide +kernel
theorem dX9_isDone_252 : decode cX9_isDone 252 = .ok (.iload_n 2, 1) := by decide +kernel
theorem dX9_isDone_253 : decode cX9_isDone 253 = .ok (.iconst 1, 1) := by decide +kernel
theorem dX9_isDone_254 : decode cX9_isDone 254 = .ok (.bipush 60, 2) := by decide +kernel
theorem dX9_isDone_256 : decode cX9_isDone 256 = .ok (.invokestatic 41, 3) := by decide +kernel
theorem dX9_isDone_259 : decode cX9_isDone 259 = .ok (.ifCond .eq 17, 3) := by decide +kernel
theorem dX9_isDone_262 : decode cX9_isDone 262 = .ok (.aload_n 0, 1) := by decide +kernel
theorem dX9_isDone_263 : decode cX9_isDone 263 = .ok (.getfield 9, 3) := by decide +kernel
theorem dX9_isDone_266 : decode cX9_isDone 266 = .ok (.iconst 2, 1) := by decide +kernel
theorem dX9_isDone_267 : decode cX9_isDone 267 = .ok (.iaload, 1) := by decide +kernel
theorem dX9_isDone_268 : decode cX9_isDone 268 = .ok (.iload_n 2, 1) := by decide +kernel
theorem dX9_isDone_269 : decode cX9_isDone 269 = .ok (.iadd, 1) := by decide +kernel
theorem dX9_isDone_270 : decode cX9_isDone 270 = .ok (.sipush 999, 3) := by decide +kernel
theorem dX9_isDone_273 : decode cX9_isDone 273 = .ok (.if_icmp .le 5, 3) := by decide +kernel
theorem dX9_isDone_276 : decode cX9_isDone 276 = .ok (.iconst 0, 1) := by decide +kernel
theorem dX9_isDone_277 : decode cX9_isDone 277 = .ok (.ireturn, 1) := by decide +kernel
theorem dX9_isDone_278 : decode cX9_isDone 278 = .ok (.aload_n 0, 1) := by decide +kernel
theorem dX9_isDone_279 : decode cX9_isDone 279 = .ok (.getfield 9, 3) := by decide +kernel
theorem dX9_isDone_282 : decode cX9_isDone 282 = .ok (.iload_n 2, 1) := by decide +kernel
theorem dX9_isDone_283 : decode cX9_isDone 283 = .ok (.invokestatic 105, 3) := by decide +kernel
theorem dX9_isDone_286 : decode cX9_isDone 286 = .ok (.iconst 1, 1) := by decide +kernel
theorem dX9_isDone_287 : decode cX9_isDone 287 = .ok (.ireturn, 1) := by decide +kernel
theorem dX9_village_0 : decode cX9_village 0 = .ok (.aload_n 0, 1) := by decide +kernel
theorem dX9_village_1 : decode cX9_village 1 = .ok (.iconst 0, 1) := by decide +kernel
theorem dX9_village_2 : decode cX9_village 2 = .ok (.putfield 77, 3) := by decide +kernel
theorem dX9_village_5 : decode cX9_village 5 = .ok (.iconst 0, 1) := by decide +kernel
theorem dX9_village_6 : decode cX9_village 6 = .ok (.istore_n 1, 1) := by decide +kernel
theorem dX9_village_7 : decode cX9_village 7 = .ok (.bipush (-9), 2) := by decide +kernel
theorem dX9_village_9 : decode cX9_village 9 = .ok (.istore_n 2, 1) := by decide +kernel
theorem dX9_village_10 : decode cX9_village 10 = .ok (.aload_n 0, 1) := by decide +kernel
theorem dX9_village_11 : decode cX9_village 11 = .ok (.invokevirtual 109, 3) := by decide +kernel
theorem dX9_village_14 : decode cX9_village 14 = .ok (.ifCond .ne 12, 3) := by decide +kernel
theorem dX9_village_17 : decode cX9_village 17 = .ok (.sipush (-1000), 3) := by decide +kernel
theorem dX9_village_20 : decode cX9_village 20 = .ok (.aload_n 0, 1) := by decide +kernel
theorem dX9_village_21 : decode cX9_village 21 = .ok (.getfield 77, 3) := by decide +kernel
theorem dX9_village_24 : decode cX9_village 24 = .ok (.isub, 1) := by decide +kernel
theorem dX9_village_25 : decode cX9_village 25 = .ok (.istore_n 2, 1) := by decide +kernel
theorem dX9_village_26 : decode cX9_village 26 = .ok (.iinc 1 1, 3) := by decide +kernel
theorem dX9_village_29 : decode cX9_village 29 = .ok (.iload_n 2, 1) := by decide +kernel
theorem dX9_village_30 : decode cX9_village 30 = .ok (.bipush (-9), 2) := by decide +kernel
theorem dX9_village_32 : decode cX9_village 32 = .ok (.if_icmp .ne 14, 3) := by decide +kernel
theorem dX9_village_35 : decode cX9_village 35 = .ok (.aload_n 0, 1) := by decide +kernel
theorem dX9_village_36 : decode cX9_village 36 = .ok (.getfield 77, 3) := by decide +kernel
theorem dX9_village_39 : decode cX9_village 39 = .ok (.aload_n 0, 1) := by decide +kernel
theorem dX9_village_40 : decode cX9_village 40 = .ok (.getfield 73, 3) := by decide +kernel
theorem dX9_village_43 : decode cX9_village 43 = .ok (.if_icmp .lt (-33), 3) := by decide +kernel
theorem dX9_village_46 : decode cX9_village 46 = .ok (.aload_n 0, 1) := by decide +kernel
theorem dX9_village_47 : decode cX9_village 47 = .ok (.getfield 9, 3) := by decide +kernel
theorem dX9_village_50 : decode cX9_village 50 = .ok (.aload_n 0, 1) := by decide +kernel
theorem dX9_village_51 : decode cX9_village 51 = .ok (.getfield 19, 3) := by decide +kernel
theorem dX9_village_54 : decode cX9_village 54 = .ok (.invokestatic 112, 3) := by decide +kernel
theorem dX9_village_57 : decode cX9_village 57 = .ok (.aload_n 0, 1) := by decide +kernel
theorem dX9_village_58 : decode cX9_village 58 = .ok (.iconst 0, 1) := by decide +kernel
theorem dX9_village_59 : decode cX9_village 59 = .ok (.putfield 77, 3) := by decide +kernel
theorem dX9_village_62 : decode cX9_village 62 = .ok (.iload_n 2, 1) := by decide +kernel
theorem dX9_village_63 : decode cX9_village 63 = .ok (.bipush (-9), 2) := by decide +kernel
theorem dX9_village_65 : decode cX9_village 65 = .ok (.if_icmp .ne 63, 3) := by decide +kernel
theorem dX9_village_68 : decode cX9_village 68 = .ok (.aload_n 0, 1) := by decide +kernel
theorem dX9_village_69 : decode cX9_village 69 = .ok (.getfield 77, 3) := by decide +kernel
theorem dX9_village_72 : decode cX9_village 72 = .ok (.aload_n 0, 1) := by decide +kernel
theorem dX9_village_73 : decode cX9_village 73 = .ok (.getfield 73, 3) := by decide +kernel
theorem dX9_village_76 : decode cX9_village 76 = .ok (.if_icmp .ge 52, 3) := by decide +kernel
theorem dX9_village_79 : decode cX9_village 79 = .ok (.aload_n 0, 1) := by decide +kernel
theorem dX9_village_80 : decode cX9_village 80 = .ok (.getfield 77, 3) := by decide +kernel
theorem dX9_village_83 : decode cX9_village 83 = .ok (.istore_n 3, 1) := by decide +kernel
theorem dX9_village_84 : decode cX9_village 84 = .ok (.aload_n 0, 1) := by decide +kernel
theorem dX9_village_85 : decode cX9_village 85 = .ok (.invokevirtual 80, 3) := by decide +kernel
theorem dX9_village_88 : decode cX9_village 88 = .ok (.istore 4, 2) := by decide +kernel
theorem dX9_village_90 : decode cX9_village 90 = .ok (.aload_n 0, 1) := by decide +kernel
theorem dX9_village_91 : decode cX9_village 91 = .ok (.invokevirtual 109, 3) := by decide +kernel
theorem dX9_village_94 : decode cX9_village 94 = .ok (.istore 5, 2) := by decide +kernel
theorem dX9_village_96 : decode cX9_village 96 = .ok (.aload_n 0, 1) := by decide +kernel
theorem dX9_village_97 : decode cX9_village 97 = .ok (.iload 4, 2) := by decide +kernel
theorem dX9_village_99 : decode cX9_village 99 = .ok (.invokevirtual 116, 3) := by decide +kernel
theorem dX9_village_102 : decode cX9_village 102 = .ok (.ifCond .eq 6, 3) := by decide +kernel
theorem dX9_village_105 : decode cX9_village 105 = .ok (.goto (-43), 3) := by decide +kernel
theorem dX9_village_108 : decode cX9_village 108 = .ok (.sipush (-2000), 3) := by decide +kernel
theorem dX9_village_111 : decode cX9_village 111 = .ok (.iload_n 3, 1) := by decide +kernel
theorem dX9_village_112 : decode cX9_village 112 = .ok (.isub, 1) := by decide +kernel
theorem dX9_village_113 : decode cX9_village 113 = .ok (.istore_n 2, 1) := by decide +kernel
theorem dX9_village_114 : decode cX9_village 114 = .ok (.aload_n 0, 1) := by decide +kernel
theorem dX9_village_115 : decode cX9_village 115 = .ok (.getfield 19, 3) := by decide +kernel
theorem dX9_village_118 : decode cX9_village 118 = .ok (.aload_n 0, 1) := by decide +kernel
theorem dX9_village_119 : decode cX9_village 119 = .ok (.getfield 9, 3) := by decide +kernel
theorem dX9_village_122 : decode cX9_village 122 = .ok (.invokestatic 112, 3) := by decide +kernel
theorem dX9_village_125 : decode cX9_village 125 = .ok (.goto (-63), 3) := by decide +kernel
theorem dX9_village_128 : decode cX9_village 128 = .ok (.aload_n 0, 1) := by decide +kernel
theorem dX9_village_129 : decode cX9_village 129 = .ok (.iconst 0, 1) := by decide +kernel
theorem dX9_village_130 : decode cX9_village 130 = .ok (.putfield 73, 3) := by decide +kernel
theorem dX9_village_133 : decode cX9_village 133 = .ok (.iload_n 2, 1) := by decide +kernel
theorem dX9_village_134 : decode cX9_village 134 = .ok (.bipush (-9), 2) := by decide +kernel
theorem dX9_village_136 : decode cX9_village 136 = .ok (.if_icmp .ne 7, 3) := by decide +kernel
theorem dX9_village_139 : decode cX9_village 139 = .ok (.iload_n 1, 1) := by decide +kernel
theorem dX9_village_140 : decode cX9_village 140 = .ok (.goto 4, 3) := by decide +kernel
theorem dX9_village_143 : decode cX9_village 143 = .ok (.iload_n 2, 1) := by decide +kernel
theorem dX9_village_144 : decode cX9_village 144 = .ok (.ireturn, 1) := by decide +kernel
theorem dX9_pot_0 : decode cX9_pot 0 = .ok (.aload_n 0, 1) := by decide +kernel
theorem dX9_pot_1 : decode cX9_pot 1 = .ok (.iload_n 1, 1) := by decide +kernel
theorem dX9_pot_2 : decode cX9_pot 2 = .ok (.invokevirtual 102, 3) := by decide +kernel
theorem dX9_pot_5 : decode cX9_pot 5 = .ok (.ifCond .ne 9, 3) := by decide +kernel
theorem dX9_pot_8 : decode cX9_pot 8 = .ok (.aload_n 0, 1) := by decide +kernel
theorem dX9_pot_9 : decode cX9_pot 9 = .ok (.iconst (-1), 1) := by decide +kernel
theorem dX9_pot_10 : decode cX9_pot 10 = .ok (.invokevirtual 35, 3) := by decide +kernel
theorem dX9_pot_13 : decode cX9_pot 13 = .ok (.ireturn, 1) := by decide +kernel
theorem dX9_pot_14 : decode cX9_pot 14 = .ok (.iload_n 2, 1) := by decide +kernel
theorem dX9_pot_15 : decode cX9_pot 15 = .ok (.iconst 0, 1) := by decide +kernel
theorem dX9_pot_16 : decode cX9_pot 16 = .ok (.iconst 5, 1) := by decide +kernel
theorem dX9_pot_17 : decode cX9_pot 17 = .ok (.invokestatic 41, 3) := by decide +kernel
theorem dX9_pot_20 : decode cX9_pot 20 = .ok (.ifCond .eq 16, 3) := by decide +kernel
theorem dX9_pot_23 : decode cX9_pot 23 = .ok (.aload_n 0, 1) := by decide +kernel
theorem dX9_pot_24 : decode cX9_pot 24 = .ok (.getfield 9, 3) := by decide +kernel
theorem dX9_pot_27 : decode cX9_pot 27 = .ok (.iload_n 1, 1) := by decide +kernel
theorem dX9_pot_28 : decode cX9_pot 28 = .ok (.iload_n 2, 1) := by decide +kernel
theorem dX9_pot_29 : decode cX9_pot 29 = .ok (.invokestatic 45, 3) := by decide +kernel
theorem dX9_pot_32 : decode cX9_pot 32 = .ok (.iaload, 1) := by decide +kernel
theorem dX9_pot_33 : decode cX9_pot 33 = .ok (.goto 9, 3) := by decide +kernel
theorem dX9_pot_36 : decode cX9_pot 36 = .ok (.aload_n 0, 1) := by decide +kernel
theorem dX9_pot_37 : decode cX9_pot 37 = .ok (.bipush (-2), 2) := by decide +kernel
theorem dX9_pot_39 : decode cX9_pot 39 = .ok (.invokevirtual 35, 3) := by decide +kernel
theorem dX9_pot_42 : decode cX9_pot 42 = .ok (.ireturn, 1) := by decide +kernel
theorem dX9_potsOf_0 : decode cX9_potsOf 0 = .ok (.iconst 0, 1) := by decide +kernel
theorem dX9_potsOf_1 : decode cX9_potsOf 1 = .ok (.istore_n 2, 1) := by decide +kernel
theorem dX9_potsOf_2 : decode cX9_potsOf 2 = .ok (.iconst 0, 1) := by decide +kernel
theorem dX9_potsOf_3 : decode cX9_potsOf 3 = .ok (.istore_n 3, 1) := by decide +kernel
theorem dX9_potsOf_4 : decode cX9_potsOf 4 = .ok (.iload_n 3, 1) := by decide +kernel
theorem dX9_potsOf_5 : decode cX9_potsOf 5 = .ok (.aload_n 0, 1) := by decide +kernel
theorem dX9_potsOf_6 : decode cX9_potsOf 6 = .ok (.getfield 9, 3) := by decide +kernel
theorem dX9_potsOf_9 : decode cX9_potsOf 9 = .ok (.iconst 0, 1) := by decide +kernel
theorem dX9_potsOf_10 : decode cX9_potsOf 10 = .ok (.iaload, 1) := by decide +kernel
theorem dX9_potsOf_11 : decode cX9_potsOf 11 = .ok (.if_icmp .ge 33, 3) := by decide +kernel
theorem dX9_potsOf_14 : decode cX9_potsOf 14 = .ok (.iload_n 2, 1) := by decide +kernel
theorem dX9_potsOf_15 : decode cX9_potsOf 15 = .ok (.aload_n 0, 1) := by decide +kernel
theorem dX9_potsOf_16 : decode cX9_potsOf 16 = .ok (.getfield 9, 3) := by decide +kernel
theorem dX9_potsOf_19 : decode cX9_potsOf 19 = .ok (.iload_n 3, 1) := by decide +kernel
theorem dX9_potsOf_20 : decode cX9_potsOf 20 = .ok (.iconst 5, 1) := by decide +kernel
theorem dX9_potsOf_21 : decode cX9_potsOf 21 = .ok (.invokestatic 45, 3) := by decide +kernel
theorem dX9_potsOf_24 : decode cX9_potsOf 24 = .ok (.iaload, 1) := by decide +kernel
theorem dX9_potsOf_25 : decode cX9_potsOf 25 = .ok (.iload_n 1, 1) := by decide +kernel
theorem dX9_potsOf_26 : decode cX9_potsOf 26 = .ok (.if_icmp .ne 9, 3) := by decide +kernel
theorem dX9_potsOf_29 : decode cX9_potsOf 29 = .ok (.iconst 1, 1) := by decide +kernel
theorem dX9_potsOf_30 : decode cX9_potsOf 30 = .ok (.iload_n 3, 1) := by decide +kernel
theorem dX9_potsOf_31 : decode cX9_potsOf 31 = .ok (.ishl, 1) := by decide +kernel
theorem dX9_potsOf_32 : decode cX9_potsOf 32 = .ok (.goto 4, 3) := by decide +kernel
theorem dX9_potsOf_35 : decode cX9_potsOf 35 = .ok (.iconst 0, 1) := by decide +kernel
theorem dX9_potsOf_36 : decode cX9_potsOf 36 = .ok (.ior, 1) := by decide +kernel
theorem dX9_potsOf_37 : decode cX9_potsOf 37 = .ok (.istore_n 2, 1) := by decide +kernel
theorem dX9_potsOf_38 : decode cX9_potsOf 38 = .ok (.iinc 3 1, 3) := by decide +kernel
theorem dX9_potsOf_41 : decode cX9_potsOf 41 = .ok (.goto (-37), 3) := by decide +kernel
theorem dX9_potsOf_44 : decode cX9_potsOf 44 = .ok (.iload_n 2, 1) := by decide +kernel
theorem dX9_potsOf_45 : decode cX9_potsOf 45 = .ok (.ireturn, 1) := by decide +kernel
theorem dX9_person_0 : decode cX9_person 0 = .ok (.aload_n 0, 1) := by decide +kernel
theorem dX9_person_1 : decode cX9_person 1 = .ok (.iload_n 1, 1) := by decide +kernel
theorem dX9_person_2 : decode cX9_person 2 = .ok (.invokevirtual 95, 3) := by decide +kernel
theorem dX9_person_5 : decode cX9_person 5 = .ok (.ifCond .ne 9, 3) := by decide +kernel
theorem dX9_person_8 : decode cX9_person 8 = .ok (.aload_n 0, 1) := by decide +kernel
theorem dX9_person_9 : decode cX9_person 9 = .ok (.iconst (-1), 1) := by decide +kernel
theorem dX9_person_10 : decode cX9_person 10 = .ok (.invokevirtual 35, 3) := by decide +kernel
theorem dX9_person_13 : decode cX9_person 13 = .ok (.ireturn, 1) := by decide +kernel
theorem dX9_person_14 : decode cX9_person 14 = .ok (.iload_n 2, 1) := by decide +kernel
theorem dX9_person_15 : decode cX9_person 15 = .ok (.tableswitch 55 0 3 #[29, 29, 40, 49], 29) := by decide +kernel
theorem dX9_person_44 : decode cX9_person 44 = .ok (.aload_n 0, 1) := by decide +kernel
theorem dX9_person_45 : decode cX9_person 45 = .ok (.getfield 9, 3) := by decide +kernel
theorem dX9_person_48 : decode cX9_person 48 = .ok (.iload_n 1, 1) := by decide +kernel
theorem dX9_person_49 : decode cX9_person 49 = .ok (.iload_n 2, 1) := by decide +kernel
theorem dX9_person_50 : decode cX9_person 50 = .ok (.invokestatic 52, 3) := by decide +kernel
theorem dX9_person_53 : decode cX9_person 53 = .ok (.iaload, 1) := by decide +kernel
theorem dX9_person_54 : decode cX9_person 54 = .ok (.ireturn, 1) := by decide +kernel
theorem dX9_person_55 : decode cX9_person 55 = .ok (.aload_n 0, 1) := by decide +kernel
theorem dX9_person_56 : decode cX9_person 56 = .ok (.getfield 9, 3) := by decide +kernel
theorem dX9_person_59 : decode cX9_person 59 = .ok (.iload_n 1, 1) := by decide +kernel
theorem dX9_person_60 : decode cX9_person 60 = .ok (.invokestatic 59, 3) := by decide +kernel
theorem dX9_person_63 : decode cX9_person 63 = .ok (.ireturn, 1) := by decide +kernel
theorem dX9_person_64 : decode cX9_person 64 = .ok (.aload_n 0, 1) := by decide +kernel
theorem dX9_person_65 : decode cX9_person 65 = .ok (.iload_n 1, 1) := by decide +kernel
theorem dX9_person_66 : decode cX9_person 66 = .ok (.invokevirtual 119, 3) := by decide +kernel
theorem dX9_person_69 : decode cX9_person 69 = .ok (.ireturn, 1) := by decide +kernel
theorem dX9_person_70 : decode cX9_person 70 = .ok (.aload_n 0, 1) := by decide +kernel
theorem dX9_person_71 : decode cX9_person 71 = .ok (.bipush (-2), 2) := by decide +kernel
theorem dX9_person_73 : decode cX9_person 73 = .ok (.invokevirtual 35, 3) := by decide +kernel
theorem dX9_person_76 : decode cX9_person 76 = .ok (.ireturn, 1) := by decide +kernel
theorem dX9_gains_0 : decode cX9_gains 0 = .ok (.aload_n 0, 1) := by decide +kernel
theorem dX9_gains_1 : decode cX9_gains 1 = .ok (.iload_n 1, 1) := by decide +kernel
theorem dX9_gains_2 : decode cX9_gains 2 = .ok (.invokevirtual 102, 3) := by decide +kernel
theorem dX9_gains_5 : decode cX9_gains 5 = .ok (.ifCond .eq 23, 3) := by decide +kernel
theorem dX9_gains_8 : decode cX9_gains 8 = .ok (.aload_n 0, 1) := by decide +kernel
theorem dX9_gains_9 : decode cX9_gains 9 = .ok (.iload_n 2, 1) := by decide +kernel
theorem dX9_gains_10 : decode cX9_gains 10 = .ok (.invokevirtual 95, 3) := by decide +kernel
theorem dX9_gains_13 : decode cX9_gains 13 = .ok (.ifCond .eq 15, 3) := by decide +kernel
theorem dX9_gains_16 : decode cX9_gains 16 = .ok (.aload_n 0, 1) := by decide +kernel
theorem dX9_gains_17 : decode cX9_gains 17 = .ok (.getfield 9, 3) := by decide +kernel
theorem dX9_gains_20 : decode cX9_gains 20 = .ok (.iload_n 1, 1) := by decide +kernel
theorem dX9_gains_21 : decode cX9_gains 21 = .ok (.iload_n 2, 1) := by decide +kernel
theorem dX9_gains_22 : decode cX9_gains 22 = .ok (.invokestatic 63, 3) := by decide +kernel
theorem dX9_gains_25 : decode cX9_gains 25 = .ok (.goto 8, 3) := by decide +kernel
theorem dX9_gains_28 : decode cX9_gains 28 = .ok (.aload_n 0, 1) := by decide +kernel
theorem dX9_gains_29 : decode cX9_gains 29 = .ok (.iconst (-1), 1) := by decide +kernel
theorem dX9_gains_30 : decode cX9_gains 30 = .ok (.invokevirtual 122, 3) := by decide +kernel
theorem dX9_gains_33 : decode cX9_gains 33 = .ok (.ireturn, 1) := by decide +kernel
theorem dX9_labels_0 : decode cX9_labels 0 = .ok (.aload_n 0, 1) := by decide +kernel
theorem dX9_labels_1 : decode cX9_labels 1 = .ok (.iload_n 1, 1) := by decide +kernel
theorem dX9_labels_2 : decode cX9_labels 2 = .ok (.invokevirtual 102, 3) := by decide +kernel
theorem dX9_labels_5 : decode cX9_labels 5 = .ok (.ifCond .eq 13, 3) := by decide +kernel
theorem dX9_labels_8 : decode cX9_labels 8 = .ok (.iload_n 2, 1) := by decide +kernel
theorem dX9_labels_9 : decode cX9_labels 9 = .ok (.iconst 0, 1) := by decide +kernel
theorem dX9_labels_10 : decode cX9_labels 10 = .ok (.bipush 6, 2) := by decide +kernel
theorem dX9_labels_12 : decode cX9_labels 12 = .ok (.invokestatic 41, 3) := by decide +kernel
theorem dX9_labels_15 : decode cX9_labels 15 = .ok (.ifCond .ne 9, 3) := by decide +kernel
theorem dX9_labels_18 : decode cX9_labels 18 = .ok (.aload_n 0, 1) := by decide +kernel
theorem dX9_labels_19 : decode cX9_labels 19 = .ok (.iconst (-1), 1) := by decide +kernel
theorem dX9_labels_20 : decode cX9_labels 20 = .ok (.invokevirtual 35, 3) := by decide +kernel
theorem dX9_labels_23 : decode cX9_labels 23 = .ok (.ireturn, 1) := by decide +kernel
theorem dX9_labels_24 : decode cX9_labels 24 = .ok (.aload_n 0, 1) := by decide +kernel
theorem dX9_labels_25 : decode cX9_labels 25 = .ok (.getfield 9, 3) := by decide +kernel
theorem dX9_labels_28 : decode cX9_labels 28 = .ok (.iload_n 1, 1) := by decide +kernel
theorem dX9_labels_29 : decode cX9_labels 29 = .ok (.iconst 3, 1) := by decide +kernel
theorem dX9_labels_30 : decode cX9_labels 30 = .ok (.invokestatic 45, 3) := by decide +kernel
theorem dX9_labels_33 : decode cX9_labels 33 = .ok (.iaload, 1) := by decide +kernel
theorem dX9_labels_34 : decode cX9_labels 34 = .ok (.istore_n 3, 1) := by decide +kernel
theorem dX9_labels_35 : decode cX9_labels 35 = .ok (.aload_n 0, 1) := by decide +kernel
theorem dX9_labels_36 : decode cX9_labels 36 = .ok (.getfield 9, 3) := by decide +kernel
theorem dX9_labels_39 : decode cX9_labels 39 = .ok (.iload_n 1, 1) := by decide +kernel
theorem dX9_labels_40 : decode cX9_labels 40 = .ok (.iconst 3, 1) := by decide +kernel
theorem dX9_labels_41 : decode cX9_labels 41 = .ok (.invokestatic 45, 3) := by decide +kernel
theorem dX9_labels_44 : decode cX9_labels 44 = .ok (.iload_n 2, 1) := by decide +kernel
theorem dX9_labels_45 : decode cX9_labels 45 = .ok (.iastore, 1) := by decide +kernel
theorem dX9_labels_46 : decode cX9_labels 46 = .ok (.iload_n 3, 1) := by decide +kernel
theorem dX9_labels_47 : decode cX9_labels 47 = .ok (.ireturn, 1) := by decide +kernel
theorem dX9_gives_0 : decode cX9_gives 0 = .ok (.aload_n 0, 1) := by decide +kernel
theorem dX9_gives_1 : decode cX9_gives 1 = .ok (.iload_n 1, 1) := by decide +kernel
theorem dX9_gives_2 : decode cX9_gives 2 = .ok (.invokevirtual 102, 3) := by decide +kernel
theorem dX9_gives_5 : decode cX9_gives 5 = .ok (.ifCond .eq 11, 3) := by decide +kernel
theorem dX9_gives_8 : decode cX9_gives 8 = .ok (.aload_n 0, 1) := by decide +kernel
theorem dX9_gives_9 : decode cX9_gives 9 = .ok (.iload_n 2, 1) := by decide +kernel
theorem dX9_gives_10 : decode cX9_gives 10 = .ok (.invokevirtual 95, 3) := by decide +kernel
theorem dX9_gives_13 : decode cX9_gives 13 = .ok (.ifCond .ne 9, 3) := by decide +kernel
theorem dX9_gives_16 : decode cX9_gives 16 = .ok (.aload_n 0, 1) := by decide +kernel
theorem dX9_gives_17 : decode cX9_gives 17 = .ok (.iconst (-1), 1) := by decide +kernel
theorem dX9_gives_18 : decode cX9_gives 18 = .ok (.invokevirtual 35, 3) := by decide +kernel
theorem dX9_gives_21 : decode cX9_gives 21 = .ok (.ireturn, 1) := by decide +kernel
theorem dX9_gives_22 : decode cX9_gives 22 = .ok (.aload_n 0, 1) := by decide +kernel
theorem dX9_gives_23 : decode cX9_gives 23 = .ok (.getfield 9, 3) := by decide +kernel
theorem dX9_gives_26 : decode cX9_gives 26 = .ok (.iload_n 1, 1) := by decide +kernel
theorem dX9_gives_27 : decode cX9_gives 27 = .ok (.iconst 5, 1) := by decide +kernel
theorem dX9_gives_28 : decode cX9_gives 28 = .ok (.invokestatic 45, 3) := by decide +kernel
theorem dX9_gives_31 : decode cX9_gives 31 = .ok (.iaload, 1) := by decide +kernel
theorem dX9_gives_32 : decode cX9_gives 32 = .ok (.istore_n 3, 1) := by decide +kernel
theorem dX9_gives_33 : decode cX9_gives 33 = .ok (.aload_n 0, 1) := by decide +kernel
theorem dX9_gives_34 : decode cX9_gives 34 = .ok (.getfield 9, 3) := by decide +kernel
theorem dX9_gives_37 : decode cX9_gives 37 = .ok (.iload_n 1, 1) := by decide +kernel
theorem dX9_gives_38 : decode cX9_gives 38 = .ok (.iconst 5, 1) := by decide +kernel
theorem dX9_gives_39 : decode cX9_gives 39 = .ok (.invokestatic 45, 3) := by decide +kernel
theorem dX9_gives_42 : decode cX9_gives 42 = .ok (.iload_n 2, 1) := by decide +kernel
theorem dX9_gives_43 : decode cX9_gives 43 = .ok (.iastore, 1) := by decide +kernel
theorem dX9_gives_44 : decode cX9_gives 44 = .ok (.iload_n 3, 1) := by decide +kernel
theorem dX9_gives_45 : decode cX9_gives 45 = .ok (.ireturn, 1) := by decide +kernel
theorem dX9_likes_0 : decode cX9_likes 0 = .ok (.aload_n 0, 1) := by decide +kernel
theorem dX9_likes_1 : decode cX9_likes 1 = .ok (.iload_n 1, 1) := by decide +kernel
theorem dX9_likes_2 : decode cX9_likes 2 = .ok (.invokevirtual 95, 3) := by decide +kernel
theorem dX9_likes_5 : decode cX9_likes 5 = .ok (.ifCond .eq 12, 3) := by decide +kernel
theorem dX9_likes_8 : decode cX9_likes 8 = .ok (.iload_n 2, 1) := by decide +kernel
theorem dX9_likes_9 : decode cX9_likes 9 = .ok (.iconst 0, 1) := by decide +kernel
theorem dX9_likes_10 : decode cX9_likes 10 = .ok (.iconst 5, 1) := by decide +kernel
theorem dX9_likes_11 : decode cX9_likes 11 = .ok (.invokestatic 41, 3) := by decide +kernel
theorem dX9_likes_14 : decode cX9_likes 14 = .ok (.ifCond .ne 9, 3) := by decide +kernel
theorem dX9_likes_17 : decode cX9_likes 17 = .ok (.aload_n 0, 1) := by decide +kernel
theorem dX9_likes_18 : decode cX9_likes 18 = .ok (.iconst (-1), 1) := by decide +kernel
theorem dX9_likes_19 : decode cX9_likes 19 = .ok (.invokevirtual 35, 3) := by decide +kernel
theorem dX9_likes_22 : decode cX9_likes 22 = .ok (.ireturn, 1) := by decide +kernel
theorem dX9_likes_23 : decode cX9_likes 23 = .ok (.aload_n 0, 1) := by decide +kernel
theorem dX9_likes_24 : decode cX9_likes 24 = .ok (.getfield 9, 3) := by decide +kernel
theorem dX9_likes_27 : decode cX9_likes 27 = .ok (.iload_n 1, 1) := by decide +kernel
theorem dX9_likes_28 : decode cX9_likes 28 = .ok (.iconst 0, 1) := by decide +kernel
theorem dX9_likes_29 : decode cX9_likes 29 = .ok (.invokestatic 52, 3) := by decide +kernel
theorem dX9_likes_32 : decode cX9_likes 32 = .ok (.iaload, 1) := by decide +kernel
theorem dX9_likes_33 : decode cX9_likes 33 = .ok (.istore_n 3, 1) := by decide +kernel
theorem dX9_likes_34 : decode cX9_likes 34 = .ok (.aload_n 0, 1) := by decide +kernel
theorem dX9_likes_35 : decode cX9_likes 35 = .ok (.getfield 9, 3) := by decide +kernel
theorem dX9_likes_38 : decode cX9_likes 38 = .ok (.iload_n 1, 1) := by decide +kernel
