theorem dX0_init_0 : decode cX0_init 0 = .ok (.aload_n 0, 1) := by decide +kernel
theorem dX0_init_1 : decode cX0_init 1 = .ok (.invokespecial 1, 3) := by decide +kernel
theorem dX0_init_4 : decode cX0_init 4 = .ok (.return_, 1) := by decide +kernel
theorem dX0_spoon_0 : decode cX0_spoon 0 = .ok (.aload_n 0, 1) := by decide +kernel
theorem dX0_spoon_1 : decode cX0_spoon 1 = .ok (.iload_n 1, 1) := by decide +kernel
theorem dX0_spoon_2 : decode cX0_spoon 2 = .ok (.iload_n 2, 1) := by decide +kernel
theorem dX0_spoon_3 : decode cX0_spoon 3 = .ok (.iload_n 3, 1) := by decide +kernel
theorem dX0_spoon_4 : decode cX0_spoon 4 = .ok (.invokespecial 7, 3) := by decide +kernel
theorem dX0_spoon_7 : decode cX0_spoon 7 = .ok (.istore 4, 2) := by decide +kernel
theorem dX0_spoon_9 : decode cX0_spoon 9 = .ok (.iload_n 2, 1) := by decide +kernel
theorem dX0_spoon_10 : decode cX0_spoon 10 = .ok (.iconst 1, 1) := by decide +kernel
theorem dX0_spoon_11 : decode cX0_spoon 11 = .ok (.if_icmp .le 12, 3) := by decide +kernel
theorem dX0_spoon_14 : decode cX0_spoon 14 = .ok (.iload 4, 2) := by decide +kernel
theorem dX0_spoon_16 : decode cX0_spoon 16 = .ok (.iload_n 1, 1) := by decide +kernel
theorem dX0_spoon_17 : decode cX0_spoon 17 = .ok (.iconst 2, 1) := by decide +kernel
theorem dX0_spoon_18 : decode cX0_spoon 18 = .ok (.idiv, 1) := by decide +kernel
theorem dX0_spoon_19 : decode cX0_spoon 19 = .ok (.isub, 1) := by decide +kernel
theorem dX0_spoon_20 : decode cX0_spoon 20 = .ok (.goto 5, 3) := by decide +kernel
theorem dX0_spoon_23 : decode cX0_spoon 23 = .ok (.iload 4, 2) := by decide +kernel
theorem dX0_spoon_25 : decode cX0_spoon 25 = .ok (.ireturn, 1) := by decide +kernel
theorem dX1_init_0 : decode cX1_init 0 = .ok (.aload_n 0, 1) := by decide +kernel
theorem dX1_init_1 : decode cX1_init 1 = .ok (.invokespecial 1, 3) := by decide +kernel
theorem dX1_init_4 : decode cX1_init 4 = .ok (.return_, 1) := by decide +kernel
theorem dX1_spoon_0 : decode cX1_spoon 0 = .ok (.aload_n 0, 1) := by decide +kernel
theorem dX1_spoon_1 : decode cX1_spoon 1 = .ok (.iload_n 1, 1) := by decide +kernel
theorem dX1_spoon_2 : decode cX1_spoon 2 = .ok (.iload_n 2, 1) := by decide +kernel
theorem dX1_spoon_3 : decode cX1_spoon 3 = .ok (.iload_n 3, 1) := by decide +kernel
theorem dX1_spoon_4 : decode cX1_spoon 4 = .ok (.invokespecial 7, 3) := by decide +kernel
theorem dX1_spoon_7 : decode cX1_spoon 7 = .ok (.iload_n 3, 1) := by decide +kernel
theorem dX1_spoon_8 : decode cX1_spoon 8 = .ok (.isub, 1) := by decide +kernel
theorem dX1_spoon_9 : decode cX1_spoon 9 = .ok (.ireturn, 1) := by decide +kernel
theorem dX2_init_0 : decode cX2_init 0 = .ok (.aload_n 0, 1) := by decide +kernel
theorem dX2_init_1 : decode cX2_init 1 = .ok (.invokespecial 1, 3) := by decide +kernel
theorem dX2_init_4 : decode cX2_init 4 = .ok (.return_, 1) := by decide +kernel
theorem dX2_spoon_0 : decode cX2_spoon 0 = .ok (.iconst 0, 1) := by decide +kernel
theorem dX2_spoon_1 : decode cX2_spoon 1 = .ok (.aload_n 0, 1) := by decide +kernel
theorem dX2_spoon_2 : decode cX2_spoon 2 = .ok (.iload_n 1, 1) := by decide +kernel
theorem dX2_spoon_3 : decode cX2_spoon 3 = .ok (.iload_n 2, 1) := by decide +kernel
theorem dX2_spoon_4 : decode cX2_spoon 4 = .ok (.iload_n 3, 1) := by decide +kernel
theorem dX2_spoon_5 : decode cX2_spoon 5 = .ok (.invokespecial 7, 3) := by decide +kernel
theorem dX2_spoon_8 : decode cX2_spoon 8 = .ok (.invokestatic 11, 3) := by decide +kernel
theorem dX2_spoon_11 : decode cX2_spoon 11 = .ok (.ireturn, 1) := by decide +kernel
theorem dX3_init_0 : decode cX3_init 0 = .ok (.aload_n 0, 1) := by decide +kernel
theorem dX3_init_1 : decode cX3_init 1 = .ok (.invokespecial 1, 3) := by decide +kernel
theorem dX3_init_4 : decode cX3_init 4 = .ok (.return_, 1) := by decide +kernel
theorem dX3_spoon_0 : decode cX3_spoon 0 = .ok (.iload_n 2, 1) := by decide +kernel
theorem dX3_spoon_1 : decode cX3_spoon 1 = .ok (.ifCond .ne 7, 3) := by decide +kernel
theorem dX3_spoon_4 : decode cX3_spoon 4 = .ok (.iconst 2, 1) := by decide +kernel
theorem dX3_spoon_5 : decode cX3_spoon 5 = .ok (.goto 5, 3) := by decide +kernel
theorem dX3_spoon_8 : decode cX3_spoon 8 = .ok (.iload_n 2, 1) := by decide +kernel
theorem dX3_spoon_9 : decode cX3_spoon 9 = .ok (.ineg, 1) := by decide +kernel
theorem dX3_spoon_10 : decode cX3_spoon 10 = .ok (.ireturn, 1) := by decide +kernel
theorem dX4_init_0 : decode cX4_init 0 = .ok (.aload_n 0, 1) := by decide +kernel
theorem dX4_init_1 : decode cX4_init 1 = .ok (.invokespecial 3, 3) := by decide +kernel
theorem dX4_init_4 : decode cX4_init 4 = .ok (.aload_n 0, 1) := by decide +kernel
theorem dX4_init_5 : decode cX4_init 5 = .ok (.bipush 96, 2) := by decide +kernel
theorem dX4_init_7 : decode cX4_init 7 = .ok (.newarray .int, 2) := by decide +kernel
theorem dX4_init_9 : decode cX4_init 9 = .ok (.putfield 9, 3) := by decide +kernel
theorem dX4_init_12 : decode cX4_init 12 = .ok (.aload_n 0, 1) := by decide +kernel
theorem dX4_init_13 : decode cX4_init 13 = .ok (.iconst 0, 1) := by decide +kernel
theorem dX4_init_14 : decode cX4_init 14 = .ok (.putfield 15, 3) := by decide +kernel
theorem dX4_init_17 : decode cX4_init 17 = .ok (.return_, 1) := by decide +kernel
theorem dX4_add_0 : decode cX4_add 0 = .ok (.aload_n 0, 1) := by decide +kernel
theorem dX4_add_1 : decode cX4_add 1 = .ok (.getfield 15, 3) := by decide +kernel
theorem dX4_add_4 : decode cX4_add 4 = .ok (.bipush 96, 2) := by decide +kernel
theorem dX4_add_6 : decode cX4_add 6 = .ok (.if_icmp .ge 23, 3) := by decide +kernel
theorem dX4_add_9 : decode cX4_add 9 = .ok (.aload_n 0, 1) := by decide +kernel
theorem dX4_add_10 : decode cX4_add 10 = .ok (.getfield 9, 3) := by decide +kernel
theorem dX4_add_13 : decode cX4_add 13 = .ok (.aload_n 0, 1) := by decide +kernel
theorem dX4_add_14 : decode cX4_add 14 = .ok (.getfield 15, 3) := by decide +kernel
theorem dX4_add_17 : decode cX4_add 17 = .ok (.iload_n 1, 1) := by decide +kernel
theorem dX4_add_18 : decode cX4_add 18 = .ok (.iastore, 1) := by decide +kernel
theorem dX4_add_19 : decode cX4_add 19 = .ok (.aload_n 0, 1) := by decide +kernel
theorem dX4_add_20 : decode cX4_add 20 = .ok (.dup, 1) := by decide +kernel
theorem dX4_add_21 : decode cX4_add 21 = .ok (.getfield 15, 3) := by decide +kernel
theorem dX4_add_24 : decode cX4_add 24 = .ok (.iconst 1, 1) := by decide +kernel
theorem dX4_add_25 : decode cX4_add 25 = .ok (.iadd, 1) := by decide +kernel
theorem dX4_add_26 : decode cX4_add 26 = .ok (.putfield 15, 3) := by decide +kernel
theorem dX4_add_29 : decode cX4_add 29 = .ok (.return_, 1) := by decide +kernel
theorem dX4_letterAt_0 : decode cX4_letterAt 0 = .ok (.iload_n 1, 1) := by decide +kernel
theorem dX4_letterAt_1 : decode cX4_letterAt 1 = .ok (.ifCond .lt 20, 3) := by decide +kernel
theorem dX4_letterAt_4 : decode cX4_letterAt 4 = .ok (.iload_n 1, 1) := by decide +kernel
theorem dX4_letterAt_5 : decode cX4_letterAt 5 = .ok (.aload_n 0, 1) := by decide +kernel
theorem dX4_letterAt_6 : decode cX4_letterAt 6 = .ok (.getfield 15, 3) := by decide +kernel
theorem dX4_letterAt_9 : decode cX4_letterAt 9 = .ok (.if_icmp .ge 12, 3) := by decide +kernel
theorem dX4_letterAt_12 : decode cX4_letterAt 12 = .ok (.aload_n 0, 1) := by decide +kernel
theorem dX4_letterAt_13 : decode cX4_letterAt 13 = .ok (.getfield 9, 3) := by decide +kernel
theorem dX4_letterAt_16 : decode cX4_letterAt 16 = .ok (.iload_n 1, 1) := by decide +kernel
theorem dX4_letterAt_17 : decode cX4_letterAt 17 = .ok (.iaload, 1) := by decide +kernel
theorem dX4_letterAt_18 : decode cX4_letterAt 18 = .ok (.goto 4, 3) := by decide +kernel
theorem dX4_letterAt_21 : decode cX4_letterAt 21 = .ok (.iconst 0, 1) := by decide +kernel
theorem dX4_letterAt_22 : decode cX4_letterAt 22 = .ok (.ireturn, 1) := by decide +kernel
theorem dX4_digitAt_0 : decode cX4_digitAt 0 = .ok (.aload_n 0, 1) := by decide +kernel
theorem dX4_digitAt_1 : decode cX4_digitAt 1 = .ok (.iload_n 1, 1) := by decide +kernel
theorem dX4_digitAt_2 : decode cX4_digitAt 2 = .ok (.invokevirtual 19, 3) := by decide +kernel
theorem dX4_digitAt_5 : decode cX4_digitAt 5 = .ok (.bipush 48, 2) := by decide +kernel
theorem dX4_digitAt_7 : decode cX4_digitAt 7 = .ok (.isub, 1) := by decide +kernel
theorem dX4_digitAt_8 : decode cX4_digitAt 8 = .ok (.ireturn, 1) := by decide +kernel
theorem dX4_kindAt_0 : decode cX4_kindAt 0 = .ok (.ldc 23, 2) := by decide +kernel
theorem dX4_kindAt_2 : decode cX4_kindAt 2 = .ok (.aload_n 0, 1) := by decide +kernel
theorem dX4_kindAt_3 : decode cX4_kindAt 3 = .ok (.iload_n 1, 1) := by decide +kernel
theorem dX4_kindAt_4 : decode cX4_kindAt 4 = .ok (.invokevirtual 19, 3) := by decide +kernel
theorem dX4_kindAt_7 : decode cX4_kindAt 7 = .ok (.i2c, 1) := by decide +kernel
theorem dX4_kindAt_8 : decode cX4_kindAt 8 = .ok (.invokevirtual 25, 3) := by decide +kernel
theorem dX4_kindAt_11 : decode cX4_kindAt 11 = .ok (.ireturn, 1) := by decide +kernel
theorem dX4_lengthAt_0 : decode cX4_lengthAt 0 = .ok (.aload_n 0, 1) := by decide +kernel
theorem dX4_lengthAt_1 : decode cX4_lengthAt 1 = .ok (.iload_n 1, 1) := by decide +kernel
theorem dX4_lengthAt_2 : decode cX4_lengthAt 2 = .ok (.invokevirtual 19, 3) := by decide +kernel
theorem dX4_lengthAt_5 : decode cX4_lengthAt 5 = .ok (.tableswitch 102 102 121 #[100, 100, 102, 102, 97, 100, 100, 102, 102, 102, 95, 102, 102, 102, 102, 102, 102, 102, 102, 100], 95) := by decide +kernel
theorem dX4_lengthAt_100 : decode cX4_lengthAt 100 = .ok (.iconst 3, 1) := by decide +kernel
theorem dX4_lengthAt_101 : decode cX4_lengthAt 101 = .ok (.ireturn, 1) := by decide +kernel
theorem dX4_lengthAt_102 : decode cX4_lengthAt 102 = .ok (.bipush 8, 2) := by decide +kernel
theorem dX4_lengthAt_104 : decode cX4_lengthAt 104 = .ok (.ireturn, 1) := by decide +kernel
theorem dX4_lengthAt_105 : decode cX4_lengthAt 105 = .ok (.iconst 4, 1) := by decide +kernel
theorem dX4_lengthAt_106 : decode cX4_lengthAt 106 = .ok (.ireturn, 1) := by decide +kernel
theorem dX4_lengthAt_107 : decode cX4_lengthAt 107 = .ok (.iconst 0, 1) := by decide +kernel
theorem dX4_lengthAt_108 : decode cX4_lengthAt 108 = .ok (.ireturn, 1) := by decide +kernel
theorem dX4_wrongPlace_0 : decode cX4_wrongPlace 0 = .ok (.iconst 0, 1) := by decide +kernel
theorem dX4_wrongPlace_1 : decode cX4_wrongPlace 1 = .ok (.istore_n 1, 1) := by decide +kernel
theorem dX4_wrongPlace_2 : decode cX4_wrongPlace 2 = .ok (.aload_n 0, 1) := by decide +kernel
theorem dX4_wrongPlace_3 : decode cX4_wrongPlace 3 = .ok (.iload_n 1, 1) := by decide +kernel
theorem dX4_wrongPlace_4 : decode cX4_wrongPlace 4 = .ok (.invokevirtual 30, 3) := by decide +kernel
theorem dX4_wrongPlace_7 : decode cX4_wrongPlace 7 = .ok (.istore_n 2, 1) := by decide +kernel
theorem dX4_wrongPlace_8 : decode cX4_wrongPlace 8 = .ok (.iload_n 2, 1) := by decide +kernel
theorem dX4_wrongPlace_9 : decode cX4_wrongPlace 9 = .ok (.ifCond .ne 5, 3) := by decide +kernel
theorem dX4_wrongPlace_12 : decode cX4_wrongPlace 12 = .ok (.iload_n 1, 1) := by decide +kernel
theorem dX4_wrongPlace_13 : decode cX4_wrongPlace 13 = .ok (.ireturn, 1) := by decide +kernel
theorem dX4_wrongPlace_14 : decode cX4_wrongPlace 14 = .ok (.iconst 1, 1) := by decide +kernel
theorem dX4_wrongPlace_15 : decode cX4_wrongPlace 15 = .ok (.istore_n 3, 1) := by decide +kernel
theorem dX4_wrongPlace_16 : decode cX4_wrongPlace 16 = .ok (.iload_n 3, 1) := by decide +kernel
theorem dX4_wrongPlace_17 : decode cX4_wrongPlace 17 = .ok (.iload_n 2, 1) := by decide +kernel
theorem dX4_wrongPlace_18 : decode cX4_wrongPlace 18 = .ok (.if_icmp .ge 23, 3) := by decide +kernel
theorem dX4_wrongPlace_21 : decode cX4_wrongPlace 21 = .ok (.aload_n 0, 1) := by decide +kernel
theorem dX4_wrongPlace_22 : decode cX4_wrongPlace 22 = .ok (.iload_n 1, 1) := by decide +kernel
theorem dX4_wrongPlace_23 : decode cX4_wrongPlace 23 = .ok (.iload_n 3, 1) := by decide +kernel
theorem dX4_wrongPlace_24 : decode cX4_wrongPlace 24 = .ok (.iload_n 2, 1) := by decide +kernel
theorem dX4_wrongPlace_25 : decode cX4_wrongPlace 25 = .ok (.invokevirtual 33, 3) := by decide +kernel
theorem dX4_wrongPlace_28 : decode cX4_wrongPlace 28 = .ok (.ifCond .ne 7, 3) := by decide +kernel
theorem dX4_wrongPlace_31 : decode cX4_wrongPlace 31 = .ok (.iload_n 1, 1) := by decide +kernel
theorem dX4_wrongPlace_32 : decode cX4_wrongPlace 32 = .ok (.iload_n 3, 1) := by decide +kernel
theorem dX4_wrongPlace_33 : decode cX4_wrongPlace 33 = .ok (.iadd, 1) := by decide +kernel
theorem dX4_wrongPlace_34 : decode cX4_wrongPlace 34 = .ok (.ireturn, 1) := by decide +kernel
theorem dX4_wrongPlace_35 : decode cX4_wrongPlace 35 = .ok (.iinc 3 1, 3) := by decide +kernel
theorem dX4_wrongPlace_38 : decode cX4_wrongPlace 38 = .ok (.goto (-22), 3) := by decide +kernel
theorem dX4_wrongPlace_41 : decode cX4_wrongPlace 41 = .ok (.iload_n 1, 1) := by decide +kernel
theorem dX4_wrongPlace_42 : decode cX4_wrongPlace 42 = .ok (.iload_n 2, 1) := by decide +kernel
theorem dX4_wrongPlace_43 : decode cX4_wrongPlace 43 = .ok (.iadd, 1) := by decide +kernel
theorem dX4_wrongPlace_44 : decode cX4_wrongPlace 44 = .ok (.istore_n 1, 1) := by decide +kernel
theorem dX4_wrongPlace_45 : decode cX4_wrongPlace 45 = .ok (.iload_n 1, 1) := by decide +kernel
theorem dX4_wrongPlace_46 : decode cX4_wrongPlace 46 = .ok (.aload_n 0, 1) := by decide +kernel
theorem dX4_wrongPlace_47 : decode cX4_wrongPlace 47 = .ok (.getfield 15, 3) := by decide +kernel
theorem dX4_wrongPlace_50 : decode cX4_wrongPlace 50 = .ok (.if_icmp .lt (-48), 3) := by decide +kernel
theorem dX4_wrongPlace_53 : decode cX4_wrongPlace 53 = .ok (.iconst (-1), 1) := by decide +kernel
theorem dX4_wrongPlace_54 : decode cX4_wrongPlace 54 = .ok (.ireturn, 1) := by decide +kernel
theorem dX4_fits_0 : decode cX4_fits 0 = .ok (.iload_n 2, 1) := by decide +kernel
theorem dX4_fits_1 : decode cX4_fits 1 = .ok (.iload_n 3, 1) := by decide +kernel
theorem dX4_fits_2 : decode cX4_fits 2 = .ok (.iconst 1, 1) := by decide +kernel
theorem dX4_fits_3 : decode cX4_fits 3 = .ok (.isub, 1) := by decide +kernel
theorem dX4_fits_4 : decode cX4_fits 4 = .ok (.if_icmp .ne 21, 3) := by decide +kernel
theorem dX4_fits_7 : decode cX4_fits 7 = .ok (.aload_n 0, 1) := by decide +kernel
theorem dX4_fits_8 : decode cX4_fits 8 = .ok (.iload_n 1, 1) := by decide +kernel
theorem dX4_fits_9 : decode cX4_fits 9 = .ok (.iload_n 2, 1) := by decide +kernel
theorem dX4_fits_10 : decode cX4_fits 10 = .ok (.iadd, 1) := by decide +kernel
theorem dX4_fits_11 : decode cX4_fits 11 = .ok (.invokevirtual 19, 3) := by decide +kernel
theorem dX4_fits_14 : decode cX4_fits 14 = .ok (.bipush 59, 2) := by decide +kernel
theorem dX4_fits_16 : decode cX4_fits 16 = .ok (.if_icmp .ne 7, 3) := by decide +kernel
theorem dX4_fits_19 : decode cX4_fits 19 = .ok (.iconst 1, 1) := by decide +kernel
theorem dX4_fits_20 : decode cX4_fits 20 = .ok (.goto 4, 3) := by decide +kernel
theorem dX4_fits_23 : decode cX4_fits 23 = .ok (.iconst 0, 1) := by decide +kernel
theorem dX4_fits_24 : decode cX4_fits 24 = .ok (.ireturn, 1) := by decide +kernel
theorem dX4_fits_25 : decode cX4_fits 25 = .ok (.iload_n 2, 1) := by decide +kernel
theorem dX4_fits_26 : decode cX4_fits 26 = .ok (.iconst 1, 1) := by decide +kernel
theorem dX4_fits_27 : decode cX4_fits 27 = .ok (.if_icmp .ne 29, 3) := by decide +kernel
theorem dX4_fits_30 : decode cX4_fits 30 = .ok (.aload_n 0, 1) := by decide +kernel
theorem dX4_fits_31 : decode cX4_fits 31 = .ok (.iload_n 1, 1) := by decide +kernel
theorem dX4_fits_32 : decode cX4_fits 32 = .ok (.invokevirtual 19, 3) := by decide +kernel
theorem dX4_fits_35 : decode cX4_fits 35 = .ok (.bipush 106, 2) := by decide +kernel
theorem dX4_fits_37 : decode cX4_fits 37 = .ok (.if_icmp .ne 19, 3) := by decide +kernel
theorem dX4_fits_40 : decode cX4_fits 40 = .ok (.aload_n 0, 1) := by decide +kernel
theorem dX4_fits_41 : decode cX4_fits 41 = .ok (.iload_n 1, 1) := by decide +kernel
theorem dX4_fits_42 : decode cX4_fits 42 = .ok (.iload_n 2, 1) := by decide +kernel
theorem dX4_fits_43 : decode cX4_fits 43 = .ok (.iadd, 1) := by decide +kernel
theorem dX4_fits_44 : decode cX4_fits 44 = .ok (.invokevirtual 37, 3) := by decide +kernel
theorem dX4_fits_47 : decode cX4_fits 47 = .ok (.ifCond .lt 7, 3) := by decide +kernel
theorem dX4_fits_50 : decode cX4_fits 50 = .ok (.iconst 1, 1) := by decide +kernel
theorem dX4_fits_51 : decode cX4_fits 51 = .ok (.goto 4, 3) := by decide +kernel
theorem dX4_fits_54 : decode cX4_fits 54 = .ok (.iconst 0, 1) := by decide +kernel
theorem dX4_fits_55 : decode cX4_fits 55 = .ok (.ireturn, 1) := by decide +kernel
theorem dX4_fits_56 : decode cX4_fits 56 = .ok (.aload_n 0, 1) := by decide +kernel
theorem dX4_fits_57 : decode cX4_fits 57 = .ok (.iload_n 1, 1) := by decide +kernel
theorem dX4_fits_58 : decode cX4_fits 58 = .ok (.iload_n 2, 1) := by decide +kernel
theorem dX4_fits_59 : decode cX4_fits 59 = .ok (.iadd, 1) := by decide +kernel
theorem dX4_fits_60 : decode cX4_fits 60 = .ok (.invokevirtual 40, 3) := by decide +kernel
theorem dX4_fits_63 : decode cX4_fits 63 = .ok (.invokestatic 43, 3) := by decide +kernel
theorem dX4_fits_66 : decode cX4_fits 66 = .ok (.ireturn, 1) := by decide +kernel
theorem dX4_isObeyed_0 : decode cX4_isObeyed 0 = .ok (.aload_n 0, 1) := by decide +kernel
theorem dX4_isObeyed_1 : decode cX4_isObeyed 1 = .ok (.iload_n 1, 1) := by decide +kernel
theorem dX4_isObeyed_2 : decode cX4_isObeyed 2 = .ok (.iconst 1, 1) := by decide +kernel
theorem dX4_isObeyed_3 : decode cX4_isObeyed 3 = .ok (.iadd, 1) := by decide +kernel
theorem dX4_isObeyed_4 : decode cX4_isObeyed 4 = .ok (.invokevirtual 40, 3) := by decide +kernel
theorem dX4_isObeyed_7 : decode cX4_isObeyed 7 = .ok (.istore_n 3, 1) := by decide +kernel
theorem dX4_isObeyed_8 : decode cX4_isObeyed 8 = .ok (.aload_n 0, 1) := by decide +kernel
theorem dX4_isObeyed_9 : decode cX4_isObeyed 9 = .ok (.iload_n 1, 1) := by decide +kernel
theorem dX4_isObeyed_10 : decode cX4_isObeyed 10 = .ok (.iconst 2, 1) := by decide +kernel
theorem dX4_isObeyed_11 : decode cX4_isObeyed 11 = .ok (.iadd, 1) := by decide +kernel
theorem dX4_isObeyed_12 : decode cX4_isObeyed 12 = .ok (.invokevirtual 40, 3) := by decide +kernel
theorem dX4_isObeyed_15 : decode cX4_isObeyed 15 = .ok (.istore 4, 2) := by decide +kernel
theorem dX4_isObeyed_17 : decode cX4_isObeyed 17 = .ok (.aload_n 0, 1) := by decide +kernel
theorem dX4_isObeyed_18 : decode cX4_isObeyed 18 = .ok (.iload_n 1, 1) := by decide +kernel
theorem dX4_isObeyed_19 : decode cX4_isObeyed 19 = .ok (.invokevirtual 19, 3) := by decide +kernel
theorem dX4_isObeyed_22 : decode cX4_isObeyed 22 = .ok (.tableswitch 210 102 121 #[167, 151, 210, 210, 100, 159, 143, 210, 210, 210, 94, 210, 210, 210, 210, 210, 210, 210, 210, 175], 94) := by decide +kernel
theorem dX4_isObeyed_116 : decode cX4_isObeyed 116 = .ok (.aload_n 2, 1) := by decide +kernel
theorem dX4_isObeyed_117 : decode cX4_isObeyed 117 = .ok (.iload_n 3, 1) := by decide +kernel
theorem dX4_isObeyed_118 : decode cX4_isObeyed 118 = .ok (.invokevirtual 49, 3) := by decide +kernel
theorem dX4_isObeyed_121 : decode cX4_isObeyed 121 = .ok (.ireturn, 1) := by decide +kernel
theorem dX4_isObeyed_122 : decode cX4_isObeyed 122 = .ok (.aload_n 2, 1) := by decide +kernel
theorem dX4_isObeyed_123 : decode cX4_isObeyed 123 = .ok (.aload_n 0, 1) := by decide +kernel
theorem dX4_isObeyed_124 : decode cX4_isObeyed 124 = .ok (.iload_n 1, 1) := by decide +kernel
theorem dX4_isObeyed_125 : decode cX4_isObeyed 125 = .ok (.iconst 1, 1) := by decide +kernel
theorem dX4_isObeyed_126 : decode cX4_isObeyed 126 = .ok (.iadd, 1) := by decide +kernel
theorem dX4_isObeyed_127 : decode cX4_isObeyed 127 = .ok (.invokevirtual 37, 3) := by decide +kernel
theorem dX4_isObeyed_130 : decode cX4_isObeyed 130 = .ok (.iload 4, 2) := by decide +kernel
theorem dX4_isObeyed_132 : decode cX4_isObeyed 132 = .ok (.aload_n 0, 1) := by decide +kernel
theorem dX4_isObeyed_133 : decode cX4_isObeyed 133 = .ok (.iload_n 1, 1) := by decide +kernel
theorem dX4_isObeyed_134 : decode cX4_isObeyed 134 = .ok (.iconst 3, 1) := by decide +kernel
theorem dX4_isObeyed_135 : decode cX4_isObeyed 135 = .ok (.iadd, 1) := by decide +kernel
theorem dX4_isObeyed_136 : decode cX4_isObeyed 136 = .ok (.invokevirtual 40, 3) := by decide +kernel
theorem dX4_isObeyed_139 : decode cX4_isObeyed 139 = .ok (.aload_n 0, 1) := by decide +kernel
theorem dX4_isObeyed_140 : decode cX4_isObeyed 140 = .ok (.iload_n 1, 1) := by decide +kernel
theorem dX4_isObeyed_141 : decode cX4_isObeyed 141 = .ok (.iconst 4, 1) := by decide +kernel
theorem dX4_isObeyed_142 : decode cX4_isObeyed 142 = .ok (.iadd, 1) := by decide +kernel
theorem dX4_isObeyed_143 : decode cX4_isObeyed 143 = .ok (.invokevirtual 40, 3) := by decide +kernel
theorem dX4_isObeyed_146 : decode cX4_isObeyed 146 = .ok (.aload_n 0, 1) := by decide +kernel
theorem dX4_isObeyed_147 : decode cX4_isObeyed 147 = .ok (.iload_n 1, 1) := by decide +kernel
theorem dX4_isObeyed_148 : decode cX4_isObeyed 148 = .ok (.iconst 5, 1) := by decide +kernel
theorem dX4_isObeyed_149 : decode cX4_isObeyed 149 = .ok (.iadd, 1) := by decide +kernel
theorem dX4_isObeyed_150 : decode cX4_isObeyed 150 = .ok (.invokevirtual 40, 3) := by decide +kernel
theorem dX4_isObeyed_153 : decode cX4_isObeyed 153 = .ok (.aload_n 0, 1) := by decide +kernel
theorem dX4_isObeyed_154 : decode cX4_isObeyed 154 = .ok (.iload_n 1, 1) := by decide +kernel
theorem dX4_isObeyed_155 : decode cX4_isObeyed 155 = .ok (.bipush 6, 2) := by decide +kernel
theorem dX4_isObeyed_157 : decode cX4_isObeyed 157 = .ok (.iadd, 1) := by decide +kernel
theorem dX4_isObeyed_158 : decode cX4_isObeyed 158 = .ok (.invokevirtual 40, 3) := by decide +kernel
theorem dX4_isObeyed_161 : decode cX4_isObeyed 161 = .ok (.invokevirtual 52, 3) := by decide +kernel
theorem dX4_isObeyed_164 : decode cX4_isObeyed 164 = .ok (.ireturn, 1) := by decide +kernel
theorem dX4_isObeyed_165 : decode cX4_isObeyed 165 = .ok (.aload_n 2, 1) := by decide +kernel
theorem dX4_isObeyed_166 : decode cX4_isObeyed 166 = .ok (.iload_n 3, 1) := by decide +kernel
theorem dX4_isObeyed_167 : decode cX4_isObeyed 167 = .ok (.iload 4, 2) := by decide +kernel
theorem dX4_isObeyed_169 : decode cX4_isObeyed 169 = .ok (.invokevirtual 56, 3) := by decide +kernel
theorem dX4_isObeyed_172 : decode cX4_isObeyed 172 = .ok (.ireturn, 1) := by decide +kernel
theorem dX4_isObeyed_173 : decode cX4_isObeyed 173 = .ok (.aload_n 2, 1) := by decide +kernel
theorem dX4_isObeyed_174 : decode cX4_isObeyed 174 = .ok (.iload_n 3, 1) := by decide +kernel
theorem dX4_isObeyed_175 : decode cX4_isObeyed 175 = .ok (.iload 4, 2) := by decide +kernel
theorem dX4_isObeyed_177 : decode cX4_isObeyed 177 = .ok (.invokevirtual 60, 3) := by decide +kernel
theorem dX4_isObeyed_180 : decode cX4_isObeyed 180 = .ok (.ireturn, 1) := by decide +kernel
theorem dX4_isObeyed_181 : decode cX4_isObeyed 181 = .ok (.aload_n 2, 1) := by decide +kernel
theorem dX4_isObeyed_182 : decode cX4_isObeyed 182 = .ok (.iload_n 3, 1) := by decide +kernel
theorem dX4_isObeyed_183 : decode cX4_isObeyed 183 = .ok (.iload 4, 2) := by decide +kernel
theorem dX4_isObeyed_185 : decode cX4_isObeyed 185 = .ok (.invokevirtual 63, 3) := by decide +kernel
theorem dX4_isObeyed_188 : decode cX4_isObeyed 188 = .ok (.ireturn, 1) := by decide +kernel
theorem dX4_isObeyed_189 : decode cX4_isObeyed 189 = .ok (.aload_n 2, 1) := by decide +kernel
theorem dX4_isObeyed_190 : decode cX4_isObeyed 190 = .ok (.iload_n 3, 1) := by decide +kernel
theorem dX4_isObeyed_191 : decode cX4_isObeyed 191 = .ok (.iload 4, 2) := by decide +kernel
theorem dX4_isObeyed_193 : decode cX4_isObeyed 193 = .ok (.invokevirtual 66, 3) := by decide +kernel
theorem dX4_isObeyed_196 : decode cX4_isObeyed 196 = .ok (.ireturn, 1) := by decide +kernel
theorem dX4_isObeyed_197 : decode cX4_isObeyed 197 = .ok (.bipush 10, 2) := by decide +kernel
theorem dX4_isObeyed_199 : decode cX4_isObeyed 199 = .ok (.iload_n 3, 1) := by decide +kernel
theorem dX4_isObeyed_200 : decode cX4_isObeyed 200 = .ok (.imul, 1) := by decide +kernel
theorem dX4_isObeyed_201 : decode cX4_isObeyed 201 = .ok (.iload 4, 2) := by decide +kernel
theorem dX4_isObeyed_203 : decode cX4_isObeyed 203 = .ok (.iadd, 1) := by decide +kernel
theorem dX4_isObeyed_204 : decode cX4_isObeyed 204 = .ok (.istore 5, 2) := by decide +kernel
theorem dX4_isObeyed_206 : decode cX4_isObeyed 206 = .ok (.aload_n 2, 1) := by decide +kernel
theorem dX4_isObeyed_207 : decode cX4_isObeyed 207 = .ok (.iload 5, 2) := by decide +kernel
theorem dX4_isObeyed_209 : decode cX4_isObeyed 209 = .ok (.invokevirtual 69, 3) := by decide +kernel
theorem dX4_isObeyed_212 : decode cX4_isObeyed 212 = .ok (.istore 6, 2) := by decide +kernel
theorem dX4_isObeyed_214 : decode cX4_isObeyed 214 = .ok (.aload_n 2, 1) := by decide +kernel
theorem dX4_isObeyed_215 : decode cX4_isObeyed 215 = .ok (.iload 6, 2) := by decide +kernel
theorem dX4_isObeyed_217 : decode cX4_isObeyed 217 = .ok (.ifCond .eq 8, 3) := by decide +kernel
theorem dX4_isObeyed_220 : decode cX4_isObeyed 220 = .ok (.iload 5, 2) := by decide +kernel
theorem dX4_isObeyed_222 : decode cX4_isObeyed 222 = .ok (.goto 4, 3) := by decide +kernel
theorem dX4_isObeyed_225 : decode cX4_isObeyed 225 = .ok (.iconst 0, 1) := by decide +kernel
theorem dX4_isObeyed_226 : decode cX4_isObeyed 226 = .ok (.invokevirtual 72, 3) := by decide +kernel
theorem dX4_isObeyed_229 : decode cX4_isObeyed 229 = .ok (.iload 6, 2) := by decide +kernel
theorem dX4_isObeyed_231 : decode cX4_isObeyed 231 = .ok (.ireturn, 1) := by decide +kernel
theorem dX4_isObeyed_232 : decode cX4_isObeyed 232 = .ok (.iconst 0, 1) := by decide +kernel
theorem dX4_isObeyed_233 : decode cX4_isObeyed 233 = .ok (.ireturn, 1) := by decide +kernel
theorem dX5_init_0 : decode cX5_init 0 = .ok (.aload_n 0, 1) := by decide +kernel
theorem dX5_init_1 : decode cX5_init 1 = .ok (.invokespecial 1, 3) := by decide +kernel
theorem dX5_init_4 : decode cX5_init 4 = .ok (.return_, 1) := by decide +kernel
theorem dX5_spoon_0 : decode cX5_spoon 0 = .ok (.aload_n 0, 1) := by decide +kernel
theorem dX5_spoon_1 : decode cX5_spoon 1 = .ok (.iload_n 1, 1) := by decide +kernel
theorem dX5_spoon_2 : decode cX5_spoon 2 = .ok (.iload_n 2, 1) := by decide +kernel
theorem dX5_spoon_3 : decode cX5_spoon 3 = .ok (.iload_n 3, 1) := by decide +kernel
theorem dX5_spoon_4 : decode cX5_spoon 4 = .ok (.invokespecial 7, 3) := by decide +kernel
theorem dX5_spoon_7 : decode cX5_spoon 7 = .ok (.iload_n 1, 1) := by decide +kernel
theorem dX5_spoon_8 : decode cX5_spoon 8 = .ok (.iconst 4, 1) := by decide +kernel
theorem dX5_spoon_9 : decode cX5_spoon 9 = .ok (.idiv, 1) := by decide +kernel
theorem dX5_spoon_10 : decode cX5_spoon 10 = .ok (.iadd, 1) := by decide +kernel
theorem dX5_spoon_11 : decode cX5_spoon 11 = .ok (.ireturn, 1) := by decide +kernel
theorem dX6_init_0 : decode cX6_init 0 = .ok (.aload_n 0, 1) := by decide +kernel
theorem dX6_init_1 : decode cX6_init 1 = .ok (.invokespecial 1, 3) := by decide +kernel
theorem dX6_init_4 : decode cX6_init 4 = .ok (.return_, 1) := by decide +kernel
theorem dX6_spoon_0 : decode cX6_spoon 0 = .ok (.iconst 2, 1) := by decide +kernel
theorem dX6_spoon_1 : decode cX6_spoon 1 = .ok (.aload_n 0, 1) := by decide +kernel
theorem dX6_spoon_2 : decode cX6_spoon 2 = .ok (.iload_n 1, 1) := by decide +kernel
theorem dX6_spoon_3 : decode cX6_spoon 3 = .ok (.iload_n 2, 1) := by decide +kernel
theorem dX6_spoon_4 : decode cX6_spoon 4 = .ok (.iload_n 3, 1) := by decide +kernel
theorem dX6_spoon_5 : decode cX6_spoon 5 = .ok (.invokespecial 7, 3) := by decide +kernel
theorem dX6_spoon_8 : decode cX6_spoon 8 = .ok (.imul, 1) := by decide +kernel
theorem dX6_spoon_9 : decode cX6_spoon 9 = .ok (.ireturn, 1) := by decide +kernel
theorem dJ11_isValidCodePoint_9a6ad_0 : decode cJ11_isValidCodePoint_9a6ad 0 = .ok (.iload_n 0, 1) := by decide +kernel
theorem dJ11_isValidCodePoint_9a6ad_1 : decode cJ11_isValidCodePoint_9a6ad 1 = .ok (.bipush 16, 2) := by decide +kernel
theorem dJ11_isValidCodePoint_9a6ad_3 : decode cJ11_isValidCodePoint_9a6ad 3 = .ok (.iushr, 1) := by decide +kernel
theorem dJ11_isValidCodePoint_9a6ad_4 : decode cJ11_isValidCodePoint_9a6ad 4 = .ok (.istore_n 1, 1) := by decide +kernel
theorem dJ11_isValidCodePoint_9a6ad_5 : decode cJ11_isValidCodePoint_9a6ad 5 = .ok (.iload_n 1, 1) := by decide +kernel
theorem dJ11_isValidCodePoint_9a6ad_6 : decode cJ11_isValidCodePoint_9a6ad 6 = .ok (.bipush 17, 2) := by decide +kernel
theorem dJ11_isValidCodePoint_9a6ad_8 : decode cJ11_isValidCodePoint_9a6ad 8 = .ok (.if_icmp .ge 7, 3) := by decide +kernel
theorem dJ11_isValidCodePoint_9a6ad_11 : decode cJ11_isValidCodePoint_9a6ad 11 = .ok (.iconst 1, 1) := by decide +kernel
theorem dJ11_isValidCodePoint_9a6ad_12 : decode cJ11_isValidCodePoint_9a6ad 12 = .ok (.goto 4, 3) := by decide +kernel
theorem dJ11_isValidCodePoint_9a6ad_15 : decode cJ11_isValidCodePoint_9a6ad 15 = .ok (.iconst 0, 1) := by decide +kernel
theorem dJ11_isValidCodePoint_9a6ad_16 : decode cJ11_isValidCodePoint_9a6ad 16 = .ok (.ireturn, 1) := by decide +kernel
theorem dJ11_highSurrogate_5068e_0 : decode cJ11_highSurrogate_5068e 0 = .ok (.iload_n 0, 1) := by decide +kernel
theorem dJ11_highSurrogate_5068e_1 : decode cJ11_highSurrogate_5068e 1 = .ok (.bipush 10, 2) := by decide +kernel
theorem dJ11_highSurrogate_5068e_3 : decode cJ11_highSurrogate_5068e 3 = .ok (.iushr, 1) := by decide +kernel
theorem dJ11_highSurrogate_5068e_4 : decode cJ11_highSurrogate_5068e 4 = .ok (.ldc 110, 2) := by decide +kernel
theorem dJ11_highSurrogate_5068e_6 : decode cJ11_highSurrogate_5068e 6 = .ok (.iadd, 1) := by decide +kernel
theorem dJ11_highSurrogate_5068e_7 : decode cJ11_highSurrogate_5068e 7 = .ok (.i2c, 1) := by decide +kernel
theorem dJ11_highSurrogate_5068e_8 : decode cJ11_highSurrogate_5068e 8 = .ok (.ireturn, 1) := by decide +kernel
theorem dJ11_lowSurrogate_5068e_0 : decode cJ11_lowSurrogate_5068e 0 = .ok (.iload_n 0, 1) := by decide +kernel
theorem dJ11_lowSurrogate_5068e_1 : decode cJ11_lowSurrogate_5068e 1 = .ok (.sipush 1023, 3) := by decide +kernel
theorem dJ11_lowSurrogate_5068e_4 : decode cJ11_lowSurrogate_5068e 4 = .ok (.iand, 1) := by decide +kernel
theorem dJ11_lowSurrogate_5068e_5 : decode cJ11_lowSurrogate_5068e 5 = .ok (.ldc 76, 2) := by decide +kernel
theorem dJ11_lowSurrogate_5068e_7 : decode cJ11_lowSurrogate_5068e 7 = .ok (.iadd, 1) := by decide +kernel
theorem dJ11_lowSurrogate_5068e_8 : decode cJ11_lowSurrogate_5068e 8 = .ok (.i2c, 1) := by decide +kernel
theorem dJ11_lowSurrogate_5068e_9 : decode cJ11_lowSurrogate_5068e 9 = .ok (.ireturn, 1) := by decide +kernel
theorem dJ6_bitCount_0f7a4_0 : decode cJ6_bitCount_0f7a4 0 = .ok (.iload_n 0, 1) := by decide +kernel
theorem dJ6_bitCount_0f7a4_1 : decode cJ6_bitCount_0f7a4 1 = .ok (.iload_n 0, 1) := by decide +kernel
theorem dJ6_bitCount_0f7a4_2 : decode cJ6_bitCount_0f7a4 2 = .ok (.iconst 1, 1) := by decide +kernel
theorem dJ6_bitCount_0f7a4_3 : decode cJ6_bitCount_0f7a4 3 = .ok (.iushr, 1) := by decide +kernel
theorem dJ6_bitCount_0f7a4_4 : decode cJ6_bitCount_0f7a4 4 = .ok (.ldc_w 265, 3) := by decide +kernel
theorem dJ6_bitCount_0f7a4_7 : decode cJ6_bitCount_0f7a4 7 = .ok (.iand, 1) := by decide +kernel
theorem dJ6_bitCount_0f7a4_8 : decode cJ6_bitCount_0f7a4 8 = .ok (.isub, 1) := by decide +kernel
theorem dJ6_bitCount_0f7a4_9 : decode cJ6_bitCount_0f7a4 9 = .ok (.istore_n 0, 1) := by decide +kernel
theorem dJ6_bitCount_0f7a4_10 : decode cJ6_bitCount_0f7a4 10 = .ok (.iload_n 0, 1) := by decide +kernel
theorem dJ6_bitCount_0f7a4_11 : decode cJ6_bitCount_0f7a4 11 = .ok (.ldc_w 266, 3) := by decide +kernel
theorem dJ6_bitCount_0f7a4_14 : decode cJ6_bitCount_0f7a4 14 = .ok (.iand, 1) := by decide +kernel
theorem dJ6_bitCount_0f7a4_15 : decode cJ6_bitCount_0f7a4 15 = .ok (.iload_n 0, 1) := by decide +kernel
theorem dJ6_bitCount_0f7a4_16 : decode cJ6_bitCount_0f7a4 16 = .ok (.iconst 2, 1) := by decide +kernel
theorem dJ6_bitCount_0f7a4_17 : decode cJ6_bitCount_0f7a4 17 = .ok (.iushr, 1) := by decide +kernel
theorem dJ6_bitCount_0f7a4_18 : decode cJ6_bitCount_0f7a4 18 = .ok (.ldc_w 266, 3) := by decide +kernel
theorem dJ6_bitCount_0f7a4_21 : decode cJ6_bitCount_0f7a4 21 = .ok (.iand, 1) := by decide +kernel
theorem dJ6_bitCount_0f7a4_22 : decode cJ6_bitCount_0f7a4 22 = .ok (.iadd, 1) := by decide +kernel
theorem dJ6_bitCount_0f7a4_23 : decode cJ6_bitCount_0f7a4 23 = .ok (.istore_n 0, 1) := by decide +kernel
theorem dJ6_bitCount_0f7a4_24 : decode cJ6_bitCount_0f7a4 24 = .ok (.iload_n 0, 1) := by decide +kernel
theorem dJ6_bitCount_0f7a4_25 : decode cJ6_bitCount_0f7a4 25 = .ok (.iload_n 0, 1) := by decide +kernel
theorem dJ6_bitCount_0f7a4_26 : decode cJ6_bitCount_0f7a4 26 = .ok (.iconst 4, 1) := by decide +kernel
theorem dJ6_bitCount_0f7a4_27 : decode cJ6_bitCount_0f7a4 27 = .ok (.iushr, 1) := by decide +kernel
theorem dJ6_bitCount_0f7a4_28 : decode cJ6_bitCount_0f7a4 28 = .ok (.iadd, 1) := by decide +kernel
theorem dJ6_bitCount_0f7a4_29 : decode cJ6_bitCount_0f7a4 29 = .ok (.ldc_w 267, 3) := by decide +kernel
theorem dJ6_bitCount_0f7a4_32 : decode cJ6_bitCount_0f7a4 32 = .ok (.iand, 1) := by decide +kernel
theorem dJ6_bitCount_0f7a4_33 : decode cJ6_bitCount_0f7a4 33 = .ok (.istore_n 0, 1) := by decide +kernel
theorem dJ6_bitCount_0f7a4_34 : decode cJ6_bitCount_0f7a4 34 = .ok (.iload_n 0, 1) := by decide +kernel
theorem dJ6_bitCount_0f7a4_35 : decode cJ6_bitCount_0f7a4 35 = .ok (.iload_n 0, 1) := by decide +kernel
theorem dJ6_bitCount_0f7a4_36 : decode cJ6_bitCount_0f7a4 36 = .ok (.bipush 8, 2) := by decide +kernel
theorem dJ6_bitCount_0f7a4_38 : decode cJ6_bitCount_0f7a4 38 = .ok (.iushr, 1) := by decide +kernel
theorem dJ6_bitCount_0f7a4_39 : decode cJ6_bitCount_0f7a4 39 = .ok (.iadd, 1) := by decide +kernel
theorem dJ6_bitCount_0f7a4_40 : decode cJ6_bitCount_0f7a4 40 = .ok (.istore_n 0, 1) := by decide +kernel
theorem dJ6_bitCount_0f7a4_41 : decode cJ6_bitCount_0f7a4 41 = .ok (.iload_n 0, 1) := by decide +kernel
theorem dJ6_bitCount_0f7a4_42 : decode cJ6_bitCount_0f7a4 42 = .ok (.iload_n 0, 1) := by decide +kernel
theorem dJ6_bitCount_0f7a4_43 : decode cJ6_bitCount_0f7a4 43 = .ok (.bipush 16, 2) := by decide +kernel
theorem dJ6_bitCount_0f7a4_45 : decode cJ6_bitCount_0f7a4 45 = .ok (.iushr, 1) := by decide +kernel
theorem dJ6_bitCount_0f7a4_46 : decode cJ6_bitCount_0f7a4 46 = .ok (.iadd, 1) := by decide +kernel
theorem dJ6_bitCount_0f7a4_47 : decode cJ6_bitCount_0f7a4 47 = .ok (.istore_n 0, 1) := by decide +kernel
theorem dJ6_bitCount_0f7a4_48 : decode cJ6_bitCount_0f7a4 48 = .ok (.iload_n 0, 1) := by decide +kernel
theorem dJ6_bitCount_0f7a4_49 : decode cJ6_bitCount_0f7a4 49 = .ok (.bipush 63, 2) := by decide +kernel
theorem dJ6_bitCount_0f7a4_51 : decode cJ6_bitCount_0f7a4 51 = .ok (.iand, 1) := by decide +kernel
theorem dJ6_bitCount_0f7a4_52 : decode cJ6_bitCount_0f7a4 52 = .ok (.ireturn, 1) := by decide +kernel
theorem dJ9_abs_0f7a4_0 : decode cJ9_abs_0f7a4 0 = .ok (.iload_n 0, 1) := by decide +kernel
theorem dJ9_abs_0f7a4_1 : decode cJ9_abs_0f7a4 1 = .ok (.ifCond .ge 8, 3) := by decide +kernel
theorem dJ9_abs_0f7a4_4 : decode cJ9_abs_0f7a4 4 = .ok (.iload_n 0, 1) := by decide +kernel
theorem dJ9_abs_0f7a4_5 : decode cJ9_abs_0f7a4 5 = .ok (.ineg, 1) := by decide +kernel
theorem dJ9_abs_0f7a4_6 : decode cJ9_abs_0f7a4 6 = .ok (.goto 4, 3) := by decide +kernel
theorem dJ9_abs_0f7a4_9 : decode cJ9_abs_0f7a4 9 = .ok (.iload_n 0, 1) := by decide +kernel
theorem dJ9_abs_0f7a4_10 : decode cJ9_abs_0f7a4 10 = .ok (.ireturn, 1) := by decide +kernel
theorem dJ9_max_7cf53_0 : decode cJ9_max_7cf53 0 = .ok (.iload_n 0, 1) := by decide +kernel
theorem dJ9_max_7cf53_1 : decode cJ9_max_7cf53 1 = .ok (.iload_n 1, 1) := by decide +kernel
theorem dJ9_max_7cf53_2 : decode cJ9_max_7cf53 2 = .ok (.if_icmp .lt 7, 3) := by decide +kernel
theorem dJ9_max_7cf53_5 : decode cJ9_max_7cf53 5 = .ok (.iload_n 0, 1) := by decide +kernel
theorem dJ9_max_7cf53_6 : decode cJ9_max_7cf53 6 = .ok (.goto 4, 3) := by decide +kernel
theorem dJ9_max_7cf53_9 : decode cJ9_max_7cf53 9 = .ok (.iload_n 1, 1) := by decide +kernel
theorem dJ9_max_7cf53_10 : decode cJ9_max_7cf53 10 = .ok (.ireturn, 1) := by decide +kernel
theorem dJ9_max_f86c9_0 : decode cJ9_max_f86c9 0 = .ok (.lload_n 0, 1) := by decide +kernel
theorem dJ9_max_f86c9_1 : decode cJ9_max_f86c9 1 = .ok (.lload_n 2, 1) := by decide +kernel
theorem dJ9_max_f86c9_2 : decode cJ9_max_f86c9 2 = .ok (.lcmp, 1) := by decide +kernel
theorem dJ9_max_f86c9_3 : decode cJ9_max_f86c9 3 = .ok (.ifCond .lt 7, 3) := by decide +kernel
theorem dJ9_max_f86c9_6 : decode cJ9_max_f86c9 6 = .ok (.lload_n 0, 1) := by decide +kernel
theorem dJ9_max_f86c9_7 : decode cJ9_max_f86c9 7 = .ok (.goto 4, 3) := by decide +kernel
theorem dJ9_max_f86c9_10 : decode cJ9_max_f86c9 10 = .ok (.lload_n 2, 1) := by decide +kernel
theorem dJ9_max_f86c9_11 : decode cJ9_max_f86c9 11 = .ok (.lreturn, 1) := by decide +kernel
theorem dJ9_min_7cf53_0 : decode cJ9_min_7cf53 0 = .ok (.iload_n 0, 1) := by decide +kernel
theorem dJ9_min_7cf53_1 : decode cJ9_min_7cf53 1 = .ok (.iload_n 1, 1) := by decide +kernel
theorem dJ9_min_7cf53_2 : decode cJ9_min_7cf53 2 = .ok (.if_icmp .gt 7, 3) := by decide +kernel
theorem dJ9_min_7cf53_5 : decode cJ9_min_7cf53 5 = .ok (.iload_n 0, 1) := by decide +kernel
theorem dJ9_min_7cf53_6 : decode cJ9_min_7cf53 6 = .ok (.goto 4, 3) := by decide +kernel
theorem dJ9_min_7cf53_9 : decode cJ9_min_7cf53 9 = .ok (.iload_n 1, 1) := by decide +kernel
theorem dJ9_min_7cf53_10 : decode cJ9_min_7cf53 10 = .ok (.ireturn, 1) := by decide +kernel
theorem dJ0_length_8abf5_0 : decode cJ0_length_8abf5 0 = .ok (.aload_n 0, 1) := by decide +kernel
theorem dJ0_length_8abf5_1 : decode cJ0_length_8abf5 1 = .ok (.getfield 9, 3) := by decide +kernel
theorem dJ0_length_8abf5_4 : decode cJ0_length_8abf5 4 = .ok (.arraylength, 1) := by decide +kernel
theorem dJ0_length_8abf5_5 : decode cJ0_length_8abf5 5 = .ok (.aload_n 0, 1) := by decide +kernel
theorem dJ0_length_8abf5_6 : decode cJ0_length_8abf5 6 = .ok (.invokevirtual 335, 3) := by decide +kernel
theorem dJ0_length_8abf5_9 : decode cJ0_length_8abf5 9 = .ok (.ishr, 1) := by decide +kernel
theorem dJ0_length_8abf5_10 : decode cJ0_length_8abf5 10 = .ok (.ireturn, 1) := by decide +kernel
theorem dJ0_indexOf_0f7a4_0 : decode cJ0_indexOf_0f7a4 0 = .ok (.aload_n 0, 1) := by decide +kernel
theorem dJ0_indexOf_0f7a4_1 : decode cJ0_indexOf_0f7a4 1 = .ok (.iload_n 1, 1) := by decide +kernel
theorem dJ0_indexOf_0f7a4_2 : decode cJ0_indexOf_0f7a4 2 = .ok (.iconst 0, 1) := by decide +kernel
theorem dJ0_indexOf_0f7a4_3 : decode cJ0_indexOf_0f7a4 3 = .ok (.invokevirtual 633, 3) := by decide +kernel
theorem dJ0_indexOf_0f7a4_6 : decode cJ0_indexOf_0f7a4 6 = .ok (.ireturn, 1) := by decide +kernel
theorem dJ0_indexOf_7cf53_0 : decode cJ0_indexOf_7cf53 0 = .ok (.aload_n 0, 1) := by decide +kernel
theorem dJ0_indexOf_7cf53_1 : decode cJ0_indexOf_7cf53 1 = .ok (.invokevirtual 492, 3) := by decide +kernel
theorem dJ0_indexOf_7cf53_4 : decode cJ0_indexOf_7cf53 4 = .ok (.ifCond .eq 19, 3) := by decide +kernel
theorem dJ0_indexOf_7cf53_7 : decode cJ0_indexOf_7cf53 7 = .ok (.aload_n 0, 1) := by decide +kernel
theorem dJ0_indexOf_7cf53_8 : decode cJ0_indexOf_7cf53 8 = .ok (.getfield 9, 3) := by decide +kernel
theorem dJ0_indexOf_7cf53_11 : decode cJ0_indexOf_7cf53 11 = .ok (.iload_n 1, 1) := by decide +kernel
theorem dJ0_indexOf_7cf53_12 : decode cJ0_indexOf_7cf53 12 = .ok (.iload_n 2, 1) := by decide +kernel
theorem dJ0_indexOf_7cf53_13 : decode cJ0_indexOf_7cf53 13 = .ok (.aload_n 0, 1) := by decide +kernel
theorem dJ0_indexOf_7cf53_14 : decode cJ0_indexOf_7cf53 14 = .ok (.invokevirtual 505, 3) := by decide +kernel
theorem dJ0_indexOf_7cf53_17 : decode cJ0_indexOf_7cf53 17 = .ok (.invokestatic 637, 3) := by decide +kernel
theorem dJ0_indexOf_7cf53_20 : decode cJ0_indexOf_7cf53 20 = .ok (.goto 16, 3) := by decide +kernel
theorem dJ0_indexOf_7cf53_23 : decode cJ0_indexOf_7cf53 23 = .ok (.aload_n 0, 1) := by decide +kernel
theorem dJ0_indexOf_7cf53_24 : decode cJ0_indexOf_7cf53 24 = .ok (.getfield 9, 3) := by decide +kernel
theorem dJ0_indexOf_7cf53_27 : decode cJ0_indexOf_7cf53 27 = .ok (.iload_n 1, 1) := by decide +kernel
theorem dJ0_indexOf_7cf53_28 : decode cJ0_indexOf_7cf53 28 = .ok (.iload_n 2, 1) := by decide +kernel
theorem dJ0_indexOf_7cf53_29 : decode cJ0_indexOf_7cf53 29 = .ok (.aload_n 0, 1) := by decide +kernel
theorem dJ0_indexOf_7cf53_30 : decode cJ0_indexOf_7cf53 30 = .ok (.invokevirtual 505, 3) := by decide +kernel
theorem dJ0_indexOf_7cf53_33 : decode cJ0_indexOf_7cf53 33 = .ok (.invokestatic 640, 3) := by decide +kernel
theorem dJ0_indexOf_7cf53_36 : decode cJ0_indexOf_7cf53 36 = .ok (.ireturn, 1) := by decide +kernel
theorem dJ0_coder_7d493_0 : decode cJ0_coder_7d493 0 = .ok (.getstatic 38, 3) := by decide +kernel
theorem dJ0_coder_7d493_3 : decode cJ0_coder_7d493 3 = .ok (.ifCond .eq 10, 3) := by decide +kernel
theorem dJ0_coder_7d493_6 : decode cJ0_coder_7d493 6 = .ok (.aload_n 0, 1) := by decide +kernel
theorem dJ0_coder_7d493_7 : decode cJ0_coder_7d493 7 = .ok (.getfield 15, 3) := by decide +kernel
theorem dJ0_coder_7d493_10 : decode cJ0_coder_7d493 10 = .ok (.goto 4, 3) := by decide +kernel
theorem dJ0_coder_7d493_13 : decode cJ0_coder_7d493 13 = .ok (.iconst 1, 1) := by decide +kernel
theorem dJ0_coder_7d493_14 : decode cJ0_coder_7d493 14 = .ok (.ireturn, 1) := by decide +kernel
theorem dJ0_isLatin1_aae02_0 : decode cJ0_isLatin1_aae02 0 = .ok (.getstatic 38, 3) := by decide +kernel
theorem dJ0_isLatin1_aae02_3 : decode cJ0_isLatin1_aae02 3 = .ok (.ifCond .eq 14, 3) := by decide +kernel
theorem dJ0_isLatin1_aae02_6 : decode cJ0_isLatin1_aae02 6 = .ok (.aload_n 0, 1) := by decide +kernel
theorem dJ0_isLatin1_aae02_7 : decode cJ0_isLatin1_aae02 7 = .ok (.getfield 15, 3) := by decide +kernel
theorem dJ0_isLatin1_aae02_10 : decode cJ0_isLatin1_aae02 10 = .ok (.ifCond .ne 7, 3) := by decide +kernel
theorem dJ0_isLatin1_aae02_13 : decode cJ0_isLatin1_aae02 13 = .ok (.iconst 1, 1) := by decide +kernel
theorem dJ0_isLatin1_aae02_14 : decode cJ0_isLatin1_aae02 14 = .ok (.goto 4, 3) := by decide +kernel
theorem dJ0_isLatin1_aae02_17 : decode cJ0_isLatin1_aae02 17 = .ok (.iconst 0, 1) := by decide +kernel
theorem dJ0_isLatin1_aae02_18 : decode cJ0_isLatin1_aae02 18 = .ok (.ireturn, 1) := by decide +kernel
theorem dJ0_checkBoundsBeginEnd_23922_0 : decode cJ0_checkBoundsBeginEnd_23922 0 = .ok (.iload_n 0, 1) := by decide +kernel
theorem dJ0_checkBoundsBeginEnd_23922_1 : decode cJ0_checkBoundsBeginEnd_23922 1 = .ok (.iload_n 1, 1) := by decide +kernel
theorem dJ0_checkBoundsBeginEnd_23922_2 : decode cJ0_checkBoundsBeginEnd_23922 2 = .ok (.iload_n 2, 1) := by decide +kernel
theorem dJ0_checkBoundsBeginEnd_23922_3 : decode cJ0_checkBoundsBeginEnd_23922 3 = .ok (.getstatic 1053, 3) := by decide +kernel
theorem dJ0_checkBoundsBeginEnd_23922_6 : decode cJ0_checkBoundsBeginEnd_23922 6 = .ok (.invokestatic 1062, 3) := by decide +kernel
theorem dJ0_checkBoundsBeginEnd_23922_9 : decode cJ0_checkBoundsBeginEnd_23922 9 = .ok (.pop, 1) := by decide +kernel
theorem dJ0_checkBoundsBeginEnd_23922_10 : decode cJ0_checkBoundsBeginEnd_23922 10 = .ok (.return_, 1) := by decide +kernel
theorem dJ1_canEncode_9a6ad_0 : decode cJ1_canEncode_9a6ad 0 = .ok (.iload_n 0, 1) := by decide +kernel
theorem dJ1_canEncode_9a6ad_1 : decode cJ1_canEncode_9a6ad 1 = .ok (.ifCond .lt 14, 3) := by decide +kernel
theorem dJ1_canEncode_9a6ad_4 : decode cJ1_canEncode_9a6ad 4 = .ok (.iload_n 0, 1) := by decide +kernel
theorem dJ1_canEncode_9a6ad_5 : decode cJ1_canEncode_9a6ad 5 = .ok (.sipush 255, 3) := by decide +kernel
theorem dJ1_canEncode_9a6ad_8 : decode cJ1_canEncode_9a6ad 8 = .ok (.if_icmp .gt 7, 3) := by decide +kernel
theorem dJ1_canEncode_9a6ad_11 : decode cJ1_canEncode_9a6ad 11 = .ok (.iconst 1, 1) := by decide +kernel
theorem dJ1_canEncode_9a6ad_12 : decode cJ1_canEncode_9a6ad 12 = .ok (.goto 4, 3) := by decide +kernel
theorem dJ1_canEncode_9a6ad_15 : decode cJ1_canEncode_9a6ad 15 = .ok (.iconst 0, 1) := by decide +kernel
theorem dJ1_canEncode_9a6ad_16 : decode cJ1_canEncode_9a6ad 16 = .ok (.ireturn, 1) := by decide +kernel
theorem dJ1_indexOf_4cfef_0 : decode cJ1_indexOf_4cfef 0 = .ok (.iload_n 1, 1) := by decide +kernel
theorem dJ1_indexOf_4cfef_1 : decode cJ1_indexOf_4cfef 1 = .ok (.invokestatic 88, 3) := by decide +kernel
theorem dJ1_indexOf_4cfef_4 : decode cJ1_indexOf_4cfef 4 = .ok (.ifCond .ne 5, 3) := by decide +kernel
theorem dJ1_indexOf_4cfef_7 : decode cJ1_indexOf_4cfef 7 = .ok (.iconst (-1), 1) := by decide +kernel
theorem dJ1_indexOf_4cfef_8 : decode cJ1_indexOf_4cfef 8 = .ok (.ireturn, 1) := by decide +kernel
theorem dJ1_indexOf_4cfef_9 : decode cJ1_indexOf_4cfef 9 = .ok (.iload_n 2, 1) := by decide +kernel
theorem dJ1_indexOf_4cfef_10 : decode cJ1_indexOf_4cfef 10 = .ok (.iconst 0, 1) := by decide +kernel
theorem dJ1_indexOf_4cfef_11 : decode cJ1_indexOf_4cfef 11 = .ok (.invokestatic 92, 3) := by decide +kernel
theorem dJ1_indexOf_4cfef_14 : decode cJ1_indexOf_4cfef 14 = .ok (.istore_n 2, 1) := by decide +kernel
theorem dJ1_indexOf_4cfef_15 : decode cJ1_indexOf_4cfef 15 = .ok (.iload_n 3, 1) := by decide +kernel
theorem dJ1_indexOf_4cfef_16 : decode cJ1_indexOf_4cfef 16 = .ok (.aload_n 0, 1) := by decide +kernel
theorem dJ1_indexOf_4cfef_17 : decode cJ1_indexOf_4cfef 17 = .ok (.arraylength, 1) := by decide +kernel
theorem dJ1_indexOf_4cfef_18 : decode cJ1_indexOf_4cfef 18 = .ok (.invokestatic 38, 3) := by decide +kernel
theorem dJ1_indexOf_4cfef_21 : decode cJ1_indexOf_4cfef 21 = .ok (.istore_n 3, 1) := by decide +kernel
theorem dJ1_indexOf_4cfef_22 : decode cJ1_indexOf_4cfef 22 = .ok (.iload_n 2, 1) := by decide +kernel
theorem dJ1_indexOf_4cfef_23 : decode cJ1_indexOf_4cfef 23 = .ok (.iload_n 3, 1) := by decide +kernel
theorem dJ1_indexOf_4cfef_24 : decode cJ1_indexOf_4cfef 24 = .ok (.if_icmp .lt 5, 3) := by decide +kernel
theorem dJ1_indexOf_4cfef_27 : decode cJ1_indexOf_4cfef 27 = .ok (.iconst (-1), 1) := by decide +kernel
theorem dJ1_indexOf_4cfef_28 : decode cJ1_indexOf_4cfef 28 = .ok (.ireturn, 1) := by decide +kernel
theorem dJ1_indexOf_4cfef_29 : decode cJ1_indexOf_4cfef 29 = .ok (.aload_n 0, 1) := by decide +kernel
theorem dJ1_indexOf_4cfef_30 : decode cJ1_indexOf_4cfef 30 = .ok (.iload_n 1, 1) := by decide +kernel
theorem dJ1_indexOf_4cfef_31 : decode cJ1_indexOf_4cfef 31 = .ok (.iload_n 2, 1) := by decide +kernel
theorem dJ1_indexOf_4cfef_32 : decode cJ1_indexOf_4cfef 32 = .ok (.iload_n 3, 1) := by decide +kernel
theorem dJ1_indexOf_4cfef_33 : decode cJ1_indexOf_4cfef 33 = .ok (.invokestatic 95, 3) := by decide +kernel
theorem dJ1_indexOf_4cfef_36 : decode cJ1_indexOf_4cfef 36 = .ok (.ireturn, 1) := by decide +kernel
theorem dJ1_indexOfChar_4cfef_0 : decode cJ1_indexOfChar_4cfef 0 = .ok (.iload_n 1, 1) := by decide +kernel
theorem dJ1_indexOfChar_4cfef_1 : decode cJ1_indexOfChar_4cfef 1 = .ok (.i2b, 1) := by decide +kernel
theorem dJ1_indexOfChar_4cfef_2 : decode cJ1_indexOfChar_4cfef 2 = .ok (.istore 4, 2) := by decide +kernel
theorem dJ1_indexOfChar_4cfef_4 : decode cJ1_indexOfChar_4cfef 4 = .ok (.iload_n 2, 1) := by decide +kernel
theorem dJ1_indexOfChar_4cfef_5 : decode cJ1_indexOfChar_4cfef 5 = .ok (.istore 5, 2) := by decide +kernel
theorem dJ1_indexOfChar_4cfef_7 : decode cJ1_indexOfChar_4cfef 7 = .ok (.iload 5, 2) := by decide +kernel
theorem dJ1_indexOfChar_4cfef_9 : decode cJ1_indexOfChar_4cfef 9 = .ok (.iload_n 3, 1) := by decide +kernel
theorem dJ1_indexOfChar_4cfef_10 : decode cJ1_indexOfChar_4cfef 10 = .ok (.if_icmp .ge 21, 3) := by decide +kernel
theorem dJ1_indexOfChar_4cfef_13 : decode cJ1_indexOfChar_4cfef 13 = .ok (.aload_n 0, 1) := by decide +kernel
theorem dJ1_indexOfChar_4cfef_14 : decode cJ1_indexOfChar_4cfef 14 = .ok (.iload 5, 2) := by decide +kernel
theorem dJ1_indexOfChar_4cfef_16 : decode cJ1_indexOfChar_4cfef 16 = .ok (.baload, 1) := by decide +kernel
theorem dJ1_indexOfChar_4cfef_17 : decode cJ1_indexOfChar_4cfef 17 = .ok (.iload 4, 2) := by decide +kernel
theorem dJ1_indexOfChar_4cfef_19 : decode cJ1_indexOfChar_4cfef 19 = .ok (.if_icmp .ne 6, 3) := by decide +kernel
theorem dJ1_indexOfChar_4cfef_22 : decode cJ1_indexOfChar_4cfef 22 = .ok (.iload 5, 2) := by decide +kernel
theorem dJ1_indexOfChar_4cfef_24 : decode cJ1_indexOfChar_4cfef 24 = .ok (.ireturn, 1) := by decide +kernel
theorem dJ1_indexOfChar_4cfef_25 : decode cJ1_indexOfChar_4cfef 25 = .ok (.iinc 5 1, 3) := by decide +kernel
theorem dJ1_indexOfChar_4cfef_28 : decode cJ1_indexOfChar_4cfef 28 = .ok (.goto (-21), 3) := by decide +kernel
theorem dJ1_indexOfChar_4cfef_31 : decode cJ1_indexOfChar_4cfef 31 = .ok (.iconst (-1), 1) := by decide +kernel
theorem dJ1_indexOfChar_4cfef_32 : decode cJ1_indexOfChar_4cfef 32 = .ok (.ireturn, 1) := by decide +kernel
theorem dJ2_getChar_3b067_0 : decode cJ2_getChar_3b067 0 = .ok (.getstatic 44, 3) := by decide +kernel
theorem dJ2_getChar_3b067_3 : decode cJ2_getChar_3b067 3 = .ok (.ifCond .ne 25, 3) := by decide +kernel
theorem dJ2_getChar_3b067_6 : decode cJ2_getChar_3b067 6 = .ok (.iload_n 1, 1) := by decide +kernel
theorem dJ2_getChar_3b067_7 : decode cJ2_getChar_3b067 7 = .ok (.ifCond .lt 11, 3) := by decide +kernel
theorem dJ2_getChar_3b067_10 : decode cJ2_getChar_3b067 10 = .ok (.iload_n 1, 1) := by decide +kernel
theorem dJ2_getChar_3b067_11 : decode cJ2_getChar_3b067 11 = .ok (.aload_n 0, 1) := by decide +kernel
theorem dJ2_getChar_3b067_12 : decode cJ2_getChar_3b067 12 = .ok (.invokestatic 48, 3) := by decide +kernel
theorem dJ2_getChar_3b067_15 : decode cJ2_getChar_3b067 15 = .ok (.if_icmp .lt 13, 3) := by decide +kernel
theorem dJ2_getChar_3b067_18 : decode cJ2_getChar_3b067 18 = .ok (.new 52, 3) := by decide +kernel
theorem dJ2_getChar_3b067_21 : decode cJ2_getChar_3b067 21 = .ok (.dup, 1) := by decide +kernel
theorem dJ2_getChar_3b067_22 : decode cJ2_getChar_3b067 22 = .ok (.ldc 54, 2) := by decide +kernel
theorem dJ2_getChar_3b067_24 : decode cJ2_getChar_3b067 24 = .ok (.invokespecial 56, 3) := by decide +kernel
theorem dJ2_getChar_3b067_27 : decode cJ2_getChar_3b067 27 = .ok (.athrow, 1) := by decide +kernel
theorem dJ2_getChar_3b067_28 : decode cJ2_getChar_3b067 28 = .ok (.iload_n 1, 1) := by decide +kernel
theorem dJ2_getChar_3b067_29 : decode cJ2_getChar_3b067 29 = .ok (.iconst 1, 1) := by decide +kernel
theorem dJ2_getChar_3b067_30 : decode cJ2_getChar_3b067 30 = .ok (.ishl, 1) := by decide +kernel
theorem dJ2_getChar_3b067_31 : decode cJ2_getChar_3b067 31 = .ok (.istore_n 1, 1) := by decide +kernel
theorem dJ2_getChar_3b067_32 : decode cJ2_getChar_3b067 32 = .ok (.aload_n 0, 1) := by decide +kernel
theorem dJ2_getChar_3b067_33 : decode cJ2_getChar_3b067 33 = .ok (.iload_n 1, 1) := by decide +kernel
theorem dJ2_getChar_3b067_34 : decode cJ2_getChar_3b067 34 = .ok (.iinc 1 1, 3) := by decide +kernel
theorem dJ2_getChar_3b067_37 : decode cJ2_getChar_3b067 37 = .ok (.baload, 1) := by decide +kernel
theorem dJ2_getChar_3b067_38 : decode cJ2_getChar_3b067 38 = .ok (.sipush 255, 3) := by decide +kernel
theorem dJ2_getChar_3b067_41 : decode cJ2_getChar_3b067 41 = .ok (.iand, 1) := by decide +kernel
theorem dJ2_getChar_3b067_42 : decode cJ2_getChar_3b067 42 = .ok (.getstatic 59, 3) := by decide +kernel
theorem dJ2_getChar_3b067_45 : decode cJ2_getChar_3b067 45 = .ok (.ishl, 1) := by decide +kernel
theorem dJ2_getChar_3b067_46 : decode cJ2_getChar_3b067 46 = .ok (.aload_n 0, 1) := by decide +kernel
theorem dJ2_getChar_3b067_47 : decode cJ2_getChar_3b067 47 = .ok (.iload_n 1, 1) := by decide +kernel
theorem dJ2_getChar_3b067_48 : decode cJ2_getChar_3b067 48 = .ok (.baload, 1) := by decide +kernel
theorem dJ2_getChar_3b067_49 : decode cJ2_getChar_3b067 49 = .ok (.sipush 255, 3) := by decide +kernel
theorem dJ2_getChar_3b067_52 : decode cJ2_getChar_3b067 52 = .ok (.iand, 1) := by decide +kernel
theorem dJ2_getChar_3b067_53 : decode cJ2_getChar_3b067 53 = .ok (.getstatic 63, 3) := by decide +kernel
theorem dJ2_getChar_3b067_56 : decode cJ2_getChar_3b067 56 = .ok (.ishl, 1) := by decide +kernel
theorem dJ2_getChar_3b067_57 : decode cJ2_getChar_3b067 57 = .ok (.ior, 1) := by decide +kernel
theorem dJ2_getChar_3b067_58 : decode cJ2_getChar_3b067 58 = .ok (.i2c, 1) := by decide +kernel
theorem dJ2_getChar_3b067_59 : decode cJ2_getChar_3b067 59 = .ok (.ireturn, 1) := by decide +kernel
theorem dJ2_length_9d52b_0 : decode cJ2_length_9d52b 0 = .ok (.aload_n 0, 1) := by decide +kernel
theorem dJ2_length_9d52b_1 : decode cJ2_length_9d52b 1 = .ok (.arraylength, 1) := by decide +kernel
theorem dJ2_length_9d52b_2 : decode cJ2_length_9d52b 2 = .ok (.iconst 1, 1) := by decide +kernel
theorem dJ2_length_9d52b_3 : decode cJ2_length_9d52b 3 = .ok (.ishr, 1) := by decide +kernel
theorem dJ2_length_9d52b_4 : decode cJ2_length_9d52b 4 = .ok (.ireturn, 1) := by decide +kernel
theorem dJ2_indexOf_4cfef_0 : decode cJ2_indexOf_4cfef 0 = .ok (.iload_n 2, 1) := by decide +kernel
theorem dJ2_indexOf_4cfef_1 : decode cJ2_indexOf_4cfef 1 = .ok (.iconst 0, 1) := by decide +kernel
theorem dJ2_indexOf_4cfef_2 : decode cJ2_indexOf_4cfef 2 = .ok (.invokestatic 224, 3) := by decide +kernel
theorem dJ2_indexOf_4cfef_5 : decode cJ2_indexOf_4cfef 5 = .ok (.istore_n 2, 1) := by decide +kernel
theorem dJ2_indexOf_4cfef_6 : decode cJ2_indexOf_4cfef 6 = .ok (.iload_n 3, 1) := by decide +kernel
theorem dJ2_indexOf_4cfef_7 : decode cJ2_indexOf_4cfef 7 = .ok (.aload_n 0, 1) := by decide +kernel
theorem dJ2_indexOf_4cfef_8 : decode cJ2_indexOf_4cfef 8 = .ok (.arraylength, 1) := by decide +kernel
theorem dJ2_indexOf_4cfef_9 : decode cJ2_indexOf_4cfef 9 = .ok (.iconst 1, 1) := by decide +kernel
theorem dJ2_indexOf_4cfef_10 : decode cJ2_indexOf_4cfef 10 = .ok (.ishr, 1) := by decide +kernel
theorem dJ2_indexOf_4cfef_11 : decode cJ2_indexOf_4cfef 11 = .ok (.invokestatic 183, 3) := by decide +kernel
theorem dJ2_indexOf_4cfef_14 : decode cJ2_indexOf_4cfef 14 = .ok (.istore_n 3, 1) := by decide +kernel
theorem dJ2_indexOf_4cfef_15 : decode cJ2_indexOf_4cfef 15 = .ok (.iload_n 2, 1) := by decide +kernel
theorem dJ2_indexOf_4cfef_16 : decode cJ2_indexOf_4cfef 16 = .ok (.iload_n 3, 1) := by decide +kernel
theorem dJ2_indexOf_4cfef_17 : decode cJ2_indexOf_4cfef 17 = .ok (.if_icmp .lt 5, 3) := by decide +kernel
theorem dJ2_indexOf_4cfef_20 : decode cJ2_indexOf_4cfef 20 = .ok (.iconst (-1), 1) := by decide +kernel
theorem dJ2_indexOf_4cfef_21 : decode cJ2_indexOf_4cfef 21 = .ok (.ireturn, 1) := by decide +kernel
theorem dJ2_indexOf_4cfef_22 : decode cJ2_indexOf_4cfef 22 = .ok (.iload_n 1, 1) := by decide +kernel
theorem dJ2_indexOf_4cfef_23 : decode cJ2_indexOf_4cfef 23 = .ok (.ldc 227, 2) := by decide +kernel
theorem dJ2_indexOf_4cfef_25 : decode cJ2_indexOf_4cfef 25 = .ok (.if_icmp .ge 11, 3) := by decide +kernel
theorem dJ2_indexOf_4cfef_28 : decode cJ2_indexOf_4cfef 28 = .ok (.aload_n 0, 1) := by decide +kernel
theorem dJ2_indexOf_4cfef_29 : decode cJ2_indexOf_4cfef 29 = .ok (.iload_n 1, 1) := by decide +kernel
theorem dJ2_indexOf_4cfef_30 : decode cJ2_indexOf_4cfef 30 = .ok (.iload_n 2, 1) := by decide +kernel
theorem dJ2_indexOf_4cfef_31 : decode cJ2_indexOf_4cfef 31 = .ok (.iload_n 3, 1) := by decide +kernel
theorem dJ2_indexOf_4cfef_32 : decode cJ2_indexOf_4cfef 32 = .ok (.invokestatic 228, 3) := by decide +kernel
theorem dJ2_indexOf_4cfef_35 : decode cJ2_indexOf_4cfef 35 = .ok (.ireturn, 1) := by decide +kernel
theorem dJ2_indexOf_4cfef_36 : decode cJ2_indexOf_4cfef 36 = .ok (.aload_n 0, 1) := by decide +kernel
theorem dJ2_indexOf_4cfef_37 : decode cJ2_indexOf_4cfef 37 = .ok (.iload_n 1, 1) := by decide +kernel
theorem dJ2_indexOf_4cfef_38 : decode cJ2_indexOf_4cfef 38 = .ok (.iload_n 2, 1) := by decide +kernel
theorem dJ2_indexOf_4cfef_39 : decode cJ2_indexOf_4cfef 39 = .ok (.iload_n 3, 1) := by decide +kernel
theorem dJ2_indexOf_4cfef_40 : decode cJ2_indexOf_4cfef 40 = .ok (.invokestatic 232, 3) := by decide +kernel
theorem dJ2_indexOf_4cfef_43 : decode cJ2_indexOf_4cfef 43 = .ok (.ireturn, 1) := by decide +kernel
theorem dJ2_indexOfChar_4cfef_0 : decode cJ2_indexOfChar_4cfef 0 = .ok (.iload_n 2, 1) := by decide +kernel
theorem dJ2_indexOfChar_4cfef_1 : decode cJ2_indexOfChar_4cfef 1 = .ok (.iload_n 3, 1) := by decide +kernel
theorem dJ2_indexOfChar_4cfef_2 : decode cJ2_indexOfChar_4cfef 2 = .ok (.aload_n 0, 1) := by decide +kernel
theorem dJ2_indexOfChar_4cfef_3 : decode cJ2_indexOfChar_4cfef 3 = .ok (.invokestatic 96, 3) := by decide +kernel
theorem dJ2_indexOfChar_4cfef_6 : decode cJ2_indexOfChar_4cfef 6 = .ok (.aload_n 0, 1) := by decide +kernel
theorem dJ2_indexOfChar_4cfef_7 : decode cJ2_indexOfChar_4cfef 7 = .ok (.iload_n 1, 1) := by decide +kernel
theorem dJ2_indexOfChar_4cfef_8 : decode cJ2_indexOfChar_4cfef 8 = .ok (.iload_n 2, 1) := by decide +kernel
theorem dJ2_indexOfChar_4cfef_9 : decode cJ2_indexOfChar_4cfef 9 = .ok (.iload_n 3, 1) := by decide +kernel
theorem dJ2_indexOfChar_4cfef_10 : decode cJ2_indexOfChar_4cfef 10 = .ok (.invokestatic 244, 3) := by decide +kernel
theorem dJ2_indexOfChar_4cfef_13 : decode cJ2_indexOfChar_4cfef 13 = .ok (.ireturn, 1) := by decide +kernel
theorem dJ2_indexOfCharUnsafe_4cfef_0 : decode cJ2_indexOfCharUnsafe_4cfef 0 = .ok (.iload_n 2, 1) := by decide +kernel
theorem dJ2_indexOfCharUnsafe_4cfef_1 : decode cJ2_indexOfCharUnsafe_4cfef 1 = .ok (.istore 4, 2) := by decide +kernel
theorem dJ2_indexOfCharUnsafe_4cfef_3 : decode cJ2_indexOfCharUnsafe_4cfef 3 = .ok (.iload 4, 2) := by decide +kernel
theorem dJ2_indexOfCharUnsafe_4cfef_5 : decode cJ2_indexOfCharUnsafe_4cfef 5 = .ok (.iload_n 3, 1) := by decide +kernel
theorem dJ2_indexOfCharUnsafe_4cfef_6 : decode cJ2_indexOfCharUnsafe_4cfef 6 = .ok (.if_icmp .ge 22, 3) := by decide +kernel
theorem dJ2_indexOfCharUnsafe_4cfef_9 : decode cJ2_indexOfCharUnsafe_4cfef 9 = .ok (.aload_n 0, 1) := by decide +kernel
theorem dJ2_indexOfCharUnsafe_4cfef_10 : decode cJ2_indexOfCharUnsafe_4cfef 10 = .ok (.iload 4, 2) := by decide +kernel
theorem dJ2_indexOfCharUnsafe_4cfef_12 : decode cJ2_indexOfCharUnsafe_4cfef 12 = .ok (.invokestatic 71, 3) := by decide +kernel
theorem dJ2_indexOfCharUnsafe_4cfef_15 : decode cJ2_indexOfCharUnsafe_4cfef 15 = .ok (.iload_n 1, 1) := by decide +kernel
theorem dJ2_indexOfCharUnsafe_4cfef_16 : decode cJ2_indexOfCharUnsafe_4cfef 16 = .ok (.if_icmp .ne 6, 3) := by decide +kernel
theorem dJ2_indexOfCharUnsafe_4cfef_19 : decode cJ2_indexOfCharUnsafe_4cfef 19 = .ok (.iload 4, 2) := by decide +kernel
theorem dJ2_indexOfCharUnsafe_4cfef_21 : decode cJ2_indexOfCharUnsafe_4cfef 21 = .ok (.ireturn, 1) := by decide +kernel
theorem dJ2_indexOfCharUnsafe_4cfef_22 : decode cJ2_indexOfCharUnsafe_4cfef 22 = .ok (.iinc 4 1, 3) := by decide +kernel
theorem dJ2_indexOfCharUnsafe_4cfef_25 : decode cJ2_indexOfCharUnsafe_4cfef 25 = .ok (.goto (-22), 3) := by decide +kernel
theorem dJ2_indexOfCharUnsafe_4cfef_28 : decode cJ2_indexOfCharUnsafe_4cfef 28 = .ok (.iconst (-1), 1) := by decide +kernel
theorem dJ2_indexOfCharUnsafe_4cfef_29 : decode cJ2_indexOfCharUnsafe_4cfef 29 = .ok (.ireturn, 1) := by decide +kernel
theorem dJ2_indexOfSupplementary_4cfef_0 : decode cJ2_indexOfSupplementary_4cfef 0 = .ok (.iload_n 1, 1) := by decide +kernel
theorem dJ2_indexOfSupplementary_4cfef_1 : decode cJ2_indexOfSupplementary_4cfef 1 = .ok (.invokestatic 164, 3) := by decide +kernel
theorem dJ2_indexOfSupplementary_4cfef_4 : decode cJ2_indexOfSupplementary_4cfef 4 = .ok (.ifCond .eq 65, 3) := by decide +kernel
theorem dJ2_indexOfSupplementary_4cfef_7 : decode cJ2_indexOfSupplementary_4cfef 7 = .ok (.iload_n 1, 1) := by decide +kernel
theorem dJ2_indexOfSupplementary_4cfef_8 : decode cJ2_indexOfSupplementary_4cfef 8 = .ok (.invokestatic 157, 3) := by decide +kernel
theorem dJ2_indexOfSupplementary_4cfef_11 : decode cJ2_indexOfSupplementary_4cfef 11 = .ok (.istore 4, 2) := by decide +kernel
theorem dJ2_indexOfSupplementary_4cfef_13 : decode cJ2_indexOfSupplementary_4cfef 13 = .ok (.iload_n 1, 1) := by decide +kernel
theorem dJ2_indexOfSupplementary_4cfef_14 : decode cJ2_indexOfSupplementary_4cfef 14 = .ok (.invokestatic 161, 3) := by decide +kernel
theorem dJ2_indexOfSupplementary_4cfef_17 : decode cJ2_indexOfSupplementary_4cfef 17 = .ok (.istore 5, 2) := by decide +kernel
theorem dJ2_indexOfSupplementary_4cfef_19 : decode cJ2_indexOfSupplementary_4cfef 19 = .ok (.iload_n 2, 1) := by decide +kernel
theorem dJ2_indexOfSupplementary_4cfef_20 : decode cJ2_indexOfSupplementary_4cfef 20 = .ok (.iload_n 3, 1) := by decide +kernel
theorem dJ2_indexOfSupplementary_4cfef_21 : decode cJ2_indexOfSupplementary_4cfef 21 = .ok (.aload_n 0, 1) := by decide +kernel
theorem dJ2_indexOfSupplementary_4cfef_22 : decode cJ2_indexOfSupplementary_4cfef 22 = .ok (.invokestatic 96, 3) := by decide +kernel
theorem dJ2_indexOfSupplementary_4cfef_25 : decode cJ2_indexOfSupplementary_4cfef 25 = .ok (.iload_n 2, 1) := by decide +kernel
theorem dJ2_indexOfSupplementary_4cfef_26 : decode cJ2_indexOfSupplementary_4cfef 26 = .ok (.istore 6, 2) := by decide +kernel
theorem dJ2_indexOfSupplementary_4cfef_28 : decode cJ2_indexOfSupplementary_4cfef 28 = .ok (.iload 6, 2) := by decide +kernel
theorem dJ2_indexOfSupplementary_4cfef_30 : decode cJ2_indexOfSupplementary_4cfef 30 = .ok (.iload_n 3, 1) := by decide +kernel
theorem dJ2_indexOfSupplementary_4cfef_31 : decode cJ2_indexOfSupplementary_4cfef 31 = .ok (.iconst 1, 1) := by decide +kernel
theorem dJ2_indexOfSupplementary_4cfef_32 : decode cJ2_indexOfSupplementary_4cfef 32 = .ok (.isub, 1) := by decide +kernel
theorem dJ2_indexOfSupplementary_4cfef_33 : decode cJ2_indexOfSupplementary_4cfef 33 = .ok (.if_icmp .ge 36, 3) := by decide +kernel
theorem dJ2_indexOfSupplementary_4cfef_36 : decode cJ2_indexOfSupplementary_4cfef 36 = .ok (.aload_n 0, 1) := by decide +kernel
theorem dJ2_indexOfSupplementary_4cfef_37 : decode cJ2_indexOfSupplementary_4cfef 37 = .ok (.iload 6, 2) := by decide +kernel
theorem dJ2_indexOfSupplementary_4cfef_39 : decode cJ2_indexOfSupplementary_4cfef 39 = .ok (.invokestatic 71, 3) := by decide +kernel
theorem dJ2_indexOfSupplementary_4cfef_42 : decode cJ2_indexOfSupplementary_4cfef 42 = .ok (.iload 4, 2) := by decide +kernel
theorem dJ2_indexOfSupplementary_4cfef_44 : decode cJ2_indexOfSupplementary_4cfef 44 = .ok (.if_icmp .ne 19, 3) := by decide +kernel
theorem dJ2_indexOfSupplementary_4cfef_47 : decode cJ2_indexOfSupplementary_4cfef 47 = .ok (.aload_n 0, 1) := by decide +kernel
theorem dJ2_indexOfSupplementary_4cfef_48 : decode cJ2_indexOfSupplementary_4cfef 48 = .ok (.iload 6, 2) := by decide +kernel
theorem dJ2_indexOfSupplementary_4cfef_50 : decode cJ2_indexOfSupplementary_4cfef 50 = .ok (.iconst 1, 1) := by decide +kernel
theorem dJ2_indexOfSupplementary_4cfef_51 : decode cJ2_indexOfSupplementary_4cfef 51 = .ok (.iadd, 1) := by decide +kernel
theorem dJ2_indexOfSupplementary_4cfef_52 : decode cJ2_indexOfSupplementary_4cfef 52 = .ok (.invokestatic 71, 3) := by decide +kernel
theorem dJ2_indexOfSupplementary_4cfef_55 : decode cJ2_indexOfSupplementary_4cfef 55 = .ok (.iload 5, 2) := by decide +kernel
theorem dJ2_indexOfSupplementary_4cfef_57 : decode cJ2_indexOfSupplementary_4cfef 57 = .ok (.if_icmp .ne 6, 3) := by decide +kernel
theorem dJ2_indexOfSupplementary_4cfef_60 : decode cJ2_indexOfSupplementary_4cfef 60 = .ok (.iload 6, 2) := by decide +kernel
theorem dJ2_indexOfSupplementary_4cfef_62 : decode cJ2_indexOfSupplementary_4cfef 62 = .ok (.ireturn, 1) := by decide +kernel
theorem dJ2_indexOfSupplementary_4cfef_63 : decode cJ2_indexOfSupplementary_4cfef 63 = .ok (.iinc 6 1, 3) := by decide +kernel
theorem dJ2_indexOfSupplementary_4cfef_66 : decode cJ2_indexOfSupplementary_4cfef 66 = .ok (.goto (-38), 3) := by decide +kernel
theorem dJ2_indexOfSupplementary_4cfef_69 : decode cJ2_indexOfSupplementary_4cfef 69 = .ok (.iconst (-1), 1) := by decide +kernel
theorem dJ2_indexOfSupplementary_4cfef_70 : decode cJ2_indexOfSupplementary_4cfef 70 = .ok (.ireturn, 1) := by decide +kernel
theorem dJ2_checkBoundsBeginEnd_d044e_0 : decode cJ2_checkBoundsBeginEnd_d044e 0 = .ok (.iload_n 0, 1) := by decide +kernel
theorem dJ2_checkBoundsBeginEnd_d044e_1 : decode cJ2_checkBoundsBeginEnd_d044e 1 = .ok (.iload_n 1, 1) := by decide +kernel
theorem dJ2_checkBoundsBeginEnd_d044e_2 : decode cJ2_checkBoundsBeginEnd_d044e 2 = .ok (.aload_n 2, 1) := by decide +kernel
theorem dJ2_checkBoundsBeginEnd_d044e_3 : decode cJ2_checkBoundsBeginEnd_d044e 3 = .ok (.invokestatic 48, 3) := by decide +kernel
theorem dJ2_checkBoundsBeginEnd_d044e_6 : decode cJ2_checkBoundsBeginEnd_d044e 6 = .ok (.invokestatic 241, 3) := by decide +kernel
theorem dJ2_checkBoundsBeginEnd_d044e_9 : decode cJ2_checkBoundsBeginEnd_d044e 9 = .ok (.return_, 1) := by decide +kernel
theorem dJ3_checkFromToIndex_8c36e_0 : decode cJ3_checkFromToIndex_8c36e 0 = .ok (.iload_n 0, 1) := by decide +kernel
theorem dJ3_checkFromToIndex_8c36e_1 : decode cJ3_checkFromToIndex_8c36e 1 = .ok (.ifCond .lt 13, 3) := by decide +kernel
theorem dJ3_checkFromToIndex_8c36e_4 : decode cJ3_checkFromToIndex_8c36e 4 = .ok (.iload_n 0, 1) := by decide +kernel
theorem dJ3_checkFromToIndex_8c36e_5 : decode cJ3_checkFromToIndex_8c36e 5 = .ok (.iload_n 1, 1) := by decide +kernel
theorem dJ3_checkFromToIndex_8c36e_6 : decode cJ3_checkFromToIndex_8c36e 6 = .ok (.if_icmp .gt 8, 3) := by decide +kernel
theorem dJ3_checkFromToIndex_8c36e_9 : decode cJ3_checkFromToIndex_8c36e 9 = .ok (.iload_n 1, 1) := by decide +kernel
theorem dJ3_checkFromToIndex_8c36e_10 : decode cJ3_checkFromToIndex_8c36e 10 = .ok (.iload_n 2, 1) := by decide +kernel
theorem dJ3_checkFromToIndex_8c36e_11 : decode cJ3_checkFromToIndex_8c36e 11 = .ok (.if_icmp .le 11, 3) := by decide +kernel
theorem dJ3_checkFromToIndex_8c36e_14 : decode cJ3_checkFromToIndex_8c36e 14 = .ok (.aload_n 3, 1) := by decide +kernel
theorem dJ3_checkFromToIndex_8c36e_15 : decode cJ3_checkFromToIndex_8c36e 15 = .ok (.iload_n 0, 1) := by decide +kernel
theorem dJ3_checkFromToIndex_8c36e_16 : decode cJ3_checkFromToIndex_8c36e 16 = .ok (.iload_n 1, 1) := by decide +kernel
theorem dJ3_checkFromToIndex_8c36e_17 : decode cJ3_checkFromToIndex_8c36e 17 = .ok (.iload_n 2, 1) := by decide +kernel
theorem dJ3_checkFromToIndex_8c36e_18 : decode cJ3_checkFromToIndex_8c36e 18 = .ok (.invokestatic 99, 3) := by decide +kernel
theorem dJ3_checkFromToIndex_8c36e_21 : decode cJ3_checkFromToIndex_8c36e 21 = .ok (.athrow, 1) := by decide +kernel
theorem dJ3_checkFromToIndex_8c36e_22 : decode cJ3_checkFromToIndex_8c36e 22 = .ok (.iload_n 0, 1) := by decide +kernel
theorem dJ3_checkFromToIndex_8c36e_23 : decode cJ3_checkFromToIndex_8c36e 23 = .ok (.ireturn, 1) := by decide +kernel
theorem dX7_init_0 : decode cX7_init 0 = .ok (.aload_n 0, 1) := by decide +kernel
theorem dX7_init_1 : decode cX7_init 1 = .ok (.invokespecial 3, 3) := by decide +kernel
theorem dX7_init_4 : decode cX7_init 4 = .ok (.aload_n 0, 1) := by decide +kernel
theorem dX7_init_5 : decode cX7_init 5 = .ok (.bipush 6, 2) := by decide +kernel
theorem dX7_init_7 : decode cX7_init 7 = .ok (.anewarray 9, 3) := by decide +kernel
theorem dX7_init_10 : decode cX7_init 10 = .ok (.dup, 1) := by decide +kernel
theorem dX7_init_11 : decode cX7_init 11 = .ok (.iconst 0, 1) := by decide +kernel
theorem dX7_init_12 : decode cX7_init 12 = .ok (.new 9, 3) := by decide +kernel
theorem dX7_init_15 : decode cX7_init 15 = .ok (.dup, 1) := by decide +kernel
theorem dX7_init_16 : decode cX7_init 16 = .ok (.invokespecial 11, 3) := by decide +kernel
theorem dX7_init_19 : decode cX7_init 19 = .ok (.aastore, 1) := by decide +kernel
theorem dX7_init_20 : decode cX7_init 20 = .ok (.dup, 1) := by decide +kernel
theorem dX7_init_21 : decode cX7_init 21 = .ok (.iconst 1, 1) := by decide +kernel
theorem dX7_init_22 : decode cX7_init 22 = .ok (.new 12, 3) := by decide +kernel
theorem dX7_init_25 : decode cX7_init 25 = .ok (.dup, 1) := by decide +kernel
theorem dX7_init_26 : decode cX7_init 26 = .ok (.invokespecial 14, 3) := by decide +kernel
theorem dX7_init_29 : decode cX7_init 29 = .ok (.aastore, 1) := by decide +kernel
theorem dX7_init_30 : decode cX7_init 30 = .ok (.dup, 1) := by decide +kernel
theorem dX7_init_31 : decode cX7_init 31 = .ok (.iconst 2, 1) := by decide +kernel
theorem dX7_init_32 : decode cX7_init 32 = .ok (.new 15, 3) := by decide +kernel
theorem dX7_init_35 : decode cX7_init 35 = .ok (.dup, 1) := by decide +kernel
theorem dX7_init_36 : decode cX7_init 36 = .ok (.invokespecial 17, 3) := by decide +kernel
theorem dX7_init_39 : decode cX7_init 39 = .ok (.aastore, 1) := by decide +kernel
theorem dX7_init_40 : decode cX7_init 40 = .ok (.dup, 1) := by decide +kernel
theorem dX7_init_41 : decode cX7_init 41 = .ok (.iconst 3, 1) := by decide +kernel
theorem dX7_init_42 : decode cX7_init 42 = .ok (.new 18, 3) := by decide +kernel
theorem dX7_init_45 : decode cX7_init 45 = .ok (.dup, 1) := by decide +kernel
theorem dX7_init_46 : decode cX7_init 46 = .ok (.invokespecial 20, 3) := by decide +kernel
theorem dX7_init_49 : decode cX7_init 49 = .ok (.aastore, 1) := by decide +kernel
theorem dX7_init_50 : decode cX7_init 50 = .ok (.dup, 1) := by decide +kernel
theorem dX7_init_51 : decode cX7_init 51 = .ok (.iconst 4, 1) := by decide +kernel
theorem dX7_init_52 : decode cX7_init 52 = .ok (.new 21, 3) := by decide +kernel
theorem dX7_init_55 : decode cX7_init 55 = .ok (.dup, 1) := by decide +kernel
theorem dX7_init_56 : decode cX7_init 56 = .ok (.invokespecial 23, 3) := by decide +kernel
theorem dX7_init_59 : decode cX7_init 59 = .ok (.aastore, 1) := by decide +kernel
theorem dX7_init_60 : decode cX7_init 60 = .ok (.dup, 1) := by decide +kernel
theorem dX7_init_61 : decode cX7_init 61 = .ok (.iconst 5, 1) := by decide +kernel
theorem dX7_init_62 : decode cX7_init 62 = .ok (.new 24, 3) := by decide +kernel
theorem dX7_init_65 : decode cX7_init 65 = .ok (.dup, 1) := by decide +kernel
theorem dX7_init_66 : decode cX7_init 66 = .ok (.invokespecial 26, 3) := by decide +kernel
theorem dX7_init_69 : decode cX7_init 69 = .ok (.aastore, 1) := by decide +kernel
theorem dX7_init_70 : decode cX7_init 70 = .ok (.putfield 27, 3) := by decide +kernel
theorem dX7_init_73 : decode cX7_init 73 = .ok (.aload_n 0, 1) := by decide +kernel
theorem dX7_init_74 : decode cX7_init 74 = .ok (.bipush 8, 2) := by decide +kernel
theorem dX7_init_76 : decode cX7_init 76 = .ok (.newarray .int, 2) := by decide +kernel
theorem dX7_init_78 : decode cX7_init 78 = .ok (.putfield 33, 3) := by decide +kernel
theorem dX7_init_81 : decode cX7_init 81 = .ok (.aload_n 0, 1) := by decide +kernel
theorem dX7_init_82 : decode cX7_init 82 = .ok (.bipush 8, 2) := by decide +kernel
theorem dX7_init_84 : decode cX7_init 84 = .ok (.newarray .int, 2) := by decide +kernel
theorem dX7_init_86 : decode cX7_init 86 = .ok (.putfield 37, 3) := by decide +kernel
theorem dX7_init_89 : decode cX7_init 89 = .ok (.aload_n 0, 1) := by decide +kernel
theorem dX7_init_90 : decode cX7_init 90 = .ok (.bipush 8, 2) := by decide +kernel
theorem dX7_init_92 : decode cX7_init 92 = .ok (.newarray .int, 2) := by decide +kernel
theorem dX7_init_94 : decode cX7_init 94 = .ok (.putfield 40, 3) := by decide +kernel
theorem dX7_init_97 : decode cX7_init 97 = .ok (.aload_n 0, 1) := by decide +kernel
theorem dX7_init_98 : decode cX7_init 98 = .ok (.bipush 8, 2) := by decide +kernel
theorem dX7_init_100 : decode cX7_init 100 = .ok (.newarray .int, 2) := by decide +kernel
theorem dX7_init_102 : decode cX7_init 102 = .ok (.putfield 43, 3) := by decide +kernel
theorem dX7_init_105 : decode cX7_init 105 = .ok (.aload_n 0, 1) := by decide +kernel
theorem dX7_init_106 : decode cX7_init 106 = .ok (.bipush 8, 2) := by decide +kernel
theorem dX7_init_108 : decode cX7_init 108 = .ok (.newarray .int, 2) := by decide +kernel
theorem dX7_init_110 : decode cX7_init 110 = .ok (.putfield 46, 3) := by decide +kernel
theorem dX7_init_113 : decode cX7_init 113 = .ok (.aload_n 0, 1) := by decide +kernel
theorem dX7_init_114 : decode cX7_init 114 = .ok (.bipush 8, 2) := by decide +kernel
theorem dX7_init_116 : decode cX7_init 116 = .ok (.newarray .int, 2) := by decide +kernel
theorem dX7_init_118 : decode cX7_init 118 = .ok (.putfield 49, 3) := by decide +kernel
theorem dX7_init_121 : decode cX7_init 121 = .ok (.aload_n 0, 1) := by decide +kernel
theorem dX7_init_122 : decode cX7_init 122 = .ok (.iconst 5, 1) := by decide +kernel
theorem dX7_init_123 : decode cX7_init 123 = .ok (.newarray .int, 2) := by decide +kernel
theorem dX7_init_125 : decode cX7_init 125 = .ok (.putfield 52, 3) := by decide +kernel
theorem dX7_init_128 : decode cX7_init 128 = .ok (.aload_n 0, 1) := by decide +kernel
theorem dX7_init_129 : decode cX7_init 129 = .ok (.iconst 5, 1) := by decide +kernel
theorem dX7_init_130 : decode cX7_init 130 = .ok (.newarray .int, 2) := by decide +kernel
theorem dX7_init_132 : decode cX7_init 132 = .ok (.putfield 55, 3) := by decide +kernel
theorem dX7_init_135 : decode cX7_init 135 = .ok (.aload_n 0, 1) := by decide +kernel
theorem dX7_init_136 : decode cX7_init 136 = .ok (.iconst 0, 1) := by decide +kernel
theorem dX7_init_137 : decode cX7_init 137 = .ok (.putfield 58, 3) := by decide +kernel
theorem dX7_init_140 : decode cX7_init 140 = .ok (.aload_n 0, 1) := by decide +kernel
theorem dX7_init_141 : decode cX7_init 141 = .ok (.iconst 0, 1) := by decide +kernel
theorem dX7_init_142 : decode cX7_init 142 = .ok (.putfield 62, 3) := by decide +kernel
theorem dX7_init_145 : decode cX7_init 145 = .ok (.aload_n 0, 1) := by decide +kernel
theorem dX7_init_146 : decode cX7_init 146 = .ok (.iconst 0, 1) := by decide +kernel
theorem dX7_init_147 : decode cX7_init 147 = .ok (.putfield 65, 3) := by decide +kernel
theorem dX7_init_150 : decode cX7_init 150 = .ok (.return_, 1) := by decide +kernel
theorem dX7_become_0 : decode cX7_become 0 = .ok (.aload_n 1, 1) := by decide +kernel
theorem dX7_become_1 : decode cX7_become 1 = .ok (.getfield 33, 3) := by decide +kernel
theorem dX7_become_4 : decode cX7_become 4 = .ok (.iconst 0, 1) := by decide +kernel
theorem dX7_become_5 : decode cX7_become 5 = .ok (.aload_n 0, 1) := by decide +kernel
theorem dX7_become_6 : decode cX7_become 6 = .ok (.getfield 33, 3) := by decide +kernel
theorem dX7_become_9 : decode cX7_become 9 = .ok (.iconst 0, 1) := by decide +kernel
theorem dX7_become_10 : decode cX7_become 10 = .ok (.bipush 8, 2) := by decide +kernel
theorem dX7_become_12 : decode cX7_become 12 = .ok (.invokestatic 68, 3) := by decide +kernel
theorem dX7_become_15 : decode cX7_become 15 = .ok (.aload_n 1, 1) := by decide +kernel
theorem dX7_become_16 : decode cX7_become 16 = .ok (.getfield 37, 3) := by decide +kernel
theorem dX7_become_19 : decode cX7_become 19 = .ok (.iconst 0, 1) := by decide +kernel
theorem dX7_become_20 : decode cX7_become 20 = .ok (.aload_n 0, 1) := by decide +kernel
theorem dX7_become_21 : decode cX7_become 21 = .ok (.getfield 37, 3) := by decide +kernel
theorem dX7_become_24 : decode cX7_become 24 = .ok (.iconst 0, 1) := by decide +kernel
theorem dX7_become_25 : decode cX7_become 25 = .ok (.bipush 8, 2) := by decide +kernel
theorem dX7_become_27 : decode cX7_become 27 = .ok (.invokestatic 68, 3) := by decide +kernel
theorem dX7_become_30 : decode cX7_become 30 = .ok (.aload_n 1, 1) := by decide +kernel
theorem dX7_become_31 : decode cX7_become 31 = .ok (.getfield 40, 3) := by decide +kernel
theorem dX7_become_34 : decode cX7_become 34 = .ok (.iconst 0, 1) := by decide +kernel
theorem dX7_become_35 : decode cX7_become 35 = .ok (.aload_n 0, 1) := by decide +kernel
theorem dX7_become_36 : decode cX7_become 36 = .ok (.getfield 40, 3) := by decide +kernel
theorem dX7_become_39 : decode cX7_become 39 = .ok (.iconst 0, 1) := by decide +kernel
theorem dX7_become_40 : decode cX7_become 40 = .ok (.bipush 8, 2) := by decide +kernel
theorem dX7_become_42 : decode cX7_become 42 = .ok (.invokestatic 68, 3) := by decide +kernel
theorem dX7_become_45 : decode cX7_become 45 = .ok (.aload_n 1, 1) := by decide +kernel
theorem dX7_become_46 : decode cX7_become 46 = .ok (.getfield 43, 3) := by decide +kernel
theorem dX7_become_49 : decode cX7_become 49 = .ok (.iconst 0, 1) := by decide +kernel
theorem dX7_become_50 : decode cX7_become 50 = .ok (.aload_n 0, 1) := by decide +kernel
theorem dX7_become_51 : decode cX7_become 51 = .ok (.getfield 43, 3) := by decide +kernel
theorem dX7_become_54 : decode cX7_become 54 = .ok (.iconst 0, 1) := by decide +kernel
theorem dX7_become_55 : decode cX7_become 55 = .ok (.bipush 8, 2) := by decide +kernel
theorem dX7_become_57 : decode cX7_become 57 = .ok (.invokestatic 68, 3) := by decide +kernel
theorem dX7_become_60 : decode cX7_become 60 = .ok (.aload_n 1, 1) := by decide +kernel
theorem dX7_become_61 : decode cX7_become 61 = .ok (.getfield 46, 3) := by decide +kernel
theorem dX7_become_64 : decode cX7_become 64 = .ok (.iconst 0, 1) := by decide +kernel
theorem dX7_become_65 : decode cX7_become 65 = .ok (.aload_n 0, 1) := by decide +kernel
theorem dX7_become_66 : decode cX7_become 66 = .ok (.getfield 46, 3) := by decide +kernel
theorem dX7_become_69 : decode cX7_become 69 = .ok (.iconst 0, 1) := by decide +kernel
theorem dX7_become_70 : decode cX7_become 70 = .ok (.bipush 8, 2) := by decide +kernel
theorem dX7_become_72 : decode cX7_become 72 = .ok (.invokestatic 68, 3) := by decide +kernel
theorem dX7_become_75 : decode cX7_become 75 = .ok (.aload_n 1, 1) := by decide +kernel
theorem dX7_become_76 : decode cX7_become 76 = .ok (.getfield 49, 3) := by decide +kernel
theorem dX7_become_79 : decode cX7_become 79 = .ok (.iconst 0, 1) := by decide +kernel
theorem dX7_become_80 : decode cX7_become 80 = .ok (.aload_n 0, 1) := by decide +kernel
theorem dX7_become_81 : decode cX7_become 81 = .ok (.getfield 49, 3) := by decide +kernel
theorem dX7_become_84 : decode cX7_become 84 = .ok (.iconst 0, 1) := by decide +kernel
theorem dX7_become_85 : decode cX7_become 85 = .ok (.bipush 8, 2) := by decide +kernel
theorem dX7_become_87 : decode cX7_become 87 = .ok (.invokestatic 68, 3) := by decide +kernel
theorem dX7_become_90 : decode cX7_become 90 = .ok (.aload_n 1, 1) := by decide +kernel
theorem dX7_become_91 : decode cX7_become 91 = .ok (.getfield 52, 3) := by decide +kernel
theorem dX7_become_94 : decode cX7_become 94 = .ok (.iconst 0, 1) := by decide +kernel
theorem dX7_become_95 : decode cX7_become 95 = .ok (.aload_n 0, 1) := by decide +kernel
theorem dX7_become_96 : decode cX7_become 96 = .ok (.getfield 52, 3) := by decide +kernel
theorem dX7_become_99 : decode cX7_become 99 = .ok (.iconst 0, 1) := by decide +kernel
theorem dX7_become_100 : decode cX7_become 100 = .ok (.iconst 5, 1) := by decide +kernel
theorem dX7_become_101 : decode cX7_become 101 = .ok (.invokestatic 68, 3) := by decide +kernel
theorem dX7_become_104 : decode cX7_become 104 = .ok (.aload_n 1, 1) := by decide +kernel
theorem dX7_become_105 : decode cX7_become 105 = .ok (.getfield 55, 3) := by decide +kernel
theorem dX7_become_108 : decode cX7_become 108 = .ok (.iconst 0, 1) := by decide +kernel
theorem dX7_become_109 : decode cX7_become 109 = .ok (.aload_n 0, 1) := by decide +kernel
theorem dX7_become_110 : decode cX7_become 110 = .ok (.getfield 55, 3) := by decide +kernel
theorem dX7_become_113 : decode cX7_become 113 = .ok (.iconst 0, 1) := by decide +kernel
theorem dX7_become_114 : decode cX7_become 114 = .ok (.iconst 5, 1) := by decide +kernel
theorem dX7_become_115 : decode cX7_become 115 = .ok (.invokestatic 68, 3) := by decide +kernel
theorem dX7_become_118 : decode cX7_become 118 = .ok (.aload_n 0, 1) := by decide +kernel
theorem dX7_become_119 : decode cX7_become 119 = .ok (.aload_n 1, 1) := by decide +kernel
theorem dX7_become_120 : decode cX7_become 120 = .ok (.getfield 58, 3) := by decide +kernel
theorem dX7_become_123 : decode cX7_become 123 = .ok (.putfield 58, 3) := by decide +kernel
theorem dX7_become_126 : decode cX7_become 126 = .ok (.aload_n 0, 1) := by decide +kernel
theorem dX7_become_127 : decode cX7_become 127 = .ok (.aload_n 1, 1) := by decide +kernel
theorem dX7_become_128 : decode cX7_become 128 = .ok (.getfield 62, 3) := by decide +kernel
theorem dX7_become_131 : decode cX7_become 131 = .ok (.putfield 62, 3) := by decide +kernel
theorem dX7_become_134 : decode cX7_become 134 = .ok (.aload_n 0, 1) := by decide +kernel
theorem dX7_become_135 : decode cX7_become 135 = .ok (.aload_n 1, 1) := by decide +kernel
theorem dX7_become_136 : decode cX7_become 136 = .ok (.getfield 65, 3) := by decide +kernel
theorem dX7_become_139 : decode cX7_become 139 = .ok (.putfield 65, 3) := by decide +kernel
theorem dX7_become_142 : decode cX7_become 142 = .ok (.return_, 1) := by decide +kernel
theorem dX7_hasPot_0 : decode cX7_hasPot 0 = .ok (.iload_n 1, 1) := by decide +kernel
theorem dX7_hasPot_1 : decode cX7_hasPot 1 = .ok (.ifCond .lt 15, 3) := by decide +kernel
theorem dX7_hasPot_4 : decode cX7_hasPot 4 = .ok (.iload_n 1, 1) := by decide +kernel
theorem dX7_hasPot_5 : decode cX7_hasPot 5 = .ok (.aload_n 0, 1) := by decide +kernel
theorem dX7_hasPot_6 : decode cX7_hasPot 6 = .ok (.getfield 58, 3) := by decide +kernel
theorem dX7_hasPot_9 : decode cX7_hasPot 9 = .ok (.if_icmp .ge 7, 3) := by decide +kernel
theorem dX7_hasPot_12 : decode cX7_hasPot 12 = .ok (.iconst 1, 1) := by decide +kernel
theorem dX7_hasPot_13 : decode cX7_hasPot 13 = .ok (.goto 4, 3) := by decide +kernel
theorem dX7_hasPot_16 : decode cX7_hasPot 16 = .ok (.iconst 0, 1) := by decide +kernel
theorem dX7_hasPot_17 : decode cX7_hasPot 17 = .ok (.ireturn, 1) := by decide +kernel
theorem dX7_hasPerson_0 : decode cX7_hasPerson 0 = .ok (.iload_n 1, 1) := by decide +kernel
theorem dX7_hasPerson_1 : decode cX7_hasPerson 1 = .ok (.ifCond .lt 15, 3) := by decide +kernel
theorem dX7_hasPerson_4 : decode cX7_hasPerson 4 = .ok (.iload_n 1, 1) := by decide +kernel
theorem dX7_hasPerson_5 : decode cX7_hasPerson 5 = .ok (.aload_n 0, 1) := by decide +kernel
theorem dX7_hasPerson_6 : decode cX7_hasPerson 6 = .ok (.getfield 62, 3) := by decide +kernel
theorem dX7_hasPerson_9 : decode cX7_hasPerson 9 = .ok (.if_icmp .ge 7, 3) := by decide +kernel
theorem dX7_hasPerson_12 : decode cX7_hasPerson 12 = .ok (.iconst 1, 1) := by decide +kernel
theorem dX7_hasPerson_13 : decode cX7_hasPerson 13 = .ok (.goto 4, 3) := by decide +kernel
theorem dX7_hasPerson_16 : decode cX7_hasPerson 16 = .ok (.iconst 0, 1) := by decide +kernel
theorem dX7_hasPerson_17 : decode cX7_hasPerson 17 = .ok (.ireturn, 1) := by decide +kernel
theorem dX7_isSort_0 : decode cX7_isSort 0 = .ok (.iload_n 0, 1) := by decide +kernel
theorem dX7_isSort_1 : decode cX7_isSort 1 = .ok (.ifCond .lt 13, 3) := by decide +kernel
theorem dX7_isSort_4 : decode cX7_isSort 4 = .ok (.iload_n 0, 1) := by decide +kernel
theorem dX7_isSort_5 : decode cX7_isSort 5 = .ok (.bipush 6, 2) := by decide +kernel
theorem dX7_isSort_7 : decode cX7_isSort 7 = .ok (.if_icmp .ge 7, 3) := by decide +kernel
theorem dX7_isSort_10 : decode cX7_isSort 10 = .ok (.iconst 1, 1) := by decide +kernel
theorem dX7_isSort_11 : decode cX7_isSort 11 = .ok (.goto 4, 3) := by decide +kernel
theorem dX7_isSort_14 : decode cX7_isSort 14 = .ok (.iconst 0, 1) := by decide +kernel
theorem dX7_isSort_15 : decode cX7_isSort 15 = .ok (.ireturn, 1) := by decide +kernel
theorem dX7_isLabel_0 : decode cX7_isLabel 0 = .ok (.iload_n 0, 1) := by decide +kernel
theorem dX7_isLabel_1 : decode cX7_isLabel 1 = .ok (.invokestatic 74, 3) := by decide +kernel
theorem dX7_isLabel_4 : decode cX7_isLabel 4 = .ok (.ifCond .ne 9, 3) := by decide +kernel
theorem dX7_isLabel_7 : decode cX7_isLabel 7 = .ok (.iload_n 0, 1) := by decide +kernel
theorem dX7_isLabel_8 : decode cX7_isLabel 8 = .ok (.bipush 6, 2) := by decide +kernel
theorem dX7_isLabel_10 : decode cX7_isLabel 10 = .ok (.if_icmp .ne 7, 3) := by decide +kernel
theorem dX7_isLabel_13 : decode cX7_isLabel 13 = .ok (.iconst 1, 1) := by decide +kernel
theorem dX7_isLabel_14 : decode cX7_isLabel 14 = .ok (.goto 4, 3) := by decide +kernel
theorem dX7_isLabel_17 : decode cX7_isLabel 17 = .ok (.iconst 0, 1) := by decide +kernel
theorem dX7_isLabel_18 : decode cX7_isLabel 18 = .ok (.ireturn, 1) := by decide +kernel
theorem dX7_isKind_0 : decode cX7_isKind 0 = .ok (.iload_n 0, 1) := by decide +kernel
theorem dX7_isKind_1 : decode cX7_isKind 1 = .ok (.ifCond .lt 13, 3) := by decide +kernel
theorem dX7_isKind_4 : decode cX7_isKind 4 = .ok (.iload_n 0, 1) := by decide +kernel
theorem dX7_isKind_5 : decode cX7_isKind 5 = .ok (.bipush 6, 2) := by decide +kernel
theorem dX7_isKind_7 : decode cX7_isKind 7 = .ok (.if_icmp .ge 7, 3) := by decide +kernel
theorem dX7_isKind_10 : decode cX7_isKind 10 = .ok (.iconst 1, 1) := by decide +kernel
theorem dX7_isKind_11 : decode cX7_isKind 11 = .ok (.goto 4, 3) := by decide +kernel
theorem dX7_isKind_14 : decode cX7_isKind 14 = .ok (.iconst 0, 1) := by decide +kernel
theorem dX7_isKind_15 : decode cX7_isKind 15 = .ok (.ireturn, 1) := by decide +kernel
theorem dX7_isDigit_0 : decode cX7_isDigit 0 = .ok (.iload_n 0, 1) := by decide +kernel
theorem dX7_isDigit_1 : decode cX7_isDigit 1 = .ok (.ifCond .lt 13, 3) := by decide +kernel
theorem dX7_isDigit_4 : decode cX7_isDigit 4 = .ok (.iload_n 0, 1) := by decide +kernel
theorem dX7_isDigit_5 : decode cX7_isDigit 5 = .ok (.bipush 9, 2) := by decide +kernel
theorem dX7_isDigit_7 : decode cX7_isDigit 7 = .ok (.if_icmp .gt 7, 3) := by decide +kernel
theorem dX7_isDigit_10 : decode cX7_isDigit 10 = .ok (.iconst 1, 1) := by decide +kernel
theorem dX7_isDigit_11 : decode cX7_isDigit 11 = .ok (.goto 4, 3) := by decide +kernel
theorem dX7_isDigit_14 : decode cX7_isDigit 14 = .ok (.iconst 0, 1) := by decide +kernel
theorem dX7_isDigit_15 : decode cX7_isDigit 15 = .ok (.ireturn, 1) := by decide +kernel
theorem dX7_off_0 : decode cX7_off 0 = .ok (.iload_n 0, 1) := by decide +kernel
theorem dX7_off_1 : decode cX7_off 1 = .ok (.iload_n 1, 1) := by decide +kernel
theorem dX7_off_2 : decode cX7_off 2 = .ok (.isub, 1) := by decide +kernel
theorem dX7_off_3 : decode cX7_off 3 = .ok (.invokestatic 78, 3) := by decide +kernel
theorem dX7_off_6 : decode cX7_off 6 = .ok (.istore_n 2, 1) := by decide +kernel
theorem dX7_off_7 : decode cX7_off 7 = .ok (.iload_n 2, 1) := by decide +kernel
theorem dX7_off_8 : decode cX7_off 8 = .ok (.bipush 6, 2) := by decide +kernel
theorem dX7_off_10 : decode cX7_off 10 = .ok (.iload_n 2, 1) := by decide +kernel
theorem dX7_off_11 : decode cX7_off 11 = .ok (.isub, 1) := by decide +kernel
theorem dX7_off_12 : decode cX7_off 12 = .ok (.invokestatic 84, 3) := by decide +kernel
theorem dX7_off_15 : decode cX7_off 15 = .ok (.ireturn, 1) := by decide +kernel
theorem dX7_gained_0 : decode cX7_gained 0 = .ok (.aload_n 0, 1) := by decide +kernel
theorem dX7_gained_1 : decode cX7_gained 1 = .ok (.getfield 43, 3) := by decide +kernel
theorem dX7_gained_4 : decode cX7_gained 4 = .ok (.iload_n 1, 1) := by decide +kernel
theorem dX7_gained_5 : decode cX7_gained 5 = .ok (.iaload, 1) := by decide +kernel
theorem dX7_gained_6 : decode cX7_gained 6 = .ok (.bipush 6, 2) := by decide +kernel
theorem dX7_gained_8 : decode cX7_gained 8 = .ok (.if_icmp .ne 7, 3) := by decide +kernel
theorem dX7_gained_11 : decode cX7_gained 11 = .ok (.iconst 1, 1) := by decide +kernel
theorem dX7_gained_12 : decode cX7_gained 12 = .ok (.goto 18, 3) := by decide +kernel
theorem dX7_gained_15 : decode cX7_gained 15 = .ok (.aload_n 0, 1) := by decide +kernel
theorem dX7_gained_16 : decode cX7_gained 16 = .ok (.getfield 40, 3) := by decide +kernel
theorem dX7_gained_19 : decode cX7_gained 19 = .ok (.iload_n 1, 1) := by decide +kernel
theorem dX7_gained_20 : decode cX7_gained 20 = .ok (.iaload, 1) := by decide +kernel
theorem dX7_gained_21 : decode cX7_gained 21 = .ok (.aload_n 0, 1) := by decide +kernel
theorem dX7_gained_22 : decode cX7_gained 22 = .ok (.getfield 43, 3) := by decide +kernel
theorem dX7_gained_25 : decode cX7_gained 25 = .ok (.iload_n 1, 1) := by decide +kernel
theorem dX7_gained_26 : decode cX7_gained 26 = .ok (.iaload, 1) := by decide +kernel
theorem dX7_gained_27 : decode cX7_gained 27 = .ok (.invokestatic 88, 3) := by decide +kernel
theorem dX7_gained_30 : decode cX7_gained 30 = .ok (.istore_n 3, 1) := by decide +kernel
theorem dX7_gained_31 : decode cX7_gained 31 = .ok (.aload_n 0, 1) := by decide +kernel
theorem dX7_gained_32 : decode cX7_gained 32 = .ok (.getfield 40, 3) := by decide +kernel
theorem dX7_gained_35 : decode cX7_gained 35 = .ok (.iload_n 1, 1) := by decide +kernel
theorem dX7_gained_36 : decode cX7_gained 36 = .ok (.iaload, 1) := by decide +kernel
theorem dX7_gained_37 : decode cX7_gained 37 = .ok (.aload_n 0, 1) := by decide +kernel
theorem dX7_gained_38 : decode cX7_gained 38 = .ok (.getfield 52, 3) := by decide +kernel
theorem dX7_gained_41 : decode cX7_gained 41 = .ok (.iload_n 2, 1) := by decide +kernel
theorem dX7_gained_42 : decode cX7_gained 42 = .ok (.iaload, 1) := by decide +kernel
theorem dX7_gained_43 : decode cX7_gained 43 = .ok (.invokestatic 88, 3) := by decide +kernel
theorem dX7_gained_46 : decode cX7_gained 46 = .ok (.istore 4, 2) := by decide +kernel
theorem dX7_gained_48 : decode cX7_gained 48 = .ok (.aload_n 0, 1) := by decide +kernel
theorem dX7_gained_49 : decode cX7_gained 49 = .ok (.getfield 27, 3) := by decide +kernel
theorem dX7_gained_52 : decode cX7_gained 52 = .ok (.aload_n 0, 1) := by decide +kernel
theorem dX7_gained_53 : decode cX7_gained 53 = .ok (.getfield 33, 3) := by decide +kernel
theorem dX7_gained_56 : decode cX7_gained 56 = .ok (.iload_n 1, 1) := by decide +kernel
theorem dX7_gained_57 : decode cX7_gained 57 = .ok (.iaload, 1) := by decide +kernel
theorem dX7_gained_58 : decode cX7_gained 58 = .ok (.aaload, 1) := by decide +kernel
theorem dX7_gained_59 : decode cX7_gained 59 = .ok (.aload_n 0, 1) := by decide +kernel
theorem dX7_gained_60 : decode cX7_gained 60 = .ok (.getfield 37, 3) := by decide +kernel
theorem dX7_gained_63 : decode cX7_gained 63 = .ok (.iload_n 1, 1) := by decide +kernel
theorem dX7_gained_64 : decode cX7_gained 64 = .ok (.iaload, 1) := by decide +kernel
theorem dX7_gained_65 : decode cX7_gained 65 = .ok (.iload_n 3, 1) := by decide +kernel
theorem dX7_gained_66 : decode cX7_gained 66 = .ok (.iload 4, 2) := by decide +kernel
theorem dX7_gained_68 : decode cX7_gained 68 = .ok (.invokevirtual 91, 3) := by decide +kernel
theorem dX7_gained_71 : decode cX7_gained 71 = .ok (.ireturn, 1) := by decide +kernel
theorem dX7_canOpen_0 : decode cX7_canOpen 0 = .ok (.aload_n 0, 1) := by decide +kernel
theorem dX7_canOpen_1 : decode cX7_canOpen 1 = .ok (.getfield 49, 3) := by decide +kernel
theorem dX7_canOpen_4 : decode cX7_canOpen 4 = .ok (.iload_n 2, 1) := by decide +kernel
theorem dX7_canOpen_5 : decode cX7_canOpen 5 = .ok (.iaload, 1) := by decide +kernel
theorem dX7_canOpen_6 : decode cX7_canOpen 6 = .ok (.iload_n 1, 1) := by decide +kernel
theorem dX7_canOpen_7 : decode cX7_canOpen 7 = .ok (.if_icmp .ne 16, 3) := by decide +kernel
theorem dX7_canOpen_10 : decode cX7_canOpen 10 = .ok (.aload_n 0, 1) := by decide +kernel
theorem dX7_canOpen_11 : decode cX7_canOpen 11 = .ok (.getfield 46, 3) := by decide +kernel
theorem dX7_canOpen_14 : decode cX7_canOpen 14 = .ok (.iload_n 2, 1) := by decide +kernel
theorem dX7_canOpen_15 : decode cX7_canOpen 15 = .ok (.iaload, 1) := by decide +kernel
theorem dX7_canOpen_16 : decode cX7_canOpen 16 = .ok (.ifCond .le 7, 3) := by decide +kernel
theorem dX7_canOpen_19 : decode cX7_canOpen 19 = .ok (.iconst 1, 1) := by decide +kernel
theorem dX7_canOpen_20 : decode cX7_canOpen 20 = .ok (.goto 4, 3) := by decide +kernel
theorem dX7_canOpen_23 : decode cX7_canOpen 23 = .ok (.iconst 0, 1) := by decide +kernel
theorem dX7_canOpen_24 : decode cX7_canOpen 24 = .ok (.ireturn, 1) := by decide +kernel
theorem dX7_opened_0 : decode cX7_opened 0 = .ok (.bipush (-9), 2) := by decide +kernel
theorem dX7_opened_2 : decode cX7_opened 2 = .ok (.istore_n 2, 1) := by decide +kernel
theorem dX7_opened_3 : decode cX7_opened 3 = .ok (.bipush 6, 2) := by decide +kernel
theorem dX7_opened_5 : decode cX7_opened 5 = .ok (.istore_n 3, 1) := by decide +kernel
theorem dX7_opened_6 : decode cX7_opened 6 = .ok (.iconst 0, 1) := by decide +kernel
theorem dX7_opened_7 : decode cX7_opened 7 = .ok (.istore 4, 2) := by decide +kernel
theorem dX7_opened_9 : decode cX7_opened 9 = .ok (.iload 4, 2) := by decide +kernel
theorem dX7_opened_11 : decode cX7_opened 11 = .ok (.aload_n 0, 1) := by decide +kernel
theorem dX7_opened_12 : decode cX7_opened 12 = .ok (.getfield 58, 3) := by decide +kernel
theorem dX7_opened_15 : decode cX7_opened 15 = .ok (.if_icmp .ge 65, 3) := by decide +kernel
theorem dX7_opened_18 : decode cX7_opened 18 = .ok (.aload_n 0, 1) := by decide +kernel
theorem dX7_opened_19 : decode cX7_opened 19 = .ok (.iload_n 1, 1) := by decide +kernel
theorem dX7_opened_20 : decode cX7_opened 20 = .ok (.iload 4, 2) := by decide +kernel
theorem dX7_opened_22 : decode cX7_opened 22 = .ok (.invokevirtual 95, 3) := by decide +kernel
theorem dX7_opened_25 : decode cX7_opened 25 = .ok (.ifCond .eq 49, 3) := by decide +kernel
theorem dX7_opened_28 : decode cX7_opened 28 = .ok (.aload_n 0, 1) := by decide +kernel
theorem dX7_opened_29 : decode cX7_opened 29 = .ok (.getfield 43, 3) := by decide +kernel
theorem dX7_opened_32 : decode cX7_opened 32 = .ok (.iload 4, 2) := by decide +kernel
theorem dX7_opened_34 : decode cX7_opened 34 = .ok (.iaload, 1) := by decide +kernel
theorem dX7_opened_35 : decode cX7_opened 35 = .ok (.bipush 6, 2) := by decide +kernel
theorem dX7_opened_37 : decode cX7_opened 37 = .ok (.if_icmp .ne 7, 3) := by decide +kernel
theorem dX7_opened_40 : decode cX7_opened 40 = .ok (.iconst 2, 1) := by decide +kernel
theorem dX7_opened_41 : decode cX7_opened 41 = .ok (.goto 19, 3) := by decide +kernel
theorem dX7_opened_44 : decode cX7_opened 44 = .ok (.aload_n 0, 1) := by decide +kernel
theorem dX7_opened_45 : decode cX7_opened 45 = .ok (.getfield 43, 3) := by decide +kernel
theorem dX7_opened_48 : decode cX7_opened 48 = .ok (.iload 4, 2) := by decide +kernel
theorem dX7_opened_50 : decode cX7_opened 50 = .ok (.iaload, 1) := by decide +kernel
theorem dX7_opened_51 : decode cX7_opened 51 = .ok (.aload_n 0, 1) := by decide +kernel
theorem dX7_opened_52 : decode cX7_opened 52 = .ok (.getfield 52, 3) := by decide +kernel
theorem dX7_opened_55 : decode cX7_opened 55 = .ok (.iload_n 1, 1) := by decide +kernel
theorem dX7_opened_56 : decode cX7_opened 56 = .ok (.iaload, 1) := by decide +kernel
theorem dX7_opened_57 : decode cX7_opened 57 = .ok (.invokestatic 88, 3) := by decide +kernel
theorem dX7_opened_60 : decode cX7_opened 60 = .ok (.istore 5, 2) := by decide +kernel
theorem dX7_opened_62 : decode cX7_opened 62 = .ok (.iload 5, 2) := by decide +kernel
theorem dX7_opened_64 : decode cX7_opened 64 = .ok (.iload_n 3, 1) := by decide +kernel
theorem dX7_opened_65 : decode cX7_opened 65 = .ok (.if_icmp .ge 9, 3) := by decide +kernel
theorem dX7_opened_68 : decode cX7_opened 68 = .ok (.iload 5, 2) := by decide +kernel
theorem dX7_opened_70 : decode cX7_opened 70 = .ok (.istore_n 3, 1) := by decide +kernel
theorem dX7_opened_71 : decode cX7_opened 71 = .ok (.iload 4, 2) := by decide +kernel
theorem dX7_opened_73 : decode cX7_opened 73 = .ok (.istore_n 2, 1) := by decide +kernel
theorem dX7_opened_74 : decode cX7_opened 74 = .ok (.iinc 4 1, 3) := by decide +kernel
theorem dX7_opened_77 : decode cX7_opened 77 = .ok (.goto (-68), 3) := by decide +kernel
theorem dX7_opened_80 : decode cX7_opened 80 = .ok (.iload_n 2, 1) := by decide +kernel
theorem dX7_opened_81 : decode cX7_opened 81 = .ok (.ireturn, 1) := by decide +kernel
theorem dX7_pass_0 : decode cX7_pass 0 = .ok (.iconst 0, 1) := by decide +kernel
theorem dX7_pass_1 : decode cX7_pass 1 = .ok (.istore_n 2, 1) := by decide +kernel
theorem dX7_pass_2 : decode cX7_pass 2 = .ok (.iload_n 2, 1) := by decide +kernel
theorem dX7_pass_3 : decode cX7_pass 3 = .ok (.aload_n 0, 1) := by decide +kernel
theorem dX7_pass_4 : decode cX7_pass 4 = .ok (.getfield 62, 3) := by decide +kernel
theorem dX7_pass_7 : decode cX7_pass 7 = .ok (.if_icmp .ge 15, 3) := by decide +kernel
theorem dX7_pass_10 : decode cX7_pass 10 = .ok (.aload_n 0, 1) := by decide +kernel
theorem dX7_pass_11 : decode cX7_pass 11 = .ok (.iload_n 2, 1) := by decide +kernel
theorem dX7_pass_12 : decode cX7_pass 12 = .ok (.iload_n 1, 1) := by decide +kernel
theorem dX7_pass_13 : decode cX7_pass 13 = .ok (.invokevirtual 99, 3) := by decide +kernel
theorem dX7_pass_16 : decode cX7_pass 16 = .ok (.iinc 2 1, 3) := by decide +kernel
theorem dX7_pass_19 : decode cX7_pass 19 = .ok (.goto (-17), 3) := by decide +kernel
theorem dX7_pass_22 : decode cX7_pass 22 = .ok (.aload_n 0, 1) := by decide +kernel
theorem dX7_pass_23 : decode cX7_pass 23 = .ok (.dup, 1) := by decide +kernel
theorem dX7_pass_24 : decode cX7_pass 24 = .ok (.getfield 65, 3) := by decide +kernel
theorem dX7_pass_27 : decode cX7_pass 27 = .ok (.iload_n 1, 1) := by decide +kernel
theorem dX7_pass_28 : decode cX7_pass 28 = .ok (.iadd, 1) := by decide +kernel
theorem dX7_pass_29 : decode cX7_pass 29 = .ok (.putfield 65, 3) := by decide +kernel
theorem dX7_pass_32 : decode cX7_pass 32 = .ok (.return_, 1) := by decide +kernel
theorem dX7_passFor_0 : decode cX7_passFor 0 = .ok (.iconst 0, 1) := by decide +kernel
theorem dX7_passFor_1 : decode cX7_passFor 1 = .ok (.istore_n 3, 1) := by decide +kernel
theorem dX7_passFor_2 : decode cX7_passFor 2 = .ok (.iload_n 3, 1) := by decide +kernel
theorem dX7_passFor_3 : decode cX7_passFor 3 = .ok (.iload_n 2, 1) := by decide +kernel
theorem dX7_passFor_4 : decode cX7_passFor 4 = .ok (.if_icmp .ge 70, 3) := by decide +kernel
theorem dX7_passFor_7 : decode cX7_passFor 7 = .ok (.aload_n 0, 1) := by decide +kernel
theorem dX7_passFor_8 : decode cX7_passFor 8 = .ok (.iload_n 1, 1) := by decide +kernel
theorem dX7_passFor_9 : decode cX7_passFor 9 = .ok (.invokevirtual 103, 3) := by decide +kernel
theorem dX7_passFor_12 : decode cX7_passFor 12 = .ok (.istore 4, 2) := by decide +kernel
theorem dX7_passFor_14 : decode cX7_passFor 14 = .ok (.iconst (-1), 1) := by decide +kernel
theorem dX7_passFor_15 : decode cX7_passFor 15 = .ok (.istore 5, 2) := by decide +kernel
theorem dX7_passFor_17 : decode cX7_passFor 17 = .ok (.iload 4, 2) := by decide +kernel
theorem dX7_passFor_19 : decode cX7_passFor 19 = .ok (.bipush (-9), 2) := by decide +kernel
theorem dX7_passFor_21 : decode cX7_passFor 21 = .ok (.if_icmp .eq 23, 3) := by decide +kernel
theorem dX7_passFor_24 : decode cX7_passFor 24 = .ok (.aload_n 0, 1) := by decide +kernel
theorem dX7_passFor_25 : decode cX7_passFor 25 = .ok (.iload 4, 2) := by decide +kernel
theorem dX7_passFor_27 : decode cX7_passFor 27 = .ok (.iload_n 1, 1) := by decide +kernel
theorem dX7_passFor_28 : decode cX7_passFor 28 = .ok (.invokevirtual 106, 3) := by decide +kernel
theorem dX7_passFor_31 : decode cX7_passFor 31 = .ok (.istore 5, 2) := by decide +kernel
theorem dX7_passFor_33 : decode cX7_passFor 33 = .ok (.aload_n 0, 1) := by decide +kernel
theorem dX7_passFor_34 : decode cX7_passFor 34 = .ok (.getfield 46, 3) := by decide +kernel
theorem dX7_passFor_37 : decode cX7_passFor 37 = .ok (.iload 4, 2) := by decide +kernel
theorem dX7_passFor_39 : decode cX7_passFor 39 = .ok (.dup2, 1) := by decide +kernel
theorem dX7_passFor_40 : decode cX7_passFor 40 = .ok (.iaload, 1) := by decide +kernel
theorem dX7_passFor_41 : decode cX7_passFor 41 = .ok (.iconst 1, 1) := by decide +kernel
theorem dX7_passFor_42 : decode cX7_passFor 42 = .ok (.isub, 1) := by decide +kernel
theorem dX7_passFor_43 : decode cX7_passFor 43 = .ok (.iastore, 1) := by decide +kernel
theorem dX7_passFor_44 : decode cX7_passFor 44 = .ok (.aload_n 0, 1) := by decide +kernel
theorem dX7_passFor_45 : decode cX7_passFor 45 = .ok (.getfield 55, 3) := by decide +kernel
theorem dX7_passFor_48 : decode cX7_passFor 48 = .ok (.iload_n 1, 1) := by decide +kernel
theorem dX7_passFor_49 : decode cX7_passFor 49 = .ok (.iconst 0, 1) := by decide +kernel
theorem dX7_passFor_50 : decode cX7_passFor 50 = .ok (.bipush 99, 2) := by decide +kernel
theorem dX7_passFor_52 : decode cX7_passFor 52 = .ok (.aload_n 0, 1) := by decide +kernel
theorem dX7_passFor_53 : decode cX7_passFor 53 = .ok (.getfield 55, 3) := by decide +kernel
theorem dX7_passFor_56 : decode cX7_passFor 56 = .ok (.iload_n 1, 1) := by decide +kernel
theorem dX7_passFor_57 : decode cX7_passFor 57 = .ok (.iaload, 1) := by decide +kernel
theorem dX7_passFor_58 : decode cX7_passFor 58 = .ok (.iload 5, 2) := by decide +kernel
theorem dX7_passFor_60 : decode cX7_passFor 60 = .ok (.iadd, 1) := by decide +kernel
theorem dX7_passFor_61 : decode cX7_passFor 61 = .ok (.invokestatic 84, 3) := by decide +kernel
theorem dX7_passFor_64 : decode cX7_passFor 64 = .ok (.invokestatic 109, 3) := by decide +kernel
theorem dX7_passFor_67 : decode cX7_passFor 67 = .ok (.iastore, 1) := by decide +kernel
theorem dX7_passFor_68 : decode cX7_passFor 68 = .ok (.iinc 3 1, 3) := by decide +kernel
theorem dX7_passFor_71 : decode cX7_passFor 71 = .ok (.goto (-69), 3) := by decide +kernel
theorem dX7_passFor_74 : decode cX7_passFor 74 = .ok (.return_, 1) := by decide +kernel
theorem dX7_labelsOneOn_0 : decode cX7_labelsOneOn 0 = .ok (.iconst 0, 1) := by decide +kernel
theorem dX7_labelsOneOn_1 : decode cX7_labelsOneOn 1 = .ok (.istore_n 1, 1) := by decide +kernel
theorem dX7_labelsOneOn_2 : decode cX7_labelsOneOn 2 = .ok (.iload_n 1, 1) := by decide +kernel
theorem dX7_labelsOneOn_3 : decode cX7_labelsOneOn 3 = .ok (.aload_n 0, 1) := by decide +kernel
theorem dX7_labelsOneOn_4 : decode cX7_labelsOneOn 4 = .ok (.getfield 58, 3) := by decide +kernel
theorem dX7_labelsOneOn_7 : decode cX7_labelsOneOn 7 = .ok (.if_icmp .ge 37, 3) := by decide +kernel
theorem dX7_labelsOneOn_10 : decode cX7_labelsOneOn 10 = .ok (.aload_n 0, 1) := by decide +kernel
theorem dX7_labelsOneOn_11 : decode cX7_labelsOneOn 11 = .ok (.getfield 43, 3) := by decide +kernel
theorem dX7_labelsOneOn_14 : decode cX7_labelsOneOn 14 = .ok (.iload_n 1, 1) := by decide +kernel
theorem dX7_labelsOneOn_15 : decode cX7_labelsOneOn 15 = .ok (.iaload, 1) := by decide +kernel
theorem dX7_labelsOneOn_16 : decode cX7_labelsOneOn 16 = .ok (.bipush 6, 2) := by decide +kernel
theorem dX7_labelsOneOn_18 : decode cX7_labelsOneOn 18 = .ok (.if_icmp .eq 20, 3) := by decide +kernel
theorem dX7_labelsOneOn_21 : decode cX7_labelsOneOn 21 = .ok (.aload_n 0, 1) := by decide +kernel
theorem dX7_labelsOneOn_22 : decode cX7_labelsOneOn 22 = .ok (.getfield 43, 3) := by decide +kernel
theorem dX7_labelsOneOn_25 : decode cX7_labelsOneOn 25 = .ok (.iload_n 1, 1) := by decide +kernel
theorem dX7_labelsOneOn_26 : decode cX7_labelsOneOn 26 = .ok (.aload_n 0, 1) := by decide +kernel
theorem dX7_labelsOneOn_27 : decode cX7_labelsOneOn 27 = .ok (.getfield 43, 3) := by decide +kernel
theorem dX7_labelsOneOn_30 : decode cX7_labelsOneOn 30 = .ok (.iload_n 1, 1) := by decide +kernel
theorem dX7_labelsOneOn_31 : decode cX7_labelsOneOn 31 = .ok (.iaload, 1) := by decide +kernel
theorem dX7_labelsOneOn_32 : decode cX7_labelsOneOn 32 = .ok (.iconst 1, 1) := by decide +kernel
theorem dX7_labelsOneOn_33 : decode cX7_labelsOneOn 33 = .ok (.iadd, 1) := by decide +kernel
theorem dX7_labelsOneOn_34 : decode cX7_labelsOneOn 34 = .ok (.bipush 6, 2) := by decide +kernel
theorem dX7_labelsOneOn_36 : decode cX7_labelsOneOn 36 = .ok (.irem, 1) := by decide +kernel
theorem dX7_labelsOneOn_37 : decode cX7_labelsOneOn 37 = .ok (.iastore, 1) := by decide +kernel
theorem dX7_labelsOneOn_38 : decode cX7_labelsOneOn 38 = .ok (.iinc 1 1, 3) := by decide +kernel
theorem dX7_labelsOneOn_41 : decode cX7_labelsOneOn 41 = .ok (.goto (-39), 3) := by decide +kernel
theorem dX7_labelsOneOn_44 : decode cX7_labelsOneOn 44 = .ok (.return_, 1) := by decide +kernel
theorem dX7_allGrace_0 : decode cX7_allGrace 0 = .ok (.iconst 0, 1) := by decide +kernel
theorem dX7_allGrace_1 : decode cX7_allGrace 1 = .ok (.istore_n 1, 1) := by decide +kernel
theorem dX7_allGrace_2 : decode cX7_allGrace 2 = .ok (.iconst 0, 1) := by decide +kernel
theorem dX7_allGrace_3 : decode cX7_allGrace 3 = .ok (.istore_n 2, 1) := by decide +kernel
theorem dX7_allGrace_4 : decode cX7_allGrace 4 = .ok (.iload_n 2, 1) := by decide +kernel
theorem dX7_allGrace_5 : decode cX7_allGrace 5 = .ok (.aload_n 0, 1) := by decide +kernel
theorem dX7_allGrace_6 : decode cX7_allGrace 6 = .ok (.getfield 62, 3) := by decide +kernel
theorem dX7_allGrace_9 : decode cX7_allGrace 9 = .ok (.if_icmp .ge 18, 3) := by decide +kernel
theorem dX7_allGrace_12 : decode cX7_allGrace 12 = .ok (.iload_n 1, 1) := by decide +kernel
theorem dX7_allGrace_13 : decode cX7_allGrace 13 = .ok (.aload_n 0, 1) := by decide +kernel
theorem dX7_allGrace_14 : decode cX7_allGrace 14 = .ok (.getfield 55, 3) := by decide +kernel
theorem dX7_allGrace_17 : decode cX7_allGrace 17 = .ok (.iload_n 2, 1) := by decide +kernel
theorem dX7_allGrace_18 : decode cX7_allGrace 18 = .ok (.iaload, 1) := by decide +kernel
theorem dX7_allGrace_19 : decode cX7_allGrace 19 = .ok (.iadd, 1) := by decide +kernel
theorem dX7_allGrace_20 : decode cX7_allGrace 20 = .ok (.istore_n 1, 1) := by decide +kernel
theorem dX7_allGrace_21 : decode cX7_allGrace 21 = .ok (.iinc 2 1, 3) := by decide +kernel
theorem dX7_allGrace_24 : decode cX7_allGrace 24 = .ok (.goto (-20), 3) := by decide +kernel
theorem dX7_allGrace_27 : decode cX7_allGrace 27 = .ok (.iload_n 1, 1) := by decide +kernel
theorem dX7_allGrace_28 : decode cX7_allGrace 28 = .ok (.ireturn, 1) := by decide +kernel
theorem dX7_withoutGrace_0 : decode cX7_withoutGrace 0 = .ok (.iconst 0, 1) := by decide +kernel
theorem dX7_withoutGrace_1 : decode cX7_withoutGrace 1 = .ok (.istore_n 1, 1) := by decide +kernel
theorem dX7_withoutGrace_2 : decode cX7_withoutGrace 2 = .ok (.iconst 0, 1) := by decide +kernel
theorem dX7_withoutGrace_3 : decode cX7_withoutGrace 3 = .ok (.istore_n 2, 1) := by decide +kernel
theorem dX7_withoutGrace_4 : decode cX7_withoutGrace 4 = .ok (.iload_n 2, 1) := by decide +kernel
theorem dX7_withoutGrace_5 : decode cX7_withoutGrace 5 = .ok (.aload_n 0, 1) := by decide +kernel
theorem dX7_withoutGrace_6 : decode cX7_withoutGrace 6 = .ok (.getfield 62, 3) := by decide +kernel
theorem dX7_withoutGrace_9 : decode cX7_withoutGrace 9 = .ok (.if_icmp .ge 21, 3) := by decide +kernel
theorem dX7_withoutGrace_12 : decode cX7_withoutGrace 12 = .ok (.aload_n 0, 1) := by decide +kernel
theorem dX7_withoutGrace_13 : decode cX7_withoutGrace 13 = .ok (.getfield 55, 3) := by decide +kernel
theorem dX7_withoutGrace_16 : decode cX7_withoutGrace 16 = .ok (.iload_n 2, 1) := by decide +kernel
theorem dX7_withoutGrace_17 : decode cX7_withoutGrace 17 = .ok (.iaload, 1) := by decide +kernel
theorem dX7_withoutGrace_18 : decode cX7_withoutGrace 18 = .ok (.ifCond .ne 6, 3) := by decide +kernel
theorem dX7_withoutGrace_21 : decode cX7_withoutGrace 21 = .ok (.iinc 1 1, 3) := by decide +kernel
theorem dX7_withoutGrace_24 : decode cX7_withoutGrace 24 = .ok (.iinc 2 1, 3) := by decide +kernel
theorem dX7_withoutGrace_27 : decode cX7_withoutGrace 27 = .ok (.goto (-23), 3) := by decide +kernel
theorem dX7_withoutGrace_30 : decode cX7_withoutGrace 30 = .ok (.iload_n 1, 1) := by decide +kernel
theorem dX7_withoutGrace_31 : decode cX7_withoutGrace 31 = .ok (.ireturn, 1) := by decide +kernel
theorem dX7_spoons_0 : decode cX7_spoons 0 = .ok (.iconst 0, 1) := by decide +kernel
theorem dX7_spoons_1 : decode cX7_spoons 1 = .ok (.istore_n 1, 1) := by decide +kernel
theorem dX7_spoons_2 : decode cX7_spoons 2 = .ok (.iconst 0, 1) := by decide +kernel
theorem dX7_spoons_3 : decode cX7_spoons 3 = .ok (.istore_n 2, 1) := by decide +kernel
theorem dX7_spoons_4 : decode cX7_spoons 4 = .ok (.iload_n 2, 1) := by decide +kernel
theorem dX7_spoons_5 : decode cX7_spoons 5 = .ok (.aload_n 0, 1) := by decide +kernel
theorem dX7_spoons_6 : decode cX7_spoons 6 = .ok (.getfield 58, 3) := by decide +kernel
theorem dX7_spoons_9 : decode cX7_spoons 9 = .ok (.if_icmp .ge 18, 3) := by decide +kernel
theorem dX7_spoons_12 : decode cX7_spoons 12 = .ok (.iload_n 1, 1) := by decide +kernel
theorem dX7_spoons_13 : decode cX7_spoons 13 = .ok (.aload_n 0, 1) := by decide +kernel
theorem dX7_spoons_14 : decode cX7_spoons 14 = .ok (.getfield 46, 3) := by decide +kernel
theorem dX7_spoons_17 : decode cX7_spoons 17 = .ok (.iload_n 2, 1) := by decide +kernel
theorem dX7_spoons_18 : decode cX7_spoons 18 = .ok (.iaload, 1) := by decide +kernel
theorem dX7_spoons_19 : decode cX7_spoons 19 = .ok (.iadd, 1) := by decide +kernel
theorem dX7_spoons_20 : decode cX7_spoons 20 = .ok (.istore_n 1, 1) := by decide +kernel
theorem dX7_spoons_21 : decode cX7_spoons 21 = .ok (.iinc 2 1, 3) := by decide +kernel
theorem dX7_spoons_24 : decode cX7_spoons 24 = .ok (.goto (-20), 3) := by decide +kernel
theorem dX7_spoons_27 : decode cX7_spoons 27 = .ok (.iload_n 1, 1) := by decide +kernel
theorem dX7_spoons_28 : decode cX7_spoons 28 = .ok (.ireturn, 1) := by decide +kernel
theorem dX7_potsOf_0 : decode cX7_potsOf 0 = .ok (.iconst 0, 1) := by decide +kernel
theorem dX7_potsOf_1 : decode cX7_potsOf 1 = .ok (.istore_n 2, 1) := by decide +kernel
theorem dX7_potsOf_2 : decode cX7_potsOf 2 = .ok (.iconst 0, 1) := by decide +kernel
theorem dX7_potsOf_3 : decode cX7_potsOf 3 = .ok (.istore_n 3, 1) := by decide +kernel
theorem dX7_potsOf_4 : decode cX7_potsOf 4 = .ok (.iload_n 3, 1) := by decide +kernel
theorem dX7_potsOf_5 : decode cX7_potsOf 5 = .ok (.aload_n 0, 1) := by decide +kernel
theorem dX7_potsOf_6 : decode cX7_potsOf 6 = .ok (.getfield 58, 3) := by decide +kernel
theorem dX7_potsOf_9 : decode cX7_potsOf 9 = .ok (.if_icmp .ge 25, 3) := by decide +kernel
theorem dX7_potsOf_12 : decode cX7_potsOf 12 = .ok (.aload_n 0, 1) := by decide +kernel
theorem dX7_potsOf_13 : decode cX7_potsOf 13 = .ok (.getfield 49, 3) := by decide +kernel
theorem dX7_potsOf_16 : decode cX7_potsOf 16 = .ok (.iload_n 3, 1) := by decide +kernel
theorem dX7_potsOf_17 : decode cX7_potsOf 17 = .ok (.iaload, 1) := by decide +kernel
theorem dX7_potsOf_18 : decode cX7_potsOf 18 = .ok (.iload_n 1, 1) := by decide +kernel
theorem dX7_potsOf_19 : decode cX7_potsOf 19 = .ok (.if_icmp .ne 9, 3) := by decide +kernel
theorem dX7_potsOf_22 : decode cX7_potsOf 22 = .ok (.iload_n 2, 1) := by decide +kernel
theorem dX7_potsOf_23 : decode cX7_potsOf 23 = .ok (.iconst 1, 1) := by decide +kernel
theorem dX7_potsOf_24 : decode cX7_potsOf 24 = .ok (.iload_n 3, 1) := by decide +kernel
theorem dX7_potsOf_25 : decode cX7_potsOf 25 = .ok (.ishl, 1) := by decide +kernel
theorem dX7_potsOf_26 : decode cX7_potsOf 26 = .ok (.ior, 1) := by decide +kernel
theorem dX7_potsOf_27 : decode cX7_potsOf 27 = .ok (.istore_n 2, 1) := by decide +kernel
theorem dX7_potsOf_28 : decode cX7_potsOf 28 = .ok (.iinc 3 1, 3) := by decide +kernel
theorem dX7_potsOf_31 : decode cX7_potsOf 31 = .ok (.goto (-27), 3) := by decide +kernel
theorem dX7_potsOf_34 : decode cX7_potsOf 34 = .ok (.iload_n 2, 1) := by decide +kernel
theorem dX7_potsOf_35 : decode cX7_potsOf 35 = .ok (.ireturn, 1) := by decide +kernel
theorem dX7_honestPots_0 : decode cX7_honestPots 0 = .ok (.iconst 0, 1) := by decide +kernel
theorem dX7_honestPots_1 : decode cX7_honestPots 1 = .ok (.istore_n 1, 1) := by decide +kernel
theorem dX7_honestPots_2 : decode cX7_honestPots 2 = .ok (.iconst 0, 1) := by decide +kernel
theorem dX7_honestPots_3 : decode cX7_honestPots 3 = .ok (.istore_n 2, 1) := by decide +kernel
theorem dX7_honestPots_4 : decode cX7_honestPots 4 = .ok (.iload_n 2, 1) := by decide +kernel
theorem dX7_honestPots_5 : decode cX7_honestPots 5 = .ok (.aload_n 0, 1) := by decide +kernel
theorem dX7_honestPots_6 : decode cX7_honestPots 6 = .ok (.getfield 58, 3) := by decide +kernel
theorem dX7_honestPots_9 : decode cX7_honestPots 9 = .ok (.if_icmp .ge 30, 3) := by decide +kernel
theorem dX7_honestPots_12 : decode cX7_honestPots 12 = .ok (.aload_n 0, 1) := by decide +kernel
theorem dX7_honestPots_13 : decode cX7_honestPots 13 = .ok (.getfield 43, 3) := by decide +kernel
theorem dX7_honestPots_16 : decode cX7_honestPots 16 = .ok (.iload_n 2, 1) := by decide +kernel
theorem dX7_honestPots_17 : decode cX7_honestPots 17 = .ok (.iaload, 1) := by decide +kernel
theorem dX7_honestPots_18 : decode cX7_honestPots 18 = .ok (.aload_n 0, 1) := by decide +kernel
theorem dX7_honestPots_19 : decode cX7_honestPots 19 = .ok (.getfield 40, 3) := by decide +kernel
theorem dX7_honestPots_22 : decode cX7_honestPots 22 = .ok (.iload_n 2, 1) := by decide +kernel
theorem dX7_honestPots_23 : decode cX7_honestPots 23 = .ok (.iaload, 1) := by decide +kernel
theorem dX7_honestPots_24 : decode cX7_honestPots 24 = .ok (.if_icmp .ne 9, 3) := by decide +kernel
theorem dX7_honestPots_27 : decode cX7_honestPots 27 = .ok (.iload_n 1, 1) := by decide +kernel
theorem dX7_honestPots_28 : decode cX7_honestPots 28 = .ok (.iconst 1, 1) := by decide +kernel
theorem dX7_honestPots_29 : decode cX7_honestPots 29 = .ok (.iload_n 2, 1) := by decide +kernel
theorem dX7_honestPots_30 : decode cX7_honestPots 30 = .ok (.ishl, 1) := by decide +kernel
theorem dX7_honestPots_31 : decode cX7_honestPots 31 = .ok (.ior, 1) := by decide +kernel
theorem dX7_honestPots_32 : decode cX7_honestPots 32 = .ok (.istore_n 1, 1) := by decide +kernel
theorem dX7_honestPots_33 : decode cX7_honestPots 33 = .ok (.iinc 2 1, 3) := by decide +kernel
theorem dX7_honestPots_36 : decode cX7_honestPots 36 = .ok (.goto (-32), 3) := by decide +kernel
theorem dX7_honestPots_39 : decode cX7_honestPots 39 = .ok (.iload_n 1, 1) := by decide +kernel
theorem dX7_honestPots_40 : decode cX7_honestPots 40 = .ok (.ireturn, 1) := by decide +kernel
theorem dX7_hopefulPots_0 : decode cX7_hopefulPots 0 = .ok (.iconst 0, 1) := by decide +kernel
theorem dX7_hopefulPots_1 : decode cX7_hopefulPots 1 = .ok (.istore_n 1, 1) := by decide +kernel
theorem dX7_hopefulPots_2 : decode cX7_hopefulPots 2 = .ok (.iconst 0, 1) := by decide +kernel
theorem dX7_hopefulPots_3 : decode cX7_hopefulPots 3 = .ok (.istore_n 2, 1) := by decide +kernel
theorem dX7_hopefulPots_4 : decode cX7_hopefulPots 4 = .ok (.iload_n 2, 1) := by decide +kernel
theorem dX7_hopefulPots_5 : decode cX7_hopefulPots 5 = .ok (.aload_n 0, 1) := by decide +kernel
theorem dX7_hopefulPots_6 : decode cX7_hopefulPots 6 = .ok (.getfield 58, 3) := by decide +kernel
theorem dX7_hopefulPots_9 : decode cX7_hopefulPots 9 = .ok (.if_icmp .ge 35, 3) := by decide +kernel
theorem dX7_hopefulPots_12 : decode cX7_hopefulPots 12 = .ok (.aload_n 0, 1) := by decide +kernel
theorem dX7_hopefulPots_13 : decode cX7_hopefulPots 13 = .ok (.getfield 43, 3) := by decide +kernel
theorem dX7_hopefulPots_16 : decode cX7_hopefulPots 16 = .ok (.iload_n 2, 1) := by decide +kernel
theorem dX7_hopefulPots_17 : decode cX7_hopefulPots 17 = .ok (.iaload, 1) := by decide +kernel
theorem dX7_hopefulPots_18 : decode cX7_hopefulPots 18 = .ok (.aload_n 0, 1) := by decide +kernel
theorem dX7_hopefulPots_19 : decode cX7_hopefulPots 19 = .ok (.getfield 52, 3) := by decide +kernel
theorem dX7_hopefulPots_22 : decode cX7_hopefulPots 22 = .ok (.aload_n 0, 1) := by decide +kernel
theorem dX7_hopefulPots_23 : decode cX7_hopefulPots 23 = .ok (.getfield 49, 3) := by decide +kernel
theorem dX7_hopefulPots_26 : decode cX7_hopefulPots 26 = .ok (.iload_n 2, 1) := by decide +kernel
theorem dX7_hopefulPots_27 : decode cX7_hopefulPots 27 = .ok (.iaload, 1) := by decide +kernel
theorem dX7_hopefulPots_28 : decode cX7_hopefulPots 28 = .ok (.iaload, 1) := by decide +kernel
theorem dX7_hopefulPots_29 : decode cX7_hopefulPots 29 = .ok (.if_icmp .ne 9, 3) := by decide +kernel
theorem dX7_hopefulPots_32 : decode cX7_hopefulPots 32 = .ok (.iload_n 1, 1) := by decide +kernel
theorem dX7_hopefulPots_33 : decode cX7_hopefulPots 33 = .ok (.iconst 1, 1) := by decide +kernel
theorem dX7_hopefulPots_34 : decode cX7_hopefulPots 34 = .ok (.iload_n 2, 1) := by decide +kernel
theorem dX7_hopefulPots_35 : decode cX7_hopefulPots 35 = .ok (.ishl, 1) := by decide +kernel
theorem dX7_hopefulPots_36 : decode cX7_hopefulPots 36 = .ok (.ior, 1) := by decide +kernel
theorem dX7_hopefulPots_37 : decode cX7_hopefulPots 37 = .ok (.istore_n 1, 1) := by decide +kernel
theorem dX7_hopefulPots_38 : decode cX7_hopefulPots 38 = .ok (.iinc 2 1, 3) := by decide +kernel
theorem dX7_hopefulPots_41 : decode cX7_hopefulPots 41 = .ok (.goto (-37), 3) := by decide +kernel
theorem dX7_hopefulPots_44 : decode cX7_hopefulPots 44 = .ok (.iload_n 1, 1) := by decide +kernel
theorem dX7_hopefulPots_45 : decode cX7_hopefulPots 45 = .ok (.ireturn, 1) := by decide +kernel
theorem dX7_sortsHeld_0 : decode cX7_sortsHeld 0 = .ok (.iconst 0, 1) := by decide +kernel
theorem dX7_sortsHeld_1 : decode cX7_sortsHeld 1 = .ok (.istore_n 1, 1) := by decide +kernel
theorem dX7_sortsHeld_2 : decode cX7_sortsHeld 2 = .ok (.iconst 0, 1) := by decide +kernel
theorem dX7_sortsHeld_3 : decode cX7_sortsHeld 3 = .ok (.istore_n 2, 1) := by decide +kernel
theorem dX7_sortsHeld_4 : decode cX7_sortsHeld 4 = .ok (.iload_n 2, 1) := by decide +kernel
theorem dX7_sortsHeld_5 : decode cX7_sortsHeld 5 = .ok (.aload_n 0, 1) := by decide +kernel
theorem dX7_sortsHeld_6 : decode cX7_sortsHeld 6 = .ok (.getfield 58, 3) := by decide +kernel
theorem dX7_sortsHeld_9 : decode cX7_sortsHeld 9 = .ok (.if_icmp .ge 29, 3) := by decide +kernel
theorem dX7_sortsHeld_12 : decode cX7_sortsHeld 12 = .ok (.aload_n 0, 1) := by decide +kernel
theorem dX7_sortsHeld_13 : decode cX7_sortsHeld 13 = .ok (.getfield 46, 3) := by decide +kernel
theorem dX7_sortsHeld_16 : decode cX7_sortsHeld 16 = .ok (.iload_n 2, 1) := by decide +kernel
theorem dX7_sortsHeld_17 : decode cX7_sortsHeld 17 = .ok (.iaload, 1) := by decide +kernel
theorem dX7_sortsHeld_18 : decode cX7_sortsHeld 18 = .ok (.ifCond .le 14, 3) := by decide +kernel
theorem dX7_sortsHeld_21 : decode cX7_sortsHeld 21 = .ok (.iload_n 1, 1) := by decide +kernel
theorem dX7_sortsHeld_22 : decode cX7_sortsHeld 22 = .ok (.iconst 1, 1) := by decide +kernel
theorem dX7_sortsHeld_23 : decode cX7_sortsHeld 23 = .ok (.aload_n 0, 1) := by decide +kernel
theorem dX7_sortsHeld_24 : decode cX7_sortsHeld 24 = .ok (.getfield 40, 3) := by decide +kernel
theorem dX7_sortsHeld_27 : decode cX7_sortsHeld 27 = .ok (.iload_n 2, 1) := by decide +kernel
theorem dX7_sortsHeld_28 : decode cX7_sortsHeld 28 = .ok (.iaload, 1) := by decide +kernel
theorem dX7_sortsHeld_29 : decode cX7_sortsHeld 29 = .ok (.ishl, 1) := by decide +kernel
theorem dX7_sortsHeld_30 : decode cX7_sortsHeld 30 = .ok (.ior, 1) := by decide +kernel
theorem dX7_sortsHeld_31 : decode cX7_sortsHeld 31 = .ok (.istore_n 1, 1) := by decide +kernel
theorem dX7_sortsHeld_32 : decode cX7_sortsHeld 32 = .ok (.iinc 2 1, 3) := by decide +kernel
theorem dX7_sortsHeld_35 : decode cX7_sortsHeld 35 = .ok (.goto (-31), 3) := by decide +kernel
theorem dX7_sortsHeld_38 : decode cX7_sortsHeld 38 = .ok (.iload_n 1, 1) := by decide +kernel
theorem dX7_sortsHeld_39 : decode cX7_sortsHeld 39 = .ok (.ireturn, 1) := by decide +kernel
theorem dX7_sortsOnLabels_0 : decode cX7_sortsOnLabels 0 = .ok (.iconst 0, 1) := by decide +kernel
theorem dX7_sortsOnLabels_1 : decode cX7_sortsOnLabels 1 = .ok (.istore_n 1, 1) := by decide +kernel
theorem dX7_sortsOnLabels_2 : decode cX7_sortsOnLabels 2 = .ok (.iconst 0, 1) := by decide +kernel
theorem dX7_sortsOnLabels_3 : decode cX7_sortsOnLabels 3 = .ok (.istore_n 2, 1) := by decide +kernel
theorem dX7_sortsOnLabels_4 : decode cX7_sortsOnLabels 4 = .ok (.iload_n 2, 1) := by decide +kernel
theorem dX7_sortsOnLabels_5 : decode cX7_sortsOnLabels 5 = .ok (.aload_n 0, 1) := by decide +kernel
theorem dX7_sortsOnLabels_6 : decode cX7_sortsOnLabels 6 = .ok (.getfield 58, 3) := by decide +kernel
theorem dX7_sortsOnLabels_9 : decode cX7_sortsOnLabels 9 = .ok (.if_icmp .ge 31, 3) := by decide +kernel
theorem dX7_sortsOnLabels_12 : decode cX7_sortsOnLabels 12 = .ok (.aload_n 0, 1) := by decide +kernel
theorem dX7_sortsOnLabels_13 : decode cX7_sortsOnLabels 13 = .ok (.getfield 43, 3) := by decide +kernel
theorem dX7_sortsOnLabels_16 : decode cX7_sortsOnLabels 16 = .ok (.iload_n 2, 1) := by decide +kernel
theorem dX7_sortsOnLabels_17 : decode cX7_sortsOnLabels 17 = .ok (.iaload, 1) := by decide +kernel
theorem dX7_sortsOnLabels_18 : decode cX7_sortsOnLabels 18 = .ok (.bipush 6, 2) := by decide +kernel
theorem dX7_sortsOnLabels_20 : decode cX7_sortsOnLabels 20 = .ok (.if_icmp .eq 14, 3) := by decide +kernel
theorem dX7_sortsOnLabels_23 : decode cX7_sortsOnLabels 23 = .ok (.iload_n 1, 1) := by decide +kernel
theorem dX7_sortsOnLabels_24 : decode cX7_sortsOnLabels 24 = .ok (.iconst 1, 1) := by decide +kernel
theorem dX7_sortsOnLabels_25 : decode cX7_sortsOnLabels 25 = .ok (.aload_n 0, 1) := by decide +kernel
theorem dX7_sortsOnLabels_26 : decode cX7_sortsOnLabels 26 = .ok (.getfield 43, 3) := by decide +kernel
theorem dX7_sortsOnLabels_29 : decode cX7_sortsOnLabels 29 = .ok (.iload_n 2, 1) := by decide +kernel
theorem dX7_sortsOnLabels_30 : decode cX7_sortsOnLabels 30 = .ok (.iaload, 1) := by decide +kernel
theorem dX7_sortsOnLabels_31 : decode cX7_sortsOnLabels 31 = .ok (.ishl, 1) := by decide +kernel
theorem dX7_sortsOnLabels_32 : decode cX7_sortsOnLabels 32 = .ok (.ior, 1) := by decide +kernel
theorem dX7_sortsOnLabels_33 : decode cX7_sortsOnLabels 33 = .ok (.istore_n 1, 1) := by decide +kernel
theorem dX7_sortsOnLabels_34 : decode cX7_sortsOnLabels 34 = .ok (.iinc 2 1, 3) := by decide +kernel
theorem dX7_sortsOnLabels_37 : decode cX7_sortsOnLabels 37 = .ok (.goto (-33), 3) := by decide +kernel
theorem dX7_sortsOnLabels_40 : decode cX7_sortsOnLabels 40 = .ok (.iload_n 1, 1) := by decide +kernel
theorem dX7_sortsOnLabels_41 : decode cX7_sortsOnLabels 41 = .ok (.ireturn, 1) := by decide +kernel
theorem dX7_mostHeld_0 : decode cX7_mostHeld 0 = .ok (.iconst 0, 1) := by decide +kernel
theorem dX7_mostHeld_1 : decode cX7_mostHeld 1 = .ok (.istore_n 1, 1) := by decide +kernel
theorem dX7_mostHeld_2 : decode cX7_mostHeld 2 = .ok (.iconst 1, 1) := by decide +kernel
theorem dX7_mostHeld_3 : decode cX7_mostHeld 3 = .ok (.istore_n 2, 1) := by decide +kernel
theorem dX7_mostHeld_4 : decode cX7_mostHeld 4 = .ok (.iload_n 2, 1) := by decide +kernel
theorem dX7_mostHeld_5 : decode cX7_mostHeld 5 = .ok (.bipush 6, 2) := by decide +kernel
theorem dX7_mostHeld_7 : decode cX7_mostHeld 7 = .ok (.if_icmp .ge 24, 3) := by decide +kernel
theorem dX7_mostHeld_10 : decode cX7_mostHeld 10 = .ok (.aload_n 0, 1) := by decide +kernel
theorem dX7_mostHeld_11 : decode cX7_mostHeld 11 = .ok (.iload_n 2, 1) := by decide +kernel
theorem dX7_mostHeld_12 : decode cX7_mostHeld 12 = .ok (.invokevirtual 112, 3) := by decide +kernel
theorem dX7_mostHeld_15 : decode cX7_mostHeld 15 = .ok (.aload_n 0, 1) := by decide +kernel
theorem dX7_mostHeld_16 : decode cX7_mostHeld 16 = .ok (.iload_n 1, 1) := by decide +kernel
theorem dX7_mostHeld_17 : decode cX7_mostHeld 17 = .ok (.invokevirtual 112, 3) := by decide +kernel
theorem dX7_mostHeld_20 : decode cX7_mostHeld 20 = .ok (.if_icmp .le 5, 3) := by decide +kernel
theorem dX7_mostHeld_23 : decode cX7_mostHeld 23 = .ok (.iload_n 2, 1) := by decide +kernel
theorem dX7_mostHeld_24 : decode cX7_mostHeld 24 = .ok (.istore_n 1, 1) := by decide +kernel
theorem dX7_mostHeld_25 : decode cX7_mostHeld 25 = .ok (.iinc 2 1, 3) := by decide +kernel
theorem dX7_mostHeld_28 : decode cX7_mostHeld 28 = .ok (.goto (-24), 3) := by decide +kernel
theorem dX7_mostHeld_31 : decode cX7_mostHeld 31 = .ok (.iload_n 1, 1) := by decide +kernel
theorem dX7_mostHeld_32 : decode cX7_mostHeld 32 = .ok (.ireturn, 1) := by decide +kernel
theorem dX7_spoonsOf_0 : decode cX7_spoonsOf 0 = .ok (.iconst 0, 1) := by decide +kernel
theorem dX7_spoonsOf_1 : decode cX7_spoonsOf 1 = .ok (.istore_n 2, 1) := by decide +kernel
theorem dX7_spoonsOf_2 : decode cX7_spoonsOf 2 = .ok (.iconst 0, 1) := by decide +kernel
theorem dX7_spoonsOf_3 : decode cX7_spoonsOf 3 = .ok (.istore_n 3, 1) := by decide +kernel
theorem dX7_spoonsOf_4 : decode cX7_spoonsOf 4 = .ok (.iload_n 3, 1) := by decide +kernel
theorem dX7_spoonsOf_5 : decode cX7_spoonsOf 5 = .ok (.aload_n 0, 1) := by decide +kernel
theorem dX7_spoonsOf_6 : decode cX7_spoonsOf 6 = .ok (.getfield 58, 3) := by decide +kernel
theorem dX7_spoonsOf_9 : decode cX7_spoonsOf 9 = .ok (.if_icmp .ge 28, 3) := by decide +kernel
theorem dX7_spoonsOf_12 : decode cX7_spoonsOf 12 = .ok (.aload_n 0, 1) := by decide +kernel
theorem dX7_spoonsOf_13 : decode cX7_spoonsOf 13 = .ok (.getfield 40, 3) := by decide +kernel
theorem dX7_spoonsOf_16 : decode cX7_spoonsOf 16 = .ok (.iload_n 3, 1) := by decide +kernel
theorem dX7_spoonsOf_17 : decode cX7_spoonsOf 17 = .ok (.iaload, 1) := by decide +kernel
theorem dX7_spoonsOf_18 : decode cX7_spoonsOf 18 = .ok (.iload_n 1, 1) := by decide +kernel
theorem dX7_spoonsOf_19 : decode cX7_spoonsOf 19 = .ok (.if_icmp .ne 12, 3) := by decide +kernel
theorem dX7_spoonsOf_22 : decode cX7_spoonsOf 22 = .ok (.iload_n 2, 1) := by decide +kernel
theorem dX7_spoonsOf_23 : decode cX7_spoonsOf 23 = .ok (.aload_n 0, 1) := by decide +kernel
theorem dX7_spoonsOf_24 : decode cX7_spoonsOf 24 = .ok (.getfield 46, 3) := by decide +kernel
theorem dX7_spoonsOf_27 : decode cX7_spoonsOf 27 = .ok (.iload_n 3, 1) := by decide +kernel
theorem dX7_spoonsOf_28 : decode cX7_spoonsOf 28 = .ok (.iaload, 1) := by decide +kernel
theorem dX7_spoonsOf_29 : decode cX7_spoonsOf 29 = .ok (.iadd, 1) := by decide +kernel
theorem dX7_spoonsOf_30 : decode cX7_spoonsOf 30 = .ok (.istore_n 2, 1) := by decide +kernel
theorem dX7_spoonsOf_31 : decode cX7_spoonsOf 31 = .ok (.iinc 3 1, 3) := by decide +kernel
theorem dX7_spoonsOf_34 : decode cX7_spoonsOf 34 = .ok (.goto (-30), 3) := by decide +kernel
theorem dX7_spoonsOf_37 : decode cX7_spoonsOf 37 = .ok (.iload_n 2, 1) := by decide +kernel
theorem dX7_spoonsOf_38 : decode cX7_spoonsOf 38 = .ok (.ireturn, 1) := by decide +kernel
theorem dX7_addPerson_0 : decode cX7_addPerson 0 = .ok (.aload_n 0, 1) := by decide +kernel
theorem dX7_addPerson_1 : decode cX7_addPerson 1 = .ok (.getfield 62, 3) := by decide +kernel
theorem dX7_addPerson_4 : decode cX7_addPerson 4 = .ok (.iconst 5, 1) := by decide +kernel
theorem dX7_addPerson_5 : decode cX7_addPerson 5 = .ok (.if_icmp .ge 10, 3) := by decide +kernel
theorem dX7_addPerson_8 : decode cX7_addPerson 8 = .ok (.iload_n 1, 1) := by decide +kernel
theorem dX7_addPerson_9 : decode cX7_addPerson 9 = .ok (.invokestatic 74, 3) := by decide +kernel
theorem dX7_addPerson_12 : decode cX7_addPerson 12 = .ok (.ifCond .ne 5, 3) := by decide +kernel
theorem dX7_addPerson_15 : decode cX7_addPerson 15 = .ok (.iconst 0, 1) := by decide +kernel
theorem dX7_addPerson_16 : decode cX7_addPerson 16 = .ok (.ireturn, 1) := by decide +kernel
theorem dX7_addPerson_17 : decode cX7_addPerson 17 = .ok (.aload_n 0, 1) := by decide +kernel
theorem dX7_addPerson_18 : decode cX7_addPerson 18 = .ok (.getfield 52, 3) := by decide +kernel
theorem dX7_addPerson_21 : decode cX7_addPerson 21 = .ok (.aload_n 0, 1) := by decide +kernel
theorem dX7_addPerson_22 : decode cX7_addPerson 22 = .ok (.getfield 62, 3) := by decide +kernel
theorem dX7_addPerson_25 : decode cX7_addPerson 25 = .ok (.iload_n 1, 1) := by decide +kernel
theorem dX7_addPerson_26 : decode cX7_addPerson 26 = .ok (.iastore, 1) := by decide +kernel
theorem dX7_addPerson_27 : decode cX7_addPerson 27 = .ok (.aload_n 0, 1) := by decide +kernel
theorem dX7_addPerson_28 : decode cX7_addPerson 28 = .ok (.getfield 55, 3) := by decide +kernel
theorem dX7_addPerson_31 : decode cX7_addPerson 31 = .ok (.aload_n 0, 1) := by decide +kernel
theorem dX7_addPerson_32 : decode cX7_addPerson 32 = .ok (.getfield 62, 3) := by decide +kernel
theorem dX7_addPerson_35 : decode cX7_addPerson 35 = .ok (.bipush 20, 2) := by decide +kernel
theorem dX7_addPerson_37 : decode cX7_addPerson 37 = .ok (.iastore, 1) := by decide +kernel
theorem dX7_addPerson_38 : decode cX7_addPerson 38 = .ok (.aload_n 0, 1) := by decide +kernel
theorem dX7_addPerson_39 : decode cX7_addPerson 39 = .ok (.dup, 1) := by decide +kernel
theorem dX7_addPerson_40 : decode cX7_addPerson 40 = .ok (.getfield 62, 3) := by decide +kernel
theorem dX7_addPerson_43 : decode cX7_addPerson 43 = .ok (.iconst 1, 1) := by decide +kernel
theorem dX7_addPerson_44 : decode cX7_addPerson 44 = .ok (.iadd, 1) := by decide +kernel
theorem dX7_addPerson_45 : decode cX7_addPerson 45 = .ok (.putfield 62, 3) := by decide +kernel
theorem dX7_addPerson_48 : decode cX7_addPerson 48 = .ok (.iconst 1, 1) := by decide +kernel
theorem dX7_addPerson_49 : decode cX7_addPerson 49 = .ok (.ireturn, 1) := by decide +kernel
theorem dX7_addPot_0 : decode cX7_addPot 0 = .ok (.iload_n 1, 1) := by decide +kernel
theorem dX7_addPot_1 : decode cX7_addPot 1 = .ok (.invokestatic 115, 3) := by decide +kernel
theorem dX7_addPot_4 : decode cX7_addPot 4 = .ok (.ifCond .eq 46, 3) := by decide +kernel
theorem dX7_addPot_7 : decode cX7_addPot 7 = .ok (.iload_n 2, 1) := by decide +kernel
theorem dX7_addPot_8 : decode cX7_addPot 8 = .ok (.invokestatic 118, 3) := by decide +kernel
theorem dX7_addPot_11 : decode cX7_addPot 11 = .ok (.ifCond .eq 39, 3) := by decide +kernel
theorem dX7_addPot_14 : decode cX7_addPot 14 = .ok (.iload_n 3, 1) := by decide +kernel
theorem dX7_addPot_15 : decode cX7_addPot 15 = .ok (.invokestatic 74, 3) := by decide +kernel
theorem dX7_addPot_18 : decode cX7_addPot 18 = .ok (.ifCond .eq 32, 3) := by decide +kernel
theorem dX7_addPot_21 : decode cX7_addPot 21 = .ok (.iload 4, 2) := by decide +kernel
theorem dX7_addPot_23 : decode cX7_addPot 23 = .ok (.invokestatic 121, 3) := by decide +kernel
theorem dX7_addPot_26 : decode cX7_addPot 26 = .ok (.ifCond .eq 24, 3) := by decide +kernel
theorem dX7_addPot_29 : decode cX7_addPot 29 = .ok (.iload 5, 2) := by decide +kernel
theorem dX7_addPot_31 : decode cX7_addPot 31 = .ok (.invokestatic 118, 3) := by decide +kernel
theorem dX7_addPot_34 : decode cX7_addPot 34 = .ok (.ifCond .eq 16, 3) := by decide +kernel
theorem dX7_addPot_37 : decode cX7_addPot 37 = .ok (.aload_n 0, 1) := by decide +kernel
theorem dX7_addPot_38 : decode cX7_addPot 38 = .ok (.iload 6, 2) := by decide +kernel
theorem dX7_addPot_40 : decode cX7_addPot 40 = .ok (.invokevirtual 124, 3) := by decide +kernel
theorem dX7_addPot_43 : decode cX7_addPot 43 = .ok (.ifCond .eq 7, 3) := by decide +kernel
theorem dX7_addPot_46 : decode cX7_addPot 46 = .ok (.iconst 1, 1) := by decide +kernel
theorem dX7_addPot_47 : decode cX7_addPot 47 = .ok (.goto 4, 3) := by decide +kernel
theorem dX7_addPot_50 : decode cX7_addPot 50 = .ok (.iconst 0, 1) := by decide +kernel
theorem dX7_addPot_51 : decode cX7_addPot 51 = .ok (.istore 7, 2) := by decide +kernel
theorem dX7_addPot_53 : decode cX7_addPot 53 = .ok (.aload_n 0, 1) := by decide +kernel
theorem dX7_addPot_54 : decode cX7_addPot 54 = .ok (.getfield 58, 3) := by decide +kernel
theorem dX7_addPot_57 : decode cX7_addPot 57 = .ok (.bipush 8, 2) := by decide +kernel
theorem dX7_addPot_59 : decode cX7_addPot 59 = .ok (.if_icmp .ge 8, 3) := by decide +kernel
theorem dX7_addPot_62 : decode cX7_addPot 62 = .ok (.iload 7, 2) := by decide +kernel
theorem dX7_addPot_64 : decode cX7_addPot 64 = .ok (.ifCond .ne 5, 3) := by decide +kernel
theorem dX7_addPot_67 : decode cX7_addPot 67 = .ok (.iconst 0, 1) := by decide +kernel
theorem dX7_addPot_68 : decode cX7_addPot 68 = .ok (.ireturn, 1) := by decide +kernel
theorem dX7_addPot_69 : decode cX7_addPot 69 = .ok (.aload_n 0, 1) := by decide +kernel
theorem dX7_addPot_70 : decode cX7_addPot 70 = .ok (.getfield 33, 3) := by decide +kernel
theorem dX7_addPot_73 : decode cX7_addPot 73 = .ok (.aload_n 0, 1) := by decide +kernel
theorem dX7_addPot_74 : decode cX7_addPot 74 = .ok (.getfield 58, 3) := by decide +kernel
theorem dX7_addPot_77 : decode cX7_addPot 77 = .ok (.iload_n 1, 1) := by decide +kernel
theorem dX7_addPot_78 : decode cX7_addPot 78 = .ok (.iastore, 1) := by decide +kernel
theorem dX7_addPot_79 : decode cX7_addPot 79 = .ok (.aload_n 0, 1) := by decide +kernel
theorem dX7_addPot_80 : decode cX7_addPot 80 = .ok (.getfield 37, 3) := by decide +kernel
theorem dX7_addPot_83 : decode cX7_addPot 83 = .ok (.aload_n 0, 1) := by decide +kernel
theorem dX7_addPot_84 : decode cX7_addPot 84 = .ok (.getfield 58, 3) := by decide +kernel
theorem dX7_addPot_87 : decode cX7_addPot 87 = .ok (.iload_n 2, 1) := by decide +kernel
theorem dX7_addPot_88 : decode cX7_addPot 88 = .ok (.iastore, 1) := by decide +kernel
theorem dX7_addPot_89 : decode cX7_addPot 89 = .ok (.aload_n 0, 1) := by decide +kernel
theorem dX7_addPot_90 : decode cX7_addPot 90 = .ok (.getfield 40, 3) := by decide +kernel
theorem dX7_addPot_93 : decode cX7_addPot 93 = .ok (.aload_n 0, 1) := by decide +kernel
theorem dX7_addPot_94 : decode cX7_addPot 94 = .ok (.getfield 58, 3) := by decide +kernel
theorem dX7_addPot_97 : decode cX7_addPot 97 = .ok (.iload_n 3, 1) := by decide +kernel
theorem dX7_addPot_98 : decode cX7_addPot 98 = .ok (.iastore, 1) := by decide +kernel
theorem dX7_addPot_99 : decode cX7_addPot 99 = .ok (.aload_n 0, 1) := by decide +kernel
theorem dX7_addPot_100 : decode cX7_addPot 100 = .ok (.getfield 43, 3) := by decide +kernel
theorem dX7_addPot_103 : decode cX7_addPot 103 = .ok (.aload_n 0, 1) := by decide +kernel
theorem dX7_addPot_104 : decode cX7_addPot 104 = .ok (.getfield 58, 3) := by decide +kernel
theorem dX7_addPot_107 : decode cX7_addPot 107 = .ok (.iload 4, 2) := by decide +kernel
theorem dX7_addPot_109 : decode cX7_addPot 109 = .ok (.iastore, 1) := by decide +kernel
theorem dX7_addPot_110 : decode cX7_addPot 110 = .ok (.aload_n 0, 1) := by decide +kernel
theorem dX7_addPot_111 : decode cX7_addPot 111 = .ok (.getfield 46, 3) := by decide +kernel
theorem dX7_addPot_114 : decode cX7_addPot 114 = .ok (.aload_n 0, 1) := by decide +kernel
theorem dX7_addPot_115 : decode cX7_addPot 115 = .ok (.getfield 58, 3) := by decide +kernel
theorem dX7_addPot_118 : decode cX7_addPot 118 = .ok (.iload 5, 2) := by decide +kernel
theorem dX7_addPot_120 : decode cX7_addPot 120 = .ok (.iastore, 1) := by decide +kernel
theorem dX7_addPot_121 : decode cX7_addPot 121 = .ok (.aload_n 0, 1) := by decide +kernel
theorem dX7_addPot_122 : decode cX7_addPot 122 = .ok (.getfield 49, 3) := by decide +kernel
theorem dX7_addPot_125 : decode cX7_addPot 125 = .ok (.aload_n 0, 1) := by decide +kernel
theorem dX7_addPot_126 : decode cX7_addPot 126 = .ok (.getfield 58, 3) := by decide +kernel
theorem dX7_addPot_129 : decode cX7_addPot 129 = .ok (.iload 6, 2) := by decide +kernel
theorem dX7_addPot_131 : decode cX7_addPot 131 = .ok (.iastore, 1) := by decide +kernel
theorem dX7_addPot_132 : decode cX7_addPot 132 = .ok (.aload_n 0, 1) := by decide +kernel
theorem dX7_addPot_133 : decode cX7_addPot 133 = .ok (.dup, 1) := by decide +kernel
theorem dX7_addPot_134 : decode cX7_addPot 134 = .ok (.getfield 58, 3) := by decide +kernel
theorem dX7_addPot_137 : decode cX7_addPot 137 = .ok (.iconst 1, 1) := by decide +kernel
theorem dX7_addPot_138 : decode cX7_addPot 138 = .ok (.iadd, 1) := by decide +kernel
theorem dX7_addPot_139 : decode cX7_addPot 139 = .ok (.putfield 58, 3) := by decide +kernel
theorem dX7_addPot_142 : decode cX7_addPot 142 = .ok (.iconst 1, 1) := by decide +kernel
theorem dX7_addPot_143 : decode cX7_addPot 143 = .ok (.ireturn, 1) := by decide +kernel
theorem dX7_setLabel_0 : decode cX7_setLabel 0 = .ok (.aload_n 0, 1) := by decide +kernel
theorem dX7_setLabel_1 : decode cX7_setLabel 1 = .ok (.iload_n 1, 1) := by decide +kernel
theorem dX7_setLabel_2 : decode cX7_setLabel 2 = .ok (.invokevirtual 127, 3) := by decide +kernel
theorem dX7_setLabel_5 : decode cX7_setLabel 5 = .ok (.ifCond .eq 10, 3) := by decide +kernel
theorem dX7_setLabel_8 : decode cX7_setLabel 8 = .ok (.iload_n 2, 1) := by decide +kernel
theorem dX7_setLabel_9 : decode cX7_setLabel 9 = .ok (.invokestatic 121, 3) := by decide +kernel
theorem dX7_setLabel_12 : decode cX7_setLabel 12 = .ok (.ifCond .ne 5, 3) := by decide +kernel
theorem dX7_setLabel_15 : decode cX7_setLabel 15 = .ok (.iconst 0, 1) := by decide +kernel
theorem dX7_setLabel_16 : decode cX7_setLabel 16 = .ok (.ireturn, 1) := by decide +kernel
theorem dX7_setLabel_17 : decode cX7_setLabel 17 = .ok (.aload_n 0, 1) := by decide +kernel
theorem dX7_setLabel_18 : decode cX7_setLabel 18 = .ok (.getfield 43, 3) := by decide +kernel
theorem dX7_setLabel_21 : decode cX7_setLabel 21 = .ok (.iload_n 1, 1) := by decide +kernel
theorem dX7_setLabel_22 : decode cX7_setLabel 22 = .ok (.iload_n 2, 1) := by decide +kernel
theorem dX7_setLabel_23 : decode cX7_setLabel 23 = .ok (.iastore, 1) := by decide +kernel
theorem dX7_setLabel_24 : decode cX7_setLabel 24 = .ok (.iconst 1, 1) := by decide +kernel
theorem dX7_setLabel_25 : decode cX7_setLabel 25 = .ok (.ireturn, 1) := by decide +kernel
theorem dX7_setOwner_0 : decode cX7_setOwner 0 = .ok (.aload_n 0, 1) := by decide +kernel
theorem dX7_setOwner_1 : decode cX7_setOwner 1 = .ok (.iload_n 1, 1) := by decide +kernel
theorem dX7_setOwner_2 : decode cX7_setOwner 2 = .ok (.invokevirtual 127, 3) := by decide +kernel
theorem dX7_setOwner_5 : decode cX7_setOwner 5 = .ok (.ifCond .eq 11, 3) := by decide +kernel
theorem dX7_setOwner_8 : decode cX7_setOwner 8 = .ok (.aload_n 0, 1) := by decide +kernel
theorem dX7_setOwner_9 : decode cX7_setOwner 9 = .ok (.iload_n 2, 1) := by decide +kernel
theorem dX7_setOwner_10 : decode cX7_setOwner 10 = .ok (.invokevirtual 124, 3) := by decide +kernel
theorem dX7_setOwner_13 : decode cX7_setOwner 13 = .ok (.ifCond .ne 5, 3) := by decide +kernel
theorem dX7_setOwner_16 : decode cX7_setOwner 16 = .ok (.iconst 0, 1) := by decide +kernel
theorem dX7_setOwner_17 : decode cX7_setOwner 17 = .ok (.ireturn, 1) := by decide +kernel
theorem dX7_setOwner_18 : decode cX7_setOwner 18 = .ok (.aload_n 0, 1) := by decide +kernel
theorem dX7_setOwner_19 : decode cX7_setOwner 19 = .ok (.getfield 49, 3) := by decide +kernel
theorem dX7_setOwner_22 : decode cX7_setOwner 22 = .ok (.iload_n 1, 1) := by decide +kernel
theorem dX7_setOwner_23 : decode cX7_setOwner 23 = .ok (.iload_n 2, 1) := by decide +kernel
theorem dX7_setOwner_24 : decode cX7_setOwner 24 = .ok (.iastore, 1) := by decide +kernel
theorem dX7_setOwner_25 : decode cX7_setOwner 25 = .ok (.iconst 1, 1) := by decide +kernel
theorem dX7_setOwner_26 : decode cX7_setOwner 26 = .ok (.ireturn, 1) := by decide +kernel
theorem dX7_setLikes_0 : decode cX7_setLikes 0 = .ok (.aload_n 0, 1) := by decide +kernel
theorem dX7_setLikes_1 : decode cX7_setLikes 1 = .ok (.iload_n 1, 1) := by decide +kernel
theorem dX7_setLikes_2 : decode cX7_setLikes 2 = .ok (.invokevirtual 124, 3) := by decide +kernel
theorem dX7_setLikes_5 : decode cX7_setLikes 5 = .ok (.ifCond .eq 10, 3) := by decide +kernel
theorem dX7_setLikes_8 : decode cX7_setLikes 8 = .ok (.iload_n 2, 1) := by decide +kernel
theorem dX7_setLikes_9 : decode cX7_setLikes 9 = .ok (.invokestatic 74, 3) := by decide +kernel
theorem dX7_setLikes_12 : decode cX7_setLikes 12 = .ok (.ifCond .ne 5, 3) := by decide +kernel
theorem dX7_setLikes_15 : decode cX7_setLikes 15 = .ok (.iconst 0, 1) := by decide +kernel
theorem dX7_setLikes_16 : decode cX7_setLikes 16 = .ok (.ireturn, 1) := by decide +kernel
theorem dX7_setLikes_17 : decode cX7_setLikes 17 = .ok (.aload_n 0, 1) := by decide +kernel
theorem dX7_setLikes_18 : decode cX7_setLikes 18 = .ok (.getfield 52, 3) := by decide +kernel
theorem dX7_setLikes_21 : decode cX7_setLikes 21 = .ok (.iload_n 1, 1) := by decide +kernel
theorem dX7_setLikes_22 : decode cX7_setLikes 22 = .ok (.iload_n 2, 1) := by decide +kernel
theorem dX7_setLikes_23 : decode cX7_setLikes 23 = .ok (.iastore, 1) := by decide +kernel
theorem dX7_setLikes_24 : decode cX7_setLikes 24 = .ok (.iconst 1, 1) := by decide +kernel
theorem dX7_setLikes_25 : decode cX7_setLikes 25 = .ok (.ireturn, 1) := by decide +kernel
theorem dX7_setFull_0 : decode cX7_setFull 0 = .ok (.aload_n 0, 1) := by decide +kernel
theorem dX7_setFull_1 : decode cX7_setFull 1 = .ok (.iload_n 1, 1) := by decide +kernel
theorem dX7_setFull_2 : decode cX7_setFull 2 = .ok (.invokevirtual 127, 3) := by decide +kernel
theorem dX7_setFull_5 : decode cX7_setFull 5 = .ok (.ifCond .eq 10, 3) := by decide +kernel
theorem dX7_setFull_8 : decode cX7_setFull 8 = .ok (.iload_n 2, 1) := by decide +kernel
theorem dX7_setFull_9 : decode cX7_setFull 9 = .ok (.invokestatic 118, 3) := by decide +kernel
theorem dX7_setFull_12 : decode cX7_setFull 12 = .ok (.ifCond .ne 5, 3) := by decide +kernel
theorem dX7_setFull_15 : decode cX7_setFull 15 = .ok (.iconst 0, 1) := by decide +kernel
theorem dX7_setFull_16 : decode cX7_setFull 16 = .ok (.ireturn, 1) := by decide +kernel
theorem dX7_setFull_17 : decode cX7_setFull 17 = .ok (.aload_n 0, 1) := by decide +kernel
theorem dX7_setFull_18 : decode cX7_setFull 18 = .ok (.getfield 46, 3) := by decide +kernel
theorem dX7_setFull_21 : decode cX7_setFull 21 = .ok (.iload_n 1, 1) := by decide +kernel
theorem dX7_setFull_22 : decode cX7_setFull 22 = .ok (.iload_n 2, 1) := by decide +kernel
theorem dX7_setFull_23 : decode cX7_setFull 23 = .ok (.iastore, 1) := by decide +kernel
theorem dX7_setFull_24 : decode cX7_setFull 24 = .ok (.iconst 1, 1) := by decide +kernel
theorem dX7_setFull_25 : decode cX7_setFull 25 = .ok (.ireturn, 1) := by decide +kernel
theorem dX7_canGoOn_0 : decode cX7_canGoOn 0 = .ok (.iload_n 1, 1) := by decide +kernel
theorem dX7_canGoOn_1 : decode cX7_canGoOn 1 = .ok (.iconst 1, 1) := by decide +kernel
theorem dX7_canGoOn_2 : decode cX7_canGoOn 2 = .ok (.if_icmp .lt 25, 3) := by decide +kernel
theorem dX7_canGoOn_5 : decode cX7_canGoOn 5 = .ok (.iload_n 1, 1) := by decide +kernel
theorem dX7_canGoOn_6 : decode cX7_canGoOn 6 = .ok (.bipush 60, 2) := by decide +kernel
theorem dX7_canGoOn_8 : decode cX7_canGoOn 8 = .ok (.if_icmp .gt 19, 3) := by decide +kernel
theorem dX7_canGoOn_11 : decode cX7_canGoOn 11 = .ok (.aload_n 0, 1) := by decide +kernel
theorem dX7_canGoOn_12 : decode cX7_canGoOn 12 = .ok (.getfield 65, 3) := by decide +kernel
theorem dX7_canGoOn_15 : decode cX7_canGoOn 15 = .ok (.sipush 999, 3) := by decide +kernel
theorem dX7_canGoOn_18 : decode cX7_canGoOn 18 = .ok (.iload_n 1, 1) := by decide +kernel
theorem dX7_canGoOn_19 : decode cX7_canGoOn 19 = .ok (.isub, 1) := by decide +kernel
theorem dX7_canGoOn_20 : decode cX7_canGoOn 20 = .ok (.if_icmp .gt 7, 3) := by decide +kernel
theorem dX7_canGoOn_23 : decode cX7_canGoOn 23 = .ok (.iconst 1, 1) := by decide +kernel
theorem dX7_canGoOn_24 : decode cX7_canGoOn 24 = .ok (.goto 4, 3) := by decide +kernel
theorem dX7_canGoOn_27 : decode cX7_canGoOn 27 = .ok (.iconst 0, 1) := by decide +kernel
theorem dX7_canGoOn_28 : decode cX7_canGoOn 28 = .ok (.ireturn, 1) := by decide +kernel
