theorem dX9_likes_39 : decode cX9_likes 39 = .ok (.iconst 0, 1) := by decide +kernel
theorem dX9_likes_40 : decode cX9_likes 40 = .ok (.invokestatic 52, 3) := by decide +kernel
theorem dX9_likes_43 : decode cX9_likes 43 = .ok (.iload_n 2, 1) := by decide +kernel
theorem dX9_likes_44 : decode cX9_likes 44 = .ok (.iastore, 1) := by decide +kernel
theorem dX9_likes_45 : decode cX9_likes 45 = .ok (.iload_n 3, 1) := by decide +kernel
theorem dX9_likes_46 : decode cX9_likes 46 = .ok (.ireturn, 1) := by decide +kernel
theorem dX9_wrongBy_0 : decode cX9_wrongBy 0 = .ok (.iload_n 0, 1) := by decide +kernel
theorem dX9_wrongBy_1 : decode cX9_wrongBy 1 = .ok (.iload_n 1, 1) := by decide +kernel
theorem dX9_wrongBy_2 : decode cX9_wrongBy 2 = .ok (.if_icmp .ge 8, 3) := by decide +kernel
theorem dX9_wrongBy_5 : decode cX9_wrongBy 5 = .ok (.bipush (-4), 2) := by decide +kernel
theorem dX9_wrongBy_7 : decode cX9_wrongBy 7 = .ok (.goto 14, 3) := by decide +kernel
theorem dX9_wrongBy_10 : decode cX9_wrongBy 10 = .ok (.iload_n 0, 1) := by decide +kernel
theorem dX9_wrongBy_11 : decode cX9_wrongBy 11 = .ok (.iload_n 2, 1) := by decide +kernel
theorem dX9_wrongBy_12 : decode cX9_wrongBy 12 = .ok (.if_icmp .le 8, 3) := by decide +kernel
theorem dX9_wrongBy_15 : decode cX9_wrongBy 15 = .ok (.bipush (-6), 2) := by decide +kernel
theorem dX9_wrongBy_17 : decode cX9_wrongBy 17 = .ok (.goto 4, 3) := by decide +kernel
theorem dX9_wrongBy_20 : decode cX9_wrongBy 20 = .ok (.iconst 0, 1) := by decide +kernel
theorem dX9_wrongBy_21 : decode cX9_wrongBy 21 = .ok (.ireturn, 1) := by decide +kernel
theorem dX9_fills_0 : decode cX9_fills 0 = .ok (.aload_n 0, 1) := by decide +kernel
theorem dX9_fills_1 : decode cX9_fills 1 = .ok (.iload_n 1, 1) := by decide +kernel
theorem dX9_fills_2 : decode cX9_fills 2 = .ok (.invokevirtual 102, 3) := by decide +kernel
theorem dX9_fills_5 : decode cX9_fills 5 = .ok (.ifCond .eq 13, 3) := by decide +kernel
theorem dX9_fills_8 : decode cX9_fills 8 = .ok (.iload_n 2, 1) := by decide +kernel
theorem dX9_fills_9 : decode cX9_fills 9 = .ok (.iconst 0, 1) := by decide +kernel
theorem dX9_fills_10 : decode cX9_fills 10 = .ok (.bipush 9, 2) := by decide +kernel
theorem dX9_fills_12 : decode cX9_fills 12 = .ok (.invokestatic 125, 3) := by decide +kernel
theorem dX9_fills_15 : decode cX9_fills 15 = .ok (.goto 4, 3) := by decide +kernel
theorem dX9_fills_18 : decode cX9_fills 18 = .ok (.iconst (-1), 1) := by decide +kernel
theorem dX9_fills_19 : decode cX9_fills 19 = .ok (.istore_n 3, 1) := by decide +kernel
theorem dX9_fills_20 : decode cX9_fills 20 = .ok (.iload_n 3, 1) := by decide +kernel
theorem dX9_fills_21 : decode cX9_fills 21 = .ok (.ifCond .eq 9, 3) := by decide +kernel
theorem dX9_fills_24 : decode cX9_fills 24 = .ok (.aload_n 0, 1) := by decide +kernel
theorem dX9_fills_25 : decode cX9_fills 25 = .ok (.iload_n 3, 1) := by decide +kernel
theorem dX9_fills_26 : decode cX9_fills 26 = .ok (.invokevirtual 35, 3) := by decide +kernel
theorem dX9_fills_29 : decode cX9_fills 29 = .ok (.ireturn, 1) := by decide +kernel
theorem dX9_fills_30 : decode cX9_fills 30 = .ok (.aload_n 0, 1) := by decide +kernel
theorem dX9_fills_31 : decode cX9_fills 31 = .ok (.getfield 9, 3) := by decide +kernel
theorem dX9_fills_34 : decode cX9_fills 34 = .ok (.iload_n 1, 1) := by decide +kernel
theorem dX9_fills_35 : decode cX9_fills 35 = .ok (.iconst 4, 1) := by decide +kernel
theorem dX9_fills_36 : decode cX9_fills 36 = .ok (.invokestatic 45, 3) := by decide +kernel
theorem dX9_fills_39 : decode cX9_fills 39 = .ok (.iaload, 1) := by decide +kernel
theorem dX9_fills_40 : decode cX9_fills 40 = .ok (.istore 4, 2) := by decide +kernel
theorem dX9_fills_42 : decode cX9_fills 42 = .ok (.aload_n 0, 1) := by decide +kernel
theorem dX9_fills_43 : decode cX9_fills 43 = .ok (.getfield 9, 3) := by decide +kernel
theorem dX9_fills_46 : decode cX9_fills 46 = .ok (.iload_n 1, 1) := by decide +kernel
theorem dX9_fills_47 : decode cX9_fills 47 = .ok (.iconst 4, 1) := by decide +kernel
theorem dX9_fills_48 : decode cX9_fills 48 = .ok (.invokestatic 45, 3) := by decide +kernel
theorem dX9_fills_51 : decode cX9_fills 51 = .ok (.iload_n 2, 1) := by decide +kernel
theorem dX9_fills_52 : decode cX9_fills 52 = .ok (.iastore, 1) := by decide +kernel
theorem dX9_fills_53 : decode cX9_fills 53 = .ok (.iload 4, 2) := by decide +kernel
theorem dX9_fills_55 : decode cX9_fills 55 = .ok (.ireturn, 1) := by decide +kernel
theorem dX9_turn_0 : decode cX9_turn 0 = .ok (.aload_n 0, 1) := by decide +kernel
theorem dX9_turn_1 : decode cX9_turn 1 = .ok (.iload_n 1, 1) := by decide +kernel
theorem dX9_turn_2 : decode cX9_turn 2 = .ok (.invokevirtual 102, 3) := by decide +kernel
theorem dX9_turn_5 : decode cX9_turn 5 = .ok (.ifCond .ne 7, 3) := by decide +kernel
theorem dX9_turn_8 : decode cX9_turn 8 = .ok (.iconst (-1), 1) := by decide +kernel
theorem dX9_turn_9 : decode cX9_turn 9 = .ok (.goto 24, 3) := by decide +kernel
theorem dX9_turn_12 : decode cX9_turn 12 = .ok (.iload_n 2, 1) := by decide +kernel
theorem dX9_turn_13 : decode cX9_turn 13 = .ok (.iconst 0, 1) := by decide +kernel
theorem dX9_turn_14 : decode cX9_turn 14 = .ok (.iconst 5, 1) := by decide +kernel
theorem dX9_turn_15 : decode cX9_turn 15 = .ok (.invokestatic 41, 3) := by decide +kernel
theorem dX9_turn_18 : decode cX9_turn 18 = .ok (.ifCond .ne 8, 3) := by decide +kernel
theorem dX9_turn_21 : decode cX9_turn 21 = .ok (.bipush (-2), 2) := by decide +kernel
theorem dX9_turn_23 : decode cX9_turn 23 = .ok (.goto 10, 3) := by decide +kernel
theorem dX9_turn_26 : decode cX9_turn 26 = .ok (.iload_n 3, 1) := by decide +kernel
theorem dX9_turn_27 : decode cX9_turn 27 = .ok (.iconst 0, 1) := by decide +kernel
theorem dX9_turn_28 : decode cX9_turn 28 = .ok (.bipush 9, 2) := by decide +kernel
theorem dX9_turn_30 : decode cX9_turn 30 = .ok (.invokestatic 125, 3) := by decide +kernel
theorem dX9_turn_33 : decode cX9_turn 33 = .ok (.istore 4, 2) := by decide +kernel
theorem dX9_turn_35 : decode cX9_turn 35 = .ok (.iload 4, 2) := by decide +kernel
theorem dX9_turn_37 : decode cX9_turn 37 = .ok (.ifCond .eq 10, 3) := by decide +kernel
theorem dX9_turn_40 : decode cX9_turn 40 = .ok (.aload_n 0, 1) := by decide +kernel
theorem dX9_turn_41 : decode cX9_turn 41 = .ok (.iload 4, 2) := by decide +kernel
theorem dX9_turn_43 : decode cX9_turn 43 = .ok (.invokevirtual 35, 3) := by decide +kernel
theorem dX9_turn_46 : decode cX9_turn 46 = .ok (.ireturn, 1) := by decide +kernel
theorem dX9_turn_47 : decode cX9_turn 47 = .ok (.bipush 10, 2) := by decide +kernel
theorem dX9_turn_49 : decode cX9_turn 49 = .ok (.aload_n 0, 1) := by decide +kernel
theorem dX9_turn_50 : decode cX9_turn 50 = .ok (.getfield 9, 3) := by decide +kernel
theorem dX9_turn_53 : decode cX9_turn 53 = .ok (.iload_n 1, 1) := by decide +kernel
theorem dX9_turn_54 : decode cX9_turn 54 = .ok (.iconst 0, 1) := by decide +kernel
theorem dX9_turn_55 : decode cX9_turn 55 = .ok (.invokestatic 45, 3) := by decide +kernel
theorem dX9_turn_58 : decode cX9_turn 58 = .ok (.iaload, 1) := by decide +kernel
theorem dX9_turn_59 : decode cX9_turn 59 = .ok (.imul, 1) := by decide +kernel
theorem dX9_turn_60 : decode cX9_turn 60 = .ok (.aload_n 0, 1) := by decide +kernel
theorem dX9_turn_61 : decode cX9_turn 61 = .ok (.getfield 9, 3) := by decide +kernel
theorem dX9_turn_64 : decode cX9_turn 64 = .ok (.iload_n 1, 1) := by decide +kernel
theorem dX9_turn_65 : decode cX9_turn 65 = .ok (.iconst 1, 1) := by decide +kernel
theorem dX9_turn_66 : decode cX9_turn 66 = .ok (.invokestatic 45, 3) := by decide +kernel
theorem dX9_turn_69 : decode cX9_turn 69 = .ok (.iaload, 1) := by decide +kernel
theorem dX9_turn_70 : decode cX9_turn 70 = .ok (.iadd, 1) := by decide +kernel
theorem dX9_turn_71 : decode cX9_turn 71 = .ok (.istore 5, 2) := by decide +kernel
theorem dX9_turn_73 : decode cX9_turn 73 = .ok (.aload_n 0, 1) := by decide +kernel
theorem dX9_turn_74 : decode cX9_turn 74 = .ok (.getfield 9, 3) := by decide +kernel
theorem dX9_turn_77 : decode cX9_turn 77 = .ok (.iload_n 1, 1) := by decide +kernel
theorem dX9_turn_78 : decode cX9_turn 78 = .ok (.iconst 0, 1) := by decide +kernel
theorem dX9_turn_79 : decode cX9_turn 79 = .ok (.invokestatic 45, 3) := by decide +kernel
theorem dX9_turn_82 : decode cX9_turn 82 = .ok (.iload_n 2, 1) := by decide +kernel
theorem dX9_turn_83 : decode cX9_turn 83 = .ok (.iastore, 1) := by decide +kernel
theorem dX9_turn_84 : decode cX9_turn 84 = .ok (.aload_n 0, 1) := by decide +kernel
theorem dX9_turn_85 : decode cX9_turn 85 = .ok (.getfield 9, 3) := by decide +kernel
theorem dX9_turn_88 : decode cX9_turn 88 = .ok (.iload_n 1, 1) := by decide +kernel
theorem dX9_turn_89 : decode cX9_turn 89 = .ok (.iconst 1, 1) := by decide +kernel
theorem dX9_turn_90 : decode cX9_turn 90 = .ok (.invokestatic 45, 3) := by decide +kernel
theorem dX9_turn_93 : decode cX9_turn 93 = .ok (.iload_n 3, 1) := by decide +kernel
theorem dX9_turn_94 : decode cX9_turn 94 = .ok (.iastore, 1) := by decide +kernel
theorem dX9_turn_95 : decode cX9_turn 95 = .ok (.iload 5, 2) := by decide +kernel
theorem dX9_turn_97 : decode cX9_turn 97 = .ok (.ireturn, 1) := by decide +kernel
theorem dX9_years_0 : decode cX9_years 0 = .ok (.iload_n 1, 1) := by decide +kernel
theorem dX9_years_1 : decode cX9_years 1 = .ok (.iconst 1, 1) := by decide +kernel
theorem dX9_years_2 : decode cX9_years 2 = .ok (.if_icmp .ge 10, 3) := by decide +kernel
theorem dX9_years_5 : decode cX9_years 5 = .ok (.aload_n 0, 1) := by decide +kernel
theorem dX9_years_6 : decode cX9_years 6 = .ok (.bipush (-4), 2) := by decide +kernel
theorem dX9_years_8 : decode cX9_years 8 = .ok (.invokevirtual 35, 3) := by decide +kernel
theorem dX9_years_11 : decode cX9_years 11 = .ok (.ireturn, 1) := by decide +kernel
theorem dX9_years_12 : decode cX9_years 12 = .ok (.iload_n 1, 1) := by decide +kernel
theorem dX9_years_13 : decode cX9_years 13 = .ok (.bipush 60, 2) := by decide +kernel
theorem dX9_years_15 : decode cX9_years 15 = .ok (.if_icmp .gt 17, 3) := by decide +kernel
theorem dX9_years_18 : decode cX9_years 18 = .ok (.aload_n 0, 1) := by decide +kernel
theorem dX9_years_19 : decode cX9_years 19 = .ok (.getfield 9, 3) := by decide +kernel
theorem dX9_years_22 : decode cX9_years 22 = .ok (.iconst 2, 1) := by decide +kernel
theorem dX9_years_23 : decode cX9_years 23 = .ok (.iaload, 1) := by decide +kernel
theorem dX9_years_24 : decode cX9_years 24 = .ok (.iload_n 1, 1) := by decide +kernel
theorem dX9_years_25 : decode cX9_years 25 = .ok (.iadd, 1) := by decide +kernel
theorem dX9_years_26 : decode cX9_years 26 = .ok (.sipush 999, 3) := by decide +kernel
theorem dX9_years_29 : decode cX9_years 29 = .ok (.if_icmp .le 10, 3) := by decide +kernel
theorem dX9_years_32 : decode cX9_years 32 = .ok (.aload_n 0, 1) := by decide +kernel
theorem dX9_years_33 : decode cX9_years 33 = .ok (.bipush (-6), 2) := by decide +kernel
theorem dX9_years_35 : decode cX9_years 35 = .ok (.invokevirtual 35, 3) := by decide +kernel
theorem dX9_years_38 : decode cX9_years 38 = .ok (.ireturn, 1) := by decide +kernel
theorem dX9_years_39 : decode cX9_years 39 = .ok (.aload_n 0, 1) := by decide +kernel
theorem dX9_years_40 : decode cX9_years 40 = .ok (.getfield 9, 3) := by decide +kernel
theorem dX9_years_43 : decode cX9_years 43 = .ok (.iload_n 1, 1) := by decide +kernel
theorem dX9_years_44 : decode cX9_years 44 = .ok (.invokestatic 105, 3) := by decide +kernel
theorem dX9_years_47 : decode cX9_years 47 = .ok (.aload_n 0, 1) := by decide +kernel
theorem dX9_years_48 : decode cX9_years 48 = .ok (.getfield 9, 3) := by decide +kernel
theorem dX9_years_51 : decode cX9_years 51 = .ok (.invokestatic 129, 3) := by decide +kernel
theorem dX9_years_54 : decode cX9_years 54 = .ok (.ireturn, 1) := by decide +kernel
theorem dX9_takes_0 : decode cX9_takes 0 = .ok (.aload_n 0, 1) := by decide +kernel
theorem dX9_takes_1 : decode cX9_takes 1 = .ok (.getfield 9, 3) := by decide +kernel
theorem dX9_takes_4 : decode cX9_takes 4 = .ok (.aload_n 0, 1) := by decide +kernel
theorem dX9_takes_5 : decode cX9_takes 5 = .ok (.getfield 13, 3) := by decide +kernel
theorem dX9_takes_8 : decode cX9_takes 8 = .ok (.invokestatic 112, 3) := by decide +kernel
theorem dX9_takes_11 : decode cX9_takes 11 = .ok (.aload_n 0, 1) := by decide +kernel
theorem dX9_takes_12 : decode cX9_takes 12 = .ok (.getfield 13, 3) := by decide +kernel
theorem dX9_takes_15 : decode cX9_takes 15 = .ok (.iload_n 1, 1) := by decide +kernel
theorem dX9_takes_16 : decode cX9_takes 16 = .ok (.invokestatic 105, 3) := by decide +kernel
theorem dX9_takes_19 : decode cX9_takes 19 = .ok (.return_, 1) := by decide +kernel
theorem dX9_personThen_0 : decode cX9_personThen 0 = .ok (.aload_n 0, 1) := by decide +kernel
theorem dX9_personThen_1 : decode cX9_personThen 1 = .ok (.iload_n 1, 1) := by decide +kernel
theorem dX9_personThen_2 : decode cX9_personThen 2 = .ok (.invokevirtual 95, 3) := by decide +kernel
theorem dX9_personThen_5 : decode cX9_personThen 5 = .ok (.ifCond .eq 13, 3) := by decide +kernel
theorem dX9_personThen_8 : decode cX9_personThen 8 = .ok (.iload_n 2, 1) := by decide +kernel
theorem dX9_personThen_9 : decode cX9_personThen 9 = .ok (.iconst 0, 1) := by decide +kernel
theorem dX9_personThen_10 : decode cX9_personThen 10 = .ok (.bipush 60, 2) := by decide +kernel
theorem dX9_personThen_12 : decode cX9_personThen 12 = .ok (.invokestatic 125, 3) := by decide +kernel
theorem dX9_personThen_15 : decode cX9_personThen 15 = .ok (.goto 4, 3) := by decide +kernel
theorem dX9_personThen_18 : decode cX9_personThen 18 = .ok (.iconst (-1), 1) := by decide +kernel
theorem dX9_personThen_19 : decode cX9_personThen 19 = .ok (.istore 4, 2) := by decide +kernel
theorem dX9_personThen_21 : decode cX9_personThen 21 = .ok (.iload 4, 2) := by decide +kernel
theorem dX9_personThen_23 : decode cX9_personThen 23 = .ok (.ifCond .ne 16, 3) := by decide +kernel
theorem dX9_personThen_26 : decode cX9_personThen 26 = .ok (.iload_n 3, 1) := by decide +kernel
theorem dX9_personThen_27 : decode cX9_personThen 27 = .ok (.iconst 0, 1) := by decide +kernel
theorem dX9_personThen_28 : decode cX9_personThen 28 = .ok (.iconst 1, 1) := by decide +kernel
theorem dX9_personThen_29 : decode cX9_personThen 29 = .ok (.invokestatic 41, 3) := by decide +kernel
theorem dX9_personThen_32 : decode cX9_personThen 32 = .ok (.ifCond .ne 7, 3) := by decide +kernel
theorem dX9_personThen_35 : decode cX9_personThen 35 = .ok (.bipush (-2), 2) := by decide +kernel
theorem dX9_personThen_37 : decode cX9_personThen 37 = .ok (.istore 4, 2) := by decide +kernel
theorem dX9_personThen_39 : decode cX9_personThen 39 = .ok (.iload 4, 2) := by decide +kernel
theorem dX9_personThen_41 : decode cX9_personThen 41 = .ok (.ifCond .eq 10, 3) := by decide +kernel
theorem dX9_personThen_44 : decode cX9_personThen 44 = .ok (.aload_n 0, 1) := by decide +kernel
theorem dX9_personThen_45 : decode cX9_personThen 45 = .ok (.iload 4, 2) := by decide +kernel
theorem dX9_personThen_47 : decode cX9_personThen 47 = .ok (.invokevirtual 35, 3) := by decide +kernel
theorem dX9_personThen_50 : decode cX9_personThen 50 = .ok (.ireturn, 1) := by decide +kernel
theorem dX9_personThen_51 : decode cX9_personThen 51 = .ok (.aload_n 0, 1) := by decide +kernel
theorem dX9_personThen_52 : decode cX9_personThen 52 = .ok (.iload_n 2, 1) := by decide +kernel
theorem dX9_personThen_53 : decode cX9_personThen 53 = .ok (.invokevirtual 133, 3) := by decide +kernel
theorem dX9_personThen_56 : decode cX9_personThen 56 = .ok (.iload_n 3, 1) := by decide +kernel
theorem dX9_personThen_57 : decode cX9_personThen 57 = .ok (.ifCond .ne 16, 3) := by decide +kernel
theorem dX9_personThen_60 : decode cX9_personThen 60 = .ok (.aload_n 0, 1) := by decide +kernel
theorem dX9_personThen_61 : decode cX9_personThen 61 = .ok (.getfield 13, 3) := by decide +kernel
theorem dX9_personThen_64 : decode cX9_personThen 64 = .ok (.iload_n 1, 1) := by decide +kernel
theorem dX9_personThen_65 : decode cX9_personThen 65 = .ok (.iconst 1, 1) := by decide +kernel
theorem dX9_personThen_66 : decode cX9_personThen 66 = .ok (.invokestatic 52, 3) := by decide +kernel
theorem dX9_personThen_69 : decode cX9_personThen 69 = .ok (.iaload, 1) := by decide +kernel
theorem dX9_personThen_70 : decode cX9_personThen 70 = .ok (.goto 11, 3) := by decide +kernel
theorem dX9_personThen_73 : decode cX9_personThen 73 = .ok (.aload_n 0, 1) := by decide +kernel
theorem dX9_personThen_74 : decode cX9_personThen 74 = .ok (.getfield 13, 3) := by decide +kernel
theorem dX9_personThen_77 : decode cX9_personThen 77 = .ok (.iload_n 1, 1) := by decide +kernel
theorem dX9_personThen_78 : decode cX9_personThen 78 = .ok (.invokestatic 59, 3) := by decide +kernel
theorem dX9_personThen_81 : decode cX9_personThen 81 = .ok (.ireturn, 1) := by decide +kernel
theorem dX9_fullThen_0 : decode cX9_fullThen 0 = .ok (.aload_n 0, 1) := by decide +kernel
theorem dX9_fullThen_1 : decode cX9_fullThen 1 = .ok (.iload_n 1, 1) := by decide +kernel
theorem dX9_fullThen_2 : decode cX9_fullThen 2 = .ok (.invokevirtual 102, 3) := by decide +kernel
theorem dX9_fullThen_5 : decode cX9_fullThen 5 = .ok (.ifCond .eq 13, 3) := by decide +kernel
theorem dX9_fullThen_8 : decode cX9_fullThen 8 = .ok (.iload_n 2, 1) := by decide +kernel
theorem dX9_fullThen_9 : decode cX9_fullThen 9 = .ok (.iconst 0, 1) := by decide +kernel
theorem dX9_fullThen_10 : decode cX9_fullThen 10 = .ok (.bipush 60, 2) := by decide +kernel
theorem dX9_fullThen_12 : decode cX9_fullThen 12 = .ok (.invokestatic 125, 3) := by decide +kernel
theorem dX9_fullThen_15 : decode cX9_fullThen 15 = .ok (.goto 4, 3) := by decide +kernel
theorem dX9_fullThen_18 : decode cX9_fullThen 18 = .ok (.iconst (-1), 1) := by decide +kernel
theorem dX9_fullThen_19 : decode cX9_fullThen 19 = .ok (.istore_n 3, 1) := by decide +kernel
theorem dX9_fullThen_20 : decode cX9_fullThen 20 = .ok (.iload_n 3, 1) := by decide +kernel
theorem dX9_fullThen_21 : decode cX9_fullThen 21 = .ok (.ifCond .eq 9, 3) := by decide +kernel
theorem dX9_fullThen_24 : decode cX9_fullThen 24 = .ok (.aload_n 0, 1) := by decide +kernel
theorem dX9_fullThen_25 : decode cX9_fullThen 25 = .ok (.iload_n 3, 1) := by decide +kernel
theorem dX9_fullThen_26 : decode cX9_fullThen 26 = .ok (.invokevirtual 35, 3) := by decide +kernel
theorem dX9_fullThen_29 : decode cX9_fullThen 29 = .ok (.ireturn, 1) := by decide +kernel
theorem dX9_fullThen_30 : decode cX9_fullThen 30 = .ok (.aload_n 0, 1) := by decide +kernel
theorem dX9_fullThen_31 : decode cX9_fullThen 31 = .ok (.iload_n 2, 1) := by decide +kernel
theorem dX9_fullThen_32 : decode cX9_fullThen 32 = .ok (.invokevirtual 133, 3) := by decide +kernel
theorem dX9_fullThen_35 : decode cX9_fullThen 35 = .ok (.aload_n 0, 1) := by decide +kernel
theorem dX9_fullThen_36 : decode cX9_fullThen 36 = .ok (.getfield 13, 3) := by decide +kernel
theorem dX9_fullThen_39 : decode cX9_fullThen 39 = .ok (.iload_n 1, 1) := by decide +kernel
theorem dX9_fullThen_40 : decode cX9_fullThen 40 = .ok (.iconst 4, 1) := by decide +kernel
theorem dX9_fullThen_41 : decode cX9_fullThen 41 = .ok (.invokestatic 45, 3) := by decide +kernel
theorem dX9_fullThen_44 : decode cX9_fullThen 44 = .ok (.iaload, 1) := by decide +kernel
theorem dX9_fullThen_45 : decode cX9_fullThen 45 = .ok (.ireturn, 1) := by decide +kernel
theorem dX9_graceThen_0 : decode cX9_graceThen 0 = .ok (.iload_n 1, 1) := by decide +kernel
theorem dX9_graceThen_1 : decode cX9_graceThen 1 = .ok (.iconst 0, 1) := by decide +kernel
theorem dX9_graceThen_2 : decode cX9_graceThen 2 = .ok (.bipush 60, 2) := by decide +kernel
theorem dX9_graceThen_4 : decode cX9_graceThen 4 = .ok (.invokestatic 125, 3) := by decide +kernel
theorem dX9_graceThen_7 : decode cX9_graceThen 7 = .ok (.istore_n 2, 1) := by decide +kernel
theorem dX9_graceThen_8 : decode cX9_graceThen 8 = .ok (.iload_n 2, 1) := by decide +kernel
theorem dX9_graceThen_9 : decode cX9_graceThen 9 = .ok (.ifCond .eq 9, 3) := by decide +kernel
theorem dX9_graceThen_12 : decode cX9_graceThen 12 = .ok (.aload_n 0, 1) := by decide +kernel
theorem dX9_graceThen_13 : decode cX9_graceThen 13 = .ok (.iload_n 2, 1) := by decide +kernel
theorem dX9_graceThen_14 : decode cX9_graceThen 14 = .ok (.invokevirtual 35, 3) := by decide +kernel
theorem dX9_graceThen_17 : decode cX9_graceThen 17 = .ok (.ireturn, 1) := by decide +kernel
theorem dX9_graceThen_18 : decode cX9_graceThen 18 = .ok (.aload_n 0, 1) := by decide +kernel
theorem dX9_graceThen_19 : decode cX9_graceThen 19 = .ok (.iload_n 1, 1) := by decide +kernel
theorem dX9_graceThen_20 : decode cX9_graceThen 20 = .ok (.invokevirtual 133, 3) := by decide +kernel
theorem dX9_graceThen_23 : decode cX9_graceThen 23 = .ok (.aload_n 0, 1) := by decide +kernel
theorem dX9_graceThen_24 : decode cX9_graceThen 24 = .ok (.getfield 13, 3) := by decide +kernel
theorem dX9_graceThen_27 : decode cX9_graceThen 27 = .ok (.invokestatic 129, 3) := by decide +kernel
theorem dX9_graceThen_30 : decode cX9_graceThen 30 = .ok (.ireturn, 1) := by decide +kernel
theorem dX9_whenGone_0 : decode cX9_whenGone 0 = .ok (.aload_n 0, 1) := by decide +kernel
theorem dX9_whenGone_1 : decode cX9_whenGone 1 = .ok (.getfield 9, 3) := by decide +kernel
theorem dX9_whenGone_4 : decode cX9_whenGone 4 = .ok (.aload_n 0, 1) := by decide +kernel
theorem dX9_whenGone_5 : decode cX9_whenGone 5 = .ok (.getfield 13, 3) := by decide +kernel
theorem dX9_whenGone_8 : decode cX9_whenGone 8 = .ok (.invokestatic 112, 3) := by decide +kernel
theorem dX9_whenGone_11 : decode cX9_whenGone 11 = .ok (.iconst 0, 1) := by decide +kernel
theorem dX9_whenGone_12 : decode cX9_whenGone 12 = .ok (.istore_n 2, 1) := by decide +kernel
theorem dX9_whenGone_13 : decode cX9_whenGone 13 = .ok (.iload_n 2, 1) := by decide +kernel
theorem dX9_whenGone_14 : decode cX9_whenGone 14 = .ok (.bipush 60, 2) := by decide +kernel
theorem dX9_whenGone_16 : decode cX9_whenGone 16 = .ok (.if_icmp .gt 27, 3) := by decide +kernel
theorem dX9_whenGone_19 : decode cX9_whenGone 19 = .ok (.aload_n 0, 1) := by decide +kernel
theorem dX9_whenGone_20 : decode cX9_whenGone 20 = .ok (.getfield 13, 3) := by decide +kernel
theorem dX9_whenGone_23 : decode cX9_whenGone 23 = .ok (.iload_n 1, 1) := by decide +kernel
theorem dX9_whenGone_24 : decode cX9_whenGone 24 = .ok (.iaload, 1) := by decide +kernel
theorem dX9_whenGone_25 : decode cX9_whenGone 25 = .ok (.ifCond .ne 5, 3) := by decide +kernel
theorem dX9_whenGone_28 : decode cX9_whenGone 28 = .ok (.iload_n 2, 1) := by decide +kernel
theorem dX9_whenGone_29 : decode cX9_whenGone 29 = .ok (.ireturn, 1) := by decide +kernel
theorem dX9_whenGone_30 : decode cX9_whenGone 30 = .ok (.aload_n 0, 1) := by decide +kernel
theorem dX9_whenGone_31 : decode cX9_whenGone 31 = .ok (.getfield 13, 3) := by decide +kernel
theorem dX9_whenGone_34 : decode cX9_whenGone 34 = .ok (.invokestatic 69, 3) := by decide +kernel
theorem dX9_whenGone_37 : decode cX9_whenGone 37 = .ok (.iinc 2 1, 3) := by decide +kernel
theorem dX9_whenGone_40 : decode cX9_whenGone 40 = .ok (.goto (-27), 3) := by decide +kernel
theorem dX9_whenGone_43 : decode cX9_whenGone 43 = .ok (.bipush (-9), 2) := by decide +kernel
theorem dX9_whenGone_45 : decode cX9_whenGone 45 = .ok (.ireturn, 1) := by decide +kernel
theorem dX9_firstGone_0 : decode cX9_firstGone 0 = .ok (.bipush (-9), 2) := by decide +kernel
theorem dX9_firstGone_2 : decode cX9_firstGone 2 = .ok (.istore_n 1, 1) := by decide +kernel
theorem dX9_firstGone_3 : decode cX9_firstGone 3 = .ok (.ldc 34, 2) := by decide +kernel
theorem dX9_firstGone_5 : decode cX9_firstGone 5 = .ok (.istore_n 2, 1) := by decide +kernel
theorem dX9_firstGone_6 : decode cX9_firstGone 6 = .ok (.iconst 0, 1) := by decide +kernel
theorem dX9_firstGone_7 : decode cX9_firstGone 7 = .ok (.istore_n 3, 1) := by decide +kernel
theorem dX9_firstGone_8 : decode cX9_firstGone 8 = .ok (.iload_n 3, 1) := by decide +kernel
theorem dX9_firstGone_9 : decode cX9_firstGone 9 = .ok (.aload_n 0, 1) := by decide +kernel
theorem dX9_firstGone_10 : decode cX9_firstGone 10 = .ok (.getfield 9, 3) := by decide +kernel
theorem dX9_firstGone_13 : decode cX9_firstGone 13 = .ok (.iconst 1, 1) := by decide +kernel
theorem dX9_firstGone_14 : decode cX9_firstGone 14 = .ok (.iaload, 1) := by decide +kernel
theorem dX9_firstGone_15 : decode cX9_firstGone 15 = .ok (.if_icmp .ge 39, 3) := by decide +kernel
theorem dX9_firstGone_18 : decode cX9_firstGone 18 = .ok (.aload_n 0, 1) := by decide +kernel
theorem dX9_firstGone_19 : decode cX9_firstGone 19 = .ok (.iload_n 3, 1) := by decide +kernel
theorem dX9_firstGone_20 : decode cX9_firstGone 20 = .ok (.iconst 1, 1) := by decide +kernel
theorem dX9_firstGone_21 : decode cX9_firstGone 21 = .ok (.invokestatic 52, 3) := by decide +kernel
theorem dX9_firstGone_24 : decode cX9_firstGone 24 = .ok (.invokevirtual 137, 3) := by decide +kernel
theorem dX9_firstGone_27 : decode cX9_firstGone 27 = .ok (.istore 4, 2) := by decide +kernel
theorem dX9_firstGone_29 : decode cX9_firstGone 29 = .ok (.iload 4, 2) := by decide +kernel
theorem dX9_firstGone_31 : decode cX9_firstGone 31 = .ok (.ifCond .lt 17, 3) := by decide +kernel
theorem dX9_firstGone_34 : decode cX9_firstGone 34 = .ok (.iload 4, 2) := by decide +kernel
theorem dX9_firstGone_36 : decode cX9_firstGone 36 = .ok (.iload_n 2, 1) := by decide +kernel
theorem dX9_firstGone_37 : decode cX9_firstGone 37 = .ok (.if_icmp .lt 6, 3) := by decide +kernel
theorem dX9_firstGone_40 : decode cX9_firstGone 40 = .ok (.goto 8, 3) := by decide +kernel
theorem dX9_firstGone_43 : decode cX9_firstGone 43 = .ok (.iload_n 3, 1) := by decide +kernel
theorem dX9_firstGone_44 : decode cX9_firstGone 44 = .ok (.istore_n 1, 1) := by decide +kernel
theorem dX9_firstGone_45 : decode cX9_firstGone 45 = .ok (.iload 4, 2) := by decide +kernel
theorem dX9_firstGone_47 : decode cX9_firstGone 47 = .ok (.istore_n 2, 1) := by decide +kernel
theorem dX9_firstGone_48 : decode cX9_firstGone 48 = .ok (.iinc 3 1, 3) := by decide +kernel
theorem dX9_firstGone_51 : decode cX9_firstGone 51 = .ok (.goto (-43), 3) := by decide +kernel
theorem dX9_firstGone_54 : decode cX9_firstGone 54 = .ok (.iload_n 1, 1) := by decide +kernel
theorem dX9_firstGone_55 : decode cX9_firstGone 55 = .ok (.ireturn, 1) := by decide +kernel
theorem dX9_graceless_0 : decode cX9_graceless 0 = .ok (.iload_n 1, 1) := by decide +kernel
theorem dX9_graceless_1 : decode cX9_graceless 1 = .ok (.iconst (-1), 1) := by decide +kernel
theorem dX9_graceless_2 : decode cX9_graceless 2 = .ok (.if_icmp .ne 10, 3) := by decide +kernel
theorem dX9_graceless_5 : decode cX9_graceless 5 = .ok (.aload_n 0, 1) := by decide +kernel
theorem dX9_graceless_6 : decode cX9_graceless 6 = .ok (.invokevirtual 140, 3) := by decide +kernel
theorem dX9_graceless_9 : decode cX9_graceless 9 = .ok (.goto 28, 3) := by decide +kernel
theorem dX9_graceless_12 : decode cX9_graceless 12 = .ok (.aload_n 0, 1) := by decide +kernel
theorem dX9_graceless_13 : decode cX9_graceless 13 = .ok (.iload_n 1, 1) := by decide +kernel
theorem dX9_graceless_14 : decode cX9_graceless 14 = .ok (.invokevirtual 95, 3) := by decide +kernel
theorem dX9_graceless_17 : decode cX9_graceless 17 = .ok (.ifCond .eq 15, 3) := by decide +kernel
theorem dX9_graceless_20 : decode cX9_graceless 20 = .ok (.aload_n 0, 1) := by decide +kernel
theorem dX9_graceless_21 : decode cX9_graceless 21 = .ok (.iload_n 1, 1) := by decide +kernel
theorem dX9_graceless_22 : decode cX9_graceless 22 = .ok (.iconst 1, 1) := by decide +kernel
theorem dX9_graceless_23 : decode cX9_graceless 23 = .ok (.invokestatic 52, 3) := by decide +kernel
theorem dX9_graceless_26 : decode cX9_graceless 26 = .ok (.invokevirtual 137, 3) := by decide +kernel
theorem dX9_graceless_29 : decode cX9_graceless 29 = .ok (.goto 8, 3) := by decide +kernel
theorem dX9_graceless_32 : decode cX9_graceless 32 = .ok (.aload_n 0, 1) := by decide +kernel
theorem dX9_graceless_33 : decode cX9_graceless 33 = .ok (.iconst (-1), 1) := by decide +kernel
theorem dX9_graceless_34 : decode cX9_graceless 34 = .ok (.invokevirtual 35, 3) := by decide +kernel
theorem dX9_graceless_37 : decode cX9_graceless 37 = .ok (.ireturn, 1) := by decide +kernel
theorem dX9_empties_0 : decode cX9_empties 0 = .ok (.aload_n 0, 1) := by decide +kernel
theorem dX9_empties_1 : decode cX9_empties 1 = .ok (.iload_n 1, 1) := by decide +kernel
theorem dX9_empties_2 : decode cX9_empties 2 = .ok (.invokevirtual 102, 3) := by decide +kernel
theorem dX9_empties_5 : decode cX9_empties 5 = .ok (.ifCond .eq 15, 3) := by decide +kernel
theorem dX9_empties_8 : decode cX9_empties 8 = .ok (.aload_n 0, 1) := by decide +kernel
theorem dX9_empties_9 : decode cX9_empties 9 = .ok (.iload_n 1, 1) := by decide +kernel
theorem dX9_empties_10 : decode cX9_empties 10 = .ok (.iconst 4, 1) := by decide +kernel
theorem dX9_empties_11 : decode cX9_empties 11 = .ok (.invokestatic 45, 3) := by decide +kernel
theorem dX9_empties_14 : decode cX9_empties 14 = .ok (.invokevirtual 137, 3) := by decide +kernel
theorem dX9_empties_17 : decode cX9_empties 17 = .ok (.goto 8, 3) := by decide +kernel
theorem dX9_empties_20 : decode cX9_empties 20 = .ok (.aload_n 0, 1) := by decide +kernel
theorem dX9_empties_21 : decode cX9_empties 21 = .ok (.iconst (-1), 1) := by decide +kernel
theorem dX9_empties_22 : decode cX9_empties 22 = .ok (.invokevirtual 35, 3) := by decide +kernel
theorem dX9_empties_25 : decode cX9_empties 25 = .ok (.ireturn, 1) := by decide +kernel
theorem dX9_label_0 : decode cX9_label 0 = .ok (.aload_n 0, 1) := by decide +kernel
theorem dX9_label_1 : decode cX9_label 1 = .ok (.iload_n 1, 1) := by decide +kernel
theorem dX9_label_2 : decode cX9_label 2 = .ok (.invokevirtual 102, 3) := by decide +kernel
theorem dX9_label_5 : decode cX9_label 5 = .ok (.ifCond .eq 13, 3) := by decide +kernel
theorem dX9_label_8 : decode cX9_label 8 = .ok (.iload_n 2, 1) := by decide +kernel
theorem dX9_label_9 : decode cX9_label 9 = .ok (.iconst 0, 1) := by decide +kernel
theorem dX9_label_10 : decode cX9_label 10 = .ok (.bipush 30, 2) := by decide +kernel
theorem dX9_label_12 : decode cX9_label 12 = .ok (.invokestatic 125, 3) := by decide +kernel
theorem dX9_label_15 : decode cX9_label 15 = .ok (.goto 4, 3) := by decide +kernel
theorem dX9_label_18 : decode cX9_label 18 = .ok (.iconst (-1), 1) := by decide +kernel
theorem dX9_label_19 : decode cX9_label 19 = .ok (.istore_n 3, 1) := by decide +kernel
theorem dX9_label_20 : decode cX9_label 20 = .ok (.iload_n 3, 1) := by decide +kernel
theorem dX9_label_21 : decode cX9_label 21 = .ok (.ifCond .eq 9, 3) := by decide +kernel
theorem dX9_label_24 : decode cX9_label 24 = .ok (.aload_n 0, 1) := by decide +kernel
theorem dX9_label_25 : decode cX9_label 25 = .ok (.iload_n 3, 1) := by decide +kernel
theorem dX9_label_26 : decode cX9_label 26 = .ok (.invokevirtual 35, 3) := by decide +kernel
theorem dX9_label_29 : decode cX9_label 29 = .ok (.ireturn, 1) := by decide +kernel
theorem dX9_label_30 : decode cX9_label 30 = .ok (.iconst 0, 1) := by decide +kernel
theorem dX9_label_31 : decode cX9_label 31 = .ok (.istore 4, 2) := by decide +kernel
theorem dX9_label_33 : decode cX9_label 33 = .ok (.iconst (-1), 1) := by decide +kernel
theorem dX9_label_34 : decode cX9_label 34 = .ok (.istore 5, 2) := by decide +kernel
theorem dX9_label_36 : decode cX9_label 36 = .ok (.iconst 0, 1) := by decide +kernel
theorem dX9_label_37 : decode cX9_label 37 = .ok (.istore 6, 2) := by decide +kernel
theorem dX9_label_39 : decode cX9_label 39 = .ok (.iload 6, 2) := by decide +kernel
theorem dX9_label_41 : decode cX9_label 41 = .ok (.bipush 6, 2) := by decide +kernel
theorem dX9_label_43 : decode cX9_label 43 = .ok (.if_icmp .gt 79, 3) := by decide +kernel
theorem dX9_label_46 : decode cX9_label 46 = .ok (.aload_n 0, 1) := by decide +kernel
theorem dX9_label_47 : decode cX9_label 47 = .ok (.getfield 9, 3) := by decide +kernel
theorem dX9_label_50 : decode cX9_label 50 = .ok (.aload_n 0, 1) := by decide +kernel
theorem dX9_label_51 : decode cX9_label 51 = .ok (.getfield 13, 3) := by decide +kernel
theorem dX9_label_54 : decode cX9_label 54 = .ok (.invokestatic 112, 3) := by decide +kernel
theorem dX9_label_57 : decode cX9_label 57 = .ok (.aload_n 0, 1) := by decide +kernel
theorem dX9_label_58 : decode cX9_label 58 = .ok (.getfield 13, 3) := by decide +kernel
theorem dX9_label_61 : decode cX9_label 61 = .ok (.iload_n 1, 1) := by decide +kernel
theorem dX9_label_62 : decode cX9_label 62 = .ok (.iconst 3, 1) := by decide +kernel
theorem dX9_label_63 : decode cX9_label 63 = .ok (.invokestatic 45, 3) := by decide +kernel
theorem dX9_label_66 : decode cX9_label 66 = .ok (.iload 6, 2) := by decide +kernel
theorem dX9_label_68 : decode cX9_label 68 = .ok (.iastore, 1) := by decide +kernel
theorem dX9_label_69 : decode cX9_label 69 = .ok (.aload_n 0, 1) := by decide +kernel
theorem dX9_label_70 : decode cX9_label 70 = .ok (.getfield 13, 3) := by decide +kernel
theorem dX9_label_73 : decode cX9_label 73 = .ok (.iload_n 2, 1) := by decide +kernel
theorem dX9_label_74 : decode cX9_label 74 = .ok (.invokestatic 105, 3) := by decide +kernel
theorem dX9_label_77 : decode cX9_label 77 = .ok (.aload_n 0, 1) := by decide +kernel
theorem dX9_label_78 : decode cX9_label 78 = .ok (.getfield 13, 3) := by decide +kernel
theorem dX9_label_81 : decode cX9_label 81 = .ok (.aload_n 0, 1) := by decide +kernel
theorem dX9_label_82 : decode cX9_label 82 = .ok (.getfield 9, 3) := by decide +kernel
theorem dX9_label_85 : decode cX9_label 85 = .ok (.iload_n 1, 1) := by decide +kernel
theorem dX9_label_86 : decode cX9_label 86 = .ok (.iconst 5, 1) := by decide +kernel
theorem dX9_label_87 : decode cX9_label 87 = .ok (.invokestatic 45, 3) := by decide +kernel
theorem dX9_label_90 : decode cX9_label 90 = .ok (.iaload, 1) := by decide +kernel
theorem dX9_label_91 : decode cX9_label 91 = .ok (.iconst 1, 1) := by decide +kernel
theorem dX9_label_92 : decode cX9_label 92 = .ok (.invokestatic 52, 3) := by decide +kernel
theorem dX9_label_95 : decode cX9_label 95 = .ok (.iaload, 1) := by decide +kernel
theorem dX9_label_96 : decode cX9_label 96 = .ok (.istore 7, 2) := by decide +kernel
theorem dX9_label_98 : decode cX9_label 98 = .ok (.iload 7, 2) := by decide +kernel
theorem dX9_label_100 : decode cX9_label 100 = .ok (.iload 5, 2) := by decide +kernel
theorem dX9_label_102 : decode cX9_label 102 = .ok (.if_icmp .gt 6, 3) := by decide +kernel
theorem dX9_label_105 : decode cX9_label 105 = .ok (.goto 11, 3) := by decide +kernel
theorem dX9_label_108 : decode cX9_label 108 = .ok (.iload 6, 2) := by decide +kernel
theorem dX9_label_110 : decode cX9_label 110 = .ok (.istore 4, 2) := by decide +kernel
theorem dX9_label_112 : decode cX9_label 112 = .ok (.iload 7, 2) := by decide +kernel
theorem dX9_label_114 : decode cX9_label 114 = .ok (.istore 5, 2) := by decide +kernel
theorem dX9_label_116 : decode cX9_label 116 = .ok (.iinc 6 1, 3) := by decide +kernel
theorem dX9_label_119 : decode cX9_label 119 = .ok (.goto (-80), 3) := by decide +kernel
theorem dX9_label_122 : decode cX9_label 122 = .ok (.iload 4, 2) := by decide +kernel
theorem dX9_label_124 : decode cX9_label 124 = .ok (.ireturn, 1) := by decide +kernel
theorem dX9_honestOnes_0 : decode cX9_honestOnes 0 = .ok (.iconst 0, 1) := by decide +kernel
theorem dX9_honestOnes_1 : decode cX9_honestOnes 1 = .ok (.istore_n 1, 1) := by decide +kernel
theorem dX9_honestOnes_2 : decode cX9_honestOnes 2 = .ok (.iconst 0, 1) := by decide +kernel
theorem dX9_honestOnes_3 : decode cX9_honestOnes 3 = .ok (.istore_n 2, 1) := by decide +kernel
theorem dX9_honestOnes_4 : decode cX9_honestOnes 4 = .ok (.iload_n 2, 1) := by decide +kernel
theorem dX9_honestOnes_5 : decode cX9_honestOnes 5 = .ok (.aload_n 0, 1) := by decide +kernel
theorem dX9_honestOnes_6 : decode cX9_honestOnes 6 = .ok (.getfield 9, 3) := by decide +kernel
theorem dX9_honestOnes_9 : decode cX9_honestOnes 9 = .ok (.iconst 0, 1) := by decide +kernel
theorem dX9_honestOnes_10 : decode cX9_honestOnes 10 = .ok (.iaload, 1) := by decide +kernel
theorem dX9_honestOnes_11 : decode cX9_honestOnes 11 = .ok (.if_icmp .ge 42, 3) := by decide +kernel
theorem dX9_honestOnes_14 : decode cX9_honestOnes 14 = .ok (.iload_n 1, 1) := by decide +kernel
theorem dX9_honestOnes_15 : decode cX9_honestOnes 15 = .ok (.aload_n 0, 1) := by decide +kernel
theorem dX9_honestOnes_16 : decode cX9_honestOnes 16 = .ok (.getfield 9, 3) := by decide +kernel
theorem dX9_honestOnes_19 : decode cX9_honestOnes 19 = .ok (.iload_n 2, 1) := by decide +kernel
theorem dX9_honestOnes_20 : decode cX9_honestOnes 20 = .ok (.iconst 3, 1) := by decide +kernel
theorem dX9_honestOnes_21 : decode cX9_honestOnes 21 = .ok (.invokestatic 45, 3) := by decide +kernel
theorem dX9_honestOnes_24 : decode cX9_honestOnes 24 = .ok (.iaload, 1) := by decide +kernel
theorem dX9_honestOnes_25 : decode cX9_honestOnes 25 = .ok (.aload_n 0, 1) := by decide +kernel
theorem dX9_honestOnes_26 : decode cX9_honestOnes 26 = .ok (.getfield 9, 3) := by decide +kernel
theorem dX9_honestOnes_29 : decode cX9_honestOnes 29 = .ok (.iload_n 2, 1) := by decide +kernel
theorem dX9_honestOnes_30 : decode cX9_honestOnes 30 = .ok (.iconst 2, 1) := by decide +kernel
theorem dX9_honestOnes_31 : decode cX9_honestOnes 31 = .ok (.invokestatic 45, 3) := by decide +kernel
theorem dX9_honestOnes_34 : decode cX9_honestOnes 34 = .ok (.iaload, 1) := by decide +kernel
theorem dX9_honestOnes_35 : decode cX9_honestOnes 35 = .ok (.if_icmp .ne 9, 3) := by decide +kernel
theorem dX9_honestOnes_38 : decode cX9_honestOnes 38 = .ok (.iconst 1, 1) := by decide +kernel
theorem dX9_honestOnes_39 : decode cX9_honestOnes 39 = .ok (.iload_n 2, 1) := by decide +kernel
theorem dX9_honestOnes_40 : decode cX9_honestOnes 40 = .ok (.ishl, 1) := by decide +kernel
theorem dX9_honestOnes_41 : decode cX9_honestOnes 41 = .ok (.goto 4, 3) := by decide +kernel
theorem dX9_honestOnes_44 : decode cX9_honestOnes 44 = .ok (.iconst 0, 1) := by decide +kernel
theorem dX9_honestOnes_45 : decode cX9_honestOnes 45 = .ok (.ior, 1) := by decide +kernel
theorem dX9_honestOnes_46 : decode cX9_honestOnes 46 = .ok (.istore_n 1, 1) := by decide +kernel
theorem dX9_honestOnes_47 : decode cX9_honestOnes 47 = .ok (.iinc 2 1, 3) := by decide +kernel
theorem dX9_honestOnes_50 : decode cX9_honestOnes 50 = .ok (.goto (-46), 3) := by decide +kernel
theorem dX9_honestOnes_53 : decode cX9_honestOnes 53 = .ok (.iload_n 1, 1) := by decide +kernel
theorem dX9_honestOnes_54 : decode cX9_honestOnes 54 = .ok (.ireturn, 1) := by decide +kernel
theorem dX9_hopefulOnes_0 : decode cX9_hopefulOnes 0 = .ok (.iconst 0, 1) := by decide +kernel
theorem dX9_hopefulOnes_1 : decode cX9_hopefulOnes 1 = .ok (.istore_n 1, 1) := by decide +kernel
theorem dX9_hopefulOnes_2 : decode cX9_hopefulOnes 2 = .ok (.iconst 0, 1) := by decide +kernel
theorem dX9_hopefulOnes_3 : decode cX9_hopefulOnes 3 = .ok (.istore_n 2, 1) := by decide +kernel
theorem dX9_hopefulOnes_4 : decode cX9_hopefulOnes 4 = .ok (.iload_n 2, 1) := by decide +kernel
theorem dX9_hopefulOnes_5 : decode cX9_hopefulOnes 5 = .ok (.aload_n 0, 1) := by decide +kernel
theorem dX9_hopefulOnes_6 : decode cX9_hopefulOnes 6 = .ok (.getfield 9, 3) := by decide +kernel
theorem dX9_hopefulOnes_9 : decode cX9_hopefulOnes 9 = .ok (.iconst 0, 1) := by decide +kernel
theorem dX9_hopefulOnes_10 : decode cX9_hopefulOnes 10 = .ok (.iaload, 1) := by decide +kernel
theorem dX9_hopefulOnes_11 : decode cX9_hopefulOnes 11 = .ok (.if_icmp .ge 51, 3) := by decide +kernel
theorem dX9_hopefulOnes_14 : decode cX9_hopefulOnes 14 = .ok (.iload_n 1, 1) := by decide +kernel
theorem dX9_hopefulOnes_15 : decode cX9_hopefulOnes 15 = .ok (.aload_n 0, 1) := by decide +kernel
theorem dX9_hopefulOnes_16 : decode cX9_hopefulOnes 16 = .ok (.getfield 9, 3) := by decide +kernel
theorem dX9_hopefulOnes_19 : decode cX9_hopefulOnes 19 = .ok (.iload_n 2, 1) := by decide +kernel
theorem dX9_hopefulOnes_20 : decode cX9_hopefulOnes 20 = .ok (.iconst 3, 1) := by decide +kernel
theorem dX9_hopefulOnes_21 : decode cX9_hopefulOnes 21 = .ok (.invokestatic 45, 3) := by decide +kernel
theorem dX9_hopefulOnes_24 : decode cX9_hopefulOnes 24 = .ok (.iaload, 1) := by decide +kernel
theorem dX9_hopefulOnes_25 : decode cX9_hopefulOnes 25 = .ok (.aload_n 0, 1) := by decide +kernel
theorem dX9_hopefulOnes_26 : decode cX9_hopefulOnes 26 = .ok (.getfield 9, 3) := by decide +kernel
theorem dX9_hopefulOnes_29 : decode cX9_hopefulOnes 29 = .ok (.aload_n 0, 1) := by decide +kernel
theorem dX9_hopefulOnes_30 : decode cX9_hopefulOnes 30 = .ok (.getfield 9, 3) := by decide +kernel
theorem dX9_hopefulOnes_33 : decode cX9_hopefulOnes 33 = .ok (.iload_n 2, 1) := by decide +kernel
theorem dX9_hopefulOnes_34 : decode cX9_hopefulOnes 34 = .ok (.iconst 5, 1) := by decide +kernel
theorem dX9_hopefulOnes_35 : decode cX9_hopefulOnes 35 = .ok (.invokestatic 45, 3) := by decide +kernel
theorem dX9_hopefulOnes_38 : decode cX9_hopefulOnes 38 = .ok (.iaload, 1) := by decide +kernel
theorem dX9_hopefulOnes_39 : decode cX9_hopefulOnes 39 = .ok (.iconst 0, 1) := by decide +kernel
theorem dX9_hopefulOnes_40 : decode cX9_hopefulOnes 40 = .ok (.invokestatic 52, 3) := by decide +kernel
theorem dX9_hopefulOnes_43 : decode cX9_hopefulOnes 43 = .ok (.iaload, 1) := by decide +kernel
theorem dX9_hopefulOnes_44 : decode cX9_hopefulOnes 44 = .ok (.if_icmp .ne 9, 3) := by decide +kernel
theorem dX9_hopefulOnes_47 : decode cX9_hopefulOnes 47 = .ok (.iconst 1, 1) := by decide +kernel
theorem dX9_hopefulOnes_48 : decode cX9_hopefulOnes 48 = .ok (.iload_n 2, 1) := by decide +kernel
theorem dX9_hopefulOnes_49 : decode cX9_hopefulOnes 49 = .ok (.ishl, 1) := by decide +kernel
theorem dX9_hopefulOnes_50 : decode cX9_hopefulOnes 50 = .ok (.goto 4, 3) := by decide +kernel
theorem dX9_hopefulOnes_53 : decode cX9_hopefulOnes 53 = .ok (.iconst 0, 1) := by decide +kernel
theorem dX9_hopefulOnes_54 : decode cX9_hopefulOnes 54 = .ok (.ior, 1) := by decide +kernel
theorem dX9_hopefulOnes_55 : decode cX9_hopefulOnes 55 = .ok (.istore_n 1, 1) := by decide +kernel
theorem dX9_hopefulOnes_56 : decode cX9_hopefulOnes 56 = .ok (.iinc 2 1, 3) := by decide +kernel
theorem dX9_hopefulOnes_59 : decode cX9_hopefulOnes 59 = .ok (.goto (-55), 3) := by decide +kernel
theorem dX9_hopefulOnes_62 : decode cX9_hopefulOnes 62 = .ok (.iload_n 1, 1) := by decide +kernel
theorem dX9_hopefulOnes_63 : decode cX9_hopefulOnes 63 = .ok (.ireturn, 1) := by decide +kernel
theorem dX9_honest_0 : decode cX9_honest 0 = .ok (.iload_n 1, 1) := by decide +kernel
theorem dX9_honest_1 : decode cX9_honest 1 = .ok (.ifCond .ne 10, 3) := by decide +kernel
theorem dX9_honest_4 : decode cX9_honest 4 = .ok (.aload_n 0, 1) := by decide +kernel
theorem dX9_honest_5 : decode cX9_honest 5 = .ok (.invokevirtual 143, 3) := by decide +kernel
theorem dX9_honest_8 : decode cX9_honest 8 = .ok (.goto 21, 3) := by decide +kernel
theorem dX9_honest_11 : decode cX9_honest 11 = .ok (.iload_n 1, 1) := by decide +kernel
theorem dX9_honest_12 : decode cX9_honest 12 = .ok (.iconst 1, 1) := by decide +kernel
theorem dX9_honest_13 : decode cX9_honest 13 = .ok (.if_icmp .ne 10, 3) := by decide +kernel
theorem dX9_honest_16 : decode cX9_honest 16 = .ok (.aload_n 0, 1) := by decide +kernel
theorem dX9_honest_17 : decode cX9_honest 17 = .ok (.invokevirtual 146, 3) := by decide +kernel
theorem dX9_honest_20 : decode cX9_honest 20 = .ok (.goto 9, 3) := by decide +kernel
theorem dX9_honest_23 : decode cX9_honest 23 = .ok (.aload_n 0, 1) := by decide +kernel
theorem dX9_honest_24 : decode cX9_honest 24 = .ok (.bipush (-2), 2) := by decide +kernel
theorem dX9_honest_26 : decode cX9_honest 26 = .ok (.invokevirtual 35, 3) := by decide +kernel
theorem dX9_honest_29 : decode cX9_honest 29 = .ok (.ireturn, 1) := by decide +kernel
theorem dX9_graceNow_0 : decode cX9_graceNow 0 = .ok (.aload_n 0, 1) := by decide +kernel
theorem dX9_graceNow_1 : decode cX9_graceNow 1 = .ok (.iload_n 1, 1) := by decide +kernel
theorem dX9_graceNow_2 : decode cX9_graceNow 2 = .ok (.invokevirtual 133, 3) := by decide +kernel
theorem dX9_graceNow_5 : decode cX9_graceNow 5 = .ok (.aload_n 0, 1) := by decide +kernel
theorem dX9_graceNow_6 : decode cX9_graceNow 6 = .ok (.getfield 13, 3) := by decide +kernel
theorem dX9_graceNow_9 : decode cX9_graceNow 9 = .ok (.invokestatic 129, 3) := by decide +kernel
theorem dX9_graceNow_12 : decode cX9_graceNow 12 = .ok (.ireturn, 1) := by decide +kernel
theorem dX9_audit_0 : decode cX9_audit 0 = .ok (.iload_n 1, 1) := by decide +kernel
theorem dX9_audit_1 : decode cX9_audit 1 = .ok (.iconst 0, 1) := by decide +kernel
theorem dX9_audit_2 : decode cX9_audit 2 = .ok (.bipush 30, 2) := by decide +kernel
theorem dX9_audit_4 : decode cX9_audit 4 = .ok (.invokestatic 125, 3) := by decide +kernel
theorem dX9_audit_7 : decode cX9_audit 7 = .ok (.istore_n 3, 1) := by decide +kernel
theorem dX9_audit_8 : decode cX9_audit 8 = .ok (.iload_n 3, 1) := by decide +kernel
theorem dX9_audit_9 : decode cX9_audit 9 = .ok (.ifCond .ne 15, 3) := by decide +kernel
theorem dX9_audit_12 : decode cX9_audit 12 = .ok (.iload_n 2, 1) := by decide +kernel
theorem dX9_audit_13 : decode cX9_audit 13 = .ok (.iconst 0, 1) := by decide +kernel
theorem dX9_audit_14 : decode cX9_audit 14 = .ok (.iconst 1, 1) := by decide +kernel
theorem dX9_audit_15 : decode cX9_audit 15 = .ok (.invokestatic 41, 3) := by decide +kernel
theorem dX9_audit_18 : decode cX9_audit 18 = .ok (.ifCond .ne 6, 3) := by decide +kernel
theorem dX9_audit_21 : decode cX9_audit 21 = .ok (.bipush (-2), 2) := by decide +kernel
theorem dX9_audit_23 : decode cX9_audit 23 = .ok (.istore_n 3, 1) := by decide +kernel
theorem dX9_audit_24 : decode cX9_audit 24 = .ok (.iload_n 3, 1) := by decide +kernel
theorem dX9_audit_25 : decode cX9_audit 25 = .ok (.ifCond .eq 9, 3) := by decide +kernel
theorem dX9_audit_28 : decode cX9_audit 28 = .ok (.aload_n 0, 1) := by decide +kernel
theorem dX9_audit_29 : decode cX9_audit 29 = .ok (.iload_n 3, 1) := by decide +kernel
theorem dX9_audit_30 : decode cX9_audit 30 = .ok (.invokevirtual 122, 3) := by decide +kernel
theorem dX9_audit_33 : decode cX9_audit 33 = .ok (.ireturn, 1) := by decide +kernel
theorem dX9_audit_34 : decode cX9_audit 34 = .ok (.aload_n 0, 1) := by decide +kernel
theorem dX9_audit_35 : decode cX9_audit 35 = .ok (.iload_n 1, 1) := by decide +kernel
theorem dX9_audit_36 : decode cX9_audit 36 = .ok (.invokevirtual 149, 3) := by decide +kernel
theorem dX9_audit_39 : decode cX9_audit 39 = .ok (.istore 4, 2) := by decide +kernel
theorem dX9_audit_41 : decode cX9_audit 41 = .ok (.aload_n 0, 1) := by decide +kernel
theorem dX9_audit_42 : decode cX9_audit 42 = .ok (.getfield 9, 3) := by decide +kernel
theorem dX9_audit_45 : decode cX9_audit 45 = .ok (.aload_n 0, 1) := by decide +kernel
theorem dX9_audit_46 : decode cX9_audit 46 = .ok (.getfield 13, 3) := by decide +kernel
theorem dX9_audit_49 : decode cX9_audit 49 = .ok (.invokestatic 112, 3) := by decide +kernel
theorem dX9_audit_52 : decode cX9_audit 52 = .ok (.iconst 0, 1) := by decide +kernel
theorem dX9_audit_53 : decode cX9_audit 53 = .ok (.istore 5, 2) := by decide +kernel
theorem dX9_audit_55 : decode cX9_audit 55 = .ok (.iload 5, 2) := by decide +kernel
theorem dX9_audit_57 : decode cX9_audit 57 = .ok (.aload_n 0, 1) := by decide +kernel
theorem dX9_audit_58 : decode cX9_audit 58 = .ok (.getfield 9, 3) := by decide +kernel
theorem dX9_audit_61 : decode cX9_audit 61 = .ok (.iconst 0, 1) := by decide +kernel
theorem dX9_audit_62 : decode cX9_audit 62 = .ok (.iaload, 1) := by decide +kernel
theorem dX9_audit_63 : decode cX9_audit 63 = .ok (.if_icmp .ge 40, 3) := by decide +kernel
theorem dX9_audit_66 : decode cX9_audit 66 = .ok (.aload_n 0, 1) := by decide +kernel
theorem dX9_audit_67 : decode cX9_audit 67 = .ok (.getfield 13, 3) := by decide +kernel
theorem dX9_audit_70 : decode cX9_audit 70 = .ok (.iload 5, 2) := by decide +kernel
theorem dX9_audit_72 : decode cX9_audit 72 = .ok (.iconst 3, 1) := by decide +kernel
theorem dX9_audit_73 : decode cX9_audit 73 = .ok (.invokestatic 45, 3) := by decide +kernel
theorem dX9_audit_76 : decode cX9_audit 76 = .ok (.iload_n 2, 1) := by decide +kernel
theorem dX9_audit_77 : decode cX9_audit 77 = .ok (.ifCond .ne 17, 3) := by decide +kernel
theorem dX9_audit_80 : decode cX9_audit 80 = .ok (.aload_n 0, 1) := by decide +kernel
theorem dX9_audit_81 : decode cX9_audit 81 = .ok (.getfield 9, 3) := by decide +kernel
theorem dX9_audit_84 : decode cX9_audit 84 = .ok (.iload 5, 2) := by decide +kernel
theorem dX9_audit_86 : decode cX9_audit 86 = .ok (.iconst 2, 1) := by decide +kernel
theorem dX9_audit_87 : decode cX9_audit 87 = .ok (.invokestatic 45, 3) := by decide +kernel
theorem dX9_audit_90 : decode cX9_audit 90 = .ok (.iaload, 1) := by decide +kernel
theorem dX9_audit_91 : decode cX9_audit 91 = .ok (.goto 5, 3) := by decide +kernel
theorem dX9_audit_94 : decode cX9_audit 94 = .ok (.bipush 6, 2) := by decide +kernel
theorem dX9_audit_96 : decode cX9_audit 96 = .ok (.iastore, 1) := by decide +kernel
theorem dX9_audit_97 : decode cX9_audit 97 = .ok (.iinc 5 1, 3) := by decide +kernel
theorem dX9_audit_100 : decode cX9_audit 100 = .ok (.goto (-45), 3) := by decide +kernel
theorem dX9_audit_103 : decode cX9_audit 103 = .ok (.aload_n 0, 1) := by decide +kernel
theorem dX9_audit_104 : decode cX9_audit 104 = .ok (.getfield 13, 3) := by decide +kernel
theorem dX9_audit_107 : decode cX9_audit 107 = .ok (.iload_n 1, 1) := by decide +kernel
theorem dX9_audit_108 : decode cX9_audit 108 = .ok (.invokestatic 105, 3) := by decide +kernel
theorem dX9_audit_111 : decode cX9_audit 111 = .ok (.aload_n 0, 1) := by decide +kernel
theorem dX9_audit_112 : decode cX9_audit 112 = .ok (.getfield 13, 3) := by decide +kernel
theorem dX9_audit_115 : decode cX9_audit 115 = .ok (.invokestatic 129, 3) := by decide +kernel
theorem dX9_audit_118 : decode cX9_audit 118 = .ok (.iload 4, 2) := by decide +kernel
theorem dX9_audit_120 : decode cX9_audit 120 = .ok (.isub, 1) := by decide +kernel
theorem dX9_audit_121 : decode cX9_audit 121 = .ok (.ireturn, 1) := by decide +kernel
theorem dX9_change_0 : decode cX9_change 0 = .ok (.iload_n 1, 1) := by decide +kernel
theorem dX9_change_1 : decode cX9_change 1 = .ok (.iconst 0, 1) := by decide +kernel
theorem dX9_change_2 : decode cX9_change 2 = .ok (.bipush 20, 2) := by decide +kernel
theorem dX9_change_4 : decode cX9_change 4 = .ok (.invokestatic 125, 3) := by decide +kernel
theorem dX9_change_7 : decode cX9_change 7 = .ok (.istore_n 2, 1) := by decide +kernel
theorem dX9_change_8 : decode cX9_change 8 = .ok (.iload_n 2, 1) := by decide +kernel
theorem dX9_change_9 : decode cX9_change 9 = .ok (.ifCond .eq 9, 3) := by decide +kernel
theorem dX9_change_12 : decode cX9_change 12 = .ok (.aload_n 0, 1) := by decide +kernel
theorem dX9_change_13 : decode cX9_change 13 = .ok (.iload_n 2, 1) := by decide +kernel
theorem dX9_change_14 : decode cX9_change 14 = .ok (.invokevirtual 35, 3) := by decide +kernel
theorem dX9_change_17 : decode cX9_change 17 = .ok (.ireturn, 1) := by decide +kernel
theorem dX9_change_18 : decode cX9_change 18 = .ok (.aload_n 0, 1) := by decide +kernel
theorem dX9_change_19 : decode cX9_change 19 = .ok (.iload_n 1, 1) := by decide +kernel
theorem dX9_change_20 : decode cX9_change 20 = .ok (.invokevirtual 149, 3) := by decide +kernel
theorem dX9_change_23 : decode cX9_change 23 = .ok (.istore_n 3, 1) := by decide +kernel
theorem dX9_change_24 : decode cX9_change 24 = .ok (.bipush (-9), 2) := by decide +kernel
theorem dX9_change_26 : decode cX9_change 26 = .ok (.istore 4, 2) := by decide +kernel
theorem dX9_change_28 : decode cX9_change 28 = .ok (.iconst 0, 1) := by decide +kernel
theorem dX9_change_29 : decode cX9_change 29 = .ok (.istore 5, 2) := by decide +kernel
theorem dX9_change_31 : decode cX9_change 31 = .ok (.iload 5, 2) := by decide +kernel
theorem dX9_change_33 : decode cX9_change 33 = .ok (.aload_n 0, 1) := by decide +kernel
theorem dX9_change_34 : decode cX9_change 34 = .ok (.getfield 9, 3) := by decide +kernel
theorem dX9_change_37 : decode cX9_change 37 = .ok (.iconst 0, 1) := by decide +kernel
theorem dX9_change_38 : decode cX9_change 38 = .ok (.iaload, 1) := by decide +kernel
theorem dX9_change_39 : decode cX9_change 39 = .ok (.if_icmp .ge 152, 3) := by decide +kernel
theorem dX9_change_42 : decode cX9_change 42 = .ok (.iload 5, 2) := by decide +kernel
theorem dX9_change_44 : decode cX9_change 44 = .ok (.iconst 1, 1) := by decide +kernel
theorem dX9_change_45 : decode cX9_change 45 = .ok (.iadd, 1) := by decide +kernel
theorem dX9_change_46 : decode cX9_change 46 = .ok (.istore 6, 2) := by decide +kernel
theorem dX9_change_48 : decode cX9_change 48 = .ok (.iload 6, 2) := by decide +kernel
theorem dX9_change_50 : decode cX9_change 50 = .ok (.aload_n 0, 1) := by decide +kernel
theorem dX9_change_51 : decode cX9_change 51 = .ok (.getfield 9, 3) := by decide +kernel
theorem dX9_change_54 : decode cX9_change 54 = .ok (.iconst 0, 1) := by decide +kernel
theorem dX9_change_55 : decode cX9_change 55 = .ok (.iaload, 1) := by decide +kernel
theorem dX9_change_56 : decode cX9_change 56 = .ok (.if_icmp .ge 129, 3) := by decide +kernel
theorem dX9_change_59 : decode cX9_change 59 = .ok (.aload_n 0, 1) := by decide +kernel
theorem dX9_change_60 : decode cX9_change 60 = .ok (.getfield 9, 3) := by decide +kernel
theorem dX9_change_63 : decode cX9_change 63 = .ok (.aload_n 0, 1) := by decide +kernel
theorem dX9_change_64 : decode cX9_change 64 = .ok (.getfield 13, 3) := by decide +kernel
theorem dX9_change_67 : decode cX9_change 67 = .ok (.invokestatic 112, 3) := by decide +kernel
theorem dX9_change_70 : decode cX9_change 70 = .ok (.aload_n 0, 1) := by decide +kernel
theorem dX9_change_71 : decode cX9_change 71 = .ok (.getfield 13, 3) := by decide +kernel
theorem dX9_change_74 : decode cX9_change 74 = .ok (.iload 5, 2) := by decide +kernel
theorem dX9_change_76 : decode cX9_change 76 = .ok (.iconst 5, 1) := by decide +kernel
theorem dX9_change_77 : decode cX9_change 77 = .ok (.invokestatic 45, 3) := by decide +kernel
theorem dX9_change_80 : decode cX9_change 80 = .ok (.aload_n 0, 1) := by decide +kernel
theorem dX9_change_81 : decode cX9_change 81 = .ok (.getfield 9, 3) := by decide +kernel
theorem dX9_change_84 : decode cX9_change 84 = .ok (.iload 6, 2) := by decide +kernel
theorem dX9_change_86 : decode cX9_change 86 = .ok (.iconst 5, 1) := by decide +kernel
theorem dX9_change_87 : decode cX9_change 87 = .ok (.invokestatic 45, 3) := by decide +kernel
theorem dX9_change_90 : decode cX9_change 90 = .ok (.iaload, 1) := by decide +kernel
theorem dX9_change_91 : decode cX9_change 91 = .ok (.iastore, 1) := by decide +kernel
theorem dX9_change_92 : decode cX9_change 92 = .ok (.aload_n 0, 1) := by decide +kernel
theorem dX9_change_93 : decode cX9_change 93 = .ok (.getfield 13, 3) := by decide +kernel
theorem dX9_change_96 : decode cX9_change 96 = .ok (.iload 6, 2) := by decide +kernel
theorem dX9_change_98 : decode cX9_change 98 = .ok (.iconst 5, 1) := by decide +kernel
theorem dX9_change_99 : decode cX9_change 99 = .ok (.invokestatic 45, 3) := by decide +kernel
theorem dX9_change_102 : decode cX9_change 102 = .ok (.aload_n 0, 1) := by decide +kernel
theorem dX9_change_103 : decode cX9_change 103 = .ok (.getfield 9, 3) := by decide +kernel
theorem dX9_change_106 : decode cX9_change 106 = .ok (.iload 5, 2) := by decide +kernel
theorem dX9_change_108 : decode cX9_change 108 = .ok (.iconst 5, 1) := by decide +kernel
theorem dX9_change_109 : decode cX9_change 109 = .ok (.invokestatic 45, 3) := by decide +kernel
theorem dX9_change_112 : decode cX9_change 112 = .ok (.iaload, 1) := by decide +kernel
theorem dX9_change_113 : decode cX9_change 113 = .ok (.iastore, 1) := by decide +kernel
theorem dX9_change_114 : decode cX9_change 114 = .ok (.aload_n 0, 1) := by decide +kernel
theorem dX9_change_115 : decode cX9_change 115 = .ok (.getfield 13, 3) := by decide +kernel
theorem dX9_change_118 : decode cX9_change 118 = .ok (.iload_n 1, 1) := by decide +kernel
theorem dX9_change_119 : decode cX9_change 119 = .ok (.invokestatic 105, 3) := by decide +kernel
theorem dX9_change_122 : decode cX9_change 122 = .ok (.aload_n 0, 1) := by decide +kernel
theorem dX9_change_123 : decode cX9_change 123 = .ok (.getfield 9, 3) := by decide +kernel
theorem dX9_change_126 : decode cX9_change 126 = .ok (.iload 5, 2) := by decide +kernel
theorem dX9_change_128 : decode cX9_change 128 = .ok (.iconst 5, 1) := by decide +kernel
theorem dX9_change_129 : decode cX9_change 129 = .ok (.invokestatic 45, 3) := by decide +kernel
theorem dX9_change_132 : decode cX9_change 132 = .ok (.iaload, 1) := by decide +kernel
theorem dX9_change_133 : decode cX9_change 133 = .ok (.aload_n 0, 1) := by decide +kernel
theorem dX9_change_134 : decode cX9_change 134 = .ok (.getfield 9, 3) := by decide +kernel
theorem dX9_change_137 : decode cX9_change 137 = .ok (.iload 6, 2) := by decide +kernel
theorem dX9_change_139 : decode cX9_change 139 = .ok (.iconst 5, 1) := by decide +kernel
theorem dX9_change_140 : decode cX9_change 140 = .ok (.invokestatic 45, 3) := by decide +kernel
theorem dX9_change_143 : decode cX9_change 143 = .ok (.iaload, 1) := by decide +kernel
theorem dX9_change_144 : decode cX9_change 144 = .ok (.if_icmp .eq 35, 3) := by decide +kernel
theorem dX9_change_147 : decode cX9_change 147 = .ok (.aload_n 0, 1) := by decide +kernel
theorem dX9_change_148 : decode cX9_change 148 = .ok (.getfield 13, 3) := by decide +kernel
theorem dX9_change_151 : decode cX9_change 151 = .ok (.invokestatic 129, 3) := by decide +kernel
theorem dX9_change_154 : decode cX9_change 154 = .ok (.iload_n 3, 1) := by decide +kernel
theorem dX9_change_155 : decode cX9_change 155 = .ok (.if_icmp .gt 6, 3) := by decide +kernel
theorem dX9_change_158 : decode cX9_change 158 = .ok (.goto 21, 3) := by decide +kernel
theorem dX9_change_161 : decode cX9_change 161 = .ok (.bipush 10, 2) := by decide +kernel
theorem dX9_change_163 : decode cX9_change 163 = .ok (.iload 5, 2) := by decide +kernel
theorem dX9_change_165 : decode cX9_change 165 = .ok (.imul, 1) := by decide +kernel
theorem dX9_change_166 : decode cX9_change 166 = .ok (.iload 6, 2) := by decide +kernel
theorem dX9_change_168 : decode cX9_change 168 = .ok (.iadd, 1) := by decide +kernel
theorem dX9_change_169 : decode cX9_change 169 = .ok (.istore 4, 2) := by decide +kernel
theorem dX9_change_171 : decode cX9_change 171 = .ok (.aload_n 0, 1) := by decide +kernel
theorem dX9_change_172 : decode cX9_change 172 = .ok (.getfield 13, 3) := by decide +kernel
theorem dX9_change_175 : decode cX9_change 175 = .ok (.invokestatic 129, 3) := by decide +kernel
theorem dX9_change_178 : decode cX9_change 178 = .ok (.istore_n 3, 1) := by decide +kernel
theorem dX9_change_179 : decode cX9_change 179 = .ok (.iinc 6 1, 3) := by decide +kernel
theorem dX9_change_182 : decode cX9_change 182 = .ok (.goto (-134), 3) := by decide +kernel
theorem dX9_change_185 : decode cX9_change 185 = .ok (.iinc 5 1, 3) := by decide +kernel
theorem dX9_change_188 : decode cX9_change 188 = .ok (.goto (-157), 3) := by decide +kernel
theorem dX9_change_191 : decode cX9_change 191 = .ok (.iload 4, 2) := by decide +kernel
theorem dX9_change_193 : decode cX9_change 193 = .ok (.ireturn, 1) := by decide +kernel
theorem dX9_graceGiven_0 : decode cX9_graceGiven 0 = .ok (.aload_n 0, 1) := by decide +kernel
theorem dX9_graceGiven_1 : decode cX9_graceGiven 1 = .ok (.getfield 9, 3) := by decide +kernel
theorem dX9_graceGiven_4 : decode cX9_graceGiven 4 = .ok (.aload_n 0, 1) := by decide +kernel
theorem dX9_graceGiven_5 : decode cX9_graceGiven 5 = .ok (.getfield 13, 3) := by decide +kernel
theorem dX9_graceGiven_8 : decode cX9_graceGiven 8 = .ok (.invokestatic 112, 3) := by decide +kernel
theorem dX9_graceGiven_11 : decode cX9_graceGiven 11 = .ok (.aload_n 0, 1) := by decide +kernel
theorem dX9_graceGiven_12 : decode cX9_graceGiven 12 = .ok (.getfield 13, 3) := by decide +kernel
theorem dX9_graceGiven_15 : decode cX9_graceGiven 15 = .ok (.iload_n 1, 1) := by decide +kernel
theorem dX9_graceGiven_16 : decode cX9_graceGiven 16 = .ok (.iconst 5, 1) := by decide +kernel
theorem dX9_graceGiven_17 : decode cX9_graceGiven 17 = .ok (.invokestatic 45, 3) := by decide +kernel
theorem dX9_graceGiven_20 : decode cX9_graceGiven 20 = .ok (.iload_n 2, 1) := by decide +kernel
theorem dX9_graceGiven_21 : decode cX9_graceGiven 21 = .ok (.iastore, 1) := by decide +kernel
theorem dX9_graceGiven_22 : decode cX9_graceGiven 22 = .ok (.aload_n 0, 1) := by decide +kernel
theorem dX9_graceGiven_23 : decode cX9_graceGiven 23 = .ok (.getfield 13, 3) := by decide +kernel
theorem dX9_graceGiven_26 : decode cX9_graceGiven 26 = .ok (.iload_n 3, 1) := by decide +kernel
theorem dX9_graceGiven_27 : decode cX9_graceGiven 27 = .ok (.invokestatic 105, 3) := by decide +kernel
theorem dX9_graceGiven_30 : decode cX9_graceGiven 30 = .ok (.aload_n 0, 1) := by decide +kernel
theorem dX9_graceGiven_31 : decode cX9_graceGiven 31 = .ok (.getfield 13, 3) := by decide +kernel
theorem dX9_graceGiven_34 : decode cX9_graceGiven 34 = .ok (.invokestatic 129, 3) := by decide +kernel
theorem dX9_graceGiven_37 : decode cX9_graceGiven 37 = .ok (.ireturn, 1) := by decide +kernel
theorem dX9_gift_0 : decode cX9_gift 0 = .ok (.iload_n 1, 1) := by decide +kernel
theorem dX9_gift_1 : decode cX9_gift 1 = .ok (.iconst 0, 1) := by decide +kernel
theorem dX9_gift_2 : decode cX9_gift 2 = .ok (.bipush 20, 2) := by decide +kernel
theorem dX9_gift_4 : decode cX9_gift 4 = .ok (.invokestatic 125, 3) := by decide +kernel
theorem dX9_gift_7 : decode cX9_gift 7 = .ok (.istore_n 2, 1) := by decide +kernel
theorem dX9_gift_8 : decode cX9_gift 8 = .ok (.iload_n 2, 1) := by decide +kernel
theorem dX9_gift_9 : decode cX9_gift 9 = .ok (.ifCond .eq 9, 3) := by decide +kernel
theorem dX9_gift_12 : decode cX9_gift 12 = .ok (.aload_n 0, 1) := by decide +kernel
theorem dX9_gift_13 : decode cX9_gift 13 = .ok (.iload_n 2, 1) := by decide +kernel
theorem dX9_gift_14 : decode cX9_gift 14 = .ok (.invokevirtual 35, 3) := by decide +kernel
theorem dX9_gift_17 : decode cX9_gift 17 = .ok (.ireturn, 1) := by decide +kernel
theorem dX9_gift_18 : decode cX9_gift 18 = .ok (.aload_n 0, 1) := by decide +kernel
theorem dX9_gift_19 : decode cX9_gift 19 = .ok (.iload_n 1, 1) := by decide +kernel
theorem dX9_gift_20 : decode cX9_gift 20 = .ok (.invokevirtual 149, 3) := by decide +kernel
theorem dX9_gift_23 : decode cX9_gift 23 = .ok (.istore_n 3, 1) := by decide +kernel
theorem dX9_gift_24 : decode cX9_gift 24 = .ok (.bipush (-9), 2) := by decide +kernel
theorem dX9_gift_26 : decode cX9_gift 26 = .ok (.istore 4, 2) := by decide +kernel
theorem dX9_gift_28 : decode cX9_gift 28 = .ok (.iconst 0, 1) := by decide +kernel
theorem dX9_gift_29 : decode cX9_gift 29 = .ok (.istore 5, 2) := by decide +kernel
theorem dX9_gift_31 : decode cX9_gift 31 = .ok (.iload 5, 2) := by decide +kernel
theorem dX9_gift_33 : decode cX9_gift 33 = .ok (.aload_n 0, 1) := by decide +kernel
theorem dX9_gift_34 : decode cX9_gift 34 = .ok (.getfield 9, 3) := by decide +kernel
theorem dX9_gift_37 : decode cX9_gift 37 = .ok (.iconst 0, 1) := by decide +kernel
theorem dX9_gift_38 : decode cX9_gift 38 = .ok (.iaload, 1) := by decide +kernel
theorem dX9_gift_39 : decode cX9_gift 39 = .ok (.if_icmp .ge 62, 3) := by decide +kernel
theorem dX9_gift_42 : decode cX9_gift 42 = .ok (.iconst 0, 1) := by decide +kernel
theorem dX9_gift_43 : decode cX9_gift 43 = .ok (.istore 6, 2) := by decide +kernel
theorem dX9_gift_45 : decode cX9_gift 45 = .ok (.iload 6, 2) := by decide +kernel
theorem dX9_gift_47 : decode cX9_gift 47 = .ok (.aload_n 0, 1) := by decide +kernel
theorem dX9_gift_48 : decode cX9_gift 48 = .ok (.getfield 9, 3) := by decide +kernel
theorem dX9_gift_51 : decode cX9_gift 51 = .ok (.iconst 1, 1) := by decide +kernel
theorem dX9_gift_52 : decode cX9_gift 52 = .ok (.iaload, 1) := by decide +kernel
theorem dX9_gift_53 : decode cX9_gift 53 = .ok (.if_icmp .ge 42, 3) := by decide +kernel
theorem dX9_gift_56 : decode cX9_gift 56 = .ok (.aload_n 0, 1) := by decide +kernel
theorem dX9_gift_57 : decode cX9_gift 57 = .ok (.iload 5, 2) := by decide +kernel
theorem dX9_gift_59 : decode cX9_gift 59 = .ok (.iload 6, 2) := by decide +kernel
theorem dX9_gift_61 : decode cX9_gift 61 = .ok (.iload_n 1, 1) := by decide +kernel
theorem dX9_gift_62 : decode cX9_gift 62 = .ok (.invokevirtual 152, 3) := by decide +kernel
theorem dX9_gift_65 : decode cX9_gift 65 = .ok (.istore 7, 2) := by decide +kernel
theorem dX9_gift_67 : decode cX9_gift 67 = .ok (.iload 7, 2) := by decide +kernel
theorem dX9_gift_69 : decode cX9_gift 69 = .ok (.iload_n 3, 1) := by decide +kernel
theorem dX9_gift_70 : decode cX9_gift 70 = .ok (.if_icmp .gt 6, 3) := by decide +kernel
theorem dX9_gift_73 : decode cX9_gift 73 = .ok (.goto 16, 3) := by decide +kernel
theorem dX9_gift_76 : decode cX9_gift 76 = .ok (.bipush 10, 2) := by decide +kernel
theorem dX9_gift_78 : decode cX9_gift 78 = .ok (.iload 5, 2) := by decide +kernel
theorem dX9_gift_80 : decode cX9_gift 80 = .ok (.imul, 1) := by decide +kernel
theorem dX9_gift_81 : decode cX9_gift 81 = .ok (.iload 6, 2) := by decide +kernel
theorem dX9_gift_83 : decode cX9_gift 83 = .ok (.iadd, 1) := by decide +kernel
theorem dX9_gift_84 : decode cX9_gift 84 = .ok (.istore 4, 2) := by decide +kernel
theorem dX9_gift_86 : decode cX9_gift 86 = .ok (.iload 7, 2) := by decide +kernel
theorem dX9_gift_88 : decode cX9_gift 88 = .ok (.istore_n 3, 1) := by decide +kernel
theorem dX9_gift_89 : decode cX9_gift 89 = .ok (.iinc 6 1, 3) := by decide +kernel
theorem dX9_gift_92 : decode cX9_gift 92 = .ok (.goto (-47), 3) := by decide +kernel
theorem dX9_gift_95 : decode cX9_gift 95 = .ok (.iinc 5 1, 3) := by decide +kernel
theorem dX9_gift_98 : decode cX9_gift 98 = .ok (.goto (-67), 3) := by decide +kernel
theorem dX9_gift_101 : decode cX9_gift 101 = .ok (.iload 4, 2) := by decide +kernel
theorem dX9_gift_103 : decode cX9_gift 103 = .ok (.ireturn, 1) := by decide +kernel
theorem dX9_dealtTo_0 : decode cX9_dealtTo 0 = .ok (.bipush (-9), 2) := by decide +kernel
theorem dX9_dealtTo_2 : decode cX9_dealtTo 2 = .ok (.istore_n 2, 1) := by decide +kernel
theorem dX9_dealtTo_3 : decode cX9_dealtTo 3 = .ok (.iconst 0, 1) := by decide +kernel
theorem dX9_dealtTo_4 : decode cX9_dealtTo 4 = .ok (.istore_n 3, 1) := by decide +kernel
theorem dX9_dealtTo_5 : decode cX9_dealtTo 5 = .ok (.iload_n 3, 1) := by decide +kernel
theorem dX9_dealtTo_6 : decode cX9_dealtTo 6 = .ok (.aload_n 0, 1) := by decide +kernel
theorem dX9_dealtTo_7 : decode cX9_dealtTo 7 = .ok (.getfield 9, 3) := by decide +kernel
theorem dX9_dealtTo_10 : decode cX9_dealtTo 10 = .ok (.iconst 1, 1) := by decide +kernel
theorem dX9_dealtTo_11 : decode cX9_dealtTo 11 = .ok (.iaload, 1) := by decide +kernel
theorem dX9_dealtTo_12 : decode cX9_dealtTo 12 = .ok (.if_icmp .ge 36, 3) := by decide +kernel
theorem dX9_dealtTo_15 : decode cX9_dealtTo 15 = .ok (.iload_n 2, 1) := by decide +kernel
theorem dX9_dealtTo_16 : decode cX9_dealtTo 16 = .ok (.ifCond .lt 24, 3) := by decide +kernel
theorem dX9_dealtTo_19 : decode cX9_dealtTo 19 = .ok (.aload_n 0, 1) := by decide +kernel
theorem dX9_dealtTo_20 : decode cX9_dealtTo 20 = .ok (.getfield 9, 3) := by decide +kernel
theorem dX9_dealtTo_23 : decode cX9_dealtTo 23 = .ok (.iload_n 1, 1) := by decide +kernel
theorem dX9_dealtTo_24 : decode cX9_dealtTo 24 = .ok (.iload_n 3, 1) := by decide +kernel
theorem dX9_dealtTo_25 : decode cX9_dealtTo 25 = .ok (.invokestatic 63, 3) := by decide +kernel
theorem dX9_dealtTo_28 : decode cX9_dealtTo 28 = .ok (.aload_n 0, 1) := by decide +kernel
theorem dX9_dealtTo_29 : decode cX9_dealtTo 29 = .ok (.getfield 9, 3) := by decide +kernel
theorem dX9_dealtTo_32 : decode cX9_dealtTo 32 = .ok (.iload_n 1, 1) := by decide +kernel
theorem dX9_dealtTo_33 : decode cX9_dealtTo 33 = .ok (.iload_n 2, 1) := by decide +kernel
theorem dX9_dealtTo_34 : decode cX9_dealtTo 34 = .ok (.invokestatic 63, 3) := by decide +kernel
theorem dX9_dealtTo_37 : decode cX9_dealtTo 37 = .ok (.if_icmp .le 5, 3) := by decide +kernel
theorem dX9_dealtTo_40 : decode cX9_dealtTo 40 = .ok (.iload_n 3, 1) := by decide +kernel
theorem dX9_dealtTo_41 : decode cX9_dealtTo 41 = .ok (.istore_n 2, 1) := by decide +kernel
theorem dX9_dealtTo_42 : decode cX9_dealtTo 42 = .ok (.iinc 3 1, 3) := by decide +kernel
theorem dX9_dealtTo_45 : decode cX9_dealtTo 45 = .ok (.goto (-40), 3) := by decide +kernel
theorem dX9_dealtTo_48 : decode cX9_dealtTo 48 = .ok (.iload_n 2, 1) := by decide +kernel
theorem dX9_dealtTo_49 : decode cX9_dealtTo 49 = .ok (.ireturn, 1) := by decide +kernel
theorem dX9_deal_0 : decode cX9_deal 0 = .ok (.iload_n 1, 1) := by decide +kernel
theorem dX9_deal_1 : decode cX9_deal 1 = .ok (.iconst (-1), 1) := by decide +kernel
theorem dX9_deal_2 : decode cX9_deal 2 = .ok (.if_icmp .ge 10, 3) := by decide +kernel
theorem dX9_deal_5 : decode cX9_deal 5 = .ok (.aload_n 0, 1) := by decide +kernel
theorem dX9_deal_6 : decode cX9_deal 6 = .ok (.bipush (-4), 2) := by decide +kernel
theorem dX9_deal_8 : decode cX9_deal 8 = .ok (.invokevirtual 122, 3) := by decide +kernel
theorem dX9_deal_11 : decode cX9_deal 11 = .ok (.ireturn, 1) := by decide +kernel
theorem dX9_deal_12 : decode cX9_deal 12 = .ok (.iconst 0, 1) := by decide +kernel
theorem dX9_deal_13 : decode cX9_deal 13 = .ok (.istore_n 2, 1) := by decide +kernel
theorem dX9_deal_14 : decode cX9_deal 14 = .ok (.iconst 0, 1) := by decide +kernel
theorem dX9_deal_15 : decode cX9_deal 15 = .ok (.istore_n 3, 1) := by decide +kernel
theorem dX9_deal_16 : decode cX9_deal 16 = .ok (.bipush (-9), 2) := by decide +kernel
theorem dX9_deal_18 : decode cX9_deal 18 = .ok (.istore 4, 2) := by decide +kernel
theorem dX9_deal_20 : decode cX9_deal 20 = .ok (.iconst 0, 1) := by decide +kernel
theorem dX9_deal_21 : decode cX9_deal 21 = .ok (.istore 5, 2) := by decide +kernel
theorem dX9_deal_23 : decode cX9_deal 23 = .ok (.iload 5, 2) := by decide +kernel
theorem dX9_deal_25 : decode cX9_deal 25 = .ok (.aload_n 0, 1) := by decide +kernel
theorem dX9_deal_26 : decode cX9_deal 26 = .ok (.getfield 9, 3) := by decide +kernel
theorem dX9_deal_29 : decode cX9_deal 29 = .ok (.iconst 0, 1) := by decide +kernel
theorem dX9_deal_30 : decode cX9_deal 30 = .ok (.iaload, 1) := by decide +kernel
theorem dX9_deal_31 : decode cX9_deal 31 = .ok (.if_icmp .ge 70, 3) := by decide +kernel
theorem dX9_deal_34 : decode cX9_deal 34 = .ok (.iload_n 2, 1) := by decide +kernel
theorem dX9_deal_35 : decode cX9_deal 35 = .ok (.iconst 5, 1) := by decide +kernel
theorem dX9_deal_36 : decode cX9_deal 36 = .ok (.if_icmp .ge 65, 3) := by decide +kernel
theorem dX9_deal_39 : decode cX9_deal 39 = .ok (.aload_n 0, 1) := by decide +kernel
theorem dX9_deal_40 : decode cX9_deal 40 = .ok (.getfield 9, 3) := by decide +kernel
theorem dX9_deal_43 : decode cX9_deal 43 = .ok (.iload 5, 2) := by decide +kernel
theorem dX9_deal_45 : decode cX9_deal 45 = .ok (.iconst 4, 1) := by decide +kernel
theorem dX9_deal_46 : decode cX9_deal 46 = .ok (.invokestatic 45, 3) := by decide +kernel
theorem dX9_deal_49 : decode cX9_deal 49 = .ok (.iaload, 1) := by decide +kernel
theorem dX9_deal_50 : decode cX9_deal 50 = .ok (.ifCond .ne 6, 3) := by decide +kernel
theorem dX9_deal_53 : decode cX9_deal 53 = .ok (.goto 42, 3) := by decide +kernel
theorem dX9_deal_56 : decode cX9_deal 56 = .ok (.iload_n 3, 1) := by decide +kernel
theorem dX9_deal_57 : decode cX9_deal 57 = .ok (.aload_n 0, 1) := by decide +kernel
theorem dX9_deal_58 : decode cX9_deal 58 = .ok (.getfield 9, 3) := by decide +kernel
theorem dX9_deal_61 : decode cX9_deal 61 = .ok (.iload 5, 2) := by decide +kernel
theorem dX9_deal_63 : decode cX9_deal 63 = .ok (.aload_n 0, 1) := by decide +kernel
theorem dX9_deal_64 : decode cX9_deal 64 = .ok (.iload 5, 2) := by decide +kernel
theorem dX9_deal_66 : decode cX9_deal 66 = .ok (.invokevirtual 155, 3) := by decide +kernel
theorem dX9_deal_69 : decode cX9_deal 69 = .ok (.invokestatic 63, 3) := by decide +kernel
theorem dX9_deal_72 : decode cX9_deal 72 = .ok (.iadd, 1) := by decide +kernel
theorem dX9_deal_73 : decode cX9_deal 73 = .ok (.istore_n 3, 1) := by decide +kernel
theorem dX9_deal_74 : decode cX9_deal 74 = .ok (.iload_n 2, 1) := by decide +kernel
theorem dX9_deal_75 : decode cX9_deal 75 = .ok (.iload_n 1, 1) := by decide +kernel
theorem dX9_deal_76 : decode cX9_deal 76 = .ok (.if_icmp .ne 12, 3) := by decide +kernel
theorem dX9_deal_79 : decode cX9_deal 79 = .ok (.aload_n 0, 1) := by decide +kernel
theorem dX9_deal_80 : decode cX9_deal 80 = .ok (.iload 5, 2) := by decide +kernel
theorem dX9_deal_82 : decode cX9_deal 82 = .ok (.invokevirtual 155, 3) := by decide +kernel
theorem dX9_deal_85 : decode cX9_deal 85 = .ok (.goto 5, 3) := by decide +kernel
theorem dX9_deal_88 : decode cX9_deal 88 = .ok (.iload 4, 2) := by decide +kernel
theorem dX9_deal_90 : decode cX9_deal 90 = .ok (.istore 4, 2) := by decide +kernel
theorem dX9_deal_92 : decode cX9_deal 92 = .ok (.iinc 2 1, 3) := by decide +kernel
theorem dX9_deal_95 : decode cX9_deal 95 = .ok (.iinc 5 1, 3) := by decide +kernel
theorem dX9_deal_98 : decode cX9_deal 98 = .ok (.goto (-75), 3) := by decide +kernel
theorem dX9_deal_101 : decode cX9_deal 101 = .ok (.iload_n 1, 1) := by decide +kernel
theorem dX9_deal_102 : decode cX9_deal 102 = .ok (.ifCond .ge 7, 3) := by decide +kernel
theorem dX9_deal_105 : decode cX9_deal 105 = .ok (.iload_n 3, 1) := by decide +kernel
theorem dX9_deal_106 : decode cX9_deal 106 = .ok (.goto 5, 3) := by decide +kernel
theorem dX9_deal_109 : decode cX9_deal 109 = .ok (.iload 4, 2) := by decide +kernel
theorem dX9_deal_111 : decode cX9_deal 111 = .ok (.ireturn, 1) := by decide +kernel
theorem dX9_gainsOwner_0 : decode cX9_gainsOwner 0 = .ok (.aload_n 0, 1) := by decide +kernel
theorem dX9_gainsOwner_1 : decode cX9_gainsOwner 1 = .ok (.getfield 9, 3) := by decide +kernel
theorem dX9_gainsOwner_4 : decode cX9_gainsOwner 4 = .ok (.iload_n 1, 1) := by decide +kernel
theorem dX9_gainsOwner_5 : decode cX9_gainsOwner 5 = .ok (.aload_n 0, 1) := by decide +kernel
theorem dX9_gainsOwner_6 : decode cX9_gainsOwner 6 = .ok (.getfield 9, 3) := by decide +kernel
theorem dX9_gainsOwner_9 : decode cX9_gainsOwner 9 = .ok (.iload_n 1, 1) := by decide +kernel
theorem dX9_gainsOwner_10 : decode cX9_gainsOwner 10 = .ok (.iconst 5, 1) := by decide +kernel
theorem dX9_gainsOwner_11 : decode cX9_gainsOwner 11 = .ok (.invokestatic 45, 3) := by decide +kernel
theorem dX9_gainsOwner_14 : decode cX9_gainsOwner 14 = .ok (.iaload, 1) := by decide +kernel
theorem dX9_gainsOwner_15 : decode cX9_gainsOwner 15 = .ok (.invokestatic 63, 3) := by decide +kernel
theorem dX9_gainsOwner_18 : decode cX9_gainsOwner 18 = .ok (.ireturn, 1) := by decide +kernel
theorem dX9_worst_0 : decode cX9_worst 0 = .ok (.iload_n 1, 1) := by decide +kernel
theorem dX9_worst_1 : decode cX9_worst 1 = .ok (.iconst 0, 1) := by decide +kernel
theorem dX9_worst_2 : decode cX9_worst 2 = .ok (.iconst 1, 1) := by decide +kernel
theorem dX9_worst_3 : decode cX9_worst 3 = .ok (.invokestatic 41, 3) := by decide +kernel
theorem dX9_worst_6 : decode cX9_worst 6 = .ok (.ifCond .ne 10, 3) := by decide +kernel
theorem dX9_worst_9 : decode cX9_worst 9 = .ok (.aload_n 0, 1) := by decide +kernel
theorem dX9_worst_10 : decode cX9_worst 10 = .ok (.bipush (-2), 2) := by decide +kernel
theorem dX9_worst_12 : decode cX9_worst 12 = .ok (.invokevirtual 122, 3) := by decide +kernel
theorem dX9_worst_15 : decode cX9_worst 15 = .ok (.ireturn, 1) := by decide +kernel
theorem dX9_worst_16 : decode cX9_worst 16 = .ok (.bipush (-9), 2) := by decide +kernel
theorem dX9_worst_18 : decode cX9_worst 18 = .ok (.istore_n 2, 1) := by decide +kernel
theorem dX9_worst_19 : decode cX9_worst 19 = .ok (.iconst 0, 1) := by decide +kernel
theorem dX9_worst_20 : decode cX9_worst 20 = .ok (.istore_n 3, 1) := by decide +kernel
theorem dX9_worst_21 : decode cX9_worst 21 = .ok (.iload_n 3, 1) := by decide +kernel
theorem dX9_worst_22 : decode cX9_worst 22 = .ok (.aload_n 0, 1) := by decide +kernel
theorem dX9_worst_23 : decode cX9_worst 23 = .ok (.getfield 9, 3) := by decide +kernel
theorem dX9_worst_26 : decode cX9_worst 26 = .ok (.iconst 0, 1) := by decide +kernel
theorem dX9_worst_27 : decode cX9_worst 27 = .ok (.iaload, 1) := by decide +kernel
theorem dX9_worst_28 : decode cX9_worst 28 = .ok (.if_icmp .ge 41, 3) := by decide +kernel
theorem dX9_worst_31 : decode cX9_worst 31 = .ok (.aload_n 0, 1) := by decide +kernel
theorem dX9_worst_32 : decode cX9_worst 32 = .ok (.getfield 9, 3) := by decide +kernel
theorem dX9_worst_35 : decode cX9_worst 35 = .ok (.iload_n 3, 1) := by decide +kernel
theorem dX9_worst_36 : decode cX9_worst 36 = .ok (.iconst 4, 1) := by decide +kernel
theorem dX9_worst_37 : decode cX9_worst 37 = .ok (.invokestatic 45, 3) := by decide +kernel
theorem dX9_worst_40 : decode cX9_worst 40 = .ok (.iaload, 1) := by decide +kernel
theorem dX9_worst_41 : decode cX9_worst 41 = .ok (.ifCond .le 22, 3) := by decide +kernel
theorem dX9_worst_44 : decode cX9_worst 44 = .ok (.iload_n 2, 1) := by decide +kernel
theorem dX9_worst_45 : decode cX9_worst 45 = .ok (.ifCond .lt 16, 3) := by decide +kernel
theorem dX9_worst_48 : decode cX9_worst 48 = .ok (.aload_n 0, 1) := by decide +kernel
theorem dX9_worst_49 : decode cX9_worst 49 = .ok (.iload_n 3, 1) := by decide +kernel
theorem dX9_worst_50 : decode cX9_worst 50 = .ok (.invokevirtual 158, 3) := by decide +kernel
theorem dX9_worst_53 : decode cX9_worst 53 = .ok (.aload_n 0, 1) := by decide +kernel
theorem dX9_worst_54 : decode cX9_worst 54 = .ok (.iload_n 2, 1) := by decide +kernel
theorem dX9_worst_55 : decode cX9_worst 55 = .ok (.invokevirtual 158, 3) := by decide +kernel
theorem dX9_worst_58 : decode cX9_worst 58 = .ok (.if_icmp .ge 5, 3) := by decide +kernel
theorem dX9_worst_61 : decode cX9_worst 61 = .ok (.iload_n 3, 1) := by decide +kernel
theorem dX9_worst_62 : decode cX9_worst 62 = .ok (.istore_n 2, 1) := by decide +kernel
theorem dX9_worst_63 : decode cX9_worst 63 = .ok (.iinc 3 1, 3) := by decide +kernel
theorem dX9_worst_66 : decode cX9_worst 66 = .ok (.goto (-45), 3) := by decide +kernel
theorem dX9_worst_69 : decode cX9_worst 69 = .ok (.iload_n 1, 1) := by decide +kernel
theorem dX9_worst_70 : decode cX9_worst 70 = .ok (.ifCond .ne 7, 3) := by decide +kernel
theorem dX9_worst_73 : decode cX9_worst 73 = .ok (.iload_n 2, 1) := by decide +kernel
theorem dX9_worst_74 : decode cX9_worst 74 = .ok (.goto 16, 3) := by decide +kernel
theorem dX9_worst_77 : decode cX9_worst 77 = .ok (.iload_n 2, 1) := by decide +kernel
theorem dX9_worst_78 : decode cX9_worst 78 = .ok (.ifCond .ge 7, 3) := by decide +kernel
theorem dX9_worst_81 : decode cX9_worst 81 = .ok (.iconst 0, 1) := by decide +kernel
theorem dX9_worst_82 : decode cX9_worst 82 = .ok (.goto 8, 3) := by decide +kernel
theorem dX9_worst_85 : decode cX9_worst 85 = .ok (.aload_n 0, 1) := by decide +kernel
theorem dX9_worst_86 : decode cX9_worst 86 = .ok (.iload_n 2, 1) := by decide +kernel
theorem dX9_worst_87 : decode cX9_worst 87 = .ok (.invokevirtual 158, 3) := by decide +kernel
theorem dX9_worst_90 : decode cX9_worst 90 = .ok (.ireturn, 1) := by decide +kernel
theorem dX9_trust_0 : decode cX9_trust 0 = .ok (.aload_n 0, 1) := by decide +kernel
theorem dX9_trust_1 : decode cX9_trust 1 = .ok (.iload_n 1, 1) := by decide +kernel
theorem dX9_trust_2 : decode cX9_trust 2 = .ok (.invokevirtual 95, 3) := by decide +kernel
theorem dX9_trust_5 : decode cX9_trust 5 = .ok (.ifCond .ne 9, 3) := by decide +kernel
theorem dX9_trust_8 : decode cX9_trust 8 = .ok (.aload_n 0, 1) := by decide +kernel
theorem dX9_trust_9 : decode cX9_trust 9 = .ok (.iconst (-1), 1) := by decide +kernel
theorem dX9_trust_10 : decode cX9_trust 10 = .ok (.invokevirtual 35, 3) := by decide +kernel
theorem dX9_trust_13 : decode cX9_trust 13 = .ok (.ireturn, 1) := by decide +kernel
theorem dX9_trust_14 : decode cX9_trust 14 = .ok (.iconst 0, 1) := by decide +kernel
theorem dX9_trust_15 : decode cX9_trust 15 = .ok (.istore_n 2, 1) := by decide +kernel
theorem dX9_trust_16 : decode cX9_trust 16 = .ok (.iconst 0, 1) := by decide +kernel
theorem dX9_trust_17 : decode cX9_trust 17 = .ok (.istore_n 3, 1) := by decide +kernel
theorem dX9_trust_18 : decode cX9_trust 18 = .ok (.iload_n 3, 1) := by decide +kernel
theorem dX9_trust_19 : decode cX9_trust 19 = .ok (.aload_n 0, 1) := by decide +kernel
theorem dX9_trust_20 : decode cX9_trust 20 = .ok (.getfield 9, 3) := by decide +kernel
theorem dX9_trust_23 : decode cX9_trust 23 = .ok (.iconst 0, 1) := by decide +kernel
theorem dX9_trust_24 : decode cX9_trust 24 = .ok (.iaload, 1) := by decide +kernel
theorem dX9_trust_25 : decode cX9_trust 25 = .ok (.if_icmp .ge 53, 3) := by decide +kernel
theorem dX9_trust_28 : decode cX9_trust 28 = .ok (.iload_n 2, 1) := by decide +kernel
theorem dX9_trust_29 : decode cX9_trust 29 = .ok (.aload_n 0, 1) := by decide +kernel
theorem dX9_trust_30 : decode cX9_trust 30 = .ok (.getfield 9, 3) := by decide +kernel
theorem dX9_trust_33 : decode cX9_trust 33 = .ok (.iload_n 3, 1) := by decide +kernel
theorem dX9_trust_34 : decode cX9_trust 34 = .ok (.iconst 5, 1) := by decide +kernel
theorem dX9_trust_35 : decode cX9_trust 35 = .ok (.invokestatic 45, 3) := by decide +kernel
theorem dX9_trust_38 : decode cX9_trust 38 = .ok (.iaload, 1) := by decide +kernel
theorem dX9_trust_39 : decode cX9_trust 39 = .ok (.iload_n 1, 1) := by decide +kernel
theorem dX9_trust_40 : decode cX9_trust 40 = .ok (.if_icmp .ne 29, 3) := by decide +kernel
theorem dX9_trust_43 : decode cX9_trust 43 = .ok (.aload_n 0, 1) := by decide +kernel
theorem dX9_trust_44 : decode cX9_trust 44 = .ok (.getfield 9, 3) := by decide +kernel
theorem dX9_trust_47 : decode cX9_trust 47 = .ok (.iload_n 3, 1) := by decide +kernel
theorem dX9_trust_48 : decode cX9_trust 48 = .ok (.iconst 4, 1) := by decide +kernel
theorem dX9_trust_49 : decode cX9_trust 49 = .ok (.invokestatic 45, 3) := by decide +kernel
theorem dX9_trust_52 : decode cX9_trust 52 = .ok (.iaload, 1) := by decide +kernel
theorem dX9_trust_53 : decode cX9_trust 53 = .ok (.ifCond .le 16, 3) := by decide +kernel
theorem dX9_trust_56 : decode cX9_trust 56 = .ok (.aload_n 0, 1) := by decide +kernel
theorem dX9_trust_57 : decode cX9_trust 57 = .ok (.iload_n 3, 1) := by decide +kernel
theorem dX9_trust_58 : decode cX9_trust 58 = .ok (.invokevirtual 158, 3) := by decide +kernel
theorem dX9_trust_61 : decode cX9_trust 61 = .ok (.iconst 1, 1) := by decide +kernel
theorem dX9_trust_62 : decode cX9_trust 62 = .ok (.if_icmp .lt 7, 3) := by decide +kernel
theorem dX9_trust_65 : decode cX9_trust 65 = .ok (.iconst 1, 1) := by decide +kernel
theorem dX9_trust_66 : decode cX9_trust 66 = .ok (.goto 4, 3) := by decide +kernel
theorem dX9_trust_69 : decode cX9_trust 69 = .ok (.iconst 0, 1) := by decide +kernel
theorem dX9_trust_70 : decode cX9_trust 70 = .ok (.iadd, 1) := by decide +kernel
theorem dX9_trust_71 : decode cX9_trust 71 = .ok (.istore_n 2, 1) := by decide +kernel
theorem dX9_trust_72 : decode cX9_trust 72 = .ok (.iinc 3 1, 3) := by decide +kernel
theorem dX9_trust_75 : decode cX9_trust 75 = .ok (.goto (-57), 3) := by decide +kernel
theorem dX9_trust_78 : decode cX9_trust 78 = .ok (.iload_n 2, 1) := by decide +kernel
theorem dX9_trust_79 : decode cX9_trust 79 = .ok (.ireturn, 1) := by decide +kernel
theorem dX9_shelf_0 : decode cX9_shelf 0 = .ok (.aload_n 0, 1) := by decide +kernel
theorem dX9_shelf_1 : decode cX9_shelf 1 = .ok (.iload_n 1, 1) := by decide +kernel
theorem dX9_shelf_2 : decode cX9_shelf 2 = .ok (.invokevirtual 95, 3) := by decide +kernel
theorem dX9_shelf_5 : decode cX9_shelf 5 = .ok (.ifCond .ne 9, 3) := by decide +kernel
theorem dX9_shelf_8 : decode cX9_shelf 8 = .ok (.aload_n 0, 1) := by decide +kernel
theorem dX9_shelf_9 : decode cX9_shelf 9 = .ok (.iconst (-1), 1) := by decide +kernel
theorem dX9_shelf_10 : decode cX9_shelf 10 = .ok (.invokevirtual 35, 3) := by decide +kernel
theorem dX9_shelf_13 : decode cX9_shelf 13 = .ok (.ireturn, 1) := by decide +kernel
theorem dX9_shelf_14 : decode cX9_shelf 14 = .ok (.iload_n 2, 1) := by decide +kernel
theorem dX9_shelf_15 : decode cX9_shelf 15 = .ok (.ifCond .ge 10, 3) := by decide +kernel
theorem dX9_shelf_18 : decode cX9_shelf 18 = .ok (.aload_n 0, 1) := by decide +kernel
theorem dX9_shelf_19 : decode cX9_shelf 19 = .ok (.bipush (-4), 2) := by decide +kernel
theorem dX9_shelf_21 : decode cX9_shelf 21 = .ok (.invokevirtual 35, 3) := by decide +kernel
theorem dX9_shelf_24 : decode cX9_shelf 24 = .ok (.ireturn, 1) := by decide +kernel
theorem dX9_shelf_25 : decode cX9_shelf 25 = .ok (.iload_n 2, 1) := by decide +kernel
theorem dX9_shelf_26 : decode cX9_shelf 26 = .ok (.istore_n 3, 1) := by decide +kernel
theorem dX9_shelf_27 : decode cX9_shelf 27 = .ok (.iconst 0, 1) := by decide +kernel
theorem dX9_shelf_28 : decode cX9_shelf 28 = .ok (.istore 4, 2) := by decide +kernel
theorem dX9_shelf_30 : decode cX9_shelf 30 = .ok (.iload 4, 2) := by decide +kernel
theorem dX9_shelf_32 : decode cX9_shelf 32 = .ok (.bipush 6, 2) := by decide +kernel
theorem dX9_shelf_34 : decode cX9_shelf 34 = .ok (.if_icmp .gt 73, 3) := by decide +kernel
theorem dX9_shelf_37 : decode cX9_shelf 37 = .ok (.iconst 0, 1) := by decide +kernel
theorem dX9_shelf_38 : decode cX9_shelf 38 = .ok (.istore 5, 2) := by decide +kernel
theorem dX9_shelf_40 : decode cX9_shelf 40 = .ok (.iload 5, 2) := by decide +kernel
theorem dX9_shelf_42 : decode cX9_shelf 42 = .ok (.aload_n 0, 1) := by decide +kernel
theorem dX9_shelf_43 : decode cX9_shelf 43 = .ok (.getfield 9, 3) := by decide +kernel
theorem dX9_shelf_46 : decode cX9_shelf 46 = .ok (.iconst 0, 1) := by decide +kernel
theorem dX9_shelf_47 : decode cX9_shelf 47 = .ok (.iaload, 1) := by decide +kernel
theorem dX9_shelf_48 : decode cX9_shelf 48 = .ok (.if_icmp .ge 53, 3) := by decide +kernel
theorem dX9_shelf_51 : decode cX9_shelf 51 = .ok (.aload_n 0, 1) := by decide +kernel
theorem dX9_shelf_52 : decode cX9_shelf 52 = .ok (.getfield 9, 3) := by decide +kernel
theorem dX9_shelf_55 : decode cX9_shelf 55 = .ok (.iload 5, 2) := by decide +kernel
theorem dX9_shelf_57 : decode cX9_shelf 57 = .ok (.iconst 5, 1) := by decide +kernel
theorem dX9_shelf_58 : decode cX9_shelf 58 = .ok (.invokestatic 45, 3) := by decide +kernel
theorem dX9_shelf_61 : decode cX9_shelf 61 = .ok (.iaload, 1) := by decide +kernel
theorem dX9_shelf_62 : decode cX9_shelf 62 = .ok (.iload_n 1, 1) := by decide +kernel
theorem dX9_shelf_63 : decode cX9_shelf 63 = .ok (.if_icmp .ne 32, 3) := by decide +kernel
theorem dX9_shelf_66 : decode cX9_shelf 66 = .ok (.aload_n 0, 1) := by decide +kernel
theorem dX9_shelf_67 : decode cX9_shelf 67 = .ok (.getfield 9, 3) := by decide +kernel
theorem dX9_shelf_70 : decode cX9_shelf 70 = .ok (.iload 5, 2) := by decide +kernel
theorem dX9_shelf_72 : decode cX9_shelf 72 = .ok (.iconst 3, 1) := by decide +kernel
theorem dX9_shelf_73 : decode cX9_shelf 73 = .ok (.invokestatic 45, 3) := by decide +kernel
theorem dX9_shelf_76 : decode cX9_shelf 76 = .ok (.iaload, 1) := by decide +kernel
theorem dX9_shelf_77 : decode cX9_shelf 77 = .ok (.iload 4, 2) := by decide +kernel
theorem dX9_shelf_79 : decode cX9_shelf 79 = .ok (.if_icmp .eq 6, 3) := by decide +kernel
theorem dX9_shelf_82 : decode cX9_shelf 82 = .ok (.goto 13, 3) := by decide +kernel
theorem dX9_shelf_85 : decode cX9_shelf 85 = .ok (.iload_n 3, 1) := by decide +kernel
theorem dX9_shelf_86 : decode cX9_shelf 86 = .ok (.ifCond .ne 6, 3) := by decide +kernel
theorem dX9_shelf_89 : decode cX9_shelf 89 = .ok (.iload 5, 2) := by decide +kernel
theorem dX9_shelf_91 : decode cX9_shelf 91 = .ok (.ireturn, 1) := by decide +kernel
theorem dX9_shelf_92 : decode cX9_shelf 92 = .ok (.iinc 3 (-1), 3) := by decide +kernel
theorem dX9_shelf_95 : decode cX9_shelf 95 = .ok (.iinc 5 1, 3) := by decide +kernel
theorem dX9_shelf_98 : decode cX9_shelf 98 = .ok (.goto (-58), 3) := by decide +kernel
theorem dX9_shelf_101 : decode cX9_shelf 101 = .ok (.iinc 4 1, 3) := by decide +kernel
theorem dX9_shelf_104 : decode cX9_shelf 104 = .ok (.goto (-74), 3) := by decide +kernel
theorem dX9_shelf_107 : decode cX9_shelf 107 = .ok (.bipush (-9), 2) := by decide +kernel
theorem dX9_shelf_109 : decode cX9_shelf 109 = .ok (.ireturn, 1) := by decide +kernel
theorem dX9_spoonsOf_0 : decode cX9_spoonsOf 0 = .ok (.iconst 0, 1) := by decide +kernel
theorem dX9_spoonsOf_1 : decode cX9_spoonsOf 1 = .ok (.istore_n 2, 1) := by decide +kernel
theorem dX9_spoonsOf_2 : decode cX9_spoonsOf 2 = .ok (.iconst 0, 1) := by decide +kernel
theorem dX9_spoonsOf_3 : decode cX9_spoonsOf 3 = .ok (.istore_n 3, 1) := by decide +kernel
theorem dX9_spoonsOf_4 : decode cX9_spoonsOf 4 = .ok (.iload_n 3, 1) := by decide +kernel
theorem dX9_spoonsOf_5 : decode cX9_spoonsOf 5 = .ok (.aload_n 0, 1) := by decide +kernel
theorem dX9_spoonsOf_6 : decode cX9_spoonsOf 6 = .ok (.getfield 9, 3) := by decide +kernel
theorem dX9_spoonsOf_9 : decode cX9_spoonsOf 9 = .ok (.iconst 0, 1) := by decide +kernel
theorem dX9_spoonsOf_10 : decode cX9_spoonsOf 10 = .ok (.iaload, 1) := by decide +kernel
theorem dX9_spoonsOf_11 : decode cX9_spoonsOf 11 = .ok (.if_icmp .ge 40, 3) := by decide +kernel
theorem dX9_spoonsOf_14 : decode cX9_spoonsOf 14 = .ok (.iload_n 2, 1) := by decide +kernel
theorem dX9_spoonsOf_15 : decode cX9_spoonsOf 15 = .ok (.aload_n 0, 1) := by decide +kernel
theorem dX9_spoonsOf_16 : decode cX9_spoonsOf 16 = .ok (.getfield 9, 3) := by decide +kernel
theorem dX9_spoonsOf_19 : decode cX9_spoonsOf 19 = .ok (.iload_n 3, 1) := by decide +kernel
theorem dX9_spoonsOf_20 : decode cX9_spoonsOf 20 = .ok (.iconst 2, 1) := by decide +kernel
theorem dX9_spoonsOf_21 : decode cX9_spoonsOf 21 = .ok (.invokestatic 45, 3) := by decide +kernel
theorem dX9_spoonsOf_24 : decode cX9_spoonsOf 24 = .ok (.iaload, 1) := by decide +kernel
theorem dX9_spoonsOf_25 : decode cX9_spoonsOf 25 = .ok (.iload_n 1, 1) := by decide +kernel
theorem dX9_spoonsOf_26 : decode cX9_spoonsOf 26 = .ok (.if_icmp .ne 16, 3) := by decide +kernel
theorem dX9_spoonsOf_29 : decode cX9_spoonsOf 29 = .ok (.aload_n 0, 1) := by decide +kernel
theorem dX9_spoonsOf_30 : decode cX9_spoonsOf 30 = .ok (.getfield 9, 3) := by decide +kernel
theorem dX9_spoonsOf_33 : decode cX9_spoonsOf 33 = .ok (.iload_n 3, 1) := by decide +kernel
theorem dX9_spoonsOf_34 : decode cX9_spoonsOf 34 = .ok (.iconst 4, 1) := by decide +kernel
theorem dX9_spoonsOf_35 : decode cX9_spoonsOf 35 = .ok (.invokestatic 45, 3) := by decide +kernel
theorem dX9_spoonsOf_38 : decode cX9_spoonsOf 38 = .ok (.iaload, 1) := by decide +kernel
theorem dX9_spoonsOf_39 : decode cX9_spoonsOf 39 = .ok (.goto 4, 3) := by decide +kernel
theorem dX9_spoonsOf_42 : decode cX9_spoonsOf 42 = .ok (.iconst 0, 1) := by decide +kernel
theorem dX9_spoonsOf_43 : decode cX9_spoonsOf 43 = .ok (.iadd, 1) := by decide +kernel
theorem dX9_spoonsOf_44 : decode cX9_spoonsOf 44 = .ok (.istore_n 2, 1) := by decide +kernel
theorem dX9_spoonsOf_45 : decode cX9_spoonsOf 45 = .ok (.iinc 3 1, 3) := by decide +kernel
theorem dX9_spoonsOf_48 : decode cX9_spoonsOf 48 = .ok (.goto (-44), 3) := by decide +kernel
theorem dX9_spoonsOf_51 : decode cX9_spoonsOf 51 = .ok (.iload_n 2, 1) := by decide +kernel
theorem dX9_spoonsOf_52 : decode cX9_spoonsOf 52 = .ok (.ireturn, 1) := by decide +kernel
theorem dX9_sorts_0 : decode cX9_sorts 0 = .ok (.iload_n 1, 1) := by decide +kernel
theorem dX9_sorts_1 : decode cX9_sorts 1 = .ok (.iconst 0, 1) := by decide +kernel
theorem dX9_sorts_2 : decode cX9_sorts 2 = .ok (.iconst 2, 1) := by decide +kernel
theorem dX9_sorts_3 : decode cX9_sorts 3 = .ok (.invokestatic 41, 3) := by decide +kernel
theorem dX9_sorts_6 : decode cX9_sorts 6 = .ok (.ifCond .ne 10, 3) := by decide +kernel
theorem dX9_sorts_9 : decode cX9_sorts 9 = .ok (.aload_n 0, 1) := by decide +kernel
theorem dX9_sorts_10 : decode cX9_sorts 10 = .ok (.bipush (-2), 2) := by decide +kernel
theorem dX9_sorts_12 : decode cX9_sorts 12 = .ok (.invokevirtual 35, 3) := by decide +kernel
theorem dX9_sorts_15 : decode cX9_sorts 15 = .ok (.ireturn, 1) := by decide +kernel
theorem dX9_sorts_16 : decode cX9_sorts 16 = .ok (.iconst 0, 1) := by decide +kernel
theorem dX9_sorts_17 : decode cX9_sorts 17 = .ok (.istore_n 2, 1) := by decide +kernel
theorem dX9_sorts_18 : decode cX9_sorts 18 = .ok (.iconst 0, 1) := by decide +kernel
theorem dX9_sorts_19 : decode cX9_sorts 19 = .ok (.istore_n 3, 1) := by decide +kernel
theorem dX9_sorts_20 : decode cX9_sorts 20 = .ok (.iconst 0, 1) := by decide +kernel
theorem dX9_sorts_21 : decode cX9_sorts 21 = .ok (.istore 4, 2) := by decide +kernel
theorem dX9_sorts_23 : decode cX9_sorts 23 = .ok (.iconst 0, 1) := by decide +kernel
theorem dX9_sorts_24 : decode cX9_sorts 24 = .ok (.istore 5, 2) := by decide +kernel
theorem dX9_sorts_26 : decode cX9_sorts 26 = .ok (.iload 5, 2) := by decide +kernel
theorem dX9_sorts_28 : decode cX9_sorts 28 = .ok (.bipush 6, 2) := by decide +kernel
theorem dX9_sorts_30 : decode cX9_sorts 30 = .ok (.if_icmp .ge 46, 3) := by decide +kernel
theorem dX9_sorts_33 : decode cX9_sorts 33 = .ok (.iload_n 2, 1) := by decide +kernel
theorem dX9_sorts_34 : decode cX9_sorts 34 = .ok (.aload_n 0, 1) := by decide +kernel
theorem dX9_sorts_35 : decode cX9_sorts 35 = .ok (.iload 5, 2) := by decide +kernel
theorem dX9_sorts_37 : decode cX9_sorts 37 = .ok (.invokevirtual 161, 3) := by decide +kernel
theorem dX9_sorts_40 : decode cX9_sorts 40 = .ok (.ifCond .le 10, 3) := by decide +kernel
theorem dX9_sorts_43 : decode cX9_sorts 43 = .ok (.iconst 1, 1) := by decide +kernel
theorem dX9_sorts_44 : decode cX9_sorts 44 = .ok (.iload 5, 2) := by decide +kernel
theorem dX9_sorts_46 : decode cX9_sorts 46 = .ok (.ishl, 1) := by decide +kernel
theorem dX9_sorts_47 : decode cX9_sorts 47 = .ok (.goto 4, 3) := by decide +kernel
theorem dX9_sorts_50 : decode cX9_sorts 50 = .ok (.iconst 0, 1) := by decide +kernel
theorem dX9_sorts_51 : decode cX9_sorts 51 = .ok (.ior, 1) := by decide +kernel
theorem dX9_sorts_52 : decode cX9_sorts 52 = .ok (.istore_n 2, 1) := by decide +kernel
theorem dX9_sorts_53 : decode cX9_sorts 53 = .ok (.aload_n 0, 1) := by decide +kernel
theorem dX9_sorts_54 : decode cX9_sorts 54 = .ok (.iload 5, 2) := by decide +kernel
theorem dX9_sorts_56 : decode cX9_sorts 56 = .ok (.invokevirtual 161, 3) := by decide +kernel
theorem dX9_sorts_59 : decode cX9_sorts 59 = .ok (.aload_n 0, 1) := by decide +kernel
theorem dX9_sorts_60 : decode cX9_sorts 60 = .ok (.iload_n 3, 1) := by decide +kernel
theorem dX9_sorts_61 : decode cX9_sorts 61 = .ok (.invokevirtual 161, 3) := by decide +kernel
theorem dX9_sorts_64 : decode cX9_sorts 64 = .ok (.if_icmp .le 6, 3) := by decide +kernel
theorem dX9_sorts_67 : decode cX9_sorts 67 = .ok (.iload 5, 2) := by decide +kernel
theorem dX9_sorts_69 : decode cX9_sorts 69 = .ok (.istore_n 3, 1) := by decide +kernel
theorem dX9_sorts_70 : decode cX9_sorts 70 = .ok (.iinc 5 1, 3) := by decide +kernel
theorem dX9_sorts_73 : decode cX9_sorts 73 = .ok (.goto (-47), 3) := by decide +kernel
theorem dX9_sorts_76 : decode cX9_sorts 76 = .ok (.iconst 0, 1) := by decide +kernel
theorem dX9_sorts_77 : decode cX9_sorts 77 = .ok (.istore 5, 2) := by decide +kernel
theorem dX9_sorts_79 : decode cX9_sorts 79 = .ok (.iload 5, 2) := by decide +kernel
theorem dX9_sorts_81 : decode cX9_sorts 81 = .ok (.aload_n 0, 1) := by decide +kernel
theorem dX9_sorts_82 : decode cX9_sorts 82 = .ok (.getfield 9, 3) := by decide +kernel
theorem dX9_sorts_85 : decode cX9_sorts 85 = .ok (.iconst 0, 1) := by decide +kernel
theorem dX9_sorts_86 : decode cX9_sorts 86 = .ok (.iaload, 1) := by decide +kernel
theorem dX9_sorts_87 : decode cX9_sorts 87 = .ok (.if_icmp .ge 47, 3) := by decide +kernel
theorem dX9_sorts_90 : decode cX9_sorts 90 = .ok (.iload 4, 2) := by decide +kernel
theorem dX9_sorts_92 : decode cX9_sorts 92 = .ok (.aload_n 0, 1) := by decide +kernel
theorem dX9_sorts_93 : decode cX9_sorts 93 = .ok (.getfield 9, 3) := by decide +kernel
theorem dX9_sorts_96 : decode cX9_sorts 96 = .ok (.iload 5, 2) := by decide +kernel
theorem dX9_sorts_98 : decode cX9_sorts 98 = .ok (.iconst 3, 1) := by decide +kernel
theorem dX9_sorts_99 : decode cX9_sorts 99 = .ok (.invokestatic 45, 3) := by decide +kernel
theorem dX9_sorts_102 : decode cX9_sorts 102 = .ok (.iaload, 1) := by decide +kernel
theorem dX9_sorts_103 : decode cX9_sorts 103 = .ok (.bipush 6, 2) := by decide +kernel
theorem dX9_sorts_105 : decode cX9_sorts 105 = .ok (.if_icmp .ge 19, 3) := by decide +kernel
theorem dX9_sorts_108 : decode cX9_sorts 108 = .ok (.iconst 1, 1) := by decide +kernel
theorem dX9_sorts_109 : decode cX9_sorts 109 = .ok (.aload_n 0, 1) := by decide +kernel
theorem dX9_sorts_110 : decode cX9_sorts 110 = .ok (.getfield 9, 3) := by decide +kernel
theorem dX9_sorts_113 : decode cX9_sorts 113 = .ok (.iload 5, 2) := by decide +kernel
theorem dX9_sorts_115 : decode cX9_sorts 115 = .ok (.iconst 3, 1) := by decide +kernel
theorem dX9_sorts_116 : decode cX9_sorts 116 = .ok (.invokestatic 45, 3) := by decide +kernel
theorem dX9_sorts_119 : decode cX9_sorts 119 = .ok (.iaload, 1) := by decide +kernel
theorem dX9_sorts_120 : decode cX9_sorts 120 = .ok (.ishl, 1) := by decide +kernel
theorem dX9_sorts_121 : decode cX9_sorts 121 = .ok (.goto 4, 3) := by decide +kernel
theorem dX9_sorts_124 : decode cX9_sorts 124 = .ok (.iconst 0, 1) := by decide +kernel
theorem dX9_sorts_125 : decode cX9_sorts 125 = .ok (.ior, 1) := by decide +kernel
theorem dX9_sorts_126 : decode cX9_sorts 126 = .ok (.istore 4, 2) := by decide +kernel
theorem dX9_sorts_128 : decode cX9_sorts 128 = .ok (.iinc 5 1, 3) := by decide +kernel
theorem dX9_sorts_131 : decode cX9_sorts 131 = .ok (.goto (-52), 3) := by decide +kernel
theorem dX9_sorts_134 : decode cX9_sorts 134 = .ok (.iload_n 1, 1) := by decide +kernel
theorem dX9_sorts_135 : decode cX9_sorts 135 = .ok (.ifCond .ne 7, 3) := by decide +kernel
theorem dX9_sorts_138 : decode cX9_sorts 138 = .ok (.iload_n 2, 1) := by decide +kernel
theorem dX9_sorts_139 : decode cX9_sorts 139 = .ok (.goto 18, 3) := by decide +kernel
