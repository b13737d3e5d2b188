theorem dX8_init_0 : decode cX8_init 0 = .ok (.aload_n 0, 1) := by decide +kernel
theorem dX8_init_1 : decode cX8_init 1 = .ok (.invokespecial 1, 3) := by decide +kernel
theorem dX8_init_4 : decode cX8_init 4 = .ok (.aload_n 0, 1) := by decide +kernel
theorem dX8_init_5 : decode cX8_init 5 = .ok (.new 7, 3) := by decide +kernel
theorem dX8_init_8 : decode cX8_init 8 = .ok (.dup, 1) := by decide +kernel
theorem dX8_init_9 : decode cX8_init 9 = .ok (.invokespecial 9, 3) := by decide +kernel
theorem dX8_init_12 : decode cX8_init 12 = .ok (.putfield 10, 3) := by decide +kernel
theorem dX8_init_15 : decode cX8_init 15 = .ok (.aload_n 0, 1) := by decide +kernel
theorem dX8_init_16 : decode cX8_init 16 = .ok (.new 7, 3) := by decide +kernel
theorem dX8_init_19 : decode cX8_init 19 = .ok (.dup, 1) := by decide +kernel
theorem dX8_init_20 : decode cX8_init 20 = .ok (.invokespecial 9, 3) := by decide +kernel
theorem dX8_init_23 : decode cX8_init 23 = .ok (.putfield 16, 3) := by decide +kernel
theorem dX8_init_26 : decode cX8_init 26 = .ok (.aload_n 0, 1) := by decide +kernel
theorem dX8_init_27 : decode cX8_init 27 = .ok (.new 7, 3) := by decide +kernel
theorem dX8_init_30 : decode cX8_init 30 = .ok (.dup, 1) := by decide +kernel
theorem dX8_init_31 : decode cX8_init 31 = .ok (.invokespecial 9, 3) := by decide +kernel
theorem dX8_init_34 : decode cX8_init 34 = .ok (.putfield 19, 3) := by decide +kernel
theorem dX8_init_37 : decode cX8_init 37 = .ok (.aload_n 0, 1) := by decide +kernel
theorem dX8_init_38 : decode cX8_init 38 = .ok (.iconst 0, 1) := by decide +kernel
theorem dX8_init_39 : decode cX8_init 39 = .ok (.putfield 22, 3) := by decide +kernel
theorem dX8_init_42 : decode cX8_init 42 = .ok (.aload_n 0, 1) := by decide +kernel
theorem dX8_init_43 : decode cX8_init 43 = .ok (.new 26, 3) := by decide +kernel
theorem dX8_init_46 : decode cX8_init 46 = .ok (.dup, 1) := by decide +kernel
theorem dX8_init_47 : decode cX8_init 47 = .ok (.invokespecial 28, 3) := by decide +kernel
theorem dX8_init_50 : decode cX8_init 50 = .ok (.putfield 29, 3) := by decide +kernel
theorem dX8_init_53 : decode cX8_init 53 = .ok (.aload_n 0, 1) := by decide +kernel
theorem dX8_init_54 : decode cX8_init 54 = .ok (.bipush 16, 2) := by decide +kernel
theorem dX8_init_56 : decode cX8_init 56 = .ok (.newarray .int, 2) := by decide +kernel
theorem dX8_init_58 : decode cX8_init 58 = .ok (.putfield 33, 3) := by decide +kernel
theorem dX8_init_61 : decode cX8_init 61 = .ok (.aload_n 0, 1) := by decide +kernel
theorem dX8_init_62 : decode cX8_init 62 = .ok (.iconst 0, 1) := by decide +kernel
theorem dX8_init_63 : decode cX8_init 63 = .ok (.putfield 37, 3) := by decide +kernel
theorem dX8_init_66 : decode cX8_init 66 = .ok (.aload_n 0, 1) := by decide +kernel
theorem dX8_init_67 : decode cX8_init 67 = .ok (.bipush 7, 2) := by decide +kernel
theorem dX8_init_69 : decode cX8_init 69 = .ok (.newarray .int, 2) := by decide +kernel
theorem dX8_init_71 : decode cX8_init 71 = .ok (.putfield 41, 3) := by decide +kernel
theorem dX8_init_74 : decode cX8_init 74 = .ok (.return_, 1) := by decide +kernel
theorem dX8_letter_0 : decode cX8_letter 0 = .ok (.iload_n 1, 1) := by decide +kernel
theorem dX8_letter_1 : decode cX8_letter 1 = .ok (.iconst 0, 1) := by decide +kernel
theorem dX8_letter_2 : decode cX8_letter 2 = .ok (.sipush 255, 3) := by decide +kernel
theorem dX8_letter_5 : decode cX8_letter 5 = .ok (.invokestatic 44, 3) := by decide +kernel
theorem dX8_letter_8 : decode cX8_letter 8 = .ok (.aload_n 0, 1) := by decide +kernel
theorem dX8_letter_9 : decode cX8_letter 9 = .ok (.getfield 29, 3) := by decide +kernel
theorem dX8_letter_12 : decode cX8_letter 12 = .ok (.getfield 48, 3) := by decide +kernel
theorem dX8_letter_15 : decode cX8_letter 15 = .ok (.bipush 96, 2) := by decide +kernel
theorem dX8_letter_17 : decode cX8_letter 17 = .ok (.if_icmp .ge 7, 3) := by decide +kernel
theorem dX8_letter_20 : decode cX8_letter 20 = .ok (.iconst 0, 1) := by decide +kernel
theorem dX8_letter_21 : decode cX8_letter 21 = .ok (.goto 5, 3) := by decide +kernel
theorem dX8_letter_24 : decode cX8_letter 24 = .ok (.bipush (-6), 2) := by decide +kernel
theorem dX8_letter_26 : decode cX8_letter 26 = .ok (.invokestatic 51, 3) := by decide +kernel
theorem dX8_letter_29 : decode cX8_letter 29 = .ok (.istore_n 2, 1) := by decide +kernel
theorem dX8_letter_30 : decode cX8_letter 30 = .ok (.iload_n 2, 1) := by decide +kernel
theorem dX8_letter_31 : decode cX8_letter 31 = .ok (.ifCond .eq 9, 3) := by decide +kernel
theorem dX8_letter_34 : decode cX8_letter 34 = .ok (.aload_n 0, 1) := by decide +kernel
theorem dX8_letter_35 : decode cX8_letter 35 = .ok (.iload_n 2, 1) := by decide +kernel
theorem dX8_letter_36 : decode cX8_letter 36 = .ok (.invokevirtual 55, 3) := by decide +kernel
theorem dX8_letter_39 : decode cX8_letter 39 = .ok (.ireturn, 1) := by decide +kernel
theorem dX8_letter_40 : decode cX8_letter 40 = .ok (.aload_n 0, 1) := by decide +kernel
theorem dX8_letter_41 : decode cX8_letter 41 = .ok (.getfield 29, 3) := by decide +kernel
theorem dX8_letter_44 : decode cX8_letter 44 = .ok (.iload_n 1, 1) := by decide +kernel
theorem dX8_letter_45 : decode cX8_letter 45 = .ok (.invokevirtual 59, 3) := by decide +kernel
theorem dX8_letter_48 : decode cX8_letter 48 = .ok (.aload_n 0, 1) := by decide +kernel
theorem dX8_letter_49 : decode cX8_letter 49 = .ok (.getfield 29, 3) := by decide +kernel
theorem dX8_letter_52 : decode cX8_letter 52 = .ok (.getfield 48, 3) := by decide +kernel
theorem dX8_letter_55 : decode cX8_letter 55 = .ok (.ireturn, 1) := by decide +kernel
theorem dX8_village_0 : decode cX8_village 0 = .ok (.aload_n 0, 1) := by decide +kernel
theorem dX8_village_1 : decode cX8_village 1 = .ok (.getfield 29, 3) := by decide +kernel
theorem dX8_village_4 : decode cX8_village 4 = .ok (.invokevirtual 63, 3) := by decide +kernel
theorem dX8_village_7 : decode cX8_village 7 = .ok (.istore_n 1, 1) := by decide +kernel
theorem dX8_village_8 : decode cX8_village 8 = .ok (.iload_n 1, 1) := by decide +kernel
theorem dX8_village_9 : decode cX8_village 9 = .ok (.ifCond .ge 7, 3) := by decide +kernel
theorem dX8_village_12 : decode cX8_village 12 = .ok (.iconst 0, 1) := by decide +kernel
theorem dX8_village_13 : decode cX8_village 13 = .ok (.goto 8, 3) := by decide +kernel
theorem dX8_village_16 : decode cX8_village 16 = .ok (.sipush (-1000), 3) := by decide +kernel
theorem dX8_village_19 : decode cX8_village 19 = .ok (.iload_n 1, 1) := by decide +kernel
theorem dX8_village_20 : decode cX8_village 20 = .ok (.isub, 1) := by decide +kernel
theorem dX8_village_21 : decode cX8_village 21 = .ok (.istore_n 2, 1) := by decide +kernel
theorem dX8_village_22 : decode cX8_village 22 = .ok (.aload_n 0, 1) := by decide +kernel
theorem dX8_village_23 : decode cX8_village 23 = .ok (.getfield 16, 3) := by decide +kernel
theorem dX8_village_26 : decode cX8_village 26 = .ok (.aload_n 0, 1) := by decide +kernel
theorem dX8_village_27 : decode cX8_village 27 = .ok (.getfield 10, 3) := by decide +kernel
theorem dX8_village_30 : decode cX8_village 30 = .ok (.invokevirtual 67, 3) := by decide +kernel
theorem dX8_village_33 : decode cX8_village 33 = .ok (.iconst 0, 1) := by decide +kernel
theorem dX8_village_34 : decode cX8_village 34 = .ok (.istore_n 3, 1) := by decide +kernel
theorem dX8_village_35 : decode cX8_village 35 = .ok (.iload_n 3, 1) := by decide +kernel
theorem dX8_village_36 : decode cX8_village 36 = .ok (.aload_n 0, 1) := by decide +kernel
theorem dX8_village_37 : decode cX8_village 37 = .ok (.getfield 29, 3) := by decide +kernel
theorem dX8_village_40 : decode cX8_village 40 = .ok (.getfield 48, 3) := by decide +kernel
theorem dX8_village_43 : decode cX8_village 43 = .ok (.if_icmp .ge 52, 3) := by decide +kernel
theorem dX8_village_46 : decode cX8_village 46 = .ok (.iload_n 2, 1) := by decide +kernel
theorem dX8_village_47 : decode cX8_village 47 = .ok (.ifCond .lt 48, 3) := by decide +kernel
theorem dX8_village_50 : decode cX8_village 50 = .ok (.aload_n 0, 1) := by decide +kernel
theorem dX8_village_51 : decode cX8_village 51 = .ok (.getfield 29, 3) := by decide +kernel
theorem dX8_village_54 : decode cX8_village 54 = .ok (.iload_n 3, 1) := by decide +kernel
theorem dX8_village_55 : decode cX8_village 55 = .ok (.aload_n 0, 1) := by decide +kernel
theorem dX8_village_56 : decode cX8_village 56 = .ok (.getfield 16, 3) := by decide +kernel
theorem dX8_village_59 : decode cX8_village 59 = .ok (.invokevirtual 71, 3) := by decide +kernel
theorem dX8_village_62 : decode cX8_village 62 = .ok (.ifCond .eq 9, 3) := by decide +kernel
theorem dX8_village_65 : decode cX8_village 65 = .ok (.iload_n 2, 1) := by decide +kernel
theorem dX8_village_66 : decode cX8_village 66 = .ok (.iconst 1, 1) := by decide +kernel
theorem dX8_village_67 : decode cX8_village 67 = .ok (.iadd, 1) := by decide +kernel
theorem dX8_village_68 : decode cX8_village 68 = .ok (.goto 8, 3) := by decide +kernel
theorem dX8_village_71 : decode cX8_village 71 = .ok (.sipush (-2000), 3) := by decide +kernel
theorem dX8_village_74 : decode cX8_village 74 = .ok (.iload_n 3, 1) := by decide +kernel
theorem dX8_village_75 : decode cX8_village 75 = .ok (.isub, 1) := by decide +kernel
theorem dX8_village_76 : decode cX8_village 76 = .ok (.istore_n 2, 1) := by decide +kernel
theorem dX8_village_77 : decode cX8_village 77 = .ok (.iload_n 3, 1) := by decide +kernel
theorem dX8_village_78 : decode cX8_village 78 = .ok (.iconst 1, 1) := by decide +kernel
theorem dX8_village_79 : decode cX8_village 79 = .ok (.aload_n 0, 1) := by decide +kernel
theorem dX8_village_80 : decode cX8_village 80 = .ok (.getfield 29, 3) := by decide +kernel
theorem dX8_village_83 : decode cX8_village 83 = .ok (.iload_n 3, 1) := by decide +kernel
theorem dX8_village_84 : decode cX8_village 84 = .ok (.invokevirtual 75, 3) := by decide +kernel
theorem dX8_village_87 : decode cX8_village 87 = .ok (.invokestatic 78, 3) := by decide +kernel
theorem dX8_village_90 : decode cX8_village 90 = .ok (.iadd, 1) := by decide +kernel
theorem dX8_village_91 : decode cX8_village 91 = .ok (.istore_n 3, 1) := by decide +kernel
theorem dX8_village_92 : decode cX8_village 92 = .ok (.goto (-57), 3) := by decide +kernel
theorem dX8_village_95 : decode cX8_village 95 = .ok (.iload_n 2, 1) := by decide +kernel
theorem dX8_village_96 : decode cX8_village 96 = .ok (.ifCond .le 14, 3) := by decide +kernel
theorem dX8_village_99 : decode cX8_village 99 = .ok (.aload_n 0, 1) := by decide +kernel
theorem dX8_village_100 : decode cX8_village 100 = .ok (.getfield 10, 3) := by decide +kernel
theorem dX8_village_103 : decode cX8_village 103 = .ok (.aload_n 0, 1) := by decide +kernel
theorem dX8_village_104 : decode cX8_village 104 = .ok (.getfield 16, 3) := by decide +kernel
theorem dX8_village_107 : decode cX8_village 107 = .ok (.invokevirtual 67, 3) := by decide +kernel
theorem dX8_village_110 : decode cX8_village 110 = .ok (.aload_n 0, 1) := by decide +kernel
theorem dX8_village_111 : decode cX8_village 111 = .ok (.getfield 29, 3) := by decide +kernel
theorem dX8_village_114 : decode cX8_village 114 = .ok (.iconst 0, 1) := by decide +kernel
theorem dX8_village_115 : decode cX8_village 115 = .ok (.putfield 48, 3) := by decide +kernel
theorem dX8_village_118 : decode cX8_village 118 = .ok (.iload_n 2, 1) := by decide +kernel
theorem dX8_village_119 : decode cX8_village 119 = .ok (.ireturn, 1) := by decide +kernel
theorem dX8_pot_0 : decode cX8_pot 0 = .ok (.aload_n 0, 1) := by decide +kernel
theorem dX8_pot_1 : decode cX8_pot 1 = .ok (.iload_n 1, 1) := by decide +kernel
theorem dX8_pot_2 : decode cX8_pot 2 = .ok (.invokevirtual 83, 3) := by decide +kernel
theorem dX8_pot_5 : decode cX8_pot 5 = .ok (.iload_n 2, 1) := by decide +kernel
theorem dX8_pot_6 : decode cX8_pot 6 = .ok (.iconst 5, 1) := by decide +kernel
theorem dX8_pot_7 : decode cX8_pot 7 = .ok (.invokestatic 86, 3) := by decide +kernel
theorem dX8_pot_10 : decode cX8_pot 10 = .ok (.invokestatic 51, 3) := by decide +kernel
theorem dX8_pot_13 : decode cX8_pot 13 = .ok (.istore_n 3, 1) := by decide +kernel
theorem dX8_pot_14 : decode cX8_pot 14 = .ok (.iload_n 3, 1) := by decide +kernel
theorem dX8_pot_15 : decode cX8_pot 15 = .ok (.ifCond .eq 9, 3) := by decide +kernel
theorem dX8_pot_18 : decode cX8_pot 18 = .ok (.aload_n 0, 1) := by decide +kernel
theorem dX8_pot_19 : decode cX8_pot 19 = .ok (.iload_n 3, 1) := by decide +kernel
theorem dX8_pot_20 : decode cX8_pot 20 = .ok (.invokevirtual 55, 3) := by decide +kernel
theorem dX8_pot_23 : decode cX8_pot 23 = .ok (.ireturn, 1) := by decide +kernel
theorem dX8_pot_24 : decode cX8_pot 24 = .ok (.iload_n 2, 1) := by decide +kernel
theorem dX8_pot_25 : decode cX8_pot 25 = .ok (.tableswitch 85 0 4 #[35, 45, 55, 65, 75], 35) := by decide +kernel
theorem dX8_pot_60 : decode cX8_pot 60 = .ok (.aload_n 0, 1) := by decide +kernel
theorem dX8_pot_61 : decode cX8_pot 61 = .ok (.getfield 10, 3) := by decide +kernel
theorem dX8_pot_64 : decode cX8_pot 64 = .ok (.getfield 89, 3) := by decide +kernel
theorem dX8_pot_67 : decode cX8_pot 67 = .ok (.iload_n 1, 1) := by decide +kernel
theorem dX8_pot_68 : decode cX8_pot 68 = .ok (.iaload, 1) := by decide +kernel
theorem dX8_pot_69 : decode cX8_pot 69 = .ok (.ireturn, 1) := by decide +kernel
theorem dX8_pot_70 : decode cX8_pot 70 = .ok (.aload_n 0, 1) := by decide +kernel
theorem dX8_pot_71 : decode cX8_pot 71 = .ok (.getfield 10, 3) := by decide +kernel
theorem dX8_pot_74 : decode cX8_pot 74 = .ok (.getfield 92, 3) := by decide +kernel
theorem dX8_pot_77 : decode cX8_pot 77 = .ok (.iload_n 1, 1) := by decide +kernel
theorem dX8_pot_78 : decode cX8_pot 78 = .ok (.iaload, 1) := by decide +kernel
theorem dX8_pot_79 : decode cX8_pot 79 = .ok (.ireturn, 1) := by decide +kernel
theorem dX8_pot_80 : decode cX8_pot 80 = .ok (.aload_n 0, 1) := by decide +kernel
theorem dX8_pot_81 : decode cX8_pot 81 = .ok (.getfield 10, 3) := by decide +kernel
theorem dX8_pot_84 : decode cX8_pot 84 = .ok (.getfield 95, 3) := by decide +kernel
theorem dX8_pot_87 : decode cX8_pot 87 = .ok (.iload_n 1, 1) := by decide +kernel
theorem dX8_pot_88 : decode cX8_pot 88 = .ok (.iaload, 1) := by decide +kernel
theorem dX8_pot_89 : decode cX8_pot 89 = .ok (.ireturn, 1) := by decide +kernel
theorem dX8_pot_90 : decode cX8_pot 90 = .ok (.aload_n 0, 1) := by decide +kernel
theorem dX8_pot_91 : decode cX8_pot 91 = .ok (.getfield 10, 3) := by decide +kernel
theorem dX8_pot_94 : decode cX8_pot 94 = .ok (.getfield 98, 3) := by decide +kernel
theorem dX8_pot_97 : decode cX8_pot 97 = .ok (.iload_n 1, 1) := by decide +kernel
theorem dX8_pot_98 : decode cX8_pot 98 = .ok (.iaload, 1) := by decide +kernel
theorem dX8_pot_99 : decode cX8_pot 99 = .ok (.ireturn, 1) := by decide +kernel
theorem dX8_pot_100 : decode cX8_pot 100 = .ok (.aload_n 0, 1) := by decide +kernel
theorem dX8_pot_101 : decode cX8_pot 101 = .ok (.getfield 10, 3) := by decide +kernel
theorem dX8_pot_104 : decode cX8_pot 104 = .ok (.getfield 101, 3) := by decide +kernel
theorem dX8_pot_107 : decode cX8_pot 107 = .ok (.iload_n 1, 1) := by decide +kernel
theorem dX8_pot_108 : decode cX8_pot 108 = .ok (.iaload, 1) := by decide +kernel
theorem dX8_pot_109 : decode cX8_pot 109 = .ok (.ireturn, 1) := by decide +kernel
theorem dX8_pot_110 : decode cX8_pot 110 = .ok (.aload_n 0, 1) := by decide +kernel
theorem dX8_pot_111 : decode cX8_pot 111 = .ok (.getfield 10, 3) := by decide +kernel
theorem dX8_pot_114 : decode cX8_pot 114 = .ok (.getfield 104, 3) := by decide +kernel
theorem dX8_pot_117 : decode cX8_pot 117 = .ok (.iload_n 1, 1) := by decide +kernel
theorem dX8_pot_118 : decode cX8_pot 118 = .ok (.iaload, 1) := by decide +kernel
theorem dX8_pot_119 : decode cX8_pot 119 = .ok (.ireturn, 1) := by decide +kernel
theorem dX8_person_0 : decode cX8_person 0 = .ok (.aload_n 0, 1) := by decide +kernel
theorem dX8_person_1 : decode cX8_person 1 = .ok (.iload_n 1, 1) := by decide +kernel
theorem dX8_person_2 : decode cX8_person 2 = .ok (.invokevirtual 107, 3) := by decide +kernel
theorem dX8_person_5 : decode cX8_person 5 = .ok (.iload_n 2, 1) := by decide +kernel
theorem dX8_person_6 : decode cX8_person 6 = .ok (.iconst 3, 1) := by decide +kernel
theorem dX8_person_7 : decode cX8_person 7 = .ok (.invokestatic 86, 3) := by decide +kernel
theorem dX8_person_10 : decode cX8_person 10 = .ok (.invokestatic 51, 3) := by decide +kernel
theorem dX8_person_13 : decode cX8_person 13 = .ok (.istore_n 3, 1) := by decide +kernel
theorem dX8_person_14 : decode cX8_person 14 = .ok (.iload_n 3, 1) := by decide +kernel
theorem dX8_person_15 : decode cX8_person 15 = .ok (.ifCond .eq 9, 3) := by decide +kernel
theorem dX8_person_18 : decode cX8_person 18 = .ok (.aload_n 0, 1) := by decide +kernel
theorem dX8_person_19 : decode cX8_person 19 = .ok (.iload_n 3, 1) := by decide +kernel
theorem dX8_person_20 : decode cX8_person 20 = .ok (.invokevirtual 55, 3) := by decide +kernel
theorem dX8_person_23 : decode cX8_person 23 = .ok (.ireturn, 1) := by decide +kernel
theorem dX8_person_24 : decode cX8_person 24 = .ok (.iload_n 2, 1) := by decide +kernel
theorem dX8_person_25 : decode cX8_person 25 = .ok (.tableswitch 56 0 2 #[27, 37, 47], 27) := by decide +kernel
theorem dX8_person_52 : decode cX8_person 52 = .ok (.aload_n 0, 1) := by decide +kernel
theorem dX8_person_53 : decode cX8_person 53 = .ok (.getfield 10, 3) := by decide +kernel
theorem dX8_person_56 : decode cX8_person 56 = .ok (.getfield 110, 3) := by decide +kernel
theorem dX8_person_59 : decode cX8_person 59 = .ok (.iload_n 1, 1) := by decide +kernel
theorem dX8_person_60 : decode cX8_person 60 = .ok (.iaload, 1) := by decide +kernel
theorem dX8_person_61 : decode cX8_person 61 = .ok (.ireturn, 1) := by decide +kernel
theorem dX8_person_62 : decode cX8_person 62 = .ok (.aload_n 0, 1) := by decide +kernel
theorem dX8_person_63 : decode cX8_person 63 = .ok (.getfield 10, 3) := by decide +kernel
theorem dX8_person_66 : decode cX8_person 66 = .ok (.getfield 113, 3) := by decide +kernel
theorem dX8_person_69 : decode cX8_person 69 = .ok (.iload_n 1, 1) := by decide +kernel
theorem dX8_person_70 : decode cX8_person 70 = .ok (.iaload, 1) := by decide +kernel
theorem dX8_person_71 : decode cX8_person 71 = .ok (.ireturn, 1) := by decide +kernel
theorem dX8_person_72 : decode cX8_person 72 = .ok (.aload_n 0, 1) := by decide +kernel
theorem dX8_person_73 : decode cX8_person 73 = .ok (.getfield 10, 3) := by decide +kernel
theorem dX8_person_76 : decode cX8_person 76 = .ok (.iload_n 1, 1) := by decide +kernel
theorem dX8_person_77 : decode cX8_person 77 = .ok (.invokevirtual 116, 3) := by decide +kernel
theorem dX8_person_80 : decode cX8_person 80 = .ok (.ireturn, 1) := by decide +kernel
theorem dX8_person_81 : decode cX8_person 81 = .ok (.aload_n 0, 1) := by decide +kernel
theorem dX8_person_82 : decode cX8_person 82 = .ok (.getfield 10, 3) := by decide +kernel
theorem dX8_person_85 : decode cX8_person 85 = .ok (.iload_n 1, 1) := by decide +kernel
theorem dX8_person_86 : decode cX8_person 86 = .ok (.invokevirtual 119, 3) := by decide +kernel
theorem dX8_person_89 : decode cX8_person 89 = .ok (.ireturn, 1) := by decide +kernel
theorem dX8_gains_0 : decode cX8_gains 0 = .ok (.aload_n 0, 1) := by decide +kernel
theorem dX8_gains_1 : decode cX8_gains 1 = .ok (.iload_n 1, 1) := by decide +kernel
theorem dX8_gains_2 : decode cX8_gains 2 = .ok (.invokevirtual 83, 3) := by decide +kernel
theorem dX8_gains_5 : decode cX8_gains 5 = .ok (.aload_n 0, 1) := by decide +kernel
theorem dX8_gains_6 : decode cX8_gains 6 = .ok (.iload_n 2, 1) := by decide +kernel
theorem dX8_gains_7 : decode cX8_gains 7 = .ok (.invokevirtual 107, 3) := by decide +kernel
theorem dX8_gains_10 : decode cX8_gains 10 = .ok (.invokestatic 51, 3) := by decide +kernel
theorem dX8_gains_13 : decode cX8_gains 13 = .ok (.istore_n 3, 1) := by decide +kernel
theorem dX8_gains_14 : decode cX8_gains 14 = .ok (.iload_n 3, 1) := by decide +kernel
theorem dX8_gains_15 : decode cX8_gains 15 = .ok (.ifCond .eq 11, 3) := by decide +kernel
theorem dX8_gains_18 : decode cX8_gains 18 = .ok (.aload_n 0, 1) := by decide +kernel
theorem dX8_gains_19 : decode cX8_gains 19 = .ok (.iload_n 3, 1) := by decide +kernel
theorem dX8_gains_20 : decode cX8_gains 20 = .ok (.invokevirtual 122, 3) := by decide +kernel
theorem dX8_gains_23 : decode cX8_gains 23 = .ok (.goto 12, 3) := by decide +kernel
theorem dX8_gains_26 : decode cX8_gains 26 = .ok (.aload_n 0, 1) := by decide +kernel
theorem dX8_gains_27 : decode cX8_gains 27 = .ok (.getfield 10, 3) := by decide +kernel
theorem dX8_gains_30 : decode cX8_gains 30 = .ok (.iload_n 1, 1) := by decide +kernel
theorem dX8_gains_31 : decode cX8_gains 31 = .ok (.iload_n 2, 1) := by decide +kernel
theorem dX8_gains_32 : decode cX8_gains 32 = .ok (.invokevirtual 125, 3) := by decide +kernel
theorem dX8_gains_35 : decode cX8_gains 35 = .ok (.ireturn, 1) := by decide +kernel
theorem dX8_labels_0 : decode cX8_labels 0 = .ok (.aload_n 0, 1) := by decide +kernel
theorem dX8_labels_1 : decode cX8_labels 1 = .ok (.iload_n 1, 1) := by decide +kernel
theorem dX8_labels_2 : decode cX8_labels 2 = .ok (.invokevirtual 83, 3) := by decide +kernel
theorem dX8_labels_5 : decode cX8_labels 5 = .ok (.iload_n 2, 1) := by decide +kernel
theorem dX8_labels_6 : decode cX8_labels 6 = .ok (.invokestatic 128, 3) := by decide +kernel
theorem dX8_labels_9 : decode cX8_labels 9 = .ok (.ifCond .eq 7, 3) := by decide +kernel
theorem dX8_labels_12 : decode cX8_labels 12 = .ok (.iconst 0, 1) := by decide +kernel
theorem dX8_labels_13 : decode cX8_labels 13 = .ok (.goto 4, 3) := by decide +kernel
theorem dX8_labels_16 : decode cX8_labels 16 = .ok (.iconst (-1), 1) := by decide +kernel
theorem dX8_labels_17 : decode cX8_labels 17 = .ok (.invokestatic 51, 3) := by decide +kernel
theorem dX8_labels_20 : decode cX8_labels 20 = .ok (.istore_n 3, 1) := by decide +kernel
theorem dX8_labels_21 : decode cX8_labels 21 = .ok (.iload_n 3, 1) := by decide +kernel
theorem dX8_labels_22 : decode cX8_labels 22 = .ok (.ifCond .eq 9, 3) := by decide +kernel
theorem dX8_labels_25 : decode cX8_labels 25 = .ok (.aload_n 0, 1) := by decide +kernel
theorem dX8_labels_26 : decode cX8_labels 26 = .ok (.iload_n 3, 1) := by decide +kernel
theorem dX8_labels_27 : decode cX8_labels 27 = .ok (.invokevirtual 55, 3) := by decide +kernel
theorem dX8_labels_30 : decode cX8_labels 30 = .ok (.ireturn, 1) := by decide +kernel
theorem dX8_labels_31 : decode cX8_labels 31 = .ok (.aload_n 0, 1) := by decide +kernel
theorem dX8_labels_32 : decode cX8_labels 32 = .ok (.getfield 10, 3) := by decide +kernel
theorem dX8_labels_35 : decode cX8_labels 35 = .ok (.getfield 98, 3) := by decide +kernel
theorem dX8_labels_38 : decode cX8_labels 38 = .ok (.iload_n 1, 1) := by decide +kernel
theorem dX8_labels_39 : decode cX8_labels 39 = .ok (.iaload, 1) := by decide +kernel
theorem dX8_labels_40 : decode cX8_labels 40 = .ok (.istore 4, 2) := by decide +kernel
theorem dX8_labels_42 : decode cX8_labels 42 = .ok (.aload_n 0, 1) := by decide +kernel
theorem dX8_labels_43 : decode cX8_labels 43 = .ok (.getfield 10, 3) := by decide +kernel
theorem dX8_labels_46 : decode cX8_labels 46 = .ok (.getfield 98, 3) := by decide +kernel
theorem dX8_labels_49 : decode cX8_labels 49 = .ok (.iload_n 1, 1) := by decide +kernel
theorem dX8_labels_50 : decode cX8_labels 50 = .ok (.iload_n 2, 1) := by decide +kernel
theorem dX8_labels_51 : decode cX8_labels 51 = .ok (.iastore, 1) := by decide +kernel
theorem dX8_labels_52 : decode cX8_labels 52 = .ok (.iload 4, 2) := by decide +kernel
theorem dX8_labels_54 : decode cX8_labels 54 = .ok (.ireturn, 1) := by decide +kernel
theorem dX8_gives_0 : decode cX8_gives 0 = .ok (.aload_n 0, 1) := by decide +kernel
theorem dX8_gives_1 : decode cX8_gives 1 = .ok (.iload_n 1, 1) := by decide +kernel
theorem dX8_gives_2 : decode cX8_gives 2 = .ok (.invokevirtual 83, 3) := by decide +kernel
theorem dX8_gives_5 : decode cX8_gives 5 = .ok (.aload_n 0, 1) := by decide +kernel
theorem dX8_gives_6 : decode cX8_gives 6 = .ok (.iload_n 2, 1) := by decide +kernel
theorem dX8_gives_7 : decode cX8_gives 7 = .ok (.invokevirtual 107, 3) := by decide +kernel
theorem dX8_gives_10 : decode cX8_gives 10 = .ok (.invokestatic 51, 3) := by decide +kernel
theorem dX8_gives_13 : decode cX8_gives 13 = .ok (.istore_n 3, 1) := by decide +kernel
theorem dX8_gives_14 : decode cX8_gives 14 = .ok (.iload_n 3, 1) := by decide +kernel
theorem dX8_gives_15 : decode cX8_gives 15 = .ok (.ifCond .eq 9, 3) := by decide +kernel
theorem dX8_gives_18 : decode cX8_gives 18 = .ok (.aload_n 0, 1) := by decide +kernel
theorem dX8_gives_19 : decode cX8_gives 19 = .ok (.iload_n 3, 1) := by decide +kernel
theorem dX8_gives_20 : decode cX8_gives 20 = .ok (.invokevirtual 55, 3) := by decide +kernel
theorem dX8_gives_23 : decode cX8_gives 23 = .ok (.ireturn, 1) := by decide +kernel
theorem dX8_gives_24 : decode cX8_gives 24 = .ok (.aload_n 0, 1) := by decide +kernel
theorem dX8_gives_25 : decode cX8_gives 25 = .ok (.getfield 10, 3) := by decide +kernel
theorem dX8_gives_28 : decode cX8_gives 28 = .ok (.getfield 104, 3) := by decide +kernel
theorem dX8_gives_31 : decode cX8_gives 31 = .ok (.iload_n 1, 1) := by decide +kernel
theorem dX8_gives_32 : decode cX8_gives 32 = .ok (.iaload, 1) := by decide +kernel
theorem dX8_gives_33 : decode cX8_gives 33 = .ok (.istore 4, 2) := by decide +kernel
theorem dX8_gives_35 : decode cX8_gives 35 = .ok (.aload_n 0, 1) := by decide +kernel
theorem dX8_gives_36 : decode cX8_gives 36 = .ok (.getfield 10, 3) := by decide +kernel
theorem dX8_gives_39 : decode cX8_gives 39 = .ok (.getfield 104, 3) := by decide +kernel
theorem dX8_gives_42 : decode cX8_gives 42 = .ok (.iload_n 1, 1) := by decide +kernel
theorem dX8_gives_43 : decode cX8_gives 43 = .ok (.iload_n 2, 1) := by decide +kernel
theorem dX8_gives_44 : decode cX8_gives 44 = .ok (.iastore, 1) := by decide +kernel
theorem dX8_gives_45 : decode cX8_gives 45 = .ok (.iload 4, 2) := by decide +kernel
theorem dX8_gives_47 : decode cX8_gives 47 = .ok (.ireturn, 1) := by decide +kernel
theorem dX8_likes_0 : decode cX8_likes 0 = .ok (.aload_n 0, 1) := by decide +kernel
theorem dX8_likes_1 : decode cX8_likes 1 = .ok (.iload_n 1, 1) := by decide +kernel
theorem dX8_likes_2 : decode cX8_likes 2 = .ok (.invokevirtual 107, 3) := by decide +kernel
theorem dX8_likes_5 : decode cX8_likes 5 = .ok (.iload_n 2, 1) := by decide +kernel
theorem dX8_likes_6 : decode cX8_likes 6 = .ok (.invokestatic 132, 3) := by decide +kernel
theorem dX8_likes_9 : decode cX8_likes 9 = .ok (.ifCond .eq 7, 3) := by decide +kernel
theorem dX8_likes_12 : decode cX8_likes 12 = .ok (.iconst 0, 1) := by decide +kernel
theorem dX8_likes_13 : decode cX8_likes 13 = .ok (.goto 4, 3) := by decide +kernel
theorem dX8_likes_16 : decode cX8_likes 16 = .ok (.iconst (-1), 1) := by decide +kernel
theorem dX8_likes_17 : decode cX8_likes 17 = .ok (.invokestatic 51, 3) := by decide +kernel
theorem dX8_likes_20 : decode cX8_likes 20 = .ok (.istore_n 3, 1) := by decide +kernel
theorem dX8_likes_21 : decode cX8_likes 21 = .ok (.iload_n 3, 1) := by decide +kernel
theorem dX8_likes_22 : decode cX8_likes 22 = .ok (.ifCond .eq 9, 3) := by decide +kernel
theorem dX8_likes_25 : decode cX8_likes 25 = .ok (.aload_n 0, 1) := by decide +kernel
theorem dX8_likes_26 : decode cX8_likes 26 = .ok (.iload_n 3, 1) := by decide +kernel
theorem dX8_likes_27 : decode cX8_likes 27 = .ok (.invokevirtual 55, 3) := by decide +kernel
theorem dX8_likes_30 : decode cX8_likes 30 = .ok (.ireturn, 1) := by decide +kernel
theorem dX8_likes_31 : decode cX8_likes 31 = .ok (.aload_n 0, 1) := by decide +kernel
theorem dX8_likes_32 : decode cX8_likes 32 = .ok (.getfield 10, 3) := by decide +kernel
theorem dX8_likes_35 : decode cX8_likes 35 = .ok (.getfield 110, 3) := by decide +kernel
theorem dX8_likes_38 : decode cX8_likes 38 = .ok (.iload_n 1, 1) := by decide +kernel
theorem dX8_likes_39 : decode cX8_likes 39 = .ok (.iaload, 1) := by decide +kernel
theorem dX8_likes_40 : decode cX8_likes 40 = .ok (.istore 4, 2) := by decide +kernel
theorem dX8_likes_42 : decode cX8_likes 42 = .ok (.aload_n 0, 1) := by decide +kernel
theorem dX8_likes_43 : decode cX8_likes 43 = .ok (.getfield 10, 3) := by decide +kernel
theorem dX8_likes_46 : decode cX8_likes 46 = .ok (.getfield 110, 3) := by decide +kernel
theorem dX8_likes_49 : decode cX8_likes 49 = .ok (.iload_n 1, 1) := by decide +kernel
theorem dX8_likes_50 : decode cX8_likes 50 = .ok (.iload_n 2, 1) := by decide +kernel
theorem dX8_likes_51 : decode cX8_likes 51 = .ok (.iastore, 1) := by decide +kernel
theorem dX8_likes_52 : decode cX8_likes 52 = .ok (.iload 4, 2) := by decide +kernel
theorem dX8_likes_54 : decode cX8_likes 54 = .ok (.ireturn, 1) := by decide +kernel
theorem dX8_fills_0 : decode cX8_fills 0 = .ok (.aload_n 0, 1) := by decide +kernel
theorem dX8_fills_1 : decode cX8_fills 1 = .ok (.iload_n 1, 1) := by decide +kernel
theorem dX8_fills_2 : decode cX8_fills 2 = .ok (.invokevirtual 83, 3) := by decide +kernel
theorem dX8_fills_5 : decode cX8_fills 5 = .ok (.iload_n 2, 1) := by decide +kernel
theorem dX8_fills_6 : decode cX8_fills 6 = .ok (.iconst 0, 1) := by decide +kernel
theorem dX8_fills_7 : decode cX8_fills 7 = .ok (.bipush 9, 2) := by decide +kernel
theorem dX8_fills_9 : decode cX8_fills 9 = .ok (.invokestatic 44, 3) := by decide +kernel
theorem dX8_fills_12 : decode cX8_fills 12 = .ok (.invokestatic 51, 3) := by decide +kernel
theorem dX8_fills_15 : decode cX8_fills 15 = .ok (.istore_n 3, 1) := by decide +kernel
theorem dX8_fills_16 : decode cX8_fills 16 = .ok (.iload_n 3, 1) := by decide +kernel
theorem dX8_fills_17 : decode cX8_fills 17 = .ok (.ifCond .eq 9, 3) := by decide +kernel
theorem dX8_fills_20 : decode cX8_fills 20 = .ok (.aload_n 0, 1) := by decide +kernel
theorem dX8_fills_21 : decode cX8_fills 21 = .ok (.iload_n 3, 1) := by decide +kernel
theorem dX8_fills_22 : decode cX8_fills 22 = .ok (.invokevirtual 55, 3) := by decide +kernel
theorem dX8_fills_25 : decode cX8_fills 25 = .ok (.ireturn, 1) := by decide +kernel
theorem dX8_fills_26 : decode cX8_fills 26 = .ok (.aload_n 0, 1) := by decide +kernel
theorem dX8_fills_27 : decode cX8_fills 27 = .ok (.getfield 10, 3) := by decide +kernel
theorem dX8_fills_30 : decode cX8_fills 30 = .ok (.getfield 101, 3) := by decide +kernel
theorem dX8_fills_33 : decode cX8_fills 33 = .ok (.iload_n 1, 1) := by decide +kernel
theorem dX8_fills_34 : decode cX8_fills 34 = .ok (.iaload, 1) := by decide +kernel
theorem dX8_fills_35 : decode cX8_fills 35 = .ok (.istore 4, 2) := by decide +kernel
theorem dX8_fills_37 : decode cX8_fills 37 = .ok (.aload_n 0, 1) := by decide +kernel
theorem dX8_fills_38 : decode cX8_fills 38 = .ok (.getfield 10, 3) := by decide +kernel
theorem dX8_fills_41 : decode cX8_fills 41 = .ok (.getfield 101, 3) := by decide +kernel
theorem dX8_fills_44 : decode cX8_fills 44 = .ok (.iload_n 1, 1) := by decide +kernel
theorem dX8_fills_45 : decode cX8_fills 45 = .ok (.iload_n 2, 1) := by decide +kernel
theorem dX8_fills_46 : decode cX8_fills 46 = .ok (.iastore, 1) := by decide +kernel
theorem dX8_fills_47 : decode cX8_fills 47 = .ok (.iload 4, 2) := by decide +kernel
theorem dX8_fills_49 : decode cX8_fills 49 = .ok (.ireturn, 1) := by decide +kernel
theorem dX8_turn_0 : decode cX8_turn 0 = .ok (.aload_n 0, 1) := by decide +kernel
theorem dX8_turn_1 : decode cX8_turn 1 = .ok (.iload_n 1, 1) := by decide +kernel
theorem dX8_turn_2 : decode cX8_turn 2 = .ok (.invokevirtual 83, 3) := by decide +kernel
theorem dX8_turn_5 : decode cX8_turn 5 = .ok (.iload_n 2, 1) := by decide +kernel
theorem dX8_turn_6 : decode cX8_turn 6 = .ok (.iconst 5, 1) := by decide +kernel
theorem dX8_turn_7 : decode cX8_turn 7 = .ok (.invokestatic 86, 3) := by decide +kernel
theorem dX8_turn_10 : decode cX8_turn 10 = .ok (.iload_n 3, 1) := by decide +kernel
theorem dX8_turn_11 : decode cX8_turn 11 = .ok (.iconst 0, 1) := by decide +kernel
theorem dX8_turn_12 : decode cX8_turn 12 = .ok (.bipush 9, 2) := by decide +kernel
theorem dX8_turn_14 : decode cX8_turn 14 = .ok (.invokestatic 44, 3) := by decide +kernel
theorem dX8_turn_17 : decode cX8_turn 17 = .ok (.invokestatic 135, 3) := by decide +kernel
theorem dX8_turn_20 : decode cX8_turn 20 = .ok (.istore 4, 2) := by decide +kernel
theorem dX8_turn_22 : decode cX8_turn 22 = .ok (.iload 4, 2) := by decide +kernel
theorem dX8_turn_24 : decode cX8_turn 24 = .ok (.ifCond .eq 10, 3) := by decide +kernel
theorem dX8_turn_27 : decode cX8_turn 27 = .ok (.aload_n 0, 1) := by decide +kernel
theorem dX8_turn_28 : decode cX8_turn 28 = .ok (.iload 4, 2) := by decide +kernel
theorem dX8_turn_30 : decode cX8_turn 30 = .ok (.invokevirtual 55, 3) := by decide +kernel
theorem dX8_turn_33 : decode cX8_turn 33 = .ok (.ireturn, 1) := by decide +kernel
theorem dX8_turn_34 : decode cX8_turn 34 = .ok (.bipush 10, 2) := by decide +kernel
theorem dX8_turn_36 : decode cX8_turn 36 = .ok (.aload_n 0, 1) := by decide +kernel
theorem dX8_turn_37 : decode cX8_turn 37 = .ok (.getfield 10, 3) := by decide +kernel
theorem dX8_turn_40 : decode cX8_turn 40 = .ok (.getfield 89, 3) := by decide +kernel
theorem dX8_turn_43 : decode cX8_turn 43 = .ok (.iload_n 1, 1) := by decide +kernel
theorem dX8_turn_44 : decode cX8_turn 44 = .ok (.iaload, 1) := by decide +kernel
theorem dX8_turn_45 : decode cX8_turn 45 = .ok (.imul, 1) := by decide +kernel
theorem dX8_turn_46 : decode cX8_turn 46 = .ok (.aload_n 0, 1) := by decide +kernel
theorem dX8_turn_47 : decode cX8_turn 47 = .ok (.getfield 10, 3) := by decide +kernel
theorem dX8_turn_50 : decode cX8_turn 50 = .ok (.getfield 92, 3) := by decide +kernel
theorem dX8_turn_53 : decode cX8_turn 53 = .ok (.iload_n 1, 1) := by decide +kernel
theorem dX8_turn_54 : decode cX8_turn 54 = .ok (.iaload, 1) := by decide +kernel
theorem dX8_turn_55 : decode cX8_turn 55 = .ok (.iadd, 1) := by decide +kernel
theorem dX8_turn_56 : decode cX8_turn 56 = .ok (.istore 5, 2) := by decide +kernel
theorem dX8_turn_58 : decode cX8_turn 58 = .ok (.aload_n 0, 1) := by decide +kernel
theorem dX8_turn_59 : decode cX8_turn 59 = .ok (.getfield 10, 3) := by decide +kernel
theorem dX8_turn_62 : decode cX8_turn 62 = .ok (.getfield 89, 3) := by decide +kernel
theorem dX8_turn_65 : decode cX8_turn 65 = .ok (.iload_n 1, 1) := by decide +kernel
theorem dX8_turn_66 : decode cX8_turn 66 = .ok (.iload_n 2, 1) := by decide +kernel
theorem dX8_turn_67 : decode cX8_turn 67 = .ok (.iastore, 1) := by decide +kernel
theorem dX8_turn_68 : decode cX8_turn 68 = .ok (.aload_n 0, 1) := by decide +kernel
theorem dX8_turn_69 : decode cX8_turn 69 = .ok (.getfield 10, 3) := by decide +kernel
theorem dX8_turn_72 : decode cX8_turn 72 = .ok (.getfield 92, 3) := by decide +kernel
theorem dX8_turn_75 : decode cX8_turn 75 = .ok (.iload_n 1, 1) := by decide +kernel
theorem dX8_turn_76 : decode cX8_turn 76 = .ok (.iload_n 3, 1) := by decide +kernel
theorem dX8_turn_77 : decode cX8_turn 77 = .ok (.iastore, 1) := by decide +kernel
theorem dX8_turn_78 : decode cX8_turn 78 = .ok (.iload 5, 2) := by decide +kernel
theorem dX8_turn_80 : decode cX8_turn 80 = .ok (.ireturn, 1) := by decide +kernel
theorem dX8_years_0 : decode cX8_years 0 = .ok (.iload_n 1, 1) := by decide +kernel
theorem dX8_years_1 : decode cX8_years 1 = .ok (.iconst 1, 1) := by decide +kernel
theorem dX8_years_2 : decode cX8_years 2 = .ok (.bipush 60, 2) := by decide +kernel
theorem dX8_years_4 : decode cX8_years 4 = .ok (.invokestatic 44, 3) := by decide +kernel
theorem dX8_years_7 : decode cX8_years 7 = .ok (.aload_n 0, 1) := by decide +kernel
theorem dX8_years_8 : decode cX8_years 8 = .ok (.getfield 10, 3) := by decide +kernel
theorem dX8_years_11 : decode cX8_years 11 = .ok (.getfield 137, 3) := by decide +kernel
theorem dX8_years_14 : decode cX8_years 14 = .ok (.sipush 999, 3) := by decide +kernel
theorem dX8_years_17 : decode cX8_years 17 = .ok (.iload_n 1, 1) := by decide +kernel
theorem dX8_years_18 : decode cX8_years 18 = .ok (.isub, 1) := by decide +kernel
theorem dX8_years_19 : decode cX8_years 19 = .ok (.if_icmp .gt 7, 3) := by decide +kernel
theorem dX8_years_22 : decode cX8_years 22 = .ok (.iconst 0, 1) := by decide +kernel
theorem dX8_years_23 : decode cX8_years 23 = .ok (.goto 5, 3) := by decide +kernel
theorem dX8_years_26 : decode cX8_years 26 = .ok (.bipush (-6), 2) := by decide +kernel
theorem dX8_years_28 : decode cX8_years 28 = .ok (.invokestatic 51, 3) := by decide +kernel
theorem dX8_years_31 : decode cX8_years 31 = .ok (.istore_n 2, 1) := by decide +kernel
theorem dX8_years_32 : decode cX8_years 32 = .ok (.iload_n 2, 1) := by decide +kernel
theorem dX8_years_33 : decode cX8_years 33 = .ok (.ifCond .eq 9, 3) := by decide +kernel
theorem dX8_years_36 : decode cX8_years 36 = .ok (.aload_n 0, 1) := by decide +kernel
theorem dX8_years_37 : decode cX8_years 37 = .ok (.iload_n 2, 1) := by decide +kernel
theorem dX8_years_38 : decode cX8_years 38 = .ok (.invokevirtual 55, 3) := by decide +kernel
theorem dX8_years_41 : decode cX8_years 41 = .ok (.ireturn, 1) := by decide +kernel
theorem dX8_years_42 : decode cX8_years 42 = .ok (.aload_n 0, 1) := by decide +kernel
theorem dX8_years_43 : decode cX8_years 43 = .ok (.getfield 10, 3) := by decide +kernel
theorem dX8_years_46 : decode cX8_years 46 = .ok (.iload_n 1, 1) := by decide +kernel
theorem dX8_years_47 : decode cX8_years 47 = .ok (.invokevirtual 140, 3) := by decide +kernel
theorem dX8_years_50 : decode cX8_years 50 = .ok (.aload_n 0, 1) := by decide +kernel
theorem dX8_years_51 : decode cX8_years 51 = .ok (.getfield 10, 3) := by decide +kernel
theorem dX8_years_54 : decode cX8_years 54 = .ok (.invokevirtual 143, 3) := by decide +kernel
theorem dX8_years_57 : decode cX8_years 57 = .ok (.ireturn, 1) := by decide +kernel
theorem dX8_personThen_0 : decode cX8_personThen 0 = .ok (.aload_n 0, 1) := by decide +kernel
theorem dX8_personThen_1 : decode cX8_personThen 1 = .ok (.iload_n 1, 1) := by decide +kernel
theorem dX8_personThen_2 : decode cX8_personThen 2 = .ok (.invokevirtual 107, 3) := by decide +kernel
theorem dX8_personThen_5 : decode cX8_personThen 5 = .ok (.iload_n 2, 1) := by decide +kernel
theorem dX8_personThen_6 : decode cX8_personThen 6 = .ok (.iconst 0, 1) := by decide +kernel
theorem dX8_personThen_7 : decode cX8_personThen 7 = .ok (.bipush 60, 2) := by decide +kernel
theorem dX8_personThen_9 : decode cX8_personThen 9 = .ok (.invokestatic 44, 3) := by decide +kernel
theorem dX8_personThen_12 : decode cX8_personThen 12 = .ok (.iload_n 3, 1) := by decide +kernel
theorem dX8_personThen_13 : decode cX8_personThen 13 = .ok (.iconst 1, 1) := by decide +kernel
theorem dX8_personThen_14 : decode cX8_personThen 14 = .ok (.invokestatic 86, 3) := by decide +kernel
theorem dX8_personThen_17 : decode cX8_personThen 17 = .ok (.invokestatic 135, 3) := by decide +kernel
theorem dX8_personThen_20 : decode cX8_personThen 20 = .ok (.istore 4, 2) := by decide +kernel
theorem dX8_personThen_22 : decode cX8_personThen 22 = .ok (.iload 4, 2) := by decide +kernel
theorem dX8_personThen_24 : decode cX8_personThen 24 = .ok (.ifCond .eq 10, 3) := by decide +kernel
theorem dX8_personThen_27 : decode cX8_personThen 27 = .ok (.aload_n 0, 1) := by decide +kernel
theorem dX8_personThen_28 : decode cX8_personThen 28 = .ok (.iload 4, 2) := by decide +kernel
theorem dX8_personThen_30 : decode cX8_personThen 30 = .ok (.invokevirtual 55, 3) := by decide +kernel
theorem dX8_personThen_33 : decode cX8_personThen 33 = .ok (.ireturn, 1) := by decide +kernel
theorem dX8_personThen_34 : decode cX8_personThen 34 = .ok (.aload_n 0, 1) := by decide +kernel
theorem dX8_personThen_35 : decode cX8_personThen 35 = .ok (.getfield 16, 3) := by decide +kernel
theorem dX8_personThen_38 : decode cX8_personThen 38 = .ok (.aload_n 0, 1) := by decide +kernel
theorem dX8_personThen_39 : decode cX8_personThen 39 = .ok (.getfield 10, 3) := by decide +kernel
theorem dX8_personThen_42 : decode cX8_personThen 42 = .ok (.invokevirtual 67, 3) := by decide +kernel
theorem dX8_personThen_45 : decode cX8_personThen 45 = .ok (.aload_n 0, 1) := by decide +kernel
theorem dX8_personThen_46 : decode cX8_personThen 46 = .ok (.getfield 16, 3) := by decide +kernel
theorem dX8_personThen_49 : decode cX8_personThen 49 = .ok (.iload_n 1, 1) := by decide +kernel
theorem dX8_personThen_50 : decode cX8_personThen 50 = .ok (.iload_n 2, 1) := by decide +kernel
theorem dX8_personThen_51 : decode cX8_personThen 51 = .ok (.invokevirtual 146, 3) := by decide +kernel
theorem dX8_personThen_54 : decode cX8_personThen 54 = .ok (.iload_n 3, 1) := by decide +kernel
theorem dX8_personThen_55 : decode cX8_personThen 55 = .ok (.ifCond .ne 15, 3) := by decide +kernel
theorem dX8_personThen_58 : decode cX8_personThen 58 = .ok (.aload_n 0, 1) := by decide +kernel
theorem dX8_personThen_59 : decode cX8_personThen 59 = .ok (.getfield 16, 3) := by decide +kernel
theorem dX8_personThen_62 : decode cX8_personThen 62 = .ok (.getfield 113, 3) := by decide +kernel
theorem dX8_personThen_65 : decode cX8_personThen 65 = .ok (.iload_n 1, 1) := by decide +kernel
theorem dX8_personThen_66 : decode cX8_personThen 66 = .ok (.iaload, 1) := by decide +kernel
theorem dX8_personThen_67 : decode cX8_personThen 67 = .ok (.goto 11, 3) := by decide +kernel
theorem dX8_personThen_70 : decode cX8_personThen 70 = .ok (.aload_n 0, 1) := by decide +kernel
theorem dX8_personThen_71 : decode cX8_personThen 71 = .ok (.getfield 16, 3) := by decide +kernel
theorem dX8_personThen_74 : decode cX8_personThen 74 = .ok (.iload_n 1, 1) := by decide +kernel
theorem dX8_personThen_75 : decode cX8_personThen 75 = .ok (.invokevirtual 116, 3) := by decide +kernel
theorem dX8_personThen_78 : decode cX8_personThen 78 = .ok (.ireturn, 1) := by decide +kernel
theorem dX8_fullThen_0 : decode cX8_fullThen 0 = .ok (.aload_n 0, 1) := by decide +kernel
theorem dX8_fullThen_1 : decode cX8_fullThen 1 = .ok (.iload_n 1, 1) := by decide +kernel
theorem dX8_fullThen_2 : decode cX8_fullThen 2 = .ok (.invokevirtual 83, 3) := by decide +kernel
theorem dX8_fullThen_5 : decode cX8_fullThen 5 = .ok (.iload_n 2, 1) := by decide +kernel
theorem dX8_fullThen_6 : decode cX8_fullThen 6 = .ok (.iconst 0, 1) := by decide +kernel
theorem dX8_fullThen_7 : decode cX8_fullThen 7 = .ok (.bipush 60, 2) := by decide +kernel
theorem dX8_fullThen_9 : decode cX8_fullThen 9 = .ok (.invokestatic 44, 3) := by decide +kernel
theorem dX8_fullThen_12 : decode cX8_fullThen 12 = .ok (.invokestatic 51, 3) := by decide +kernel
theorem dX8_fullThen_15 : decode cX8_fullThen 15 = .ok (.istore_n 3, 1) := by decide +kernel
theorem dX8_fullThen_16 : decode cX8_fullThen 16 = .ok (.iload_n 3, 1) := by decide +kernel
theorem dX8_fullThen_17 : decode cX8_fullThen 17 = .ok (.ifCond .eq 9, 3) := by decide +kernel
theorem dX8_fullThen_20 : decode cX8_fullThen 20 = .ok (.aload_n 0, 1) := by decide +kernel
theorem dX8_fullThen_21 : decode cX8_fullThen 21 = .ok (.iload_n 3, 1) := by decide +kernel
theorem dX8_fullThen_22 : decode cX8_fullThen 22 = .ok (.invokevirtual 55, 3) := by decide +kernel
theorem dX8_fullThen_25 : decode cX8_fullThen 25 = .ok (.ireturn, 1) := by decide +kernel
theorem dX8_fullThen_26 : decode cX8_fullThen 26 = .ok (.aload_n 0, 1) := by decide +kernel
theorem dX8_fullThen_27 : decode cX8_fullThen 27 = .ok (.getfield 16, 3) := by decide +kernel
theorem dX8_fullThen_30 : decode cX8_fullThen 30 = .ok (.aload_n 0, 1) := by decide +kernel
theorem dX8_fullThen_31 : decode cX8_fullThen 31 = .ok (.getfield 10, 3) := by decide +kernel
theorem dX8_fullThen_34 : decode cX8_fullThen 34 = .ok (.invokevirtual 67, 3) := by decide +kernel
theorem dX8_fullThen_37 : decode cX8_fullThen 37 = .ok (.aload_n 0, 1) := by decide +kernel
theorem dX8_fullThen_38 : decode cX8_fullThen 38 = .ok (.getfield 16, 3) := by decide +kernel
theorem dX8_fullThen_41 : decode cX8_fullThen 41 = .ok (.aload_n 0, 1) := by decide +kernel
theorem dX8_fullThen_42 : decode cX8_fullThen 42 = .ok (.getfield 16, 3) := by decide +kernel
theorem dX8_fullThen_45 : decode cX8_fullThen 45 = .ok (.getfield 104, 3) := by decide +kernel
theorem dX8_fullThen_48 : decode cX8_fullThen 48 = .ok (.iload_n 1, 1) := by decide +kernel
theorem dX8_fullThen_49 : decode cX8_fullThen 49 = .ok (.iaload, 1) := by decide +kernel
theorem dX8_fullThen_50 : decode cX8_fullThen 50 = .ok (.iload_n 2, 1) := by decide +kernel
theorem dX8_fullThen_51 : decode cX8_fullThen 51 = .ok (.invokevirtual 146, 3) := by decide +kernel
theorem dX8_fullThen_54 : decode cX8_fullThen 54 = .ok (.aload_n 0, 1) := by decide +kernel
theorem dX8_fullThen_55 : decode cX8_fullThen 55 = .ok (.getfield 16, 3) := by decide +kernel
theorem dX8_fullThen_58 : decode cX8_fullThen 58 = .ok (.getfield 101, 3) := by decide +kernel
theorem dX8_fullThen_61 : decode cX8_fullThen 61 = .ok (.iload_n 1, 1) := by decide +kernel
theorem dX8_fullThen_62 : decode cX8_fullThen 62 = .ok (.iaload, 1) := by decide +kernel
theorem dX8_fullThen_63 : decode cX8_fullThen 63 = .ok (.ireturn, 1) := by decide +kernel
theorem dX8_graceThen_0 : decode cX8_graceThen 0 = .ok (.iload_n 1, 1) := by decide +kernel
theorem dX8_graceThen_1 : decode cX8_graceThen 1 = .ok (.iconst 0, 1) := by decide +kernel
theorem dX8_graceThen_2 : decode cX8_graceThen 2 = .ok (.bipush 60, 2) := by decide +kernel
theorem dX8_graceThen_4 : decode cX8_graceThen 4 = .ok (.invokestatic 44, 3) := by decide +kernel
theorem dX8_graceThen_7 : decode cX8_graceThen 7 = .ok (.istore_n 2, 1) := by decide +kernel
theorem dX8_graceThen_8 : decode cX8_graceThen 8 = .ok (.iload_n 2, 1) := by decide +kernel
theorem dX8_graceThen_9 : decode cX8_graceThen 9 = .ok (.ifCond .eq 11, 3) := by decide +kernel
theorem dX8_graceThen_12 : decode cX8_graceThen 12 = .ok (.aload_n 0, 1) := by decide +kernel
theorem dX8_graceThen_13 : decode cX8_graceThen 13 = .ok (.iload_n 2, 1) := by decide +kernel
theorem dX8_graceThen_14 : decode cX8_graceThen 14 = .ok (.invokevirtual 55, 3) := by decide +kernel
theorem dX8_graceThen_17 : decode cX8_graceThen 17 = .ok (.goto 8, 3) := by decide +kernel
theorem dX8_graceThen_20 : decode cX8_graceThen 20 = .ok (.aload_n 0, 1) := by decide +kernel
theorem dX8_graceThen_21 : decode cX8_graceThen 21 = .ok (.iload_n 1, 1) := by decide +kernel
theorem dX8_graceThen_22 : decode cX8_graceThen 22 = .ok (.invokevirtual 150, 3) := by decide +kernel
theorem dX8_graceThen_25 : decode cX8_graceThen 25 = .ok (.ireturn, 1) := by decide +kernel
theorem dX8_graceless_0 : decode cX8_graceless 0 = .ok (.iload_n 1, 1) := by decide +kernel
theorem dX8_graceless_1 : decode cX8_graceless 1 = .ok (.iconst (-1), 1) := by decide +kernel
theorem dX8_graceless_2 : decode cX8_graceless 2 = .ok (.if_icmp .ne 8, 3) := by decide +kernel
theorem dX8_graceless_5 : decode cX8_graceless 5 = .ok (.aload_n 0, 1) := by decide +kernel
theorem dX8_graceless_6 : decode cX8_graceless 6 = .ok (.invokevirtual 153, 3) := by decide +kernel
theorem dX8_graceless_9 : decode cX8_graceless 9 = .ok (.ireturn, 1) := by decide +kernel
theorem dX8_graceless_10 : decode cX8_graceless 10 = .ok (.aload_n 0, 1) := by decide +kernel
theorem dX8_graceless_11 : decode cX8_graceless 11 = .ok (.iload_n 1, 1) := by decide +kernel
theorem dX8_graceless_12 : decode cX8_graceless 12 = .ok (.invokevirtual 107, 3) := by decide +kernel
theorem dX8_graceless_15 : decode cX8_graceless 15 = .ok (.istore_n 2, 1) := by decide +kernel
theorem dX8_graceless_16 : decode cX8_graceless 16 = .ok (.iload_n 2, 1) := by decide +kernel
theorem dX8_graceless_17 : decode cX8_graceless 17 = .ok (.ifCond .eq 9, 3) := by decide +kernel
theorem dX8_graceless_20 : decode cX8_graceless 20 = .ok (.aload_n 0, 1) := by decide +kernel
theorem dX8_graceless_21 : decode cX8_graceless 21 = .ok (.iload_n 2, 1) := by decide +kernel
theorem dX8_graceless_22 : decode cX8_graceless 22 = .ok (.invokevirtual 55, 3) := by decide +kernel
theorem dX8_graceless_25 : decode cX8_graceless 25 = .ok (.ireturn, 1) := by decide +kernel
theorem dX8_graceless_26 : decode cX8_graceless 26 = .ok (.aload_n 0, 1) := by decide +kernel
theorem dX8_graceless_27 : decode cX8_graceless 27 = .ok (.getfield 16, 3) := by decide +kernel
theorem dX8_graceless_30 : decode cX8_graceless 30 = .ok (.aload_n 0, 1) := by decide +kernel
theorem dX8_graceless_31 : decode cX8_graceless 31 = .ok (.getfield 10, 3) := by decide +kernel
theorem dX8_graceless_34 : decode cX8_graceless 34 = .ok (.invokevirtual 67, 3) := by decide +kernel
theorem dX8_graceless_37 : decode cX8_graceless 37 = .ok (.iconst 0, 1) := by decide +kernel
theorem dX8_graceless_38 : decode cX8_graceless 38 = .ok (.istore_n 3, 1) := by decide +kernel
theorem dX8_graceless_39 : decode cX8_graceless 39 = .ok (.iload_n 3, 1) := by decide +kernel
theorem dX8_graceless_40 : decode cX8_graceless 40 = .ok (.bipush 60, 2) := by decide +kernel
theorem dX8_graceless_42 : decode cX8_graceless 42 = .ok (.if_icmp .gt 32, 3) := by decide +kernel
theorem dX8_graceless_45 : decode cX8_graceless 45 = .ok (.aload_n 0, 1) := by decide +kernel
theorem dX8_graceless_46 : decode cX8_graceless 46 = .ok (.getfield 16, 3) := by decide +kernel
theorem dX8_graceless_49 : decode cX8_graceless 49 = .ok (.getfield 113, 3) := by decide +kernel
theorem dX8_graceless_52 : decode cX8_graceless 52 = .ok (.iload_n 1, 1) := by decide +kernel
theorem dX8_graceless_53 : decode cX8_graceless 53 = .ok (.iaload, 1) := by decide +kernel
theorem dX8_graceless_54 : decode cX8_graceless 54 = .ok (.ifCond .ne 5, 3) := by decide +kernel
theorem dX8_graceless_57 : decode cX8_graceless 57 = .ok (.iload_n 3, 1) := by decide +kernel
theorem dX8_graceless_58 : decode cX8_graceless 58 = .ok (.ireturn, 1) := by decide +kernel
theorem dX8_graceless_59 : decode cX8_graceless 59 = .ok (.aload_n 0, 1) := by decide +kernel
theorem dX8_graceless_60 : decode cX8_graceless 60 = .ok (.getfield 16, 3) := by decide +kernel
theorem dX8_graceless_63 : decode cX8_graceless 63 = .ok (.iload_n 1, 1) := by decide +kernel
theorem dX8_graceless_64 : decode cX8_graceless 64 = .ok (.iconst 1, 1) := by decide +kernel
theorem dX8_graceless_65 : decode cX8_graceless 65 = .ok (.invokevirtual 146, 3) := by decide +kernel
theorem dX8_graceless_68 : decode cX8_graceless 68 = .ok (.iinc 3 1, 3) := by decide +kernel
theorem dX8_graceless_71 : decode cX8_graceless 71 = .ok (.goto (-32), 3) := by decide +kernel
theorem dX8_graceless_74 : decode cX8_graceless 74 = .ok (.bipush (-9), 2) := by decide +kernel
theorem dX8_graceless_76 : decode cX8_graceless 76 = .ok (.ireturn, 1) := by decide +kernel
theorem dX8_firstGraceless_0 : decode cX8_firstGraceless 0 = .ok (.aload_n 0, 1) := by decide +kernel
theorem dX8_firstGraceless_1 : decode cX8_firstGraceless 1 = .ok (.getfield 16, 3) := by decide +kernel
theorem dX8_firstGraceless_4 : decode cX8_firstGraceless 4 = .ok (.aload_n 0, 1) := by decide +kernel
theorem dX8_firstGraceless_5 : decode cX8_firstGraceless 5 = .ok (.getfield 10, 3) := by decide +kernel
theorem dX8_firstGraceless_8 : decode cX8_firstGraceless 8 = .ok (.invokevirtual 67, 3) := by decide +kernel
theorem dX8_firstGraceless_11 : decode cX8_firstGraceless 11 = .ok (.iconst 0, 1) := by decide +kernel
theorem dX8_firstGraceless_12 : decode cX8_firstGraceless 12 = .ok (.istore_n 1, 1) := by decide +kernel
theorem dX8_firstGraceless_13 : decode cX8_firstGraceless 13 = .ok (.iload_n 1, 1) := by decide +kernel
theorem dX8_firstGraceless_14 : decode cX8_firstGraceless 14 = .ok (.bipush 60, 2) := by decide +kernel
theorem dX8_firstGraceless_16 : decode cX8_firstGraceless 16 = .ok (.if_icmp .gt 50, 3) := by decide +kernel
theorem dX8_firstGraceless_19 : decode cX8_firstGraceless 19 = .ok (.iconst 0, 1) := by decide +kernel
theorem dX8_firstGraceless_20 : decode cX8_firstGraceless 20 = .ok (.istore_n 2, 1) := by decide +kernel
theorem dX8_firstGraceless_21 : decode cX8_firstGraceless 21 = .ok (.iload_n 2, 1) := by decide +kernel
theorem dX8_firstGraceless_22 : decode cX8_firstGraceless 22 = .ok (.aload_n 0, 1) := by decide +kernel
theorem dX8_firstGraceless_23 : decode cX8_firstGraceless 23 = .ok (.getfield 16, 3) := by decide +kernel
theorem dX8_firstGraceless_26 : decode cX8_firstGraceless 26 = .ok (.getfield 156, 3) := by decide +kernel
theorem dX8_firstGraceless_29 : decode cX8_firstGraceless 29 = .ok (.if_icmp .ge 23, 3) := by decide +kernel
theorem dX8_firstGraceless_32 : decode cX8_firstGraceless 32 = .ok (.aload_n 0, 1) := by decide +kernel
theorem dX8_firstGraceless_33 : decode cX8_firstGraceless 33 = .ok (.getfield 16, 3) := by decide +kernel
theorem dX8_firstGraceless_36 : decode cX8_firstGraceless 36 = .ok (.getfield 113, 3) := by decide +kernel
theorem dX8_firstGraceless_39 : decode cX8_firstGraceless 39 = .ok (.iload_n 2, 1) := by decide +kernel
theorem dX8_firstGraceless_40 : decode cX8_firstGraceless 40 = .ok (.iaload, 1) := by decide +kernel
theorem dX8_firstGraceless_41 : decode cX8_firstGraceless 41 = .ok (.ifCond .ne 5, 3) := by decide +kernel
theorem dX8_firstGraceless_44 : decode cX8_firstGraceless 44 = .ok (.iload_n 2, 1) := by decide +kernel
theorem dX8_firstGraceless_45 : decode cX8_firstGraceless 45 = .ok (.ireturn, 1) := by decide +kernel
theorem dX8_firstGraceless_46 : decode cX8_firstGraceless 46 = .ok (.iinc 2 1, 3) := by decide +kernel
theorem dX8_firstGraceless_49 : decode cX8_firstGraceless 49 = .ok (.goto (-28), 3) := by decide +kernel
theorem dX8_firstGraceless_52 : decode cX8_firstGraceless 52 = .ok (.aload_n 0, 1) := by decide +kernel
theorem dX8_firstGraceless_53 : decode cX8_firstGraceless 53 = .ok (.getfield 16, 3) := by decide +kernel
theorem dX8_firstGraceless_56 : decode cX8_firstGraceless 56 = .ok (.iconst 1, 1) := by decide +kernel
theorem dX8_firstGraceless_57 : decode cX8_firstGraceless 57 = .ok (.invokevirtual 140, 3) := by decide +kernel
theorem dX8_firstGraceless_60 : decode cX8_firstGraceless 60 = .ok (.iinc 1 1, 3) := by decide +kernel
theorem dX8_firstGraceless_63 : decode cX8_firstGraceless 63 = .ok (.goto (-50), 3) := by decide +kernel
theorem dX8_firstGraceless_66 : decode cX8_firstGraceless 66 = .ok (.bipush (-9), 2) := by decide +kernel
theorem dX8_firstGraceless_68 : decode cX8_firstGraceless 68 = .ok (.ireturn, 1) := by decide +kernel
theorem dX8_empties_0 : decode cX8_empties 0 = .ok (.aload_n 0, 1) := by decide +kernel
theorem dX8_empties_1 : decode cX8_empties 1 = .ok (.iload_n 1, 1) := by decide +kernel
theorem dX8_empties_2 : decode cX8_empties 2 = .ok (.invokevirtual 83, 3) := by decide +kernel
theorem dX8_empties_5 : decode cX8_empties 5 = .ok (.istore_n 2, 1) := by decide +kernel
theorem dX8_empties_6 : decode cX8_empties 6 = .ok (.iload_n 2, 1) := by decide +kernel
theorem dX8_empties_7 : decode cX8_empties 7 = .ok (.ifCond .eq 9, 3) := by decide +kernel
theorem dX8_empties_10 : decode cX8_empties 10 = .ok (.aload_n 0, 1) := by decide +kernel
theorem dX8_empties_11 : decode cX8_empties 11 = .ok (.iload_n 2, 1) := by decide +kernel
theorem dX8_empties_12 : decode cX8_empties 12 = .ok (.invokevirtual 55, 3) := by decide +kernel
theorem dX8_empties_15 : decode cX8_empties 15 = .ok (.ireturn, 1) := by decide +kernel
theorem dX8_empties_16 : decode cX8_empties 16 = .ok (.aload_n 0, 1) := by decide +kernel
theorem dX8_empties_17 : decode cX8_empties 17 = .ok (.getfield 16, 3) := by decide +kernel
theorem dX8_empties_20 : decode cX8_empties 20 = .ok (.aload_n 0, 1) := by decide +kernel
theorem dX8_empties_21 : decode cX8_empties 21 = .ok (.getfield 10, 3) := by decide +kernel
theorem dX8_empties_24 : decode cX8_empties 24 = .ok (.invokevirtual 67, 3) := by decide +kernel
theorem dX8_empties_27 : decode cX8_empties 27 = .ok (.iconst 0, 1) := by decide +kernel
theorem dX8_empties_28 : decode cX8_empties 28 = .ok (.istore_n 3, 1) := by decide +kernel
theorem dX8_empties_29 : decode cX8_empties 29 = .ok (.iload_n 3, 1) := by decide +kernel
theorem dX8_empties_30 : decode cX8_empties 30 = .ok (.bipush 60, 2) := by decide +kernel
theorem dX8_empties_32 : decode cX8_empties 32 = .ok (.if_icmp .gt 40, 3) := by decide +kernel
theorem dX8_empties_35 : decode cX8_empties 35 = .ok (.aload_n 0, 1) := by decide +kernel
theorem dX8_empties_36 : decode cX8_empties 36 = .ok (.getfield 16, 3) := by decide +kernel
theorem dX8_empties_39 : decode cX8_empties 39 = .ok (.getfield 101, 3) := by decide +kernel
theorem dX8_empties_42 : decode cX8_empties 42 = .ok (.iload_n 1, 1) := by decide +kernel
theorem dX8_empties_43 : decode cX8_empties 43 = .ok (.iaload, 1) := by decide +kernel
theorem dX8_empties_44 : decode cX8_empties 44 = .ok (.ifCond .ne 5, 3) := by decide +kernel
theorem dX8_empties_47 : decode cX8_empties 47 = .ok (.iload_n 3, 1) := by decide +kernel
theorem dX8_empties_48 : decode cX8_empties 48 = .ok (.ireturn, 1) := by decide +kernel
theorem dX8_empties_49 : decode cX8_empties 49 = .ok (.aload_n 0, 1) := by decide +kernel
theorem dX8_empties_50 : decode cX8_empties 50 = .ok (.getfield 16, 3) := by decide +kernel
theorem dX8_empties_53 : decode cX8_empties 53 = .ok (.aload_n 0, 1) := by decide +kernel
theorem dX8_empties_54 : decode cX8_empties 54 = .ok (.getfield 16, 3) := by decide +kernel
theorem dX8_empties_57 : decode cX8_empties 57 = .ok (.getfield 104, 3) := by decide +kernel
theorem dX8_empties_60 : decode cX8_empties 60 = .ok (.iload_n 1, 1) := by decide +kernel
theorem dX8_empties_61 : decode cX8_empties 61 = .ok (.iaload, 1) := by decide +kernel
theorem dX8_empties_62 : decode cX8_empties 62 = .ok (.iconst 1, 1) := by decide +kernel
theorem dX8_empties_63 : decode cX8_empties 63 = .ok (.invokevirtual 146, 3) := by decide +kernel
theorem dX8_empties_66 : decode cX8_empties 66 = .ok (.iinc 3 1, 3) := by decide +kernel
theorem dX8_empties_69 : decode cX8_empties 69 = .ok (.goto (-40), 3) := by decide +kernel
theorem dX8_empties_72 : decode cX8_empties 72 = .ok (.bipush (-9), 2) := by decide +kernel
theorem dX8_empties_74 : decode cX8_empties 74 = .ok (.ireturn, 1) := by decide +kernel
theorem dX8_label_0 : decode cX8_label 0 = .ok (.aload_n 0, 1) := by decide +kernel
theorem dX8_label_1 : decode cX8_label 1 = .ok (.iload_n 1, 1) := by decide +kernel
theorem dX8_label_2 : decode cX8_label 2 = .ok (.invokevirtual 83, 3) := by decide +kernel
theorem dX8_label_5 : decode cX8_label 5 = .ok (.iload_n 2, 1) := by decide +kernel
theorem dX8_label_6 : decode cX8_label 6 = .ok (.iconst 0, 1) := by decide +kernel
theorem dX8_label_7 : decode cX8_label 7 = .ok (.bipush 30, 2) := by decide +kernel
theorem dX8_label_9 : decode cX8_label 9 = .ok (.invokestatic 44, 3) := by decide +kernel
theorem dX8_label_12 : decode cX8_label 12 = .ok (.invokestatic 51, 3) := by decide +kernel
theorem dX8_label_15 : decode cX8_label 15 = .ok (.istore_n 3, 1) := by decide +kernel
theorem dX8_label_16 : decode cX8_label 16 = .ok (.iload_n 3, 1) := by decide +kernel
theorem dX8_label_17 : decode cX8_label 17 = .ok (.ifCond .eq 9, 3) := by decide +kernel
theorem dX8_label_20 : decode cX8_label 20 = .ok (.aload_n 0, 1) := by decide +kernel
theorem dX8_label_21 : decode cX8_label 21 = .ok (.iload_n 3, 1) := by decide +kernel
theorem dX8_label_22 : decode cX8_label 22 = .ok (.invokevirtual 55, 3) := by decide +kernel
theorem dX8_label_25 : decode cX8_label 25 = .ok (.ireturn, 1) := by decide +kernel
theorem dX8_label_26 : decode cX8_label 26 = .ok (.aload_n 0, 1) := by decide +kernel
theorem dX8_label_27 : decode cX8_label 27 = .ok (.getfield 10, 3) := by decide +kernel
theorem dX8_label_30 : decode cX8_label 30 = .ok (.getfield 104, 3) := by decide +kernel
theorem dX8_label_33 : decode cX8_label 33 = .ok (.iload_n 1, 1) := by decide +kernel
theorem dX8_label_34 : decode cX8_label 34 = .ok (.iaload, 1) := by decide +kernel
theorem dX8_label_35 : decode cX8_label 35 = .ok (.istore 4, 2) := by decide +kernel
theorem dX8_label_37 : decode cX8_label 37 = .ok (.iconst 0, 1) := by decide +kernel
theorem dX8_label_38 : decode cX8_label 38 = .ok (.istore 5, 2) := by decide +kernel
theorem dX8_label_40 : decode cX8_label 40 = .ok (.iconst (-1), 1) := by decide +kernel
theorem dX8_label_41 : decode cX8_label 41 = .ok (.istore 6, 2) := by decide +kernel
theorem dX8_label_43 : decode cX8_label 43 = .ok (.iconst 0, 1) := by decide +kernel
theorem dX8_label_44 : decode cX8_label 44 = .ok (.istore 7, 2) := by decide +kernel
theorem dX8_label_46 : decode cX8_label 46 = .ok (.iload 7, 2) := by decide +kernel
theorem dX8_label_48 : decode cX8_label 48 = .ok (.bipush 6, 2) := by decide +kernel
theorem dX8_label_50 : decode cX8_label 50 = .ok (.if_icmp .gt 72, 3) := by decide +kernel
theorem dX8_label_53 : decode cX8_label 53 = .ok (.aload_n 0, 1) := by decide +kernel
theorem dX8_label_54 : decode cX8_label 54 = .ok (.getfield 16, 3) := by decide +kernel
theorem dX8_label_57 : decode cX8_label 57 = .ok (.aload_n 0, 1) := by decide +kernel
theorem dX8_label_58 : decode cX8_label 58 = .ok (.getfield 10, 3) := by decide +kernel
theorem dX8_label_61 : decode cX8_label 61 = .ok (.invokevirtual 67, 3) := by decide +kernel
theorem dX8_label_64 : decode cX8_label 64 = .ok (.aload_n 0, 1) := by decide +kernel
theorem dX8_label_65 : decode cX8_label 65 = .ok (.getfield 16, 3) := by decide +kernel
theorem dX8_label_68 : decode cX8_label 68 = .ok (.getfield 98, 3) := by decide +kernel
theorem dX8_label_71 : decode cX8_label 71 = .ok (.iload_n 1, 1) := by decide +kernel
theorem dX8_label_72 : decode cX8_label 72 = .ok (.iload 7, 2) := by decide +kernel
theorem dX8_label_74 : decode cX8_label 74 = .ok (.iastore, 1) := by decide +kernel
theorem dX8_label_75 : decode cX8_label 75 = .ok (.aload_n 0, 1) := by decide +kernel
theorem dX8_label_76 : decode cX8_label 76 = .ok (.getfield 16, 3) := by decide +kernel
theorem dX8_label_79 : decode cX8_label 79 = .ok (.iload 4, 2) := by decide +kernel
theorem dX8_label_81 : decode cX8_label 81 = .ok (.iload_n 2, 1) := by decide +kernel
theorem dX8_label_82 : decode cX8_label 82 = .ok (.invokevirtual 146, 3) := by decide +kernel
theorem dX8_label_85 : decode cX8_label 85 = .ok (.aload_n 0, 1) := by decide +kernel
theorem dX8_label_86 : decode cX8_label 86 = .ok (.getfield 16, 3) := by decide +kernel
theorem dX8_label_89 : decode cX8_label 89 = .ok (.getfield 113, 3) := by decide +kernel
theorem dX8_label_92 : decode cX8_label 92 = .ok (.iload 4, 2) := by decide +kernel
theorem dX8_label_94 : decode cX8_label 94 = .ok (.iaload, 1) := by decide +kernel
theorem dX8_label_95 : decode cX8_label 95 = .ok (.iload 6, 2) := by decide +kernel
theorem dX8_label_97 : decode cX8_label 97 = .ok (.if_icmp .le 19, 3) := by decide +kernel
theorem dX8_label_100 : decode cX8_label 100 = .ok (.aload_n 0, 1) := by decide +kernel
theorem dX8_label_101 : decode cX8_label 101 = .ok (.getfield 16, 3) := by decide +kernel
theorem dX8_label_104 : decode cX8_label 104 = .ok (.getfield 113, 3) := by decide +kernel
theorem dX8_label_107 : decode cX8_label 107 = .ok (.iload 4, 2) := by decide +kernel
theorem dX8_label_109 : decode cX8_label 109 = .ok (.iaload, 1) := by decide +kernel
theorem dX8_label_110 : decode cX8_label 110 = .ok (.istore 6, 2) := by decide +kernel
theorem dX8_label_112 : decode cX8_label 112 = .ok (.iload 7, 2) := by decide +kernel
theorem dX8_label_114 : decode cX8_label 114 = .ok (.istore 5, 2) := by decide +kernel
theorem dX8_label_116 : decode cX8_label 116 = .ok (.iinc 7 1, 3) := by decide +kernel
theorem dX8_label_119 : decode cX8_label 119 = .ok (.goto (-73), 3) := by decide +kernel
theorem dX8_label_122 : decode cX8_label 122 = .ok (.iload 5, 2) := by decide +kernel
theorem dX8_label_124 : decode cX8_label 124 = .ok (.ireturn, 1) := by decide +kernel
theorem dX8_honest_0 : decode cX8_honest 0 = .ok (.iload_n 1, 1) := by decide +kernel
theorem dX8_honest_1 : decode cX8_honest 1 = .ok (.iconst 1, 1) := by decide +kernel
theorem dX8_honest_2 : decode cX8_honest 2 = .ok (.invokestatic 86, 3) := by decide +kernel
theorem dX8_honest_5 : decode cX8_honest 5 = .ok (.istore_n 2, 1) := by decide +kernel
theorem dX8_honest_6 : decode cX8_honest 6 = .ok (.iload_n 2, 1) := by decide +kernel
theorem dX8_honest_7 : decode cX8_honest 7 = .ok (.ifCond .eq 9, 3) := by decide +kernel
theorem dX8_honest_10 : decode cX8_honest 10 = .ok (.aload_n 0, 1) := by decide +kernel
theorem dX8_honest_11 : decode cX8_honest 11 = .ok (.iload_n 2, 1) := by decide +kernel
theorem dX8_honest_12 : decode cX8_honest 12 = .ok (.invokevirtual 55, 3) := by decide +kernel
theorem dX8_honest_15 : decode cX8_honest 15 = .ok (.ireturn, 1) := by decide +kernel
theorem dX8_honest_16 : decode cX8_honest 16 = .ok (.iload_n 1, 1) := by decide +kernel
theorem dX8_honest_17 : decode cX8_honest 17 = .ok (.ifCond .ne 13, 3) := by decide +kernel
theorem dX8_honest_20 : decode cX8_honest 20 = .ok (.aload_n 0, 1) := by decide +kernel
theorem dX8_honest_21 : decode cX8_honest 21 = .ok (.getfield 10, 3) := by decide +kernel
theorem dX8_honest_24 : decode cX8_honest 24 = .ok (.invokevirtual 159, 3) := by decide +kernel
theorem dX8_honest_27 : decode cX8_honest 27 = .ok (.goto 10, 3) := by decide +kernel
theorem dX8_honest_30 : decode cX8_honest 30 = .ok (.aload_n 0, 1) := by decide +kernel
theorem dX8_honest_31 : decode cX8_honest 31 = .ok (.getfield 10, 3) := by decide +kernel
theorem dX8_honest_34 : decode cX8_honest 34 = .ok (.invokevirtual 162, 3) := by decide +kernel
theorem dX8_honest_37 : decode cX8_honest 37 = .ok (.ireturn, 1) := by decide +kernel
theorem dX8_audit_0 : decode cX8_audit 0 = .ok (.iload_n 1, 1) := by decide +kernel
theorem dX8_audit_1 : decode cX8_audit 1 = .ok (.iconst 0, 1) := by decide +kernel
theorem dX8_audit_2 : decode cX8_audit 2 = .ok (.bipush 30, 2) := by decide +kernel
theorem dX8_audit_4 : decode cX8_audit 4 = .ok (.invokestatic 44, 3) := by decide +kernel
theorem dX8_audit_7 : decode cX8_audit 7 = .ok (.iload_n 2, 1) := by decide +kernel
theorem dX8_audit_8 : decode cX8_audit 8 = .ok (.iconst 1, 1) := by decide +kernel
theorem dX8_audit_9 : decode cX8_audit 9 = .ok (.invokestatic 86, 3) := by decide +kernel
theorem dX8_audit_12 : decode cX8_audit 12 = .ok (.invokestatic 51, 3) := by decide +kernel
theorem dX8_audit_15 : decode cX8_audit 15 = .ok (.istore_n 3, 1) := by decide +kernel
theorem dX8_audit_16 : decode cX8_audit 16 = .ok (.iload_n 3, 1) := by decide +kernel
theorem dX8_audit_17 : decode cX8_audit 17 = .ok (.ifCond .eq 9, 3) := by decide +kernel
theorem dX8_audit_20 : decode cX8_audit 20 = .ok (.aload_n 0, 1) := by decide +kernel
theorem dX8_audit_21 : decode cX8_audit 21 = .ok (.iload_n 3, 1) := by decide +kernel
theorem dX8_audit_22 : decode cX8_audit 22 = .ok (.invokevirtual 122, 3) := by decide +kernel
theorem dX8_audit_25 : decode cX8_audit 25 = .ok (.ireturn, 1) := by decide +kernel
theorem dX8_audit_26 : decode cX8_audit 26 = .ok (.aload_n 0, 1) := by decide +kernel
theorem dX8_audit_27 : decode cX8_audit 27 = .ok (.iload_n 1, 1) := by decide +kernel
theorem dX8_audit_28 : decode cX8_audit 28 = .ok (.invokevirtual 150, 3) := by decide +kernel
theorem dX8_audit_31 : decode cX8_audit 31 = .ok (.istore 4, 2) := by decide +kernel
theorem dX8_audit_33 : decode cX8_audit 33 = .ok (.aload_n 0, 1) := by decide +kernel
theorem dX8_audit_34 : decode cX8_audit 34 = .ok (.getfield 16, 3) := by decide +kernel
theorem dX8_audit_37 : decode cX8_audit 37 = .ok (.aload_n 0, 1) := by decide +kernel
theorem dX8_audit_38 : decode cX8_audit 38 = .ok (.getfield 10, 3) := by decide +kernel
theorem dX8_audit_41 : decode cX8_audit 41 = .ok (.invokevirtual 67, 3) := by decide +kernel
theorem dX8_audit_44 : decode cX8_audit 44 = .ok (.iconst 0, 1) := by decide +kernel
theorem dX8_audit_45 : decode cX8_audit 45 = .ok (.istore 5, 2) := by decide +kernel
theorem dX8_audit_47 : decode cX8_audit 47 = .ok (.iload 5, 2) := by decide +kernel
theorem dX8_audit_49 : decode cX8_audit 49 = .ok (.aload_n 0, 1) := by decide +kernel
theorem dX8_audit_50 : decode cX8_audit 50 = .ok (.getfield 16, 3) := by decide +kernel
theorem dX8_audit_53 : decode cX8_audit 53 = .ok (.getfield 165, 3) := by decide +kernel
theorem dX8_audit_56 : decode cX8_audit 56 = .ok (.if_icmp .ge 38, 3) := by decide +kernel
theorem dX8_audit_59 : decode cX8_audit 59 = .ok (.aload_n 0, 1) := by decide +kernel
theorem dX8_audit_60 : decode cX8_audit 60 = .ok (.getfield 16, 3) := by decide +kernel
theorem dX8_audit_63 : decode cX8_audit 63 = .ok (.getfield 98, 3) := by decide +kernel
theorem dX8_audit_66 : decode cX8_audit 66 = .ok (.iload 5, 2) := by decide +kernel
theorem dX8_audit_68 : decode cX8_audit 68 = .ok (.iload_n 2, 1) := by decide +kernel
theorem dX8_audit_69 : decode cX8_audit 69 = .ok (.ifCond .ne 16, 3) := by decide +kernel
theorem dX8_audit_72 : decode cX8_audit 72 = .ok (.aload_n 0, 1) := by decide +kernel
theorem dX8_audit_73 : decode cX8_audit 73 = .ok (.getfield 16, 3) := by decide +kernel
theorem dX8_audit_76 : decode cX8_audit 76 = .ok (.getfield 95, 3) := by decide +kernel
theorem dX8_audit_79 : decode cX8_audit 79 = .ok (.iload 5, 2) := by decide +kernel
theorem dX8_audit_81 : decode cX8_audit 81 = .ok (.iaload, 1) := by decide +kernel
theorem dX8_audit_82 : decode cX8_audit 82 = .ok (.goto 5, 3) := by decide +kernel
theorem dX8_audit_85 : decode cX8_audit 85 = .ok (.bipush 6, 2) := by decide +kernel
theorem dX8_audit_87 : decode cX8_audit 87 = .ok (.iastore, 1) := by decide +kernel
theorem dX8_audit_88 : decode cX8_audit 88 = .ok (.iinc 5 1, 3) := by decide +kernel
theorem dX8_audit_91 : decode cX8_audit 91 = .ok (.goto (-44), 3) := by decide +kernel
theorem dX8_audit_94 : decode cX8_audit 94 = .ok (.aload_n 0, 1) := by decide +kernel
theorem dX8_audit_95 : decode cX8_audit 95 = .ok (.getfield 16, 3) := by decide +kernel
theorem dX8_audit_98 : decode cX8_audit 98 = .ok (.iload_n 1, 1) := by decide +kernel
theorem dX8_audit_99 : decode cX8_audit 99 = .ok (.invokevirtual 140, 3) := by decide +kernel
theorem dX8_audit_102 : decode cX8_audit 102 = .ok (.aload_n 0, 1) := by decide +kernel
theorem dX8_audit_103 : decode cX8_audit 103 = .ok (.getfield 16, 3) := by decide +kernel
theorem dX8_audit_106 : decode cX8_audit 106 = .ok (.invokevirtual 143, 3) := by decide +kernel
theorem dX8_audit_109 : decode cX8_audit 109 = .ok (.iload 4, 2) := by decide +kernel
theorem dX8_audit_111 : decode cX8_audit 111 = .ok (.isub, 1) := by decide +kernel
theorem dX8_audit_112 : decode cX8_audit 112 = .ok (.ireturn, 1) := by decide +kernel
theorem dX8_change_0 : decode cX8_change 0 = .ok (.iload_n 1, 1) := by decide +kernel
theorem dX8_change_1 : decode cX8_change 1 = .ok (.iconst 0, 1) := by decide +kernel
theorem dX8_change_2 : decode cX8_change 2 = .ok (.bipush 20, 2) := by decide +kernel
theorem dX8_change_4 : decode cX8_change 4 = .ok (.invokestatic 44, 3) := by decide +kernel
theorem dX8_change_7 : decode cX8_change 7 = .ok (.istore_n 2, 1) := by decide +kernel
theorem dX8_change_8 : decode cX8_change 8 = .ok (.iload_n 2, 1) := by decide +kernel
theorem dX8_change_9 : decode cX8_change 9 = .ok (.ifCond .eq 9, 3) := by decide +kernel
theorem dX8_change_12 : decode cX8_change 12 = .ok (.aload_n 0, 1) := by decide +kernel
theorem dX8_change_13 : decode cX8_change 13 = .ok (.iload_n 2, 1) := by decide +kernel
theorem dX8_change_14 : decode cX8_change 14 = .ok (.invokevirtual 55, 3) := by decide +kernel
theorem dX8_change_17 : decode cX8_change 17 = .ok (.ireturn, 1) := by decide +kernel
theorem dX8_change_18 : decode cX8_change 18 = .ok (.aload_n 0, 1) := by decide +kernel
theorem dX8_change_19 : decode cX8_change 19 = .ok (.iload_n 1, 1) := by decide +kernel
theorem dX8_change_20 : decode cX8_change 20 = .ok (.invokevirtual 150, 3) := by decide +kernel
theorem dX8_change_23 : decode cX8_change 23 = .ok (.istore_n 3, 1) := by decide +kernel
theorem dX8_change_24 : decode cX8_change 24 = .ok (.bipush (-9), 2) := by decide +kernel
theorem dX8_change_26 : decode cX8_change 26 = .ok (.istore 4, 2) := by decide +kernel
theorem dX8_change_28 : decode cX8_change 28 = .ok (.iconst 0, 1) := by decide +kernel
theorem dX8_change_29 : decode cX8_change 29 = .ok (.istore 5, 2) := by decide +kernel
theorem dX8_change_31 : decode cX8_change 31 = .ok (.iload 5, 2) := by decide +kernel
theorem dX8_change_33 : decode cX8_change 33 = .ok (.aload_n 0, 1) := by decide +kernel
theorem dX8_change_34 : decode cX8_change 34 = .ok (.getfield 10, 3) := by decide +kernel
theorem dX8_change_37 : decode cX8_change 37 = .ok (.getfield 165, 3) := by decide +kernel
theorem dX8_change_40 : decode cX8_change 40 = .ok (.if_icmp .ge 63, 3) := by decide +kernel
theorem dX8_change_43 : decode cX8_change 43 = .ok (.iload 5, 2) := by decide +kernel
theorem dX8_change_45 : decode cX8_change 45 = .ok (.iconst 1, 1) := by decide +kernel
theorem dX8_change_46 : decode cX8_change 46 = .ok (.iadd, 1) := by decide +kernel
theorem dX8_change_47 : decode cX8_change 47 = .ok (.istore 6, 2) := by decide +kernel
theorem dX8_change_49 : decode cX8_change 49 = .ok (.iload 6, 2) := by decide +kernel
theorem dX8_change_51 : decode cX8_change 51 = .ok (.aload_n 0, 1) := by decide +kernel
theorem dX8_change_52 : decode cX8_change 52 = .ok (.getfield 10, 3) := by decide +kernel
theorem dX8_change_55 : decode cX8_change 55 = .ok (.getfield 165, 3) := by decide +kernel
theorem dX8_change_58 : decode cX8_change 58 = .ok (.if_icmp .ge 39, 3) := by decide +kernel
theorem dX8_change_61 : decode cX8_change 61 = .ok (.aload_n 0, 1) := by decide +kernel
theorem dX8_change_62 : decode cX8_change 62 = .ok (.iload 5, 2) := by decide +kernel
theorem dX8_change_64 : decode cX8_change 64 = .ok (.iload 6, 2) := by decide +kernel
theorem dX8_change_66 : decode cX8_change 66 = .ok (.iload_n 1, 1) := by decide +kernel
theorem dX8_change_67 : decode cX8_change 67 = .ok (.invokevirtual 168, 3) := by decide +kernel
theorem dX8_change_70 : decode cX8_change 70 = .ok (.istore 7, 2) := by decide +kernel
theorem dX8_change_72 : decode cX8_change 72 = .ok (.iload 7, 2) := by decide +kernel
theorem dX8_change_74 : decode cX8_change 74 = .ok (.iload_n 3, 1) := by decide +kernel
theorem dX8_change_75 : decode cX8_change 75 = .ok (.if_icmp .le 16, 3) := by decide +kernel
theorem dX8_change_78 : decode cX8_change 78 = .ok (.iload 7, 2) := by decide +kernel
theorem dX8_change_80 : decode cX8_change 80 = .ok (.istore_n 3, 1) := by decide +kernel
theorem dX8_change_81 : decode cX8_change 81 = .ok (.bipush 10, 2) := by decide +kernel
theorem dX8_change_83 : decode cX8_change 83 = .ok (.iload 5, 2) := by decide +kernel
theorem dX8_change_85 : decode cX8_change 85 = .ok (.imul, 1) := by decide +kernel
theorem dX8_change_86 : decode cX8_change 86 = .ok (.iload 6, 2) := by decide +kernel
theorem dX8_change_88 : decode cX8_change 88 = .ok (.iadd, 1) := by decide +kernel
theorem dX8_change_89 : decode cX8_change 89 = .ok (.istore 4, 2) := by decide +kernel
theorem dX8_change_91 : decode cX8_change 91 = .ok (.iinc 6 1, 3) := by decide +kernel
theorem dX8_change_94 : decode cX8_change 94 = .ok (.goto (-45), 3) := by decide +kernel
theorem dX8_change_97 : decode cX8_change 97 = .ok (.iinc 5 1, 3) := by decide +kernel
theorem dX8_change_100 : decode cX8_change 100 = .ok (.goto (-69), 3) := by decide +kernel
theorem dX8_change_103 : decode cX8_change 103 = .ok (.iload 4, 2) := by decide +kernel
theorem dX8_change_105 : decode cX8_change 105 = .ok (.ireturn, 1) := by decide +kernel
theorem dX8_allGraceChanged_0 : decode cX8_allGraceChanged 0 = .ok (.aload_n 0, 1) := by decide +kernel
theorem dX8_allGraceChanged_1 : decode cX8_allGraceChanged 1 = .ok (.getfield 16, 3) := by decide +kernel
theorem dX8_allGraceChanged_4 : decode cX8_allGraceChanged 4 = .ok (.aload_n 0, 1) := by decide +kernel
theorem dX8_allGraceChanged_5 : decode cX8_allGraceChanged 5 = .ok (.getfield 10, 3) := by decide +kernel
theorem dX8_allGraceChanged_8 : decode cX8_allGraceChanged 8 = .ok (.invokevirtual 67, 3) := by decide +kernel
theorem dX8_allGraceChanged_11 : decode cX8_allGraceChanged 11 = .ok (.aload_n 0, 1) := by decide +kernel
theorem dX8_allGraceChanged_12 : decode cX8_allGraceChanged 12 = .ok (.getfield 16, 3) := by decide +kernel
theorem dX8_allGraceChanged_15 : decode cX8_allGraceChanged 15 = .ok (.getfield 104, 3) := by decide +kernel
theorem dX8_allGraceChanged_18 : decode cX8_allGraceChanged 18 = .ok (.iload_n 1, 1) := by decide +kernel
theorem dX8_allGraceChanged_19 : decode cX8_allGraceChanged 19 = .ok (.aload_n 0, 1) := by decide +kernel
theorem dX8_allGraceChanged_20 : decode cX8_allGraceChanged 20 = .ok (.getfield 10, 3) := by decide +kernel
theorem dX8_allGraceChanged_23 : decode cX8_allGraceChanged 23 = .ok (.getfield 104, 3) := by decide +kernel
theorem dX8_allGraceChanged_26 : decode cX8_allGraceChanged 26 = .ok (.iload_n 2, 1) := by decide +kernel
theorem dX8_allGraceChanged_27 : decode cX8_allGraceChanged 27 = .ok (.iaload, 1) := by decide +kernel
theorem dX8_allGraceChanged_28 : decode cX8_allGraceChanged 28 = .ok (.iastore, 1) := by decide +kernel
theorem dX8_allGraceChanged_29 : decode cX8_allGraceChanged 29 = .ok (.aload_n 0, 1) := by decide +kernel
theorem dX8_allGraceChanged_30 : decode cX8_allGraceChanged 30 = .ok (.getfield 16, 3) := by decide +kernel
theorem dX8_allGraceChanged_33 : decode cX8_allGraceChanged 33 = .ok (.getfield 104, 3) := by decide +kernel
theorem dX8_allGraceChanged_36 : decode cX8_allGraceChanged 36 = .ok (.iload_n 2, 1) := by decide +kernel
theorem dX8_allGraceChanged_37 : decode cX8_allGraceChanged 37 = .ok (.aload_n 0, 1) := by decide +kernel
theorem dX8_allGraceChanged_38 : decode cX8_allGraceChanged 38 = .ok (.getfield 10, 3) := by decide +kernel
theorem dX8_allGraceChanged_41 : decode cX8_allGraceChanged 41 = .ok (.getfield 104, 3) := by decide +kernel
theorem dX8_allGraceChanged_44 : decode cX8_allGraceChanged 44 = .ok (.iload_n 1, 1) := by decide +kernel
theorem dX8_allGraceChanged_45 : decode cX8_allGraceChanged 45 = .ok (.iaload, 1) := by decide +kernel
theorem dX8_allGraceChanged_46 : decode cX8_allGraceChanged 46 = .ok (.iastore, 1) := by decide +kernel
theorem dX8_allGraceChanged_47 : decode cX8_allGraceChanged 47 = .ok (.aload_n 0, 1) := by decide +kernel
theorem dX8_allGraceChanged_48 : decode cX8_allGraceChanged 48 = .ok (.getfield 16, 3) := by decide +kernel
theorem dX8_allGraceChanged_51 : decode cX8_allGraceChanged 51 = .ok (.iload_n 3, 1) := by decide +kernel
theorem dX8_allGraceChanged_52 : decode cX8_allGraceChanged 52 = .ok (.invokevirtual 140, 3) := by decide +kernel
theorem dX8_allGraceChanged_55 : decode cX8_allGraceChanged 55 = .ok (.aload_n 0, 1) := by decide +kernel
theorem dX8_allGraceChanged_56 : decode cX8_allGraceChanged 56 = .ok (.getfield 16, 3) := by decide +kernel
theorem dX8_allGraceChanged_59 : decode cX8_allGraceChanged 59 = .ok (.invokevirtual 143, 3) := by decide +kernel
theorem dX8_allGraceChanged_62 : decode cX8_allGraceChanged 62 = .ok (.ireturn, 1) := by decide +kernel
theorem dX8_gift_0 : decode cX8_gift 0 = .ok (.iload_n 1, 1) := by decide +kernel
theorem dX8_gift_1 : decode cX8_gift 1 = .ok (.iconst 0, 1) := by decide +kernel
theorem dX8_gift_2 : decode cX8_gift 2 = .ok (.bipush 20, 2) := by decide +kernel
theorem dX8_gift_4 : decode cX8_gift 4 = .ok (.invokestatic 44, 3) := by decide +kernel
theorem dX8_gift_7 : decode cX8_gift 7 = .ok (.istore_n 2, 1) := by decide +kernel
theorem dX8_gift_8 : decode cX8_gift 8 = .ok (.iload_n 2, 1) := by decide +kernel
theorem dX8_gift_9 : decode cX8_gift 9 = .ok (.ifCond .eq 9, 3) := by decide +kernel
theorem dX8_gift_12 : decode cX8_gift 12 = .ok (.aload_n 0, 1) := by decide +kernel
theorem dX8_gift_13 : decode cX8_gift 13 = .ok (.iload_n 2, 1) := by decide +kernel
theorem dX8_gift_14 : decode cX8_gift 14 = .ok (.invokevirtual 55, 3) := by decide +kernel
theorem dX8_gift_17 : decode cX8_gift 17 = .ok (.ireturn, 1) := by decide +kernel
theorem dX8_gift_18 : decode cX8_gift 18 = .ok (.aload_n 0, 1) := by decide +kernel
theorem dX8_gift_19 : decode cX8_gift 19 = .ok (.iload_n 1, 1) := by decide +kernel
theorem dX8_gift_20 : decode cX8_gift 20 = .ok (.invokevirtual 150, 3) := by decide +kernel
theorem dX8_gift_23 : decode cX8_gift 23 = .ok (.istore_n 3, 1) := by decide +kernel
theorem dX8_gift_24 : decode cX8_gift 24 = .ok (.bipush (-9), 2) := by decide +kernel
theorem dX8_gift_26 : decode cX8_gift 26 = .ok (.istore 4, 2) := by decide +kernel
theorem dX8_gift_28 : decode cX8_gift 28 = .ok (.iconst 0, 1) := by decide +kernel
theorem dX8_gift_29 : decode cX8_gift 29 = .ok (.istore 5, 2) := by decide +kernel
theorem dX8_gift_31 : decode cX8_gift 31 = .ok (.iload 5, 2) := by decide +kernel
theorem dX8_gift_33 : decode cX8_gift 33 = .ok (.aload_n 0, 1) := by decide +kernel
theorem dX8_gift_34 : decode cX8_gift 34 = .ok (.getfield 10, 3) := by decide +kernel
theorem dX8_gift_37 : decode cX8_gift 37 = .ok (.getfield 165, 3) := by decide +kernel
theorem dX8_gift_40 : decode cX8_gift 40 = .ok (.if_icmp .ge 60, 3) := by decide +kernel
theorem dX8_gift_43 : decode cX8_gift 43 = .ok (.iconst 0, 1) := by decide +kernel
theorem dX8_gift_44 : decode cX8_gift 44 = .ok (.istore 6, 2) := by decide +kernel
theorem dX8_gift_46 : decode cX8_gift 46 = .ok (.iload 6, 2) := by decide +kernel
theorem dX8_gift_48 : decode cX8_gift 48 = .ok (.aload_n 0, 1) := by decide +kernel
theorem dX8_gift_49 : decode cX8_gift 49 = .ok (.getfield 10, 3) := by decide +kernel
theorem dX8_gift_52 : decode cX8_gift 52 = .ok (.getfield 156, 3) := by decide +kernel
theorem dX8_gift_55 : decode cX8_gift 55 = .ok (.if_icmp .ge 39, 3) := by decide +kernel
theorem dX8_gift_58 : decode cX8_gift 58 = .ok (.aload_n 0, 1) := by decide +kernel
theorem dX8_gift_59 : decode cX8_gift 59 = .ok (.iload 5, 2) := by decide +kernel
theorem dX8_gift_61 : decode cX8_gift 61 = .ok (.iload 6, 2) := by decide +kernel
theorem dX8_gift_63 : decode cX8_gift 63 = .ok (.iload_n 1, 1) := by decide +kernel
theorem dX8_gift_64 : decode cX8_gift 64 = .ok (.invokevirtual 171, 3) := by decide +kernel
theorem dX8_gift_67 : decode cX8_gift 67 = .ok (.istore 7, 2) := by decide +kernel
theorem dX8_gift_69 : decode cX8_gift 69 = .ok (.iload 7, 2) := by decide +kernel
theorem dX8_gift_71 : decode cX8_gift 71 = .ok (.iload_n 3, 1) := by decide +kernel
theorem dX8_gift_72 : decode cX8_gift 72 = .ok (.if_icmp .le 16, 3) := by decide +kernel
theorem dX8_gift_75 : decode cX8_gift 75 = .ok (.iload 7, 2) := by decide +kernel
theorem dX8_gift_77 : decode cX8_gift 77 = .ok (.istore_n 3, 1) := by decide +kernel
theorem dX8_gift_78 : decode cX8_gift 78 = .ok (.bipush 10, 2) := by decide +kernel
theorem dX8_gift_80 : decode cX8_gift 80 = .ok (.iload 5, 2) := by decide +kernel
theorem dX8_gift_82 : decode cX8_gift 82 = .ok (.imul, 1) := by decide +kernel
theorem dX8_gift_83 : decode cX8_gift 83 = .ok (.iload 6, 2) := by decide +kernel
theorem dX8_gift_85 : decode cX8_gift 85 = .ok (.iadd, 1) := by decide +kernel
theorem dX8_gift_86 : decode cX8_gift 86 = .ok (.istore 4, 2) := by decide +kernel
theorem dX8_gift_88 : decode cX8_gift 88 = .ok (.iinc 6 1, 3) := by decide +kernel
theorem dX8_gift_91 : decode cX8_gift 91 = .ok (.goto (-45), 3) := by decide +kernel
theorem dX8_gift_94 : decode cX8_gift 94 = .ok (.iinc 5 1, 3) := by decide +kernel
theorem dX8_gift_97 : decode cX8_gift 97 = .ok (.goto (-66), 3) := by decide +kernel
theorem dX8_gift_100 : decode cX8_gift 100 = .ok (.iload 4, 2) := by decide +kernel
theorem dX8_gift_102 : decode cX8_gift 102 = .ok (.ireturn, 1) := by decide +kernel
theorem dX8_allGraceGiven_0 : decode cX8_allGraceGiven 0 = .ok (.aload_n 0, 1) := by decide +kernel
theorem dX8_allGraceGiven_1 : decode cX8_allGraceGiven 1 = .ok (.getfield 16, 3) := by decide +kernel
theorem dX8_allGraceGiven_4 : decode cX8_allGraceGiven 4 = .ok (.aload_n 0, 1) := by decide +kernel
theorem dX8_allGraceGiven_5 : decode cX8_allGraceGiven 5 = .ok (.getfield 10, 3) := by decide +kernel
theorem dX8_allGraceGiven_8 : decode cX8_allGraceGiven 8 = .ok (.invokevirtual 67, 3) := by decide +kernel
theorem dX8_allGraceGiven_11 : decode cX8_allGraceGiven 11 = .ok (.aload_n 0, 1) := by decide +kernel
theorem dX8_allGraceGiven_12 : decode cX8_allGraceGiven 12 = .ok (.getfield 16, 3) := by decide +kernel
theorem dX8_allGraceGiven_15 : decode cX8_allGraceGiven 15 = .ok (.getfield 104, 3) := by decide +kernel
theorem dX8_allGraceGiven_18 : decode cX8_allGraceGiven 18 = .ok (.iload_n 1, 1) := by decide +kernel
theorem dX8_allGraceGiven_19 : decode cX8_allGraceGiven 19 = .ok (.iload_n 2, 1) := by decide +kernel
theorem dX8_allGraceGiven_20 : decode cX8_allGraceGiven 20 = .ok (.iastore, 1) := by decide +kernel
theorem dX8_allGraceGiven_21 : decode cX8_allGraceGiven 21 = .ok (.aload_n 0, 1) := by decide +kernel
theorem dX8_allGraceGiven_22 : decode cX8_allGraceGiven 22 = .ok (.getfield 16, 3) := by decide +kernel
theorem dX8_allGraceGiven_25 : decode cX8_allGraceGiven 25 = .ok (.iload_n 3, 1) := by decide +kernel
theorem dX8_allGraceGiven_26 : decode cX8_allGraceGiven 26 = .ok (.invokevirtual 140, 3) := by decide +kernel
theorem dX8_allGraceGiven_29 : decode cX8_allGraceGiven 29 = .ok (.aload_n 0, 1) := by decide +kernel
theorem dX8_allGraceGiven_30 : decode cX8_allGraceGiven 30 = .ok (.getfield 16, 3) := by decide +kernel
theorem dX8_allGraceGiven_33 : decode cX8_allGraceGiven 33 = .ok (.invokevirtual 143, 3) := by decide +kernel
theorem dX8_allGraceGiven_36 : decode cX8_allGraceGiven 36 = .ok (.ireturn, 1) := by decide +kernel
theorem dX8_deal_0 : decode cX8_deal 0 = .ok (.iload_n 1, 1) := by decide +kernel
theorem dX8_deal_1 : decode cX8_deal 1 = .ok (.iconst (-1), 1) := by decide +kernel
theorem dX8_deal_2 : decode cX8_deal 2 = .ok (.if_icmp .ge 10, 3) := by decide +kernel
theorem dX8_deal_5 : decode cX8_deal 5 = .ok (.aload_n 0, 1) := by decide +kernel
theorem dX8_deal_6 : decode cX8_deal 6 = .ok (.bipush (-4), 2) := by decide +kernel
theorem dX8_deal_8 : decode cX8_deal 8 = .ok (.invokevirtual 122, 3) := by decide +kernel
theorem dX8_deal_11 : decode cX8_deal 11 = .ok (.ireturn, 1) := by decide +kernel
theorem dX8_deal_12 : decode cX8_deal 12 = .ok (.iconst 0, 1) := by decide +kernel
theorem dX8_deal_13 : decode cX8_deal 13 = .ok (.istore_n 2, 1) := by decide +kernel
theorem dX8_deal_14 : decode cX8_deal 14 = .ok (.iconst 0, 1) := by decide +kernel
theorem dX8_deal_15 : decode cX8_deal 15 = .ok (.istore_n 3, 1) := by decide +kernel
theorem dX8_deal_16 : decode cX8_deal 16 = .ok (.iconst 0, 1) := by decide +kernel
theorem dX8_deal_17 : decode cX8_deal 17 = .ok (.istore 4, 2) := by decide +kernel
theorem dX8_deal_19 : decode cX8_deal 19 = .ok (.iload 4, 2) := by decide +kernel
theorem dX8_deal_21 : decode cX8_deal 21 = .ok (.aload_n 0, 1) := by decide +kernel
theorem dX8_deal_22 : decode cX8_deal 22 = .ok (.getfield 10, 3) := by decide +kernel
theorem dX8_deal_25 : decode cX8_deal 25 = .ok (.getfield 165, 3) := by decide +kernel
theorem dX8_deal_28 : decode cX8_deal 28 = .ok (.if_icmp .ge 60, 3) := by decide +kernel
theorem dX8_deal_31 : decode cX8_deal 31 = .ok (.iload_n 3, 1) := by decide +kernel
theorem dX8_deal_32 : decode cX8_deal 32 = .ok (.iconst 5, 1) := by decide +kernel
theorem dX8_deal_33 : decode cX8_deal 33 = .ok (.if_icmp .ge 55, 3) := by decide +kernel
theorem dX8_deal_36 : decode cX8_deal 36 = .ok (.aload_n 0, 1) := by decide +kernel
theorem dX8_deal_37 : decode cX8_deal 37 = .ok (.getfield 10, 3) := by decide +kernel
theorem dX8_deal_40 : decode cX8_deal 40 = .ok (.getfield 101, 3) := by decide +kernel
theorem dX8_deal_43 : decode cX8_deal 43 = .ok (.iload 4, 2) := by decide +kernel
theorem dX8_deal_45 : decode cX8_deal 45 = .ok (.iaload, 1) := by decide +kernel
theorem dX8_deal_46 : decode cX8_deal 46 = .ok (.ifCond .le 36, 3) := by decide +kernel
theorem dX8_deal_49 : decode cX8_deal 49 = .ok (.aload_n 0, 1) := by decide +kernel
theorem dX8_deal_50 : decode cX8_deal 50 = .ok (.iload 4, 2) := by decide +kernel
theorem dX8_deal_52 : decode cX8_deal 52 = .ok (.invokevirtual 174, 3) := by decide +kernel
theorem dX8_deal_55 : decode cX8_deal 55 = .ok (.istore 5, 2) := by decide +kernel
theorem dX8_deal_57 : decode cX8_deal 57 = .ok (.iload_n 3, 1) := by decide +kernel
theorem dX8_deal_58 : decode cX8_deal 58 = .ok (.iload_n 1, 1) := by decide +kernel
theorem dX8_deal_59 : decode cX8_deal 59 = .ok (.if_icmp .ne 6, 3) := by decide +kernel
theorem dX8_deal_62 : decode cX8_deal 62 = .ok (.iload 5, 2) := by decide +kernel
theorem dX8_deal_64 : decode cX8_deal 64 = .ok (.ireturn, 1) := by decide +kernel
theorem dX8_deal_65 : decode cX8_deal 65 = .ok (.iload_n 2, 1) := by decide +kernel
theorem dX8_deal_66 : decode cX8_deal 66 = .ok (.aload_n 0, 1) := by decide +kernel
theorem dX8_deal_67 : decode cX8_deal 67 = .ok (.getfield 10, 3) := by decide +kernel
theorem dX8_deal_70 : decode cX8_deal 70 = .ok (.iload 4, 2) := by decide +kernel
theorem dX8_deal_72 : decode cX8_deal 72 = .ok (.iload 5, 2) := by decide +kernel
theorem dX8_deal_74 : decode cX8_deal 74 = .ok (.invokevirtual 125, 3) := by decide +kernel
theorem dX8_deal_77 : decode cX8_deal 77 = .ok (.iadd, 1) := by decide +kernel
theorem dX8_deal_78 : decode cX8_deal 78 = .ok (.istore_n 2, 1) := by decide +kernel
theorem dX8_deal_79 : decode cX8_deal 79 = .ok (.iinc 3 1, 3) := by decide +kernel
theorem dX8_deal_82 : decode cX8_deal 82 = .ok (.iinc 4 1, 3) := by decide +kernel
theorem dX8_deal_85 : decode cX8_deal 85 = .ok (.goto (-66), 3) := by decide +kernel
theorem dX8_deal_88 : decode cX8_deal 88 = .ok (.iload_n 1, 1) := by decide +kernel
theorem dX8_deal_89 : decode cX8_deal 89 = .ok (.iconst (-1), 1) := by decide +kernel
theorem dX8_deal_90 : decode cX8_deal 90 = .ok (.if_icmp .ne 7, 3) := by decide +kernel
theorem dX8_deal_93 : decode cX8_deal 93 = .ok (.iload_n 2, 1) := by decide +kernel
theorem dX8_deal_94 : decode cX8_deal 94 = .ok (.goto 5, 3) := by decide +kernel
theorem dX8_deal_97 : decode cX8_deal 97 = .ok (.bipush (-9), 2) := by decide +kernel
theorem dX8_deal_99 : decode cX8_deal 99 = .ok (.ireturn, 1) := by decide +kernel
theorem dX8_whoGainsMost_0 : decode cX8_whoGainsMost 0 = .ok (.iconst 0, 1) := by decide +kernel
theorem dX8_whoGainsMost_1 : decode cX8_whoGainsMost 1 = .ok (.istore_n 2, 1) := by decide +kernel
theorem dX8_whoGainsMost_2 : decode cX8_whoGainsMost 2 = .ok (.iconst 1, 1) := by decide +kernel
theorem dX8_whoGainsMost_3 : decode cX8_whoGainsMost 3 = .ok (.istore_n 3, 1) := by decide +kernel
theorem dX8_whoGainsMost_4 : decode cX8_whoGainsMost 4 = .ok (.iload_n 3, 1) := by decide +kernel
theorem dX8_whoGainsMost_5 : decode cX8_whoGainsMost 5 = .ok (.aload_n 0, 1) := by decide +kernel
theorem dX8_whoGainsMost_6 : decode cX8_whoGainsMost 6 = .ok (.getfield 10, 3) := by decide +kernel
theorem dX8_whoGainsMost_9 : decode cX8_whoGainsMost 9 = .ok (.getfield 156, 3) := by decide +kernel
theorem dX8_whoGainsMost_12 : decode cX8_whoGainsMost 12 = .ok (.if_icmp .ge 32, 3) := by decide +kernel
theorem dX8_whoGainsMost_15 : decode cX8_whoGainsMost 15 = .ok (.aload_n 0, 1) := by decide +kernel
theorem dX8_whoGainsMost_16 : decode cX8_whoGainsMost 16 = .ok (.getfield 10, 3) := by decide +kernel
theorem dX8_whoGainsMost_19 : decode cX8_whoGainsMost 19 = .ok (.iload_n 1, 1) := by decide +kernel
theorem dX8_whoGainsMost_20 : decode cX8_whoGainsMost 20 = .ok (.iload_n 3, 1) := by decide +kernel
theorem dX8_whoGainsMost_21 : decode cX8_whoGainsMost 21 = .ok (.invokevirtual 125, 3) := by decide +kernel
theorem dX8_whoGainsMost_24 : decode cX8_whoGainsMost 24 = .ok (.aload_n 0, 1) := by decide +kernel
theorem dX8_whoGainsMost_25 : decode cX8_whoGainsMost 25 = .ok (.getfield 10, 3) := by decide +kernel
theorem dX8_whoGainsMost_28 : decode cX8_whoGainsMost 28 = .ok (.iload_n 1, 1) := by decide +kernel
theorem dX8_whoGainsMost_29 : decode cX8_whoGainsMost 29 = .ok (.iload_n 2, 1) := by decide +kernel
theorem dX8_whoGainsMost_30 : decode cX8_whoGainsMost 30 = .ok (.invokevirtual 125, 3) := by decide +kernel
theorem dX8_whoGainsMost_33 : decode cX8_whoGainsMost 33 = .ok (.if_icmp .le 5, 3) := by decide +kernel
theorem dX8_whoGainsMost_36 : decode cX8_whoGainsMost 36 = .ok (.iload_n 3, 1) := by decide +kernel
theorem dX8_whoGainsMost_37 : decode cX8_whoGainsMost 37 = .ok (.istore_n 2, 1) := by decide +kernel
theorem dX8_whoGainsMost_38 : decode cX8_whoGainsMost 38 = .ok (.iinc 3 1, 3) := by decide +kernel
theorem dX8_whoGainsMost_41 : decode cX8_whoGainsMost 41 = .ok (.goto (-37), 3) := by decide +kernel
theorem dX8_whoGainsMost_44 : decode cX8_whoGainsMost 44 = .ok (.iload_n 2, 1) := by decide +kernel
theorem dX8_whoGainsMost_45 : decode cX8_whoGainsMost 45 = .ok (.ireturn, 1) := by decide +kernel
theorem dX8_worst_0 : decode cX8_worst 0 = .ok (.iload_n 1, 1) := by decide +kernel
theorem dX8_worst_1 : decode cX8_worst 1 = .ok (.iconst 1, 1) := by decide +kernel
theorem dX8_worst_2 : decode cX8_worst 2 = .ok (.invokestatic 86, 3) := by decide +kernel
theorem dX8_worst_5 : decode cX8_worst 5 = .ok (.istore_n 2, 1) := by decide +kernel
theorem dX8_worst_6 : decode cX8_worst 6 = .ok (.iload_n 2, 1) := by decide +kernel
theorem dX8_worst_7 : decode cX8_worst 7 = .ok (.ifCond .eq 9, 3) := by decide +kernel
theorem dX8_worst_10 : decode cX8_worst 10 = .ok (.aload_n 0, 1) := by decide +kernel
theorem dX8_worst_11 : decode cX8_worst 11 = .ok (.iload_n 2, 1) := by decide +kernel
theorem dX8_worst_12 : decode cX8_worst 12 = .ok (.invokevirtual 122, 3) := by decide +kernel
theorem dX8_worst_15 : decode cX8_worst 15 = .ok (.ireturn, 1) := by decide +kernel
theorem dX8_worst_16 : decode cX8_worst 16 = .ok (.bipush (-9), 2) := by decide +kernel
theorem dX8_worst_18 : decode cX8_worst 18 = .ok (.istore_n 3, 1) := by decide +kernel
theorem dX8_worst_19 : decode cX8_worst 19 = .ok (.iconst 0, 1) := by decide +kernel
theorem dX8_worst_20 : decode cX8_worst 20 = .ok (.istore 4, 2) := by decide +kernel
theorem dX8_worst_22 : decode cX8_worst 22 = .ok (.iconst 0, 1) := by decide +kernel
theorem dX8_worst_23 : decode cX8_worst 23 = .ok (.istore 5, 2) := by decide +kernel
theorem dX8_worst_25 : decode cX8_worst 25 = .ok (.iload 5, 2) := by decide +kernel
theorem dX8_worst_27 : decode cX8_worst 27 = .ok (.aload_n 0, 1) := by decide +kernel
theorem dX8_worst_28 : decode cX8_worst 28 = .ok (.getfield 10, 3) := by decide +kernel
theorem dX8_worst_31 : decode cX8_worst 31 = .ok (.getfield 165, 3) := by decide +kernel
theorem dX8_worst_34 : decode cX8_worst 34 = .ok (.if_icmp .ge 63, 3) := by decide +kernel
theorem dX8_worst_37 : decode cX8_worst 37 = .ok (.aload_n 0, 1) := by decide +kernel
theorem dX8_worst_38 : decode cX8_worst 38 = .ok (.getfield 10, 3) := by decide +kernel
theorem dX8_worst_41 : decode cX8_worst 41 = .ok (.getfield 101, 3) := by decide +kernel
theorem dX8_worst_44 : decode cX8_worst 44 = .ok (.iload 5, 2) := by decide +kernel
theorem dX8_worst_46 : decode cX8_worst 46 = .ok (.iaload, 1) := by decide +kernel
theorem dX8_worst_47 : decode cX8_worst 47 = .ok (.ifCond .le 44, 3) := by decide +kernel
theorem dX8_worst_50 : decode cX8_worst 50 = .ok (.aload_n 0, 1) := by decide +kernel
theorem dX8_worst_51 : decode cX8_worst 51 = .ok (.getfield 10, 3) := by decide +kernel
theorem dX8_worst_54 : decode cX8_worst 54 = .ok (.iload 5, 2) := by decide +kernel
theorem dX8_worst_56 : decode cX8_worst 56 = .ok (.aload_n 0, 1) := by decide +kernel
theorem dX8_worst_57 : decode cX8_worst 57 = .ok (.getfield 10, 3) := by decide +kernel
theorem dX8_worst_60 : decode cX8_worst 60 = .ok (.getfield 104, 3) := by decide +kernel
theorem dX8_worst_63 : decode cX8_worst 63 = .ok (.iload 5, 2) := by decide +kernel
theorem dX8_worst_65 : decode cX8_worst 65 = .ok (.iaload, 1) := by decide +kernel
theorem dX8_worst_66 : decode cX8_worst 66 = .ok (.invokevirtual 125, 3) := by decide +kernel
theorem dX8_worst_69 : decode cX8_worst 69 = .ok (.istore 6, 2) := by decide +kernel
theorem dX8_worst_71 : decode cX8_worst 71 = .ok (.iload_n 3, 1) := by decide +kernel
theorem dX8_worst_72 : decode cX8_worst 72 = .ok (.bipush (-9), 2) := by decide +kernel
theorem dX8_worst_74 : decode cX8_worst 74 = .ok (.if_icmp .eq 10, 3) := by decide +kernel
theorem dX8_worst_77 : decode cX8_worst 77 = .ok (.iload 6, 2) := by decide +kernel
theorem dX8_worst_79 : decode cX8_worst 79 = .ok (.iload 4, 2) := by decide +kernel
theorem dX8_worst_81 : decode cX8_worst 81 = .ok (.if_icmp .ge 10, 3) := by decide +kernel
theorem dX8_worst_84 : decode cX8_worst 84 = .ok (.iload 5, 2) := by decide +kernel
theorem dX8_worst_86 : decode cX8_worst 86 = .ok (.istore_n 3, 1) := by decide +kernel
theorem dX8_worst_87 : decode cX8_worst 87 = .ok (.iload 6, 2) := by decide +kernel
theorem dX8_worst_89 : decode cX8_worst 89 = .ok (.istore 4, 2) := by decide +kernel
theorem dX8_worst_91 : decode cX8_worst 91 = .ok (.iinc 5 1, 3) := by decide +kernel
theorem dX8_worst_94 : decode cX8_worst 94 = .ok (.goto (-69), 3) := by decide +kernel
theorem dX8_worst_97 : decode cX8_worst 97 = .ok (.iload_n 1, 1) := by decide +kernel
theorem dX8_worst_98 : decode cX8_worst 98 = .ok (.ifCond .ne 7, 3) := by decide +kernel
theorem dX8_worst_101 : decode cX8_worst 101 = .ok (.iload_n 3, 1) := by decide +kernel
theorem dX8_worst_102 : decode cX8_worst 102 = .ok (.goto 5, 3) := by decide +kernel
theorem dX8_worst_105 : decode cX8_worst 105 = .ok (.iload 4, 2) := by decide +kernel
theorem dX8_worst_107 : decode cX8_worst 107 = .ok (.ireturn, 1) := by decide +kernel
theorem dX8_trust_0 : decode cX8_trust 0 = .ok (.aload_n 0, 1) := by decide +kernel
theorem dX8_trust_1 : decode cX8_trust 1 = .ok (.iload_n 1, 1) := by decide +kernel
theorem dX8_trust_2 : decode cX8_trust 2 = .ok (.invokevirtual 107, 3) := by decide +kernel
theorem dX8_trust_5 : decode cX8_trust 5 = .ok (.istore_n 2, 1) := by decide +kernel
theorem dX8_trust_6 : decode cX8_trust 6 = .ok (.iload_n 2, 1) := by decide +kernel
theorem dX8_trust_7 : decode cX8_trust 7 = .ok (.ifCond .eq 9, 3) := by decide +kernel
theorem dX8_trust_10 : decode cX8_trust 10 = .ok (.aload_n 0, 1) := by decide +kernel
theorem dX8_trust_11 : decode cX8_trust 11 = .ok (.iload_n 2, 1) := by decide +kernel
theorem dX8_trust_12 : decode cX8_trust 12 = .ok (.invokevirtual 55, 3) := by decide +kernel
theorem dX8_trust_15 : decode cX8_trust 15 = .ok (.ireturn, 1) := by decide +kernel
theorem dX8_trust_16 : decode cX8_trust 16 = .ok (.iconst 0, 1) := by decide +kernel
theorem dX8_trust_17 : decode cX8_trust 17 = .ok (.istore_n 3, 1) := by decide +kernel
theorem dX8_trust_18 : decode cX8_trust 18 = .ok (.iconst 0, 1) := by decide +kernel
theorem dX8_trust_19 : decode cX8_trust 19 = .ok (.istore 4, 2) := by decide +kernel
theorem dX8_trust_21 : decode cX8_trust 21 = .ok (.iload 4, 2) := by decide +kernel
theorem dX8_trust_23 : decode cX8_trust 23 = .ok (.aload_n 0, 1) := by decide +kernel
theorem dX8_trust_24 : decode cX8_trust 24 = .ok (.getfield 10, 3) := by decide +kernel
