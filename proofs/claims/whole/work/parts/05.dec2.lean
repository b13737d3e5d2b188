theorem dX8_trust_27 : decode cX8_trust 27 = .ok (.getfield 165, 3) := by decide +kernel
theorem dX8_trust_30 : decode cX8_trust 30 = .ok (.if_icmp .ge 38, 3) := by decide +kernel
theorem dX8_trust_33 : decode cX8_trust 33 = .ok (.aload_n 0, 1) := by decide +kernel
theorem dX8_trust_34 : decode cX8_trust 34 = .ok (.getfield 10, 3) := by decide +kernel
theorem dX8_trust_37 : decode cX8_trust 37 = .ok (.iload_n 1, 1) := by decide +kernel
theorem dX8_trust_38 : decode cX8_trust 38 = .ok (.iload 4, 2) := by decide +kernel
theorem dX8_trust_40 : decode cX8_trust 40 = .ok (.invokevirtual 177, 3) := by decide +kernel
theorem dX8_trust_43 : decode cX8_trust 43 = .ok (.ifCond .eq 19, 3) := by decide +kernel
theorem dX8_trust_46 : decode cX8_trust 46 = .ok (.aload_n 0, 1) := by decide +kernel
theorem dX8_trust_47 : decode cX8_trust 47 = .ok (.getfield 10, 3) := by decide +kernel
theorem dX8_trust_50 : decode cX8_trust 50 = .ok (.iload 4, 2) := by decide +kernel
theorem dX8_trust_52 : decode cX8_trust 52 = .ok (.iload_n 1, 1) := by decide +kernel
theorem dX8_trust_53 : decode cX8_trust 53 = .ok (.invokevirtual 125, 3) := by decide +kernel
theorem dX8_trust_56 : decode cX8_trust 56 = .ok (.ifCond .le 6, 3) := by decide +kernel
theorem dX8_trust_59 : decode cX8_trust 59 = .ok (.iinc 3 1, 3) := by decide +kernel
theorem dX8_trust_62 : decode cX8_trust 62 = .ok (.iinc 4 1, 3) := by decide +kernel
theorem dX8_trust_65 : decode cX8_trust 65 = .ok (.goto (-44), 3) := by decide +kernel
theorem dX8_trust_68 : decode cX8_trust 68 = .ok (.iload_n 3, 1) := by decide +kernel
theorem dX8_trust_69 : decode cX8_trust 69 = .ok (.ireturn, 1) := by decide +kernel
theorem dX8_shelf_0 : decode cX8_shelf 0 = .ok (.aload_n 0, 1) := by decide +kernel
theorem dX8_shelf_1 : decode cX8_shelf 1 = .ok (.iload_n 1, 1) := by decide +kernel
theorem dX8_shelf_2 : decode cX8_shelf 2 = .ok (.invokevirtual 107, 3) := by decide +kernel
theorem dX8_shelf_5 : decode cX8_shelf 5 = .ok (.iload_n 2, 1) := by decide +kernel
theorem dX8_shelf_6 : decode cX8_shelf 6 = .ok (.ifCond .ge 8, 3) := by decide +kernel
theorem dX8_shelf_9 : decode cX8_shelf 9 = .ok (.bipush (-4), 2) := by decide +kernel
theorem dX8_shelf_11 : decode cX8_shelf 11 = .ok (.goto 4, 3) := by decide +kernel
theorem dX8_shelf_14 : decode cX8_shelf 14 = .ok (.iconst 0, 1) := by decide +kernel
theorem dX8_shelf_15 : decode cX8_shelf 15 = .ok (.invokestatic 51, 3) := by decide +kernel
theorem dX8_shelf_18 : decode cX8_shelf 18 = .ok (.istore_n 3, 1) := by decide +kernel
theorem dX8_shelf_19 : decode cX8_shelf 19 = .ok (.iload_n 3, 1) := by decide +kernel
theorem dX8_shelf_20 : decode cX8_shelf 20 = .ok (.ifCond .eq 9, 3) := by decide +kernel
theorem dX8_shelf_23 : decode cX8_shelf 23 = .ok (.aload_n 0, 1) := by decide +kernel
theorem dX8_shelf_24 : decode cX8_shelf 24 = .ok (.iload_n 3, 1) := by decide +kernel
theorem dX8_shelf_25 : decode cX8_shelf 25 = .ok (.invokevirtual 55, 3) := by decide +kernel
theorem dX8_shelf_28 : decode cX8_shelf 28 = .ok (.ireturn, 1) := by decide +kernel
theorem dX8_shelf_29 : decode cX8_shelf 29 = .ok (.iconst 0, 1) := by decide +kernel
theorem dX8_shelf_30 : decode cX8_shelf 30 = .ok (.istore 4, 2) := by decide +kernel
theorem dX8_shelf_32 : decode cX8_shelf 32 = .ok (.iconst 0, 1) := by decide +kernel
theorem dX8_shelf_33 : decode cX8_shelf 33 = .ok (.istore 5, 2) := by decide +kernel
theorem dX8_shelf_35 : decode cX8_shelf 35 = .ok (.iload 5, 2) := by decide +kernel
theorem dX8_shelf_37 : decode cX8_shelf 37 = .ok (.bipush 6, 2) := by decide +kernel
theorem dX8_shelf_39 : decode cX8_shelf 39 = .ok (.if_icmp .gt 71, 3) := by decide +kernel
theorem dX8_shelf_42 : decode cX8_shelf 42 = .ok (.iconst 0, 1) := by decide +kernel
theorem dX8_shelf_43 : decode cX8_shelf 43 = .ok (.istore 6, 2) := by decide +kernel
theorem dX8_shelf_45 : decode cX8_shelf 45 = .ok (.iload 6, 2) := by decide +kernel
theorem dX8_shelf_47 : decode cX8_shelf 47 = .ok (.aload_n 0, 1) := by decide +kernel
theorem dX8_shelf_48 : decode cX8_shelf 48 = .ok (.getfield 10, 3) := by decide +kernel
theorem dX8_shelf_51 : decode cX8_shelf 51 = .ok (.getfield 165, 3) := by decide +kernel
theorem dX8_shelf_54 : decode cX8_shelf 54 = .ok (.if_icmp .ge 50, 3) := by decide +kernel
theorem dX8_shelf_57 : decode cX8_shelf 57 = .ok (.aload_n 0, 1) := by decide +kernel
theorem dX8_shelf_58 : decode cX8_shelf 58 = .ok (.getfield 10, 3) := by decide +kernel
theorem dX8_shelf_61 : decode cX8_shelf 61 = .ok (.getfield 104, 3) := by decide +kernel
theorem dX8_shelf_64 : decode cX8_shelf 64 = .ok (.iload 6, 2) := by decide +kernel
theorem dX8_shelf_66 : decode cX8_shelf 66 = .ok (.iaload, 1) := by decide +kernel
theorem dX8_shelf_67 : decode cX8_shelf 67 = .ok (.iload_n 1, 1) := by decide +kernel
theorem dX8_shelf_68 : decode cX8_shelf 68 = .ok (.if_icmp .ne 30, 3) := by decide +kernel
theorem dX8_shelf_71 : decode cX8_shelf 71 = .ok (.aload_n 0, 1) := by decide +kernel
theorem dX8_shelf_72 : decode cX8_shelf 72 = .ok (.getfield 10, 3) := by decide +kernel
theorem dX8_shelf_75 : decode cX8_shelf 75 = .ok (.getfield 98, 3) := by decide +kernel
theorem dX8_shelf_78 : decode cX8_shelf 78 = .ok (.iload 6, 2) := by decide +kernel
theorem dX8_shelf_80 : decode cX8_shelf 80 = .ok (.iaload, 1) := by decide +kernel
theorem dX8_shelf_81 : decode cX8_shelf 81 = .ok (.iload 5, 2) := by decide +kernel
theorem dX8_shelf_83 : decode cX8_shelf 83 = .ok (.if_icmp .ne 15, 3) := by decide +kernel
theorem dX8_shelf_86 : decode cX8_shelf 86 = .ok (.iload 4, 2) := by decide +kernel
theorem dX8_shelf_88 : decode cX8_shelf 88 = .ok (.iload_n 2, 1) := by decide +kernel
theorem dX8_shelf_89 : decode cX8_shelf 89 = .ok (.if_icmp .ne 6, 3) := by decide +kernel
theorem dX8_shelf_92 : decode cX8_shelf 92 = .ok (.iload 6, 2) := by decide +kernel
theorem dX8_shelf_94 : decode cX8_shelf 94 = .ok (.ireturn, 1) := by decide +kernel
theorem dX8_shelf_95 : decode cX8_shelf 95 = .ok (.iinc 4 1, 3) := by decide +kernel
theorem dX8_shelf_98 : decode cX8_shelf 98 = .ok (.iinc 6 1, 3) := by decide +kernel
theorem dX8_shelf_101 : decode cX8_shelf 101 = .ok (.goto (-56), 3) := by decide +kernel
theorem dX8_shelf_104 : decode cX8_shelf 104 = .ok (.iinc 5 1, 3) := by decide +kernel
theorem dX8_shelf_107 : decode cX8_shelf 107 = .ok (.goto (-72), 3) := by decide +kernel
theorem dX8_shelf_110 : decode cX8_shelf 110 = .ok (.bipush (-9), 2) := by decide +kernel
theorem dX8_shelf_112 : decode cX8_shelf 112 = .ok (.ireturn, 1) := by decide +kernel
theorem dX8_sorts_0 : decode cX8_sorts 0 = .ok (.iload_n 1, 1) := by decide +kernel
theorem dX8_sorts_1 : decode cX8_sorts 1 = .ok (.iconst 2, 1) := by decide +kernel
theorem dX8_sorts_2 : decode cX8_sorts 2 = .ok (.invokestatic 86, 3) := by decide +kernel
theorem dX8_sorts_5 : decode cX8_sorts 5 = .ok (.istore_n 2, 1) := by decide +kernel
theorem dX8_sorts_6 : decode cX8_sorts 6 = .ok (.iload_n 2, 1) := by decide +kernel
theorem dX8_sorts_7 : decode cX8_sorts 7 = .ok (.ifCond .eq 9, 3) := by decide +kernel
theorem dX8_sorts_10 : decode cX8_sorts 10 = .ok (.aload_n 0, 1) := by decide +kernel
theorem dX8_sorts_11 : decode cX8_sorts 11 = .ok (.iload_n 2, 1) := by decide +kernel
theorem dX8_sorts_12 : decode cX8_sorts 12 = .ok (.invokevirtual 55, 3) := by decide +kernel
theorem dX8_sorts_15 : decode cX8_sorts 15 = .ok (.ireturn, 1) := by decide +kernel
theorem dX8_sorts_16 : decode cX8_sorts 16 = .ok (.iload_n 1, 1) := by decide +kernel
theorem dX8_sorts_17 : decode cX8_sorts 17 = .ok (.lookupswitch 43 #[(0, 27), (1, 35)], 27) := by decide +kernel
theorem dX8_sorts_44 : decode cX8_sorts 44 = .ok (.aload_n 0, 1) := by decide +kernel
theorem dX8_sorts_45 : decode cX8_sorts 45 = .ok (.getfield 10, 3) := by decide +kernel
theorem dX8_sorts_48 : decode cX8_sorts 48 = .ok (.invokevirtual 181, 3) := by decide +kernel
theorem dX8_sorts_51 : decode cX8_sorts 51 = .ok (.ireturn, 1) := by decide +kernel
theorem dX8_sorts_52 : decode cX8_sorts 52 = .ok (.aload_n 0, 1) := by decide +kernel
theorem dX8_sorts_53 : decode cX8_sorts 53 = .ok (.getfield 10, 3) := by decide +kernel
theorem dX8_sorts_56 : decode cX8_sorts 56 = .ok (.invokevirtual 184, 3) := by decide +kernel
theorem dX8_sorts_59 : decode cX8_sorts 59 = .ok (.ireturn, 1) := by decide +kernel
theorem dX8_sorts_60 : decode cX8_sorts 60 = .ok (.aload_n 0, 1) := by decide +kernel
theorem dX8_sorts_61 : decode cX8_sorts 61 = .ok (.getfield 10, 3) := by decide +kernel
theorem dX8_sorts_64 : decode cX8_sorts 64 = .ok (.invokevirtual 187, 3) := by decide +kernel
theorem dX8_sorts_67 : decode cX8_sorts 67 = .ok (.aload_n 0, 1) := by decide +kernel
theorem dX8_sorts_68 : decode cX8_sorts 68 = .ok (.getfield 10, 3) := by decide +kernel
theorem dX8_sorts_71 : decode cX8_sorts 71 = .ok (.invokevirtual 181, 3) := by decide +kernel
theorem dX8_sorts_74 : decode cX8_sorts 74 = .ok (.iconst (-1), 1) := by decide +kernel
theorem dX8_sorts_75 : decode cX8_sorts 75 = .ok (.ixor, 1) := by decide +kernel
theorem dX8_sorts_76 : decode cX8_sorts 76 = .ok (.iand, 1) := by decide +kernel
theorem dX8_sorts_77 : decode cX8_sorts 77 = .ok (.ireturn, 1) := by decide +kernel
theorem dX8_fewest_0 : decode cX8_fewest 0 = .ok (.iload_n 1, 1) := by decide +kernel
theorem dX8_fewest_1 : decode cX8_fewest 1 = .ok (.iconst 0, 1) := by decide +kernel
theorem dX8_fewest_2 : decode cX8_fewest 2 = .ok (.bipush 20, 2) := by decide +kernel
theorem dX8_fewest_4 : decode cX8_fewest 4 = .ok (.invokestatic 44, 3) := by decide +kernel
theorem dX8_fewest_7 : decode cX8_fewest 7 = .ok (.istore_n 2, 1) := by decide +kernel
theorem dX8_fewest_8 : decode cX8_fewest 8 = .ok (.iload_n 2, 1) := by decide +kernel
theorem dX8_fewest_9 : decode cX8_fewest 9 = .ok (.ifCond .eq 9, 3) := by decide +kernel
theorem dX8_fewest_12 : decode cX8_fewest 12 = .ok (.aload_n 0, 1) := by decide +kernel
theorem dX8_fewest_13 : decode cX8_fewest 13 = .ok (.iload_n 2, 1) := by decide +kernel
theorem dX8_fewest_14 : decode cX8_fewest 14 = .ok (.invokevirtual 55, 3) := by decide +kernel
theorem dX8_fewest_17 : decode cX8_fewest 17 = .ok (.ireturn, 1) := by decide +kernel
theorem dX8_fewest_18 : decode cX8_fewest 18 = .ok (.iconst 0, 1) := by decide +kernel
theorem dX8_fewest_19 : decode cX8_fewest 19 = .ok (.istore_n 3, 1) := by decide +kernel
theorem dX8_fewest_20 : decode cX8_fewest 20 = .ok (.iconst 0, 1) := by decide +kernel
theorem dX8_fewest_21 : decode cX8_fewest 21 = .ok (.istore 4, 2) := by decide +kernel
theorem dX8_fewest_23 : decode cX8_fewest 23 = .ok (.iload 4, 2) := by decide +kernel
theorem dX8_fewest_25 : decode cX8_fewest 25 = .ok (.aload_n 0, 1) := by decide +kernel
theorem dX8_fewest_26 : decode cX8_fewest 26 = .ok (.getfield 10, 3) := by decide +kernel
theorem dX8_fewest_29 : decode cX8_fewest 29 = .ok (.getfield 156, 3) := by decide +kernel
theorem dX8_fewest_32 : decode cX8_fewest 32 = .ok (.if_icmp .ge 33, 3) := by decide +kernel
theorem dX8_fewest_35 : decode cX8_fewest 35 = .ok (.aload_n 0, 1) := by decide +kernel
theorem dX8_fewest_36 : decode cX8_fewest 36 = .ok (.iload 4, 2) := by decide +kernel
theorem dX8_fewest_38 : decode cX8_fewest 38 = .ok (.iload_n 1, 1) := by decide +kernel
theorem dX8_fewest_39 : decode cX8_fewest 39 = .ok (.invokevirtual 190, 3) := by decide +kernel
theorem dX8_fewest_42 : decode cX8_fewest 42 = .ok (.istore 5, 2) := by decide +kernel
theorem dX8_fewest_44 : decode cX8_fewest 44 = .ok (.iload 5, 2) := by decide +kernel
theorem dX8_fewest_46 : decode cX8_fewest 46 = .ok (.bipush (-9), 2) := by decide +kernel
theorem dX8_fewest_48 : decode cX8_fewest 48 = .ok (.if_icmp .ne 6, 3) := by decide +kernel
theorem dX8_fewest_51 : decode cX8_fewest 51 = .ok (.bipush (-9), 2) := by decide +kernel
theorem dX8_fewest_53 : decode cX8_fewest 53 = .ok (.ireturn, 1) := by decide +kernel
theorem dX8_fewest_54 : decode cX8_fewest 54 = .ok (.iload_n 3, 1) := by decide +kernel
theorem dX8_fewest_55 : decode cX8_fewest 55 = .ok (.iload 5, 2) := by decide +kernel
theorem dX8_fewest_57 : decode cX8_fewest 57 = .ok (.ior, 1) := by decide +kernel
theorem dX8_fewest_58 : decode cX8_fewest 58 = .ok (.istore_n 3, 1) := by decide +kernel
theorem dX8_fewest_59 : decode cX8_fewest 59 = .ok (.iinc 4 1, 3) := by decide +kernel
theorem dX8_fewest_62 : decode cX8_fewest 62 = .ok (.goto (-39), 3) := by decide +kernel
theorem dX8_fewest_65 : decode cX8_fewest 65 = .ok (.iload_n 3, 1) := by decide +kernel
theorem dX8_fewest_66 : decode cX8_fewest 66 = .ok (.ireturn, 1) := by decide +kernel
theorem dX8_fewestOf_0 : decode cX8_fewestOf 0 = .ok (.aload_n 0, 1) := by decide +kernel
theorem dX8_fewestOf_1 : decode cX8_fewestOf 1 = .ok (.getfield 10, 3) := by decide +kernel
theorem dX8_fewestOf_4 : decode cX8_fewestOf 4 = .ok (.iload_n 1, 1) := by decide +kernel
theorem dX8_fewestOf_5 : decode cX8_fewestOf 5 = .ok (.invokevirtual 119, 3) := by decide +kernel
theorem dX8_fewestOf_8 : decode cX8_fewestOf 8 = .ok (.aload_n 0, 1) := by decide +kernel
theorem dX8_fewestOf_9 : decode cX8_fewestOf 9 = .ok (.getfield 10, 3) := by decide +kernel
theorem dX8_fewestOf_12 : decode cX8_fewestOf 12 = .ok (.invokevirtual 159, 3) := by decide +kernel
theorem dX8_fewestOf_15 : decode cX8_fewestOf 15 = .ok (.iconst (-1), 1) := by decide +kernel
theorem dX8_fewestOf_16 : decode cX8_fewestOf 16 = .ok (.ixor, 1) := by decide +kernel
theorem dX8_fewestOf_17 : decode cX8_fewestOf 17 = .ok (.iand, 1) := by decide +kernel
theorem dX8_fewestOf_18 : decode cX8_fewestOf 18 = .ok (.istore_n 3, 1) := by decide +kernel
theorem dX8_fewestOf_19 : decode cX8_fewestOf 19 = .ok (.bipush (-9), 2) := by decide +kernel
theorem dX8_fewestOf_21 : decode cX8_fewestOf 21 = .ok (.istore 4, 2) := by decide +kernel
theorem dX8_fewestOf_23 : decode cX8_fewestOf 23 = .ok (.iconst 0, 1) := by decide +kernel
theorem dX8_fewestOf_24 : decode cX8_fewestOf 24 = .ok (.istore 5, 2) := by decide +kernel
theorem dX8_fewestOf_26 : decode cX8_fewestOf 26 = .ok (.iload 5, 2) := by decide +kernel
theorem dX8_fewestOf_28 : decode cX8_fewestOf 28 = .ok (.iload_n 3, 1) := by decide +kernel
theorem dX8_fewestOf_29 : decode cX8_fewestOf 29 = .ok (.if_icmp .gt 65, 3) := by decide +kernel
theorem dX8_fewestOf_32 : decode cX8_fewestOf 32 = .ok (.iload 4, 2) := by decide +kernel
theorem dX8_fewestOf_34 : decode cX8_fewestOf 34 = .ok (.bipush (-9), 2) := by decide +kernel
theorem dX8_fewestOf_36 : decode cX8_fewestOf 36 = .ok (.if_icmp .eq 16, 3) := by decide +kernel
theorem dX8_fewestOf_39 : decode cX8_fewestOf 39 = .ok (.iload 5, 2) := by decide +kernel
theorem dX8_fewestOf_41 : decode cX8_fewestOf 41 = .ok (.invokestatic 193, 3) := by decide +kernel
theorem dX8_fewestOf_44 : decode cX8_fewestOf 44 = .ok (.iload 4, 2) := by decide +kernel
theorem dX8_fewestOf_46 : decode cX8_fewestOf 46 = .ok (.invokestatic 193, 3) := by decide +kernel
theorem dX8_fewestOf_49 : decode cX8_fewestOf 49 = .ok (.if_icmp .ge 7, 3) := by decide +kernel
theorem dX8_fewestOf_52 : decode cX8_fewestOf 52 = .ok (.iconst 1, 1) := by decide +kernel
theorem dX8_fewestOf_53 : decode cX8_fewestOf 53 = .ok (.goto 4, 3) := by decide +kernel
theorem dX8_fewestOf_56 : decode cX8_fewestOf 56 = .ok (.iconst 0, 1) := by decide +kernel
theorem dX8_fewestOf_57 : decode cX8_fewestOf 57 = .ok (.istore 6, 2) := by decide +kernel
theorem dX8_fewestOf_59 : decode cX8_fewestOf 59 = .ok (.iload 6, 2) := by decide +kernel
theorem dX8_fewestOf_61 : decode cX8_fewestOf 61 = .ok (.ifCond .eq 27, 3) := by decide +kernel
theorem dX8_fewestOf_64 : decode cX8_fewestOf 64 = .ok (.iload 5, 2) := by decide +kernel
theorem dX8_fewestOf_66 : decode cX8_fewestOf 66 = .ok (.iload_n 3, 1) := by decide +kernel
theorem dX8_fewestOf_67 : decode cX8_fewestOf 67 = .ok (.iconst (-1), 1) := by decide +kernel
theorem dX8_fewestOf_68 : decode cX8_fewestOf 68 = .ok (.ixor, 1) := by decide +kernel
theorem dX8_fewestOf_69 : decode cX8_fewestOf 69 = .ok (.iand, 1) := by decide +kernel
theorem dX8_fewestOf_70 : decode cX8_fewestOf 70 = .ok (.ifCond .ne 18, 3) := by decide +kernel
theorem dX8_fewestOf_73 : decode cX8_fewestOf 73 = .ok (.aload_n 0, 1) := by decide +kernel
theorem dX8_fewestOf_74 : decode cX8_fewestOf 74 = .ok (.iload_n 1, 1) := by decide +kernel
theorem dX8_fewestOf_75 : decode cX8_fewestOf 75 = .ok (.iload 5, 2) := by decide +kernel
theorem dX8_fewestOf_77 : decode cX8_fewestOf 77 = .ok (.iload_n 2, 1) := by decide +kernel
theorem dX8_fewestOf_78 : decode cX8_fewestOf 78 = .ok (.invokevirtual 198, 3) := by decide +kernel
theorem dX8_fewestOf_81 : decode cX8_fewestOf 81 = .ok (.ifCond .eq 7, 3) := by decide +kernel
theorem dX8_fewestOf_84 : decode cX8_fewestOf 84 = .ok (.iload 5, 2) := by decide +kernel
theorem dX8_fewestOf_86 : decode cX8_fewestOf 86 = .ok (.istore 4, 2) := by decide +kernel
theorem dX8_fewestOf_88 : decode cX8_fewestOf 88 = .ok (.iinc 5 1, 3) := by decide +kernel
theorem dX8_fewestOf_91 : decode cX8_fewestOf 91 = .ok (.goto (-65), 3) := by decide +kernel
theorem dX8_fewestOf_94 : decode cX8_fewestOf 94 = .ok (.iload 4, 2) := by decide +kernel
theorem dX8_fewestOf_96 : decode cX8_fewestOf 96 = .ok (.ireturn, 1) := by decide +kernel
theorem dX8_keepsGrace_0 : decode cX8_keepsGrace 0 = .ok (.aload_n 0, 1) := by decide +kernel
theorem dX8_keepsGrace_1 : decode cX8_keepsGrace 1 = .ok (.getfield 16, 3) := by decide +kernel
theorem dX8_keepsGrace_4 : decode cX8_keepsGrace 4 = .ok (.aload_n 0, 1) := by decide +kernel
theorem dX8_keepsGrace_5 : decode cX8_keepsGrace 5 = .ok (.getfield 10, 3) := by decide +kernel
theorem dX8_keepsGrace_8 : decode cX8_keepsGrace 8 = .ok (.invokevirtual 67, 3) := by decide +kernel
theorem dX8_keepsGrace_11 : decode cX8_keepsGrace 11 = .ok (.iconst 0, 1) := by decide +kernel
theorem dX8_keepsGrace_12 : decode cX8_keepsGrace 12 = .ok (.istore 4, 2) := by decide +kernel
theorem dX8_keepsGrace_14 : decode cX8_keepsGrace 14 = .ok (.iload 4, 2) := by decide +kernel
theorem dX8_keepsGrace_16 : decode cX8_keepsGrace 16 = .ok (.aload_n 0, 1) := by decide +kernel
theorem dX8_keepsGrace_17 : decode cX8_keepsGrace 17 = .ok (.getfield 16, 3) := by decide +kernel
theorem dX8_keepsGrace_20 : decode cX8_keepsGrace 20 = .ok (.getfield 165, 3) := by decide +kernel
theorem dX8_keepsGrace_23 : decode cX8_keepsGrace 23 = .ok (.if_icmp .ge 39, 3) := by decide +kernel
theorem dX8_keepsGrace_26 : decode cX8_keepsGrace 26 = .ok (.iload_n 2, 1) := by decide +kernel
theorem dX8_keepsGrace_27 : decode cX8_keepsGrace 27 = .ok (.iload 4, 2) := by decide +kernel
theorem dX8_keepsGrace_29 : decode cX8_keepsGrace 29 = .ok (.ishr, 1) := by decide +kernel
theorem dX8_keepsGrace_30 : decode cX8_keepsGrace 30 = .ok (.iconst 1, 1) := by decide +kernel
theorem dX8_keepsGrace_31 : decode cX8_keepsGrace 31 = .ok (.iand, 1) := by decide +kernel
theorem dX8_keepsGrace_32 : decode cX8_keepsGrace 32 = .ok (.iconst 1, 1) := by decide +kernel
theorem dX8_keepsGrace_33 : decode cX8_keepsGrace 33 = .ok (.if_icmp .ne 23, 3) := by decide +kernel
theorem dX8_keepsGrace_36 : decode cX8_keepsGrace 36 = .ok (.aload_n 0, 1) := by decide +kernel
theorem dX8_keepsGrace_37 : decode cX8_keepsGrace 37 = .ok (.getfield 16, 3) := by decide +kernel
theorem dX8_keepsGrace_40 : decode cX8_keepsGrace 40 = .ok (.getfield 98, 3) := by decide +kernel
theorem dX8_keepsGrace_43 : decode cX8_keepsGrace 43 = .ok (.iload 4, 2) := by decide +kernel
theorem dX8_keepsGrace_45 : decode cX8_keepsGrace 45 = .ok (.aload_n 0, 1) := by decide +kernel
theorem dX8_keepsGrace_46 : decode cX8_keepsGrace 46 = .ok (.getfield 16, 3) := by decide +kernel
theorem dX8_keepsGrace_49 : decode cX8_keepsGrace 49 = .ok (.getfield 95, 3) := by decide +kernel
theorem dX8_keepsGrace_52 : decode cX8_keepsGrace 52 = .ok (.iload 4, 2) := by decide +kernel
theorem dX8_keepsGrace_54 : decode cX8_keepsGrace 54 = .ok (.iaload, 1) := by decide +kernel
theorem dX8_keepsGrace_55 : decode cX8_keepsGrace 55 = .ok (.iastore, 1) := by decide +kernel
theorem dX8_keepsGrace_56 : decode cX8_keepsGrace 56 = .ok (.iinc 4 1, 3) := by decide +kernel
theorem dX8_keepsGrace_59 : decode cX8_keepsGrace 59 = .ok (.goto (-45), 3) := by decide +kernel
theorem dX8_keepsGrace_62 : decode cX8_keepsGrace 62 = .ok (.iconst 0, 1) := by decide +kernel
theorem dX8_keepsGrace_63 : decode cX8_keepsGrace 63 = .ok (.istore 4, 2) := by decide +kernel
theorem dX8_keepsGrace_65 : decode cX8_keepsGrace 65 = .ok (.iload 4, 2) := by decide +kernel
theorem dX8_keepsGrace_67 : decode cX8_keepsGrace 67 = .ok (.iload_n 3, 1) := by decide +kernel
theorem dX8_keepsGrace_68 : decode cX8_keepsGrace 68 = .ok (.if_icmp .ge 30, 3) := by decide +kernel
theorem dX8_keepsGrace_71 : decode cX8_keepsGrace 71 = .ok (.aload_n 0, 1) := by decide +kernel
theorem dX8_keepsGrace_72 : decode cX8_keepsGrace 72 = .ok (.getfield 16, 3) := by decide +kernel
theorem dX8_keepsGrace_75 : decode cX8_keepsGrace 75 = .ok (.getfield 113, 3) := by decide +kernel
theorem dX8_keepsGrace_78 : decode cX8_keepsGrace 78 = .ok (.iload_n 1, 1) := by decide +kernel
theorem dX8_keepsGrace_79 : decode cX8_keepsGrace 79 = .ok (.iaload, 1) := by decide +kernel
theorem dX8_keepsGrace_80 : decode cX8_keepsGrace 80 = .ok (.ifCond .le 18, 3) := by decide +kernel
theorem dX8_keepsGrace_83 : decode cX8_keepsGrace 83 = .ok (.aload_n 0, 1) := by decide +kernel
theorem dX8_keepsGrace_84 : decode cX8_keepsGrace 84 = .ok (.getfield 16, 3) := by decide +kernel
theorem dX8_keepsGrace_87 : decode cX8_keepsGrace 87 = .ok (.iload_n 1, 1) := by decide +kernel
theorem dX8_keepsGrace_88 : decode cX8_keepsGrace 88 = .ok (.iconst 1, 1) := by decide +kernel
theorem dX8_keepsGrace_89 : decode cX8_keepsGrace 89 = .ok (.invokevirtual 146, 3) := by decide +kernel
theorem dX8_keepsGrace_92 : decode cX8_keepsGrace 92 = .ok (.iinc 4 1, 3) := by decide +kernel
theorem dX8_keepsGrace_95 : decode cX8_keepsGrace 95 = .ok (.goto (-30), 3) := by decide +kernel
theorem dX8_keepsGrace_98 : decode cX8_keepsGrace 98 = .ok (.aload_n 0, 1) := by decide +kernel
theorem dX8_keepsGrace_99 : decode cX8_keepsGrace 99 = .ok (.getfield 16, 3) := by decide +kernel
theorem dX8_keepsGrace_102 : decode cX8_keepsGrace 102 = .ok (.getfield 113, 3) := by decide +kernel
theorem dX8_keepsGrace_105 : decode cX8_keepsGrace 105 = .ok (.iload_n 1, 1) := by decide +kernel
theorem dX8_keepsGrace_106 : decode cX8_keepsGrace 106 = .ok (.iaload, 1) := by decide +kernel
theorem dX8_keepsGrace_107 : decode cX8_keepsGrace 107 = .ok (.ifCond .le 7, 3) := by decide +kernel
theorem dX8_keepsGrace_110 : decode cX8_keepsGrace 110 = .ok (.iconst 1, 1) := by decide +kernel
theorem dX8_keepsGrace_111 : decode cX8_keepsGrace 111 = .ok (.goto 4, 3) := by decide +kernel
theorem dX8_keepsGrace_114 : decode cX8_keepsGrace 114 = .ok (.iconst 0, 1) := by decide +kernel
theorem dX8_keepsGrace_115 : decode cX8_keepsGrace 115 = .ok (.ireturn, 1) := by decide +kernel
theorem dX8_warn_0 : decode cX8_warn 0 = .ok (.aload_n 0, 1) := by decide +kernel
theorem dX8_warn_1 : decode cX8_warn 1 = .ok (.iload_n 1, 1) := by decide +kernel
theorem dX8_warn_2 : decode cX8_warn 2 = .ok (.invokevirtual 107, 3) := by decide +kernel
theorem dX8_warn_5 : decode cX8_warn 5 = .ok (.iload_n 2, 1) := by decide +kernel
theorem dX8_warn_6 : decode cX8_warn 6 = .ok (.iconst 0, 1) := by decide +kernel
theorem dX8_warn_7 : decode cX8_warn 7 = .ok (.bipush 30, 2) := by decide +kernel
theorem dX8_warn_9 : decode cX8_warn 9 = .ok (.invokestatic 44, 3) := by decide +kernel
theorem dX8_warn_12 : decode cX8_warn 12 = .ok (.invokestatic 51, 3) := by decide +kernel
theorem dX8_warn_15 : decode cX8_warn 15 = .ok (.istore_n 3, 1) := by decide +kernel
theorem dX8_warn_16 : decode cX8_warn 16 = .ok (.iload_n 3, 1) := by decide +kernel
theorem dX8_warn_17 : decode cX8_warn 17 = .ok (.ifCond .eq 9, 3) := by decide +kernel
theorem dX8_warn_20 : decode cX8_warn 20 = .ok (.aload_n 0, 1) := by decide +kernel
theorem dX8_warn_21 : decode cX8_warn 21 = .ok (.iload_n 3, 1) := by decide +kernel
theorem dX8_warn_22 : decode cX8_warn 22 = .ok (.invokevirtual 55, 3) := by decide +kernel
theorem dX8_warn_25 : decode cX8_warn 25 = .ok (.ireturn, 1) := by decide +kernel
theorem dX8_warn_26 : decode cX8_warn 26 = .ok (.aload_n 0, 1) := by decide +kernel
theorem dX8_warn_27 : decode cX8_warn 27 = .ok (.iload_n 1, 1) := by decide +kernel
theorem dX8_warn_28 : decode cX8_warn 28 = .ok (.iload_n 2, 1) := by decide +kernel
theorem dX8_warn_29 : decode cX8_warn 29 = .ok (.invokevirtual 202, 3) := by decide +kernel
theorem dX8_warn_32 : decode cX8_warn 32 = .ok (.istore 4, 2) := by decide +kernel
theorem dX8_warn_34 : decode cX8_warn 34 = .ok (.bipush (-9), 2) := by decide +kernel
theorem dX8_warn_36 : decode cX8_warn 36 = .ok (.istore 5, 2) := by decide +kernel
theorem dX8_warn_38 : decode cX8_warn 38 = .ok (.iconst 0, 1) := by decide +kernel
theorem dX8_warn_39 : decode cX8_warn 39 = .ok (.istore 6, 2) := by decide +kernel
theorem dX8_warn_41 : decode cX8_warn 41 = .ok (.iload 6, 2) := by decide +kernel
theorem dX8_warn_43 : decode cX8_warn 43 = .ok (.aload_n 0, 1) := by decide +kernel
theorem dX8_warn_44 : decode cX8_warn 44 = .ok (.getfield 10, 3) := by decide +kernel
theorem dX8_warn_47 : decode cX8_warn 47 = .ok (.getfield 165, 3) := by decide +kernel
theorem dX8_warn_50 : decode cX8_warn 50 = .ok (.if_icmp .ge 47, 3) := by decide +kernel
theorem dX8_warn_53 : decode cX8_warn 53 = .ok (.aload_n 0, 1) := by decide +kernel
theorem dX8_warn_54 : decode cX8_warn 54 = .ok (.getfield 10, 3) := by decide +kernel
theorem dX8_warn_57 : decode cX8_warn 57 = .ok (.getfield 104, 3) := by decide +kernel
theorem dX8_warn_60 : decode cX8_warn 60 = .ok (.iload 6, 2) := by decide +kernel
theorem dX8_warn_62 : decode cX8_warn 62 = .ok (.iaload, 1) := by decide +kernel
theorem dX8_warn_63 : decode cX8_warn 63 = .ok (.iload_n 1, 1) := by decide +kernel
theorem dX8_warn_64 : decode cX8_warn 64 = .ok (.if_icmp .ne 27, 3) := by decide +kernel
theorem dX8_warn_67 : decode cX8_warn 67 = .ok (.aload_n 0, 1) := by decide +kernel
theorem dX8_warn_68 : decode cX8_warn 68 = .ok (.iload 6, 2) := by decide +kernel
theorem dX8_warn_70 : decode cX8_warn 70 = .ok (.iload_n 2, 1) := by decide +kernel
theorem dX8_warn_71 : decode cX8_warn 71 = .ok (.invokevirtual 205, 3) := by decide +kernel
theorem dX8_warn_74 : decode cX8_warn 74 = .ok (.istore 7, 2) := by decide +kernel
theorem dX8_warn_76 : decode cX8_warn 76 = .ok (.iload 7, 2) := by decide +kernel
theorem dX8_warn_78 : decode cX8_warn 78 = .ok (.iload 4, 2) := by decide +kernel
theorem dX8_warn_80 : decode cX8_warn 80 = .ok (.if_icmp .le 11, 3) := by decide +kernel
theorem dX8_warn_83 : decode cX8_warn 83 = .ok (.iload 7, 2) := by decide +kernel
theorem dX8_warn_85 : decode cX8_warn 85 = .ok (.istore 4, 2) := by decide +kernel
theorem dX8_warn_87 : decode cX8_warn 87 = .ok (.iload 6, 2) := by decide +kernel
theorem dX8_warn_89 : decode cX8_warn 89 = .ok (.istore 5, 2) := by decide +kernel
theorem dX8_warn_91 : decode cX8_warn 91 = .ok (.iinc 6 1, 3) := by decide +kernel
theorem dX8_warn_94 : decode cX8_warn 94 = .ok (.goto (-53), 3) := by decide +kernel
theorem dX8_warn_97 : decode cX8_warn 97 = .ok (.iload 5, 2) := by decide +kernel
theorem dX8_warn_99 : decode cX8_warn 99 = .ok (.ireturn, 1) := by decide +kernel
theorem dX8_heir_0 : decode cX8_heir 0 = .ok (.aload_n 0, 1) := by decide +kernel
theorem dX8_heir_1 : decode cX8_heir 1 = .ok (.iload_n 1, 1) := by decide +kernel
theorem dX8_heir_2 : decode cX8_heir 2 = .ok (.invokevirtual 83, 3) := by decide +kernel
theorem dX8_heir_5 : decode cX8_heir 5 = .ok (.iload_n 2, 1) := by decide +kernel
theorem dX8_heir_6 : decode cX8_heir 6 = .ok (.iconst 0, 1) := by decide +kernel
theorem dX8_heir_7 : decode cX8_heir 7 = .ok (.bipush 30, 2) := by decide +kernel
theorem dX8_heir_9 : decode cX8_heir 9 = .ok (.invokestatic 44, 3) := by decide +kernel
theorem dX8_heir_12 : decode cX8_heir 12 = .ok (.invokestatic 51, 3) := by decide +kernel
theorem dX8_heir_15 : decode cX8_heir 15 = .ok (.istore_n 3, 1) := by decide +kernel
theorem dX8_heir_16 : decode cX8_heir 16 = .ok (.iload_n 3, 1) := by decide +kernel
theorem dX8_heir_17 : decode cX8_heir 17 = .ok (.ifCond .eq 9, 3) := by decide +kernel
theorem dX8_heir_20 : decode cX8_heir 20 = .ok (.aload_n 0, 1) := by decide +kernel
theorem dX8_heir_21 : decode cX8_heir 21 = .ok (.iload_n 3, 1) := by decide +kernel
theorem dX8_heir_22 : decode cX8_heir 22 = .ok (.invokevirtual 55, 3) := by decide +kernel
theorem dX8_heir_25 : decode cX8_heir 25 = .ok (.ireturn, 1) := by decide +kernel
theorem dX8_heir_26 : decode cX8_heir 26 = .ok (.iconst 0, 1) := by decide +kernel
theorem dX8_heir_27 : decode cX8_heir 27 = .ok (.istore 4, 2) := by decide +kernel
theorem dX8_heir_29 : decode cX8_heir 29 = .ok (.iconst (-1), 1) := by decide +kernel
theorem dX8_heir_30 : decode cX8_heir 30 = .ok (.istore 5, 2) := by decide +kernel
theorem dX8_heir_32 : decode cX8_heir 32 = .ok (.iconst 0, 1) := by decide +kernel
theorem dX8_heir_33 : decode cX8_heir 33 = .ok (.istore 6, 2) := by decide +kernel
theorem dX8_heir_35 : decode cX8_heir 35 = .ok (.iload 6, 2) := by decide +kernel
theorem dX8_heir_37 : decode cX8_heir 37 = .ok (.aload_n 0, 1) := by decide +kernel
theorem dX8_heir_38 : decode cX8_heir 38 = .ok (.getfield 10, 3) := by decide +kernel
theorem dX8_heir_41 : decode cX8_heir 41 = .ok (.getfield 156, 3) := by decide +kernel
theorem dX8_heir_44 : decode cX8_heir 44 = .ok (.if_icmp .ge 34, 3) := by decide +kernel
theorem dX8_heir_47 : decode cX8_heir 47 = .ok (.aload_n 0, 1) := by decide +kernel
theorem dX8_heir_48 : decode cX8_heir 48 = .ok (.iload_n 1, 1) := by decide +kernel
theorem dX8_heir_49 : decode cX8_heir 49 = .ok (.iload 6, 2) := by decide +kernel
theorem dX8_heir_51 : decode cX8_heir 51 = .ok (.iload_n 2, 1) := by decide +kernel
theorem dX8_heir_52 : decode cX8_heir 52 = .ok (.invokevirtual 171, 3) := by decide +kernel
theorem dX8_heir_55 : decode cX8_heir 55 = .ok (.istore 7, 2) := by decide +kernel
theorem dX8_heir_57 : decode cX8_heir 57 = .ok (.iload 7, 2) := by decide +kernel
theorem dX8_heir_59 : decode cX8_heir 59 = .ok (.iload 5, 2) := by decide +kernel
theorem dX8_heir_61 : decode cX8_heir 61 = .ok (.if_icmp .le 11, 3) := by decide +kernel
theorem dX8_heir_64 : decode cX8_heir 64 = .ok (.iload 7, 2) := by decide +kernel
theorem dX8_heir_66 : decode cX8_heir 66 = .ok (.istore 5, 2) := by decide +kernel
theorem dX8_heir_68 : decode cX8_heir 68 = .ok (.iload 6, 2) := by decide +kernel
theorem dX8_heir_70 : decode cX8_heir 70 = .ok (.istore 4, 2) := by decide +kernel
theorem dX8_heir_72 : decode cX8_heir 72 = .ok (.iinc 6 1, 3) := by decide +kernel
theorem dX8_heir_75 : decode cX8_heir 75 = .ok (.goto (-40), 3) := by decide +kernel
theorem dX8_heir_78 : decode cX8_heir 78 = .ok (.iload 4, 2) := by decide +kernel
theorem dX8_heir_80 : decode cX8_heir 80 = .ok (.ireturn, 1) := by decide +kernel
theorem dX8_two_0 : decode cX8_two 0 = .ok (.aload_n 0, 1) := by decide +kernel
theorem dX8_two_1 : decode cX8_two 1 = .ok (.iload_n 1, 1) := by decide +kernel
theorem dX8_two_2 : decode cX8_two 2 = .ok (.invokevirtual 83, 3) := by decide +kernel
theorem dX8_two_5 : decode cX8_two 5 = .ok (.aload_n 0, 1) := by decide +kernel
theorem dX8_two_6 : decode cX8_two 6 = .ok (.iload_n 2, 1) := by decide +kernel
theorem dX8_two_7 : decode cX8_two 7 = .ok (.invokevirtual 83, 3) := by decide +kernel
theorem dX8_two_10 : decode cX8_two 10 = .ok (.iload_n 1, 1) := by decide +kernel
theorem dX8_two_11 : decode cX8_two 11 = .ok (.iload_n 2, 1) := by decide +kernel
theorem dX8_two_12 : decode cX8_two 12 = .ok (.if_icmp .ne 7, 3) := by decide +kernel
theorem dX8_two_15 : decode cX8_two 15 = .ok (.iconst (-1), 1) := by decide +kernel
theorem dX8_two_16 : decode cX8_two 16 = .ok (.goto 4, 3) := by decide +kernel
theorem dX8_two_19 : decode cX8_two 19 = .ok (.iconst 0, 1) := by decide +kernel
theorem dX8_two_20 : decode cX8_two 20 = .ok (.invokestatic 135, 3) := by decide +kernel
theorem dX8_two_23 : decode cX8_two 23 = .ok (.iload_n 3, 1) := by decide +kernel
theorem dX8_two_24 : decode cX8_two 24 = .ok (.iconst 0, 1) := by decide +kernel
theorem dX8_two_25 : decode cX8_two 25 = .ok (.bipush 30, 2) := by decide +kernel
theorem dX8_two_27 : decode cX8_two 27 = .ok (.invokestatic 44, 3) := by decide +kernel
theorem dX8_two_30 : decode cX8_two 30 = .ok (.invokestatic 51, 3) := by decide +kernel
theorem dX8_two_33 : decode cX8_two 33 = .ok (.istore 4, 2) := by decide +kernel
theorem dX8_two_35 : decode cX8_two 35 = .ok (.iload 4, 2) := by decide +kernel
theorem dX8_two_37 : decode cX8_two 37 = .ok (.ifCond .ne 52, 3) := by decide +kernel
theorem dX8_two_40 : decode cX8_two 40 = .ok (.aload_n 0, 1) := by decide +kernel
theorem dX8_two_41 : decode cX8_two 41 = .ok (.getfield 10, 3) := by decide +kernel
theorem dX8_two_44 : decode cX8_two 44 = .ok (.getfield 101, 3) := by decide +kernel
theorem dX8_two_47 : decode cX8_two 47 = .ok (.iload_n 1, 1) := by decide +kernel
theorem dX8_two_48 : decode cX8_two 48 = .ok (.iaload, 1) := by decide +kernel
theorem dX8_two_49 : decode cX8_two 49 = .ok (.ifCond .eq 36, 3) := by decide +kernel
theorem dX8_two_52 : decode cX8_two 52 = .ok (.aload_n 0, 1) := by decide +kernel
theorem dX8_two_53 : decode cX8_two 53 = .ok (.getfield 10, 3) := by decide +kernel
theorem dX8_two_56 : decode cX8_two 56 = .ok (.getfield 101, 3) := by decide +kernel
theorem dX8_two_59 : decode cX8_two 59 = .ok (.iload_n 2, 1) := by decide +kernel
theorem dX8_two_60 : decode cX8_two 60 = .ok (.iaload, 1) := by decide +kernel
theorem dX8_two_61 : decode cX8_two 61 = .ok (.ifCond .eq 24, 3) := by decide +kernel
theorem dX8_two_64 : decode cX8_two 64 = .ok (.aload_n 0, 1) := by decide +kernel
theorem dX8_two_65 : decode cX8_two 65 = .ok (.getfield 10, 3) := by decide +kernel
theorem dX8_two_68 : decode cX8_two 68 = .ok (.getfield 104, 3) := by decide +kernel
theorem dX8_two_71 : decode cX8_two 71 = .ok (.iload_n 1, 1) := by decide +kernel
theorem dX8_two_72 : decode cX8_two 72 = .ok (.iaload, 1) := by decide +kernel
theorem dX8_two_73 : decode cX8_two 73 = .ok (.aload_n 0, 1) := by decide +kernel
theorem dX8_two_74 : decode cX8_two 74 = .ok (.getfield 10, 3) := by decide +kernel
theorem dX8_two_77 : decode cX8_two 77 = .ok (.getfield 104, 3) := by decide +kernel
theorem dX8_two_80 : decode cX8_two 80 = .ok (.iload_n 2, 1) := by decide +kernel
theorem dX8_two_81 : decode cX8_two 81 = .ok (.iaload, 1) := by decide +kernel
theorem dX8_two_82 : decode cX8_two 82 = .ok (.if_icmp .ne 7, 3) := by decide +kernel
theorem dX8_two_85 : decode cX8_two 85 = .ok (.bipush (-3), 2) := by decide +kernel
theorem dX8_two_87 : decode cX8_two 87 = .ok (.istore 4, 2) := by decide +kernel
theorem dX8_two_89 : decode cX8_two 89 = .ok (.iload 4, 2) := by decide +kernel
theorem dX8_two_91 : decode cX8_two 91 = .ok (.ifCond .eq 10, 3) := by decide +kernel
theorem dX8_two_94 : decode cX8_two 94 = .ok (.aload_n 0, 1) := by decide +kernel
theorem dX8_two_95 : decode cX8_two 95 = .ok (.iload 4, 2) := by decide +kernel
theorem dX8_two_97 : decode cX8_two 97 = .ok (.invokevirtual 55, 3) := by decide +kernel
theorem dX8_two_100 : decode cX8_two 100 = .ok (.ireturn, 1) := by decide +kernel
theorem dX8_two_101 : decode cX8_two 101 = .ok (.bipush 10, 2) := by decide +kernel
theorem dX8_two_103 : decode cX8_two 103 = .ok (.aload_n 0, 1) := by decide +kernel
theorem dX8_two_104 : decode cX8_two 104 = .ok (.iload_n 1, 1) := by decide +kernel
theorem dX8_two_105 : decode cX8_two 105 = .ok (.iload_n 3, 1) := by decide +kernel
theorem dX8_two_106 : decode cX8_two 106 = .ok (.invokevirtual 208, 3) := by decide +kernel
theorem dX8_two_109 : decode cX8_two 109 = .ok (.ifCond .eq 7, 3) := by decide +kernel
theorem dX8_two_112 : decode cX8_two 112 = .ok (.iconst 1, 1) := by decide +kernel
theorem dX8_two_113 : decode cX8_two 113 = .ok (.goto 4, 3) := by decide +kernel
theorem dX8_two_116 : decode cX8_two 116 = .ok (.iconst 0, 1) := by decide +kernel
theorem dX8_two_117 : decode cX8_two 117 = .ok (.imul, 1) := by decide +kernel
theorem dX8_two_118 : decode cX8_two 118 = .ok (.aload_n 0, 1) := by decide +kernel
theorem dX8_two_119 : decode cX8_two 119 = .ok (.iload_n 2, 1) := by decide +kernel
theorem dX8_two_120 : decode cX8_two 120 = .ok (.iload_n 3, 1) := by decide +kernel
theorem dX8_two_121 : decode cX8_two 121 = .ok (.invokevirtual 208, 3) := by decide +kernel
theorem dX8_two_124 : decode cX8_two 124 = .ok (.ifCond .eq 7, 3) := by decide +kernel
theorem dX8_two_127 : decode cX8_two 127 = .ok (.iconst 1, 1) := by decide +kernel
theorem dX8_two_128 : decode cX8_two 128 = .ok (.goto 4, 3) := by decide +kernel
theorem dX8_two_131 : decode cX8_two 131 = .ok (.iconst 0, 1) := by decide +kernel
theorem dX8_two_132 : decode cX8_two 132 = .ok (.iadd, 1) := by decide +kernel
theorem dX8_two_133 : decode cX8_two 133 = .ok (.ireturn, 1) := by decide +kernel
theorem dX8_isBetterWithout_0 : decode cX8_isBetterWithout 0 = .ok (.aload_n 0, 1) := by decide +kernel
theorem dX8_isBetterWithout_1 : decode cX8_isBetterWithout 1 = .ok (.iload_n 1, 1) := by decide +kernel
theorem dX8_isBetterWithout_2 : decode cX8_isBetterWithout 2 = .ok (.iload_n 2, 1) := by decide +kernel
theorem dX8_isBetterWithout_3 : decode cX8_isBetterWithout 3 = .ok (.invokevirtual 205, 3) := by decide +kernel
theorem dX8_isBetterWithout_6 : decode cX8_isBetterWithout 6 = .ok (.aload_n 0, 1) := by decide +kernel
theorem dX8_isBetterWithout_7 : decode cX8_isBetterWithout 7 = .ok (.aload_n 0, 1) := by decide +kernel
theorem dX8_isBetterWithout_8 : decode cX8_isBetterWithout 8 = .ok (.getfield 10, 3) := by decide +kernel
theorem dX8_isBetterWithout_11 : decode cX8_isBetterWithout 11 = .ok (.getfield 104, 3) := by decide +kernel
theorem dX8_isBetterWithout_14 : decode cX8_isBetterWithout 14 = .ok (.iload_n 1, 1) := by decide +kernel
theorem dX8_isBetterWithout_15 : decode cX8_isBetterWithout 15 = .ok (.iaload, 1) := by decide +kernel
theorem dX8_isBetterWithout_16 : decode cX8_isBetterWithout 16 = .ok (.iload_n 2, 1) := by decide +kernel
theorem dX8_isBetterWithout_17 : decode cX8_isBetterWithout 17 = .ok (.invokevirtual 202, 3) := by decide +kernel
theorem dX8_isBetterWithout_20 : decode cX8_isBetterWithout 20 = .ok (.if_icmp .le 7, 3) := by decide +kernel
theorem dX8_isBetterWithout_23 : decode cX8_isBetterWithout 23 = .ok (.iconst 1, 1) := by decide +kernel
theorem dX8_isBetterWithout_24 : decode cX8_isBetterWithout 24 = .ok (.goto 4, 3) := by decide +kernel
theorem dX8_isBetterWithout_27 : decode cX8_isBetterWithout 27 = .ok (.iconst 0, 1) := by decide +kernel
theorem dX8_isBetterWithout_28 : decode cX8_isBetterWithout 28 = .ok (.ireturn, 1) := by decide +kernel
theorem dX8_errs_0 : decode cX8_errs 0 = .ok (.aload_n 0, 1) := by decide +kernel
theorem dX8_errs_1 : decode cX8_errs 1 = .ok (.iload_n 1, 1) := by decide +kernel
theorem dX8_errs_2 : decode cX8_errs 2 = .ok (.invokevirtual 107, 3) := by decide +kernel
theorem dX8_errs_5 : decode cX8_errs 5 = .ok (.iload_n 2, 1) := by decide +kernel
theorem dX8_errs_6 : decode cX8_errs 6 = .ok (.ifCond .lt 13, 3) := by decide +kernel
theorem dX8_errs_9 : decode cX8_errs 9 = .ok (.iload 4, 2) := by decide +kernel
theorem dX8_errs_11 : decode cX8_errs 11 = .ok (.ifCond .lt 8, 3) := by decide +kernel
theorem dX8_errs_14 : decode cX8_errs 14 = .ok (.iload_n 3, 1) := by decide +kernel
theorem dX8_errs_15 : decode cX8_errs 15 = .ok (.iconst 2, 1) := by decide +kernel
theorem dX8_errs_16 : decode cX8_errs 16 = .ok (.if_icmp .ge 8, 3) := by decide +kernel
theorem dX8_errs_19 : decode cX8_errs 19 = .ok (.bipush (-4), 2) := by decide +kernel
theorem dX8_errs_21 : decode cX8_errs 21 = .ok (.goto 4, 3) := by decide +kernel
theorem dX8_errs_24 : decode cX8_errs 24 = .ok (.iconst 0, 1) := by decide +kernel
theorem dX8_errs_25 : decode cX8_errs 25 = .ok (.iload_n 2, 1) := by decide +kernel
theorem dX8_errs_26 : decode cX8_errs 26 = .ok (.bipush 7, 2) := by decide +kernel
theorem dX8_errs_28 : decode cX8_errs 28 = .ok (.if_icmp .gt 16, 3) := by decide +kernel
theorem dX8_errs_31 : decode cX8_errs 31 = .ok (.iload_n 3, 1) := by decide +kernel
theorem dX8_errs_32 : decode cX8_errs 32 = .ok (.bipush 20, 2) := by decide +kernel
theorem dX8_errs_34 : decode cX8_errs 34 = .ok (.if_icmp .gt 10, 3) := by decide +kernel
theorem dX8_errs_37 : decode cX8_errs 37 = .ok (.iload 4, 2) := by decide +kernel
theorem dX8_errs_39 : decode cX8_errs 39 = .ok (.bipush 99, 2) := by decide +kernel
theorem dX8_errs_41 : decode cX8_errs 41 = .ok (.if_icmp .le 8, 3) := by decide +kernel
theorem dX8_errs_44 : decode cX8_errs 44 = .ok (.bipush (-6), 2) := by decide +kernel
theorem dX8_errs_46 : decode cX8_errs 46 = .ok (.goto 4, 3) := by decide +kernel
theorem dX8_errs_49 : decode cX8_errs 49 = .ok (.iconst 0, 1) := by decide +kernel
theorem dX8_errs_50 : decode cX8_errs 50 = .ok (.iload 5, 2) := by decide +kernel
theorem dX8_errs_52 : decode cX8_errs 52 = .ok (.iconst 1, 1) := by decide +kernel
theorem dX8_errs_53 : decode cX8_errs 53 = .ok (.invokestatic 86, 3) := by decide +kernel
theorem dX8_errs_56 : decode cX8_errs 56 = .ok (.invokestatic 51, 3) := by decide +kernel
theorem dX8_errs_59 : decode cX8_errs 59 = .ok (.invokestatic 135, 3) := by decide +kernel
theorem dX8_errs_62 : decode cX8_errs 62 = .ok (.istore 6, 2) := by decide +kernel
theorem dX8_errs_64 : decode cX8_errs 64 = .ok (.iload 6, 2) := by decide +kernel
theorem dX8_errs_66 : decode cX8_errs 66 = .ok (.ifCond .eq 10, 3) := by decide +kernel
theorem dX8_errs_69 : decode cX8_errs 69 = .ok (.aload_n 0, 1) := by decide +kernel
theorem dX8_errs_70 : decode cX8_errs 70 = .ok (.iload 6, 2) := by decide +kernel
theorem dX8_errs_72 : decode cX8_errs 72 = .ok (.invokevirtual 211, 3) := by decide +kernel
theorem dX8_errs_75 : decode cX8_errs 75 = .ok (.lreturn, 1) := by decide +kernel
theorem dX8_errs_76 : decode cX8_errs 76 = .ok (.lconst 0, 1) := by decide +kernel
theorem dX8_errs_77 : decode cX8_errs 77 = .ok (.lstore 7, 2) := by decide +kernel
theorem dX8_errs_79 : decode cX8_errs 79 = .ok (.iconst 0, 1) := by decide +kernel
theorem dX8_errs_80 : decode cX8_errs 80 = .ok (.istore 9, 2) := by decide +kernel
theorem dX8_errs_82 : decode cX8_errs 82 = .ok (.iload 9, 2) := by decide +kernel
theorem dX8_errs_84 : decode cX8_errs 84 = .ok (.iconst 1, 1) := by decide +kernel
theorem dX8_errs_85 : decode cX8_errs 85 = .ok (.iload_n 2, 1) := by decide +kernel
theorem dX8_errs_86 : decode cX8_errs 86 = .ok (.ishl, 1) := by decide +kernel
theorem dX8_errs_87 : decode cX8_errs 87 = .ok (.if_icmp .ge 40, 3) := by decide +kernel
theorem dX8_errs_90 : decode cX8_errs 90 = .ok (.aload_n 0, 1) := by decide +kernel
theorem dX8_errs_91 : decode cX8_errs 91 = .ok (.iload_n 1, 1) := by decide +kernel
theorem dX8_errs_92 : decode cX8_errs 92 = .ok (.iload_n 2, 1) := by decide +kernel
theorem dX8_errs_93 : decode cX8_errs 93 = .ok (.iload 9, 2) := by decide +kernel
theorem dX8_errs_95 : decode cX8_errs 95 = .ok (.invokevirtual 215, 3) := by decide +kernel
theorem dX8_errs_98 : decode cX8_errs 98 = .ok (.iload 4, 2) := by decide +kernel
theorem dX8_errs_100 : decode cX8_errs 100 = .ok (.if_icmp .lt 21, 3) := by decide +kernel
theorem dX8_errs_103 : decode cX8_errs 103 = .ok (.lload 7, 2) := by decide +kernel
theorem dX8_errs_105 : decode cX8_errs 105 = .ok (.iload_n 3, 1) := by decide +kernel
theorem dX8_errs_106 : decode cX8_errs 106 = .ok (.iconst 1, 1) := by decide +kernel
theorem dX8_errs_107 : decode cX8_errs 107 = .ok (.isub, 1) := by decide +kernel
theorem dX8_errs_108 : decode cX8_errs 108 = .ok (.iload_n 2, 1) := by decide +kernel
theorem dX8_errs_109 : decode cX8_errs 109 = .ok (.iload 9, 2) := by decide +kernel
theorem dX8_errs_111 : decode cX8_errs 111 = .ok (.invokestatic 193, 3) := by decide +kernel
theorem dX8_errs_114 : decode cX8_errs 114 = .ok (.isub, 1) := by decide +kernel
theorem dX8_errs_115 : decode cX8_errs 115 = .ok (.invokestatic 218, 3) := by decide +kernel
theorem dX8_errs_118 : decode cX8_errs 118 = .ok (.ladd, 1) := by decide +kernel
theorem dX8_errs_119 : decode cX8_errs 119 = .ok (.lstore 7, 2) := by decide +kernel
theorem dX8_errs_121 : decode cX8_errs 121 = .ok (.iinc 9 1, 3) := by decide +kernel
theorem dX8_errs_124 : decode cX8_errs 124 = .ok (.goto (-42), 3) := by decide +kernel
theorem dX8_errs_127 : decode cX8_errs 127 = .ok (.lload 7, 2) := by decide +kernel
theorem dX8_errs_129 : decode cX8_errs 129 = .ok (.iload_n 3, 1) := by decide +kernel
theorem dX8_errs_130 : decode cX8_errs 130 = .ok (.iload_n 2, 1) := by decide +kernel
theorem dX8_errs_131 : decode cX8_errs 131 = .ok (.invokestatic 218, 3) := by decide +kernel
theorem dX8_errs_134 : decode cX8_errs 134 = .ok (.iload 5, 2) := by decide +kernel
theorem dX8_errs_136 : decode cX8_errs 136 = .ok (.invokestatic 222, 3) := by decide +kernel
theorem dX8_errs_139 : decode cX8_errs 139 = .ok (.lreturn, 1) := by decide +kernel
theorem dX8_graceIfErring_0 : decode cX8_graceIfErring 0 = .ok (.aload_n 0, 1) := by decide +kernel
theorem dX8_graceIfErring_1 : decode cX8_graceIfErring 1 = .ok (.getfield 16, 3) := by decide +kernel
theorem dX8_graceIfErring_4 : decode cX8_graceIfErring 4 = .ok (.aload_n 0, 1) := by decide +kernel
theorem dX8_graceIfErring_5 : decode cX8_graceIfErring 5 = .ok (.getfield 10, 3) := by decide +kernel
theorem dX8_graceIfErring_8 : decode cX8_graceIfErring 8 = .ok (.invokevirtual 67, 3) := by decide +kernel
theorem dX8_graceIfErring_11 : decode cX8_graceIfErring 11 = .ok (.iconst 0, 1) := by decide +kernel
theorem dX8_graceIfErring_12 : decode cX8_graceIfErring 12 = .ok (.istore 4, 2) := by decide +kernel
theorem dX8_graceIfErring_14 : decode cX8_graceIfErring 14 = .ok (.iload 4, 2) := by decide +kernel
theorem dX8_graceIfErring_16 : decode cX8_graceIfErring 16 = .ok (.iload_n 2, 1) := by decide +kernel
theorem dX8_graceIfErring_17 : decode cX8_graceIfErring 17 = .ok (.if_icmp .ge 35, 3) := by decide +kernel
theorem dX8_graceIfErring_20 : decode cX8_graceIfErring 20 = .ok (.iload_n 3, 1) := by decide +kernel
theorem dX8_graceIfErring_21 : decode cX8_graceIfErring 21 = .ok (.iload 4, 2) := by decide +kernel
theorem dX8_graceIfErring_23 : decode cX8_graceIfErring 23 = .ok (.ishr, 1) := by decide +kernel
theorem dX8_graceIfErring_24 : decode cX8_graceIfErring 24 = .ok (.iconst 1, 1) := by decide +kernel
theorem dX8_graceIfErring_25 : decode cX8_graceIfErring 25 = .ok (.iand, 1) := by decide +kernel
theorem dX8_graceIfErring_26 : decode cX8_graceIfErring 26 = .ok (.iconst 1, 1) := by decide +kernel
theorem dX8_graceIfErring_27 : decode cX8_graceIfErring 27 = .ok (.if_icmp .ne 10, 3) := by decide +kernel
theorem dX8_graceIfErring_30 : decode cX8_graceIfErring 30 = .ok (.aload_n 0, 1) := by decide +kernel
theorem dX8_graceIfErring_31 : decode cX8_graceIfErring 31 = .ok (.getfield 16, 3) := by decide +kernel
theorem dX8_graceIfErring_34 : decode cX8_graceIfErring 34 = .ok (.invokevirtual 226, 3) := by decide +kernel
theorem dX8_graceIfErring_37 : decode cX8_graceIfErring 37 = .ok (.aload_n 0, 1) := by decide +kernel
theorem dX8_graceIfErring_38 : decode cX8_graceIfErring 38 = .ok (.getfield 16, 3) := by decide +kernel
theorem dX8_graceIfErring_41 : decode cX8_graceIfErring 41 = .ok (.iload_n 1, 1) := by decide +kernel
theorem dX8_graceIfErring_42 : decode cX8_graceIfErring 42 = .ok (.iconst 1, 1) := by decide +kernel
theorem dX8_graceIfErring_43 : decode cX8_graceIfErring 43 = .ok (.invokevirtual 146, 3) := by decide +kernel
theorem dX8_graceIfErring_46 : decode cX8_graceIfErring 46 = .ok (.iinc 4 1, 3) := by decide +kernel
theorem dX8_graceIfErring_49 : decode cX8_graceIfErring 49 = .ok (.goto (-35), 3) := by decide +kernel
theorem dX8_graceIfErring_52 : decode cX8_graceIfErring 52 = .ok (.aload_n 0, 1) := by decide +kernel
theorem dX8_graceIfErring_53 : decode cX8_graceIfErring 53 = .ok (.getfield 16, 3) := by decide +kernel
theorem dX8_graceIfErring_56 : decode cX8_graceIfErring 56 = .ok (.getfield 113, 3) := by decide +kernel
theorem dX8_graceIfErring_59 : decode cX8_graceIfErring 59 = .ok (.iload_n 1, 1) := by decide +kernel
theorem dX8_graceIfErring_60 : decode cX8_graceIfErring 60 = .ok (.iaload, 1) := by decide +kernel
theorem dX8_graceIfErring_61 : decode cX8_graceIfErring 61 = .ok (.ireturn, 1) := by decide +kernel
theorem dX8_mean_0 : decode cX8_mean 0 = .ok (.iload_n 1, 1) := by decide +kernel
theorem dX8_mean_1 : decode cX8_mean 1 = .ok (.iconst 1, 1) := by decide +kernel
theorem dX8_mean_2 : decode cX8_mean 2 = .ok (.invokestatic 86, 3) := by decide +kernel
theorem dX8_mean_5 : decode cX8_mean 5 = .ok (.istore_n 2, 1) := by decide +kernel
theorem dX8_mean_6 : decode cX8_mean 6 = .ok (.iload_n 2, 1) := by decide +kernel
theorem dX8_mean_7 : decode cX8_mean 7 = .ok (.ifCond .eq 9, 3) := by decide +kernel
theorem dX8_mean_10 : decode cX8_mean 10 = .ok (.aload_n 0, 1) := by decide +kernel
theorem dX8_mean_11 : decode cX8_mean 11 = .ok (.iload_n 2, 1) := by decide +kernel
theorem dX8_mean_12 : decode cX8_mean 12 = .ok (.invokevirtual 211, 3) := by decide +kernel
theorem dX8_mean_15 : decode cX8_mean 15 = .ok (.lreturn, 1) := by decide +kernel
theorem dX8_mean_16 : decode cX8_mean 16 = .ok (.aload_n 0, 1) := by decide +kernel
theorem dX8_mean_17 : decode cX8_mean 17 = .ok (.getfield 10, 3) := by decide +kernel
theorem dX8_mean_20 : decode cX8_mean 20 = .ok (.invokevirtual 143, 3) := by decide +kernel
theorem dX8_mean_23 : decode cX8_mean 23 = .ok (.i2l, 1) := by decide +kernel
theorem dX8_mean_24 : decode cX8_mean 24 = .ok (.iconst 1, 1) := by decide +kernel
theorem dX8_mean_25 : decode cX8_mean 25 = .ok (.aload_n 0, 1) := by decide +kernel
theorem dX8_mean_26 : decode cX8_mean 26 = .ok (.getfield 10, 3) := by decide +kernel
theorem dX8_mean_29 : decode cX8_mean 29 = .ok (.getfield 156, 3) := by decide +kernel
theorem dX8_mean_32 : decode cX8_mean 32 = .ok (.invokestatic 78, 3) := by decide +kernel
theorem dX8_mean_35 : decode cX8_mean 35 = .ok (.i2l, 1) := by decide +kernel
theorem dX8_mean_36 : decode cX8_mean 36 = .ok (.iload_n 1, 1) := by decide +kernel
theorem dX8_mean_37 : decode cX8_mean 37 = .ok (.invokestatic 222, 3) := by decide +kernel
theorem dX8_mean_40 : decode cX8_mean 40 = .ok (.lreturn, 1) := by decide +kernel
theorem dX8_whatIn_0 : decode cX8_whatIn 0 = .ok (.aload_n 0, 1) := by decide +kernel
theorem dX8_whatIn_1 : decode cX8_whatIn 1 = .ok (.iload_n 1, 1) := by decide +kernel
theorem dX8_whatIn_2 : decode cX8_whatIn 2 = .ok (.invokevirtual 83, 3) := by decide +kernel
theorem dX8_whatIn_5 : decode cX8_whatIn 5 = .ok (.iload_n 2, 1) := by decide +kernel
theorem dX8_whatIn_6 : decode cX8_whatIn 6 = .ok (.iconst 1, 1) := by decide +kernel
theorem dX8_whatIn_7 : decode cX8_whatIn 7 = .ok (.invokestatic 86, 3) := by decide +kernel
theorem dX8_whatIn_10 : decode cX8_whatIn 10 = .ok (.invokestatic 51, 3) := by decide +kernel
theorem dX8_whatIn_13 : decode cX8_whatIn 13 = .ok (.istore_n 3, 1) := by decide +kernel
theorem dX8_whatIn_14 : decode cX8_whatIn 14 = .ok (.iload_n 3, 1) := by decide +kernel
theorem dX8_whatIn_15 : decode cX8_whatIn 15 = .ok (.ifCond .eq 9, 3) := by decide +kernel
theorem dX8_whatIn_18 : decode cX8_whatIn 18 = .ok (.aload_n 0, 1) := by decide +kernel
theorem dX8_whatIn_19 : decode cX8_whatIn 19 = .ok (.iload_n 3, 1) := by decide +kernel
theorem dX8_whatIn_20 : decode cX8_whatIn 20 = .ok (.invokevirtual 55, 3) := by decide +kernel
theorem dX8_whatIn_23 : decode cX8_whatIn 23 = .ok (.ireturn, 1) := by decide +kernel
theorem dX8_whatIn_24 : decode cX8_whatIn 24 = .ok (.iload_n 2, 1) := by decide +kernel
theorem dX8_whatIn_25 : decode cX8_whatIn 25 = .ok (.ifCond .ne 8, 3) := by decide +kernel
theorem dX8_whatIn_28 : decode cX8_whatIn 28 = .ok (.bipush 6, 2) := by decide +kernel
theorem dX8_whatIn_30 : decode cX8_whatIn 30 = .ok (.goto 5, 3) := by decide +kernel
theorem dX8_whatIn_33 : decode cX8_whatIn 33 = .ok (.bipush 6, 2) := by decide +kernel
theorem dX8_whatIn_35 : decode cX8_whatIn 35 = .ok (.istore 4, 2) := by decide +kernel
theorem dX8_whatIn_37 : decode cX8_whatIn 37 = .ok (.iconst 0, 1) := by decide +kernel
theorem dX8_whatIn_38 : decode cX8_whatIn 38 = .ok (.istore 5, 2) := by decide +kernel
theorem dX8_whatIn_40 : decode cX8_whatIn 40 = .ok (.iconst 0, 1) := by decide +kernel
theorem dX8_whatIn_41 : decode cX8_whatIn 41 = .ok (.istore 6, 2) := by decide +kernel
theorem dX8_whatIn_43 : decode cX8_whatIn 43 = .ok (.iload 6, 2) := by decide +kernel
theorem dX8_whatIn_45 : decode cX8_whatIn 45 = .ok (.iload 4, 2) := by decide +kernel
theorem dX8_whatIn_47 : decode cX8_whatIn 47 = .ok (.if_icmp .ge 74, 3) := by decide +kernel
theorem dX8_whatIn_50 : decode cX8_whatIn 50 = .ok (.aload_n 0, 1) := by decide +kernel
theorem dX8_whatIn_51 : decode cX8_whatIn 51 = .ok (.getfield 16, 3) := by decide +kernel
theorem dX8_whatIn_54 : decode cX8_whatIn 54 = .ok (.aload_n 0, 1) := by decide +kernel
theorem dX8_whatIn_55 : decode cX8_whatIn 55 = .ok (.getfield 10, 3) := by decide +kernel
theorem dX8_whatIn_58 : decode cX8_whatIn 58 = .ok (.invokevirtual 67, 3) := by decide +kernel
theorem dX8_whatIn_61 : decode cX8_whatIn 61 = .ok (.iload_n 2, 1) := by decide +kernel
theorem dX8_whatIn_62 : decode cX8_whatIn 62 = .ok (.ifCond .ne 17, 3) := by decide +kernel
theorem dX8_whatIn_65 : decode cX8_whatIn 65 = .ok (.aload_n 0, 1) := by decide +kernel
theorem dX8_whatIn_66 : decode cX8_whatIn 66 = .ok (.getfield 16, 3) := by decide +kernel
theorem dX8_whatIn_69 : decode cX8_whatIn 69 = .ok (.getfield 95, 3) := by decide +kernel
theorem dX8_whatIn_72 : decode cX8_whatIn 72 = .ok (.iload_n 1, 1) := by decide +kernel
theorem dX8_whatIn_73 : decode cX8_whatIn 73 = .ok (.iload 6, 2) := by decide +kernel
theorem dX8_whatIn_75 : decode cX8_whatIn 75 = .ok (.iastore, 1) := by decide +kernel
theorem dX8_whatIn_76 : decode cX8_whatIn 76 = .ok (.goto 14, 3) := by decide +kernel
theorem dX8_whatIn_79 : decode cX8_whatIn 79 = .ok (.aload_n 0, 1) := by decide +kernel
theorem dX8_whatIn_80 : decode cX8_whatIn 80 = .ok (.getfield 16, 3) := by decide +kernel
theorem dX8_whatIn_83 : decode cX8_whatIn 83 = .ok (.getfield 89, 3) := by decide +kernel
theorem dX8_whatIn_86 : decode cX8_whatIn 86 = .ok (.iload_n 1, 1) := by decide +kernel
theorem dX8_whatIn_87 : decode cX8_whatIn 87 = .ok (.iload 6, 2) := by decide +kernel
theorem dX8_whatIn_89 : decode cX8_whatIn 89 = .ok (.iastore, 1) := by decide +kernel
theorem dX8_whatIn_90 : decode cX8_whatIn 90 = .ok (.aload_n 0, 1) := by decide +kernel
theorem dX8_whatIn_91 : decode cX8_whatIn 91 = .ok (.aload_n 0, 1) := by decide +kernel
theorem dX8_whatIn_92 : decode cX8_whatIn 92 = .ok (.getfield 16, 3) := by decide +kernel
theorem dX8_whatIn_95 : decode cX8_whatIn 95 = .ok (.getfield 104, 3) := by decide +kernel
theorem dX8_whatIn_98 : decode cX8_whatIn 98 = .ok (.iload_n 1, 1) := by decide +kernel
theorem dX8_whatIn_99 : decode cX8_whatIn 99 = .ok (.iaload, 1) := by decide +kernel
theorem dX8_whatIn_100 : decode cX8_whatIn 100 = .ok (.invokevirtual 229, 3) := by decide +kernel
theorem dX8_whatIn_103 : decode cX8_whatIn 103 = .ok (.ifCond .eq 12, 3) := by decide +kernel
theorem dX8_whatIn_106 : decode cX8_whatIn 106 = .ok (.iload 5, 2) := by decide +kernel
theorem dX8_whatIn_108 : decode cX8_whatIn 108 = .ok (.iconst 1, 1) := by decide +kernel
theorem dX8_whatIn_109 : decode cX8_whatIn 109 = .ok (.iload 6, 2) := by decide +kernel
theorem dX8_whatIn_111 : decode cX8_whatIn 111 = .ok (.ishl, 1) := by decide +kernel
theorem dX8_whatIn_112 : decode cX8_whatIn 112 = .ok (.ior, 1) := by decide +kernel
theorem dX8_whatIn_113 : decode cX8_whatIn 113 = .ok (.istore 5, 2) := by decide +kernel
theorem dX8_whatIn_115 : decode cX8_whatIn 115 = .ok (.iinc 6 1, 3) := by decide +kernel
theorem dX8_whatIn_118 : decode cX8_whatIn 118 = .ok (.goto (-75), 3) := by decide +kernel
theorem dX8_whatIn_121 : decode cX8_whatIn 121 = .ok (.iload 5, 2) := by decide +kernel
theorem dX8_whatIn_123 : decode cX8_whatIn 123 = .ok (.ireturn, 1) := by decide +kernel
theorem dX8_goesAsRow_0 : decode cX8_goesAsRow 0 = .ok (.iconst 0, 1) := by decide +kernel
theorem dX8_goesAsRow_1 : decode cX8_goesAsRow 1 = .ok (.istore_n 2, 1) := by decide +kernel
theorem dX8_goesAsRow_2 : decode cX8_goesAsRow 2 = .ok (.iload_n 2, 1) := by decide +kernel
theorem dX8_goesAsRow_3 : decode cX8_goesAsRow 3 = .ok (.aload_n 0, 1) := by decide +kernel
theorem dX8_goesAsRow_4 : decode cX8_goesAsRow 4 = .ok (.getfield 37, 3) := by decide +kernel
theorem dX8_goesAsRow_7 : decode cX8_goesAsRow 7 = .ok (.if_icmp .ge 38, 3) := by decide +kernel
theorem dX8_goesAsRow_10 : decode cX8_goesAsRow 10 = .ok (.aload_n 0, 1) := by decide +kernel
theorem dX8_goesAsRow_11 : decode cX8_goesAsRow 11 = .ok (.getfield 16, 3) := by decide +kernel
theorem dX8_goesAsRow_14 : decode cX8_goesAsRow 14 = .ok (.getfield 113, 3) := by decide +kernel
theorem dX8_goesAsRow_17 : decode cX8_goesAsRow 17 = .ok (.iload_n 1, 1) := by decide +kernel
theorem dX8_goesAsRow_18 : decode cX8_goesAsRow 18 = .ok (.iaload, 1) := by decide +kernel
theorem dX8_goesAsRow_19 : decode cX8_goesAsRow 19 = .ok (.aload_n 0, 1) := by decide +kernel
theorem dX8_goesAsRow_20 : decode cX8_goesAsRow 20 = .ok (.getfield 33, 3) := by decide +kernel
theorem dX8_goesAsRow_23 : decode cX8_goesAsRow 23 = .ok (.iload_n 2, 1) := by decide +kernel
theorem dX8_goesAsRow_24 : decode cX8_goesAsRow 24 = .ok (.iaload, 1) := by decide +kernel
theorem dX8_goesAsRow_25 : decode cX8_goesAsRow 25 = .ok (.if_icmp .eq 5, 3) := by decide +kernel
theorem dX8_goesAsRow_28 : decode cX8_goesAsRow 28 = .ok (.iconst 0, 1) := by decide +kernel
theorem dX8_goesAsRow_29 : decode cX8_goesAsRow 29 = .ok (.ireturn, 1) := by decide +kernel
theorem dX8_goesAsRow_30 : decode cX8_goesAsRow 30 = .ok (.aload_n 0, 1) := by decide +kernel
theorem dX8_goesAsRow_31 : decode cX8_goesAsRow 31 = .ok (.getfield 16, 3) := by decide +kernel
theorem dX8_goesAsRow_34 : decode cX8_goesAsRow 34 = .ok (.iload_n 1, 1) := by decide +kernel
theorem dX8_goesAsRow_35 : decode cX8_goesAsRow 35 = .ok (.iconst 1, 1) := by decide +kernel
theorem dX8_goesAsRow_36 : decode cX8_goesAsRow 36 = .ok (.invokevirtual 146, 3) := by decide +kernel
theorem dX8_goesAsRow_39 : decode cX8_goesAsRow 39 = .ok (.iinc 2 1, 3) := by decide +kernel
theorem dX8_goesAsRow_42 : decode cX8_goesAsRow 42 = .ok (.goto (-40), 3) := by decide +kernel
theorem dX8_goesAsRow_45 : decode cX8_goesAsRow 45 = .ok (.iconst 1, 1) := by decide +kernel
theorem dX8_goesAsRow_46 : decode cX8_goesAsRow 46 = .ok (.ireturn, 1) := by decide +kernel
theorem dX8_row_0 : decode cX8_row 0 = .ok (.iload_n 1, 1) := by decide +kernel
theorem dX8_row_1 : decode cX8_row 1 = .ok (.iconst 0, 1) := by decide +kernel
theorem dX8_row_2 : decode cX8_row 2 = .ok (.bipush 99, 2) := by decide +kernel
theorem dX8_row_4 : decode cX8_row 4 = .ok (.invokestatic 44, 3) := by decide +kernel
theorem dX8_row_7 : decode cX8_row 7 = .ok (.aload_n 0, 1) := by decide +kernel
theorem dX8_row_8 : decode cX8_row 8 = .ok (.getfield 37, 3) := by decide +kernel
theorem dX8_row_11 : decode cX8_row 11 = .ok (.bipush 16, 2) := by decide +kernel
theorem dX8_row_13 : decode cX8_row 13 = .ok (.if_icmp .ge 7, 3) := by decide +kernel
theorem dX8_row_16 : decode cX8_row 16 = .ok (.iconst 0, 1) := by decide +kernel
theorem dX8_row_17 : decode cX8_row 17 = .ok (.goto 5, 3) := by decide +kernel
theorem dX8_row_20 : decode cX8_row 20 = .ok (.bipush (-6), 2) := by decide +kernel
theorem dX8_row_22 : decode cX8_row 22 = .ok (.invokestatic 51, 3) := by decide +kernel
theorem dX8_row_25 : decode cX8_row 25 = .ok (.istore_n 2, 1) := by decide +kernel
theorem dX8_row_26 : decode cX8_row 26 = .ok (.iload_n 2, 1) := by decide +kernel
theorem dX8_row_27 : decode cX8_row 27 = .ok (.ifCond .eq 9, 3) := by decide +kernel
theorem dX8_row_30 : decode cX8_row 30 = .ok (.aload_n 0, 1) := by decide +kernel
theorem dX8_row_31 : decode cX8_row 31 = .ok (.iload_n 2, 1) := by decide +kernel
theorem dX8_row_32 : decode cX8_row 32 = .ok (.invokevirtual 55, 3) := by decide +kernel
theorem dX8_row_35 : decode cX8_row 35 = .ok (.ireturn, 1) := by decide +kernel
theorem dX8_row_36 : decode cX8_row 36 = .ok (.aload_n 0, 1) := by decide +kernel
theorem dX8_row_37 : decode cX8_row 37 = .ok (.getfield 33, 3) := by decide +kernel
theorem dX8_row_40 : decode cX8_row 40 = .ok (.aload_n 0, 1) := by decide +kernel
theorem dX8_row_41 : decode cX8_row 41 = .ok (.getfield 37, 3) := by decide +kernel
theorem dX8_row_44 : decode cX8_row 44 = .ok (.iload_n 1, 1) := by decide +kernel
theorem dX8_row_45 : decode cX8_row 45 = .ok (.iastore, 1) := by decide +kernel
theorem dX8_row_46 : decode cX8_row 46 = .ok (.aload_n 0, 1) := by decide +kernel
theorem dX8_row_47 : decode cX8_row 47 = .ok (.dup, 1) := by decide +kernel
theorem dX8_row_48 : decode cX8_row 48 = .ok (.getfield 37, 3) := by decide +kernel
theorem dX8_row_51 : decode cX8_row 51 = .ok (.iconst 1, 1) := by decide +kernel
theorem dX8_row_52 : decode cX8_row 52 = .ok (.iadd, 1) := by decide +kernel
theorem dX8_row_53 : decode cX8_row 53 = .ok (.putfield 37, 3) := by decide +kernel
theorem dX8_row_56 : decode cX8_row 56 = .ok (.aload_n 0, 1) := by decide +kernel
theorem dX8_row_57 : decode cX8_row 57 = .ok (.getfield 37, 3) := by decide +kernel
theorem dX8_row_60 : decode cX8_row 60 = .ok (.ireturn, 1) := by decide +kernel
theorem dX8_judge_0 : decode cX8_judge 0 = .ok (.bipush (-9), 2) := by decide +kernel
theorem dX8_judge_2 : decode cX8_judge 2 = .ok (.istore_n 1, 1) := by decide +kernel
theorem dX8_judge_3 : decode cX8_judge 3 = .ok (.iconst 0, 1) := by decide +kernel
theorem dX8_judge_4 : decode cX8_judge 4 = .ok (.istore_n 2, 1) := by decide +kernel
theorem dX8_judge_5 : decode cX8_judge 5 = .ok (.iload_n 2, 1) := by decide +kernel
theorem dX8_judge_6 : decode cX8_judge 6 = .ok (.aload_n 0, 1) := by decide +kernel
theorem dX8_judge_7 : decode cX8_judge 7 = .ok (.getfield 37, 3) := by decide +kernel
theorem dX8_judge_10 : decode cX8_judge 10 = .ok (.if_icmp .ge 46, 3) := by decide +kernel
theorem dX8_judge_13 : decode cX8_judge 13 = .ok (.iload_n 1, 1) := by decide +kernel
theorem dX8_judge_14 : decode cX8_judge 14 = .ok (.bipush (-9), 2) := by decide +kernel
theorem dX8_judge_16 : decode cX8_judge 16 = .ok (.if_icmp .ne 40, 3) := by decide +kernel
theorem dX8_judge_19 : decode cX8_judge 19 = .ok (.aload_n 0, 1) := by decide +kernel
theorem dX8_judge_20 : decode cX8_judge 20 = .ok (.getfield 10, 3) := by decide +kernel
theorem dX8_judge_23 : decode cX8_judge 23 = .ok (.iload_n 2, 1) := by decide +kernel
theorem dX8_judge_24 : decode cX8_judge 24 = .ok (.invokevirtual 232, 3) := by decide +kernel
theorem dX8_judge_27 : decode cX8_judge 27 = .ok (.ifCond .eq 21, 3) := by decide +kernel
theorem dX8_judge_30 : decode cX8_judge 30 = .ok (.aload_n 0, 1) := by decide +kernel
theorem dX8_judge_31 : decode cX8_judge 31 = .ok (.getfield 10, 3) := by decide +kernel
theorem dX8_judge_34 : decode cX8_judge 34 = .ok (.getfield 98, 3) := by decide +kernel
theorem dX8_judge_37 : decode cX8_judge 37 = .ok (.iload_n 2, 1) := by decide +kernel
theorem dX8_judge_38 : decode cX8_judge 38 = .ok (.iaload, 1) := by decide +kernel
theorem dX8_judge_39 : decode cX8_judge 39 = .ok (.aload_n 0, 1) := by decide +kernel
theorem dX8_judge_40 : decode cX8_judge 40 = .ok (.getfield 33, 3) := by decide +kernel
theorem dX8_judge_43 : decode cX8_judge 43 = .ok (.iload_n 2, 1) := by decide +kernel
theorem dX8_judge_44 : decode cX8_judge 44 = .ok (.iaload, 1) := by decide +kernel
theorem dX8_judge_45 : decode cX8_judge 45 = .ok (.if_icmp .eq 5, 3) := by decide +kernel
theorem dX8_judge_48 : decode cX8_judge 48 = .ok (.iload_n 2, 1) := by decide +kernel
theorem dX8_judge_49 : decode cX8_judge 49 = .ok (.istore_n 1, 1) := by decide +kernel
theorem dX8_judge_50 : decode cX8_judge 50 = .ok (.iinc 2 1, 3) := by decide +kernel
theorem dX8_judge_53 : decode cX8_judge 53 = .ok (.goto (-48), 3) := by decide +kernel
theorem dX8_judge_56 : decode cX8_judge 56 = .ok (.aload_n 0, 1) := by decide +kernel
theorem dX8_judge_57 : decode cX8_judge 57 = .ok (.iconst 0, 1) := by decide +kernel
theorem dX8_judge_58 : decode cX8_judge 58 = .ok (.putfield 37, 3) := by decide +kernel
theorem dX8_judge_61 : decode cX8_judge 61 = .ok (.iload_n 1, 1) := by decide +kernel
theorem dX8_judge_62 : decode cX8_judge 62 = .ok (.ireturn, 1) := by decide +kernel
theorem dX8_clear_0 : decode cX8_clear 0 = .ok (.aload_n 0, 1) := by decide +kernel
theorem dX8_clear_1 : decode cX8_clear 1 = .ok (.getfield 37, 3) := by decide +kernel
theorem dX8_clear_4 : decode cX8_clear 4 = .ok (.istore_n 1, 1) := by decide +kernel
theorem dX8_clear_5 : decode cX8_clear 5 = .ok (.aload_n 0, 1) := by decide +kernel
theorem dX8_clear_6 : decode cX8_clear 6 = .ok (.iconst 0, 1) := by decide +kernel
theorem dX8_clear_7 : decode cX8_clear 7 = .ok (.putfield 37, 3) := by decide +kernel
theorem dX8_clear_10 : decode cX8_clear 10 = .ok (.iload_n 1, 1) := by decide +kernel
theorem dX8_clear_11 : decode cX8_clear 11 = .ok (.ireturn, 1) := by decide +kernel
theorem dX8_lots_0 : decode cX8_lots 0 = .ok (.iload_n 1, 1) := by decide +kernel
theorem dX8_lots_1 : decode cX8_lots 1 = .ok (.iconst 1, 1) := by decide +kernel
theorem dX8_lots_2 : decode cX8_lots 2 = .ok (.bipush 20, 2) := by decide +kernel
theorem dX8_lots_4 : decode cX8_lots 4 = .ok (.invokestatic 44, 3) := by decide +kernel
theorem dX8_lots_7 : decode cX8_lots 7 = .ok (.iload_n 3, 1) := by decide +kernel
theorem dX8_lots_8 : decode cX8_lots 8 = .ok (.iconst 1, 1) := by decide +kernel
theorem dX8_lots_9 : decode cX8_lots 9 = .ok (.invokestatic 86, 3) := by decide +kernel
theorem dX8_lots_12 : decode cX8_lots 12 = .ok (.invokestatic 51, 3) := by decide +kernel
theorem dX8_lots_15 : decode cX8_lots 15 = .ok (.istore 4, 2) := by decide +kernel
theorem dX8_lots_17 : decode cX8_lots 17 = .ok (.iload 4, 2) := by decide +kernel
theorem dX8_lots_19 : decode cX8_lots 19 = .ok (.ifCond .eq 10, 3) := by decide +kernel
theorem dX8_lots_22 : decode cX8_lots 22 = .ok (.aload_n 0, 1) := by decide +kernel
theorem dX8_lots_23 : decode cX8_lots 23 = .ok (.iload 4, 2) := by decide +kernel
theorem dX8_lots_25 : decode cX8_lots 25 = .ok (.invokevirtual 55, 3) := by decide +kernel
theorem dX8_lots_28 : decode cX8_lots 28 = .ok (.ireturn, 1) := by decide +kernel
theorem dX8_lots_29 : decode cX8_lots 29 = .ok (.iload_n 2, 1) := by decide +kernel
theorem dX8_lots_30 : decode cX8_lots 30 = .ok (.istore 5, 2) := by decide +kernel
theorem dX8_lots_32 : decode cX8_lots 32 = .ok (.iconst 0, 1) := by decide +kernel
theorem dX8_lots_33 : decode cX8_lots 33 = .ok (.istore 6, 2) := by decide +kernel
theorem dX8_lots_35 : decode cX8_lots 35 = .ok (.iconst 0, 1) := by decide +kernel
theorem dX8_lots_36 : decode cX8_lots 36 = .ok (.istore 7, 2) := by decide +kernel
theorem dX8_lots_38 : decode cX8_lots 38 = .ok (.iconst 0, 1) := by decide +kernel
theorem dX8_lots_39 : decode cX8_lots 39 = .ok (.istore 8, 2) := by decide +kernel
theorem dX8_lots_41 : decode cX8_lots 41 = .ok (.iload 8, 2) := by decide +kernel
theorem dX8_lots_43 : decode cX8_lots 43 = .ok (.iload_n 1, 1) := by decide +kernel
theorem dX8_lots_44 : decode cX8_lots 44 = .ok (.if_icmp .ge 122, 3) := by decide +kernel
theorem dX8_lots_47 : decode cX8_lots 47 = .ok (.aload_n 0, 1) := by decide +kernel
theorem dX8_lots_48 : decode cX8_lots 48 = .ok (.getfield 16, 3) := by decide +kernel
theorem dX8_lots_51 : decode cX8_lots 51 = .ok (.aload_n 0, 1) := by decide +kernel
theorem dX8_lots_52 : decode cX8_lots 52 = .ok (.getfield 10, 3) := by decide +kernel
theorem dX8_lots_55 : decode cX8_lots 55 = .ok (.invokevirtual 67, 3) := by decide +kernel
theorem dX8_lots_58 : decode cX8_lots 58 = .ok (.iconst 0, 1) := by decide +kernel
theorem dX8_lots_59 : decode cX8_lots 59 = .ok (.istore 9, 2) := by decide +kernel
theorem dX8_lots_61 : decode cX8_lots 61 = .ok (.iload 9, 2) := by decide +kernel
theorem dX8_lots_63 : decode cX8_lots 63 = .ok (.aload_n 0, 1) := by decide +kernel
theorem dX8_lots_64 : decode cX8_lots 64 = .ok (.getfield 16, 3) := by decide +kernel
theorem dX8_lots_67 : decode cX8_lots 67 = .ok (.getfield 165, 3) := by decide +kernel
theorem dX8_lots_70 : decode cX8_lots 70 = .ok (.if_icmp .ge 57, 3) := by decide +kernel
theorem dX8_lots_73 : decode cX8_lots 73 = .ok (.iload 5, 2) := by decide +kernel
theorem dX8_lots_75 : decode cX8_lots 75 = .ok (.invokestatic 235, 3) := by decide +kernel
theorem dX8_lots_78 : decode cX8_lots 78 = .ok (.istore 5, 2) := by decide +kernel
theorem dX8_lots_80 : decode cX8_lots 80 = .ok (.aload_n 0, 1) := by decide +kernel
theorem dX8_lots_81 : decode cX8_lots 81 = .ok (.getfield 16, 3) := by decide +kernel
theorem dX8_lots_84 : decode cX8_lots 84 = .ok (.getfield 98, 3) := by decide +kernel
theorem dX8_lots_87 : decode cX8_lots 87 = .ok (.iload 9, 2) := by decide +kernel
theorem dX8_lots_89 : decode cX8_lots 89 = .ok (.iload 5, 2) := by decide +kernel
theorem dX8_lots_91 : decode cX8_lots 91 = .ok (.bipush 7, 2) := by decide +kernel
theorem dX8_lots_93 : decode cX8_lots 93 = .ok (.invokestatic 238, 3) := by decide +kernel
theorem dX8_lots_96 : decode cX8_lots 96 = .ok (.iastore, 1) := by decide +kernel
theorem dX8_lots_97 : decode cX8_lots 97 = .ok (.iload 5, 2) := by decide +kernel
theorem dX8_lots_99 : decode cX8_lots 99 = .ok (.invokestatic 235, 3) := by decide +kernel
theorem dX8_lots_102 : decode cX8_lots 102 = .ok (.istore 5, 2) := by decide +kernel
theorem dX8_lots_104 : decode cX8_lots 104 = .ok (.aload_n 0, 1) := by decide +kernel
theorem dX8_lots_105 : decode cX8_lots 105 = .ok (.getfield 16, 3) := by decide +kernel
theorem dX8_lots_108 : decode cX8_lots 108 = .ok (.getfield 101, 3) := by decide +kernel
theorem dX8_lots_111 : decode cX8_lots 111 = .ok (.iload 9, 2) := by decide +kernel
theorem dX8_lots_113 : decode cX8_lots 113 = .ok (.iload 5, 2) := by decide +kernel
theorem dX8_lots_115 : decode cX8_lots 115 = .ok (.bipush 10, 2) := by decide +kernel
theorem dX8_lots_117 : decode cX8_lots 117 = .ok (.invokestatic 238, 3) := by decide +kernel
theorem dX8_lots_120 : decode cX8_lots 120 = .ok (.iastore, 1) := by decide +kernel
theorem dX8_lots_121 : decode cX8_lots 121 = .ok (.iinc 9 1, 3) := by decide +kernel
theorem dX8_lots_124 : decode cX8_lots 124 = .ok (.goto (-63), 3) := by decide +kernel
theorem dX8_lots_127 : decode cX8_lots 127 = .ok (.aload_n 0, 1) := by decide +kernel
theorem dX8_lots_128 : decode cX8_lots 128 = .ok (.getfield 16, 3) := by decide +kernel
theorem dX8_lots_131 : decode cX8_lots 131 = .ok (.bipush 6, 2) := by decide +kernel
theorem dX8_lots_133 : decode cX8_lots 133 = .ok (.invokevirtual 140, 3) := by decide +kernel
theorem dX8_lots_136 : decode cX8_lots 136 = .ok (.iload 6, 2) := by decide +kernel
theorem dX8_lots_138 : decode cX8_lots 138 = .ok (.aload_n 0, 1) := by decide +kernel
theorem dX8_lots_139 : decode cX8_lots 139 = .ok (.getfield 16, 3) := by decide +kernel
theorem dX8_lots_142 : decode cX8_lots 142 = .ok (.invokevirtual 143, 3) := by decide +kernel
theorem dX8_lots_145 : decode cX8_lots 145 = .ok (.iadd, 1) := by decide +kernel
theorem dX8_lots_146 : decode cX8_lots 146 = .ok (.istore 6, 2) := by decide +kernel
theorem dX8_lots_148 : decode cX8_lots 148 = .ok (.iload 7, 2) := by decide +kernel
theorem dX8_lots_150 : decode cX8_lots 150 = .ok (.aload_n 0, 1) := by decide +kernel
theorem dX8_lots_151 : decode cX8_lots 151 = .ok (.getfield 16, 3) := by decide +kernel
theorem dX8_lots_154 : decode cX8_lots 154 = .ok (.invokevirtual 241, 3) := by decide +kernel
theorem dX8_lots_157 : decode cX8_lots 157 = .ok (.iadd, 1) := by decide +kernel
theorem dX8_lots_158 : decode cX8_lots 158 = .ok (.istore 7, 2) := by decide +kernel
theorem dX8_lots_160 : decode cX8_lots 160 = .ok (.iinc 8 1, 3) := by decide +kernel
theorem dX8_lots_163 : decode cX8_lots 163 = .ok (.goto (-122), 3) := by decide +kernel
theorem dX8_lots_166 : decode cX8_lots 166 = .ok (.iload_n 3, 1) := by decide +kernel
theorem dX8_lots_167 : decode cX8_lots 167 = .ok (.ifCond .ne 8, 3) := by decide +kernel
theorem dX8_lots_170 : decode cX8_lots 170 = .ok (.iload 6, 2) := by decide +kernel
theorem dX8_lots_172 : decode cX8_lots 172 = .ok (.goto 5, 3) := by decide +kernel
theorem dX8_lots_175 : decode cX8_lots 175 = .ok (.iload 7, 2) := by decide +kernel
theorem dX8_lots_177 : decode cX8_lots 177 = .ok (.ireturn, 1) := by decide +kernel
theorem dX8_image_0 : decode cX8_image 0 = .ok (.aload_n 0, 1) := by decide +kernel
theorem dX8_image_1 : decode cX8_image 1 = .ok (.getfield 19, 3) := by decide +kernel
theorem dX8_image_4 : decode cX8_image 4 = .ok (.aload_n 0, 1) := by decide +kernel
theorem dX8_image_5 : decode cX8_image 5 = .ok (.getfield 10, 3) := by decide +kernel
theorem dX8_image_8 : decode cX8_image 8 = .ok (.invokevirtual 67, 3) := by decide +kernel
theorem dX8_image_11 : decode cX8_image 11 = .ok (.aload_n 0, 1) := by decide +kernel
theorem dX8_image_12 : decode cX8_image 12 = .ok (.iconst 1, 1) := by decide +kernel
theorem dX8_image_13 : decode cX8_image 13 = .ok (.putfield 22, 3) := by decide +kernel
theorem dX8_image_16 : decode cX8_image 16 = .ok (.aload_n 0, 1) := by decide +kernel
theorem dX8_image_17 : decode cX8_image 17 = .ok (.getfield 10, 3) := by decide +kernel
theorem dX8_image_20 : decode cX8_image 20 = .ok (.getfield 137, 3) := by decide +kernel
theorem dX8_image_23 : decode cX8_image 23 = .ok (.ireturn, 1) := by decide +kernel
theorem dX8_on_0 : decode cX8_on 0 = .ok (.aload_n 0, 1) := by decide +kernel
theorem dX8_on_1 : decode cX8_on 1 = .ok (.getfield 22, 3) := by decide +kernel
theorem dX8_on_4 : decode cX8_on 4 = .ok (.ifCond .ne 10, 3) := by decide +kernel
theorem dX8_on_7 : decode cX8_on 7 = .ok (.aload_n 0, 1) := by decide +kernel
theorem dX8_on_8 : decode cX8_on 8 = .ok (.bipush (-3), 2) := by decide +kernel
theorem dX8_on_10 : decode cX8_on 10 = .ok (.invokevirtual 55, 3) := by decide +kernel
theorem dX8_on_13 : decode cX8_on 13 = .ok (.ireturn, 1) := by decide +kernel
theorem dX8_on_14 : decode cX8_on 14 = .ok (.aload_n 0, 1) := by decide +kernel
theorem dX8_on_15 : decode cX8_on 15 = .ok (.getfield 10, 3) := by decide +kernel
theorem dX8_on_18 : decode cX8_on 18 = .ok (.aload_n 0, 1) := by decide +kernel
theorem dX8_on_19 : decode cX8_on 19 = .ok (.getfield 19, 3) := by decide +kernel
theorem dX8_on_22 : decode cX8_on 22 = .ok (.invokevirtual 67, 3) := by decide +kernel
theorem dX8_on_25 : decode cX8_on 25 = .ok (.aload_n 0, 1) := by decide +kernel
theorem dX8_on_26 : decode cX8_on 26 = .ok (.getfield 10, 3) := by decide +kernel
theorem dX8_on_29 : decode cX8_on 29 = .ok (.getfield 137, 3) := by decide +kernel
theorem dX8_on_32 : decode cX8_on 32 = .ok (.ireturn, 1) := by decide +kernel
theorem dX8_count_0 : decode cX8_count 0 = .ok (.iload_n 1, 1) := by decide +kernel
theorem dX8_count_1 : decode cX8_count 1 = .ok (.bipush 11, 2) := by decide +kernel
theorem dX8_count_3 : decode cX8_count 3 = .ok (.if_icmp .lt 19, 3) := by decide +kernel
theorem dX8_count_6 : decode cX8_count 6 = .ok (.iload_n 1, 1) := by decide +kernel
theorem dX8_count_7 : decode cX8_count 7 = .ok (.bipush 16, 2) := by decide +kernel
theorem dX8_count_9 : decode cX8_count 9 = .ok (.if_icmp .gt 13, 3) := by decide +kernel
theorem dX8_count_12 : decode cX8_count 12 = .ok (.aload_n 0, 1) := by decide +kernel
theorem dX8_count_13 : decode cX8_count 13 = .ok (.getfield 41, 3) := by decide +kernel
theorem dX8_count_16 : decode cX8_count 16 = .ok (.iload_n 1, 1) := by decide +kernel
theorem dX8_count_17 : decode cX8_count 17 = .ok (.bipush 10, 2) := by decide +kernel
theorem dX8_count_19 : decode cX8_count 19 = .ok (.isub, 1) := by decide +kernel
theorem dX8_count_20 : decode cX8_count 20 = .ok (.iaload, 1) := by decide +kernel
theorem dX8_count_21 : decode cX8_count 21 = .ok (.ireturn, 1) := by decide +kernel
theorem dX8_count_22 : decode cX8_count 22 = .ok (.iload_n 1, 1) := by decide +kernel
theorem dX8_count_23 : decode cX8_count 23 = .ok (.tableswitch 109 0 7 #[45, 53, 61, 69, 77, 85, 96, 101], 45) := by decide +kernel
theorem dX8_count_68 : decode cX8_count 68 = .ok (.aload_n 0, 1) := by decide +kernel
theorem dX8_count_69 : decode cX8_count 69 = .ok (.getfield 10, 3) := by decide +kernel
theorem dX8_count_72 : decode cX8_count 72 = .ok (.getfield 165, 3) := by decide +kernel
theorem dX8_count_75 : decode cX8_count 75 = .ok (.ireturn, 1) := by decide +kernel
theorem dX8_count_76 : decode cX8_count 76 = .ok (.aload_n 0, 1) := by decide +kernel
theorem dX8_count_77 : decode cX8_count 77 = .ok (.getfield 10, 3) := by decide +kernel
theorem dX8_count_80 : decode cX8_count 80 = .ok (.getfield 156, 3) := by decide +kernel
theorem dX8_count_83 : decode cX8_count 83 = .ok (.ireturn, 1) := by decide +kernel
theorem dX8_count_84 : decode cX8_count 84 = .ok (.aload_n 0, 1) := by decide +kernel
theorem dX8_count_85 : decode cX8_count 85 = .ok (.getfield 10, 3) := by decide +kernel
theorem dX8_count_88 : decode cX8_count 88 = .ok (.getfield 137, 3) := by decide +kernel
theorem dX8_count_91 : decode cX8_count 91 = .ok (.ireturn, 1) := by decide +kernel
theorem dX8_count_92 : decode cX8_count 92 = .ok (.aload_n 0, 1) := by decide +kernel
theorem dX8_count_93 : decode cX8_count 93 = .ok (.getfield 10, 3) := by decide +kernel
theorem dX8_count_96 : decode cX8_count 96 = .ok (.invokevirtual 143, 3) := by decide +kernel
theorem dX8_count_99 : decode cX8_count 99 = .ok (.ireturn, 1) := by decide +kernel
theorem dX8_count_100 : decode cX8_count 100 = .ok (.aload_n 0, 1) := by decide +kernel
theorem dX8_count_101 : decode cX8_count 101 = .ok (.getfield 10, 3) := by decide +kernel
theorem dX8_count_104 : decode cX8_count 104 = .ok (.invokevirtual 244, 3) := by decide +kernel
theorem dX8_count_107 : decode cX8_count 107 = .ok (.ireturn, 1) := by decide +kernel
theorem dX8_count_108 : decode cX8_count 108 = .ok (.aload_n 0, 1) := by decide +kernel
theorem dX8_count_109 : decode cX8_count 109 = .ok (.getfield 10, 3) := by decide +kernel
theorem dX8_count_112 : decode cX8_count 112 = .ok (.invokevirtual 159, 3) := by decide +kernel
theorem dX8_count_115 : decode cX8_count 115 = .ok (.invokestatic 193, 3) := by decide +kernel
theorem dX8_count_118 : decode cX8_count 118 = .ok (.ireturn, 1) := by decide +kernel
theorem dX8_count_119 : decode cX8_count 119 = .ok (.aload_n 0, 1) := by decide +kernel
theorem dX8_count_120 : decode cX8_count 120 = .ok (.getfield 37, 3) := by decide +kernel
theorem dX8_count_123 : decode cX8_count 123 = .ok (.ireturn, 1) := by decide +kernel
theorem dX8_count_124 : decode cX8_count 124 = .ok (.aload_n 0, 1) := by decide +kernel
theorem dX8_count_125 : decode cX8_count 125 = .ok (.getfield 29, 3) := by decide +kernel
theorem dX8_count_128 : decode cX8_count 128 = .ok (.getfield 48, 3) := by decide +kernel
theorem dX8_count_131 : decode cX8_count 131 = .ok (.ireturn, 1) := by decide +kernel
theorem dX8_count_132 : decode cX8_count 132 = .ok (.bipush (-9), 2) := by decide +kernel
theorem dX8_count_134 : decode cX8_count 134 = .ok (.ireturn, 1) := by decide +kernel
theorem dX8_allGraceBehind_0 : decode cX8_allGraceBehind 0 = .ok (.aload_n 0, 1) := by decide +kernel
theorem dX8_allGraceBehind_1 : decode cX8_allGraceBehind 1 = .ok (.getfield 16, 3) := by decide +kernel
theorem dX8_allGraceBehind_4 : decode cX8_allGraceBehind 4 = .ok (.aload_n 0, 1) := by decide +kernel
theorem dX8_allGraceBehind_5 : decode cX8_allGraceBehind 5 = .ok (.getfield 10, 3) := by decide +kernel
theorem dX8_allGraceBehind_8 : decode cX8_allGraceBehind 8 = .ok (.invokevirtual 67, 3) := by decide +kernel
theorem dX8_allGraceBehind_11 : decode cX8_allGraceBehind 11 = .ok (.aload_n 0, 1) := by decide +kernel
theorem dX8_allGraceBehind_12 : decode cX8_allGraceBehind 12 = .ok (.getfield 16, 3) := by decide +kernel
theorem dX8_allGraceBehind_15 : decode cX8_allGraceBehind 15 = .ok (.iload_n 1, 1) := by decide +kernel
theorem dX8_allGraceBehind_16 : decode cX8_allGraceBehind 16 = .ok (.invokevirtual 140, 3) := by decide +kernel
theorem dX8_allGraceBehind_19 : decode cX8_allGraceBehind 19 = .ok (.aload_n 0, 1) := by decide +kernel
theorem dX8_allGraceBehind_20 : decode cX8_allGraceBehind 20 = .ok (.getfield 16, 3) := by decide +kernel
theorem dX8_allGraceBehind_23 : decode cX8_allGraceBehind 23 = .ok (.invokevirtual 143, 3) := by decide +kernel
theorem dX8_allGraceBehind_26 : decode cX8_allGraceBehind 26 = .ok (.ireturn, 1) := by decide +kernel
theorem dX8_graceBehind_0 : decode cX8_graceBehind 0 = .ok (.aload_n 0, 1) := by decide +kernel
theorem dX8_graceBehind_1 : decode cX8_graceBehind 1 = .ok (.getfield 16, 3) := by decide +kernel
theorem dX8_graceBehind_4 : decode cX8_graceBehind 4 = .ok (.aload_n 0, 1) := by decide +kernel
theorem dX8_graceBehind_5 : decode cX8_graceBehind 5 = .ok (.getfield 10, 3) := by decide +kernel
theorem dX8_graceBehind_8 : decode cX8_graceBehind 8 = .ok (.invokevirtual 67, 3) := by decide +kernel
theorem dX8_graceBehind_11 : decode cX8_graceBehind 11 = .ok (.aload_n 0, 1) := by decide +kernel
theorem dX8_graceBehind_12 : decode cX8_graceBehind 12 = .ok (.getfield 16, 3) := by decide +kernel
theorem dX8_graceBehind_15 : decode cX8_graceBehind 15 = .ok (.iload_n 1, 1) := by decide +kernel
theorem dX8_graceBehind_16 : decode cX8_graceBehind 16 = .ok (.iload_n 2, 1) := by decide +kernel
theorem dX8_graceBehind_17 : decode cX8_graceBehind 17 = .ok (.invokevirtual 146, 3) := by decide +kernel
theorem dX8_graceBehind_20 : decode cX8_graceBehind 20 = .ok (.aload_n 0, 1) := by decide +kernel
theorem dX8_graceBehind_21 : decode cX8_graceBehind 21 = .ok (.getfield 16, 3) := by decide +kernel
theorem dX8_graceBehind_24 : decode cX8_graceBehind 24 = .ok (.getfield 113, 3) := by decide +kernel
theorem dX8_graceBehind_27 : decode cX8_graceBehind 27 = .ok (.iload_n 1, 1) := by decide +kernel
theorem dX8_graceBehind_28 : decode cX8_graceBehind 28 = .ok (.iaload, 1) := by decide +kernel
theorem dX8_graceBehind_29 : decode cX8_graceBehind 29 = .ok (.ireturn, 1) := by decide +kernel
theorem dX8_ownersGraceWithout_0 : decode cX8_ownersGraceWithout 0 = .ok (.aload_n 0, 1) := by decide +kernel
theorem dX8_ownersGraceWithout_1 : decode cX8_ownersGraceWithout 1 = .ok (.getfield 10, 3) := by decide +kernel
theorem dX8_ownersGraceWithout_4 : decode cX8_ownersGraceWithout 4 = .ok (.getfield 104, 3) := by decide +kernel
theorem dX8_ownersGraceWithout_7 : decode cX8_ownersGraceWithout 7 = .ok (.iload_n 1, 1) := by decide +kernel
theorem dX8_ownersGraceWithout_8 : decode cX8_ownersGraceWithout 8 = .ok (.iaload, 1) := by decide +kernel
theorem dX8_ownersGraceWithout_9 : decode cX8_ownersGraceWithout 9 = .ok (.istore_n 3, 1) := by decide +kernel
theorem dX8_ownersGraceWithout_10 : decode cX8_ownersGraceWithout 10 = .ok (.aload_n 0, 1) := by decide +kernel
theorem dX8_ownersGraceWithout_11 : decode cX8_ownersGraceWithout 11 = .ok (.getfield 16, 3) := by decide +kernel
theorem dX8_ownersGraceWithout_14 : decode cX8_ownersGraceWithout 14 = .ok (.aload_n 0, 1) := by decide +kernel
theorem dX8_ownersGraceWithout_15 : decode cX8_ownersGraceWithout 15 = .ok (.getfield 10, 3) := by decide +kernel
theorem dX8_ownersGraceWithout_18 : decode cX8_ownersGraceWithout 18 = .ok (.invokevirtual 67, 3) := by decide +kernel
theorem dX8_ownersGraceWithout_21 : decode cX8_ownersGraceWithout 21 = .ok (.aload_n 0, 1) := by decide +kernel
theorem dX8_ownersGraceWithout_22 : decode cX8_ownersGraceWithout 22 = .ok (.getfield 16, 3) := by decide +kernel
theorem dX8_ownersGraceWithout_25 : decode cX8_ownersGraceWithout 25 = .ok (.getfield 101, 3) := by decide +kernel
theorem dX8_ownersGraceWithout_28 : decode cX8_ownersGraceWithout 28 = .ok (.iload_n 1, 1) := by decide +kernel
theorem dX8_ownersGraceWithout_29 : decode cX8_ownersGraceWithout 29 = .ok (.iconst 0, 1) := by decide +kernel
theorem dX8_ownersGraceWithout_30 : decode cX8_ownersGraceWithout 30 = .ok (.iastore, 1) := by decide +kernel
theorem dX8_ownersGraceWithout_31 : decode cX8_ownersGraceWithout 31 = .ok (.aload_n 0, 1) := by decide +kernel
theorem dX8_ownersGraceWithout_32 : decode cX8_ownersGraceWithout 32 = .ok (.getfield 16, 3) := by decide +kernel
theorem dX8_ownersGraceWithout_35 : decode cX8_ownersGraceWithout 35 = .ok (.iload_n 3, 1) := by decide +kernel
theorem dX8_ownersGraceWithout_36 : decode cX8_ownersGraceWithout 36 = .ok (.iload_n 2, 1) := by decide +kernel
theorem dX8_ownersGraceWithout_37 : decode cX8_ownersGraceWithout 37 = .ok (.invokevirtual 146, 3) := by decide +kernel
theorem dX8_ownersGraceWithout_40 : decode cX8_ownersGraceWithout 40 = .ok (.aload_n 0, 1) := by decide +kernel
theorem dX8_ownersGraceWithout_41 : decode cX8_ownersGraceWithout 41 = .ok (.getfield 16, 3) := by decide +kernel
theorem dX8_ownersGraceWithout_44 : decode cX8_ownersGraceWithout 44 = .ok (.getfield 113, 3) := by decide +kernel
theorem dX8_ownersGraceWithout_47 : decode cX8_ownersGraceWithout 47 = .ok (.iload_n 3, 1) := by decide +kernel
theorem dX8_ownersGraceWithout_48 : decode cX8_ownersGraceWithout 48 = .ok (.iaload, 1) := by decide +kernel
theorem dX8_ownersGraceWithout_49 : decode cX8_ownersGraceWithout 49 = .ok (.ireturn, 1) := by decide +kernel
theorem dX8_refuse_0 : decode cX8_refuse 0 = .ok (.aload_n 0, 1) := by decide +kernel
theorem dX8_refuse_1 : decode cX8_refuse 1 = .ok (.getfield 41, 3) := by decide +kernel
theorem dX8_refuse_4 : decode cX8_refuse 4 = .ok (.iload_n 1, 1) := by decide +kernel
theorem dX8_refuse_5 : decode cX8_refuse 5 = .ok (.ineg, 1) := by decide +kernel
theorem dX8_refuse_6 : decode cX8_refuse 6 = .ok (.dup2, 1) := by decide +kernel
theorem dX8_refuse_7 : decode cX8_refuse 7 = .ok (.iaload, 1) := by decide +kernel
theorem dX8_refuse_8 : decode cX8_refuse 8 = .ok (.iconst 1, 1) := by decide +kernel
theorem dX8_refuse_9 : decode cX8_refuse 9 = .ok (.iadd, 1) := by decide +kernel
theorem dX8_refuse_10 : decode cX8_refuse 10 = .ok (.iastore, 1) := by decide +kernel
theorem dX8_refuse_11 : decode cX8_refuse 11 = .ok (.iload_n 1, 1) := by decide +kernel
theorem dX8_refuse_12 : decode cX8_refuse 12 = .ok (.ireturn, 1) := by decide +kernel
theorem dX8_refuseFar_0 : decode cX8_refuseFar 0 = .ok (.ldc 247, 2) := by decide +kernel
theorem dX8_refuseFar_2 : decode cX8_refuseFar 2 = .ok (.aload_n 0, 1) := by decide +kernel
theorem dX8_refuseFar_3 : decode cX8_refuseFar 3 = .ok (.iload_n 1, 1) := by decide +kernel
theorem dX8_refuseFar_4 : decode cX8_refuseFar 4 = .ok (.invokevirtual 55, 3) := by decide +kernel
theorem dX8_refuseFar_7 : decode cX8_refuseFar 7 = .ok (.isub, 1) := by decide +kernel
theorem dX8_refuseFar_8 : decode cX8_refuseFar 8 = .ok (.ireturn, 1) := by decide +kernel
theorem dX8_refuseFarthest_0 : decode cX8_refuseFarthest 0 = .ok (.ldc2_w 248, 3) := by decide +kernel
theorem dX8_refuseFarthest_3 : decode cX8_refuseFarthest 3 = .ok (.aload_n 0, 1) := by decide +kernel
theorem dX8_refuseFarthest_4 : decode cX8_refuseFarthest 4 = .ok (.iload_n 1, 1) := by decide +kernel
theorem dX8_refuseFarthest_5 : decode cX8_refuseFarthest 5 = .ok (.invokevirtual 55, 3) := by decide +kernel
theorem dX8_refuseFarthest_8 : decode cX8_refuseFarthest 8 = .ok (.i2l, 1) := by decide +kernel
theorem dX8_refuseFarthest_9 : decode cX8_refuseFarthest 9 = .ok (.lsub, 1) := by decide +kernel
theorem dX8_refuseFarthest_10 : decode cX8_refuseFarthest 10 = .ok (.lreturn, 1) := by decide +kernel
theorem dX8_potThere_0 : decode cX8_potThere 0 = .ok (.aload_n 0, 1) := by decide +kernel
theorem dX8_potThere_1 : decode cX8_potThere 1 = .ok (.getfield 10, 3) := by decide +kernel
theorem dX8_potThere_4 : decode cX8_potThere 4 = .ok (.iload_n 1, 1) := by decide +kernel
theorem dX8_potThere_5 : decode cX8_potThere 5 = .ok (.invokevirtual 232, 3) := by decide +kernel
theorem dX8_potThere_8 : decode cX8_potThere 8 = .ok (.ifCond .eq 7, 3) := by decide +kernel
theorem dX8_potThere_11 : decode cX8_potThere 11 = .ok (.iconst 0, 1) := by decide +kernel
theorem dX8_potThere_12 : decode cX8_potThere 12 = .ok (.goto 4, 3) := by decide +kernel
theorem dX8_potThere_15 : decode cX8_potThere 15 = .ok (.iconst (-1), 1) := by decide +kernel
theorem dX8_potThere_16 : decode cX8_potThere 16 = .ok (.ireturn, 1) := by decide +kernel
theorem dX8_personThere_0 : decode cX8_personThere 0 = .ok (.aload_n 0, 1) := by decide +kernel
theorem dX8_personThere_1 : decode cX8_personThere 1 = .ok (.getfield 10, 3) := by decide +kernel
theorem dX8_personThere_4 : decode cX8_personThere 4 = .ok (.iload_n 1, 1) := by decide +kernel
theorem dX8_personThere_5 : decode cX8_personThere 5 = .ok (.invokevirtual 250, 3) := by decide +kernel
theorem dX8_personThere_8 : decode cX8_personThere 8 = .ok (.ifCond .eq 7, 3) := by decide +kernel
theorem dX8_personThere_11 : decode cX8_personThere 11 = .ok (.iconst 0, 1) := by decide +kernel
theorem dX8_personThere_12 : decode cX8_personThere 12 = .ok (.goto 4, 3) := by decide +kernel
theorem dX8_personThere_15 : decode cX8_personThere 15 = .ok (.iconst (-1), 1) := by decide +kernel
theorem dX8_personThere_16 : decode cX8_personThere 16 = .ok (.ireturn, 1) := by decide +kernel
theorem dX8_within_0 : decode cX8_within 0 = .ok (.iload_n 0, 1) := by decide +kernel
theorem dX8_within_1 : decode cX8_within 1 = .ok (.iload_n 1, 1) := by decide +kernel
theorem dX8_within_2 : decode cX8_within 2 = .ok (.if_icmp .ge 6, 3) := by decide +kernel
theorem dX8_within_5 : decode cX8_within 5 = .ok (.bipush (-4), 2) := by decide +kernel
theorem dX8_within_7 : decode cX8_within 7 = .ok (.ireturn, 1) := by decide +kernel
theorem dX8_within_8 : decode cX8_within 8 = .ok (.iload_n 0, 1) := by decide +kernel
theorem dX8_within_9 : decode cX8_within 9 = .ok (.iload_n 2, 1) := by decide +kernel
theorem dX8_within_10 : decode cX8_within 10 = .ok (.if_icmp .le 8, 3) := by decide +kernel
theorem dX8_within_13 : decode cX8_within 13 = .ok (.bipush (-6), 2) := by decide +kernel
theorem dX8_within_15 : decode cX8_within 15 = .ok (.goto 4, 3) := by decide +kernel
theorem dX8_within_18 : decode cX8_within 18 = .ok (.iconst 0, 1) := by decide +kernel
theorem dX8_within_19 : decode cX8_within 19 = .ok (.ireturn, 1) := by decide +kernel
theorem dX8_known_0 : decode cX8_known 0 = .ok (.iload_n 0, 1) := by decide +kernel
theorem dX8_known_1 : decode cX8_known 1 = .ok (.ifCond .lt 8, 3) := by decide +kernel
theorem dX8_known_4 : decode cX8_known 4 = .ok (.iload_n 0, 1) := by decide +kernel
theorem dX8_known_5 : decode cX8_known 5 = .ok (.iload_n 1, 1) := by decide +kernel
theorem dX8_known_6 : decode cX8_known 6 = .ok (.if_icmp .le 8, 3) := by decide +kernel
theorem dX8_known_9 : decode cX8_known 9 = .ok (.bipush (-2), 2) := by decide +kernel
theorem dX8_known_11 : decode cX8_known 11 = .ok (.goto 4, 3) := by decide +kernel
theorem dX8_known_14 : decode cX8_known 14 = .ok (.iconst 0, 1) := by decide +kernel
theorem dX8_known_15 : decode cX8_known 15 = .ok (.ireturn, 1) := by decide +kernel
theorem dX8_first_0 : decode cX8_first 0 = .ok (.iload_n 0, 1) := by decide +kernel
theorem dX8_first_1 : decode cX8_first 1 = .ok (.ifCond .eq 7, 3) := by decide +kernel
theorem dX8_first_4 : decode cX8_first 4 = .ok (.iload_n 0, 1) := by decide +kernel
theorem dX8_first_5 : decode cX8_first 5 = .ok (.goto 4, 3) := by decide +kernel
theorem dX8_first_8 : decode cX8_first 8 = .ok (.iload_n 1, 1) := by decide +kernel
theorem dX8_first_9 : decode cX8_first 9 = .ok (.ireturn, 1) := by decide +kernel
theorem dX8_first__0 : decode cX8_first_ 0 = .ok (.iload_n 0, 1) := by decide +kernel
theorem dX8_first__1 : decode cX8_first_ 1 = .ok (.iload_n 1, 1) := by decide +kernel
theorem dX8_first__2 : decode cX8_first_ 2 = .ok (.invokestatic 51, 3) := by decide +kernel
theorem dX8_first__5 : decode cX8_first_ 5 = .ok (.iload_n 2, 1) := by decide +kernel
theorem dX8_first__6 : decode cX8_first_ 6 = .ok (.invokestatic 51, 3) := by decide +kernel
theorem dX8_first__9 : decode cX8_first_ 9 = .ok (.ireturn, 1) := by decide +kernel
theorem dX8_nextSeed_0 : decode cX8_nextSeed 0 = .ok (.iload_n 0, 1) := by decide +kernel
theorem dX8_nextSeed_1 : decode cX8_nextSeed 1 = .ok (.ldc 253, 2) := by decide +kernel
theorem dX8_nextSeed_3 : decode cX8_nextSeed 3 = .ok (.imul, 1) := by decide +kernel
theorem dX8_nextSeed_4 : decode cX8_nextSeed 4 = .ok (.ldc 254, 2) := by decide +kernel
theorem dX8_nextSeed_6 : decode cX8_nextSeed 6 = .ok (.iadd, 1) := by decide +kernel
theorem dX8_nextSeed_7 : decode cX8_nextSeed 7 = .ok (.ireturn, 1) := by decide +kernel
theorem dX8_drawn_0 : decode cX8_drawn 0 = .ok (.iload_n 0, 1) := by decide +kernel
theorem dX8_drawn_1 : decode cX8_drawn 1 = .ok (.ldc 255, 2) := by decide +kernel
theorem dX8_drawn_3 : decode cX8_drawn 3 = .ok (.iand, 1) := by decide +kernel
theorem dX8_drawn_4 : decode cX8_drawn 4 = .ok (.sipush 256, 3) := by decide +kernel
theorem dX8_drawn_7 : decode cX8_drawn 7 = .ok (.idiv, 1) := by decide +kernel
theorem dX8_drawn_8 : decode cX8_drawn 8 = .ok (.iconst 1, 1) := by decide +kernel
theorem dX8_drawn_9 : decode cX8_drawn 9 = .ok (.iload_n 1, 1) := by decide +kernel
theorem dX8_drawn_10 : decode cX8_drawn 10 = .ok (.invokestatic 78, 3) := by decide +kernel
theorem dX8_drawn_13 : decode cX8_drawn 13 = .ok (.irem, 1) := by decide +kernel
theorem dX8_drawn_14 : decode cX8_drawn 14 = .ok (.ireturn, 1) := by decide +kernel
theorem dX8_power_0 : decode cX8_power 0 = .ok (.lconst 1, 1) := by decide +kernel
theorem dX8_power_1 : decode cX8_power 1 = .ok (.lstore_n 2, 1) := by decide +kernel
theorem dX8_power_2 : decode cX8_power 2 = .ok (.iconst 0, 1) := by decide +kernel
theorem dX8_power_3 : decode cX8_power 3 = .ok (.istore 4, 2) := by decide +kernel
theorem dX8_power_5 : decode cX8_power 5 = .ok (.iload 4, 2) := by decide +kernel
theorem dX8_power_7 : decode cX8_power 7 = .ok (.iload_n 1, 1) := by decide +kernel
theorem dX8_power_8 : decode cX8_power 8 = .ok (.if_icmp .ge 14, 3) := by decide +kernel
theorem dX8_power_11 : decode cX8_power 11 = .ok (.lload_n 2, 1) := by decide +kernel
theorem dX8_power_12 : decode cX8_power 12 = .ok (.iload_n 0, 1) := by decide +kernel
theorem dX8_power_13 : decode cX8_power 13 = .ok (.i2l, 1) := by decide +kernel
theorem dX8_power_14 : decode cX8_power 14 = .ok (.lmul, 1) := by decide +kernel
theorem dX8_power_15 : decode cX8_power 15 = .ok (.lstore_n 2, 1) := by decide +kernel
theorem dX8_power_16 : decode cX8_power 16 = .ok (.iinc 4 1, 3) := by decide +kernel
theorem dX8_power_19 : decode cX8_power 19 = .ok (.goto (-14), 3) := by decide +kernel
theorem dX8_power_22 : decode cX8_power 22 = .ok (.lload_n 2, 1) := by decide +kernel
theorem dX8_power_23 : decode cX8_power 23 = .ok (.lreturn, 1) := by decide +kernel
theorem dX8_ofFraction_0 : decode cX8_ofFraction 0 = .ok (.lconst 1, 1) := by decide +kernel
theorem dX8_ofFraction_1 : decode cX8_ofFraction 1 = .ok (.lload_n 0, 1) := by decide +kernel
theorem dX8_ofFraction_2 : decode cX8_ofFraction 2 = .ok (.lload_n 2, 1) := by decide +kernel
theorem dX8_ofFraction_3 : decode cX8_ofFraction 3 = .ok (.invokestatic 256, 3) := by decide +kernel
theorem dX8_ofFraction_6 : decode cX8_ofFraction 6 = .ok (.invokestatic 260, 3) := by decide +kernel
theorem dX8_ofFraction_9 : decode cX8_ofFraction 9 = .ok (.lstore 5, 2) := by decide +kernel
theorem dX8_ofFraction_11 : decode cX8_ofFraction 11 = .ok (.iload 4, 2) := by decide +kernel
theorem dX8_ofFraction_13 : decode cX8_ofFraction 13 = .ok (.ifCond .ne 7, 3) := by decide +kernel
theorem dX8_ofFraction_16 : decode cX8_ofFraction 16 = .ok (.lload_n 0, 1) := by decide +kernel
theorem dX8_ofFraction_17 : decode cX8_ofFraction 17 = .ok (.goto 4, 3) := by decide +kernel
theorem dX8_ofFraction_20 : decode cX8_ofFraction 20 = .ok (.lload_n 2, 1) := by decide +kernel
theorem dX8_ofFraction_21 : decode cX8_ofFraction 21 = .ok (.lload 5, 2) := by decide +kernel
theorem dX8_ofFraction_23 : decode cX8_ofFraction 23 = .ok (.ldiv, 1) := by decide +kernel
theorem dX8_ofFraction_24 : decode cX8_ofFraction 24 = .ok (.lreturn, 1) := by decide +kernel
theorem dX8_commonDivisor_0 : decode cX8_commonDivisor 0 = .ok (.lload_n 0, 1) := by decide +kernel
theorem dX8_commonDivisor_1 : decode cX8_commonDivisor 1 = .ok (.lstore 4, 2) := by decide +kernel
theorem dX8_commonDivisor_3 : decode cX8_commonDivisor 3 = .ok (.lload_n 2, 1) := by decide +kernel
theorem dX8_commonDivisor_4 : decode cX8_commonDivisor 4 = .ok (.lstore 6, 2) := by decide +kernel
theorem dX8_commonDivisor_6 : decode cX8_commonDivisor 6 = .ok (.iconst 0, 1) := by decide +kernel
theorem dX8_commonDivisor_7 : decode cX8_commonDivisor 7 = .ok (.istore 8, 2) := by decide +kernel
theorem dX8_commonDivisor_9 : decode cX8_commonDivisor 9 = .ok (.iload 8, 2) := by decide +kernel
theorem dX8_commonDivisor_11 : decode cX8_commonDivisor 11 = .ok (.bipush 100, 2) := by decide +kernel
theorem dX8_commonDivisor_13 : decode cX8_commonDivisor 13 = .ok (.if_icmp .ge 31, 3) := by decide +kernel
theorem dX8_commonDivisor_16 : decode cX8_commonDivisor 16 = .ok (.lload 6, 2) := by decide +kernel
theorem dX8_commonDivisor_18 : decode cX8_commonDivisor 18 = .ok (.lconst 0, 1) := by decide +kernel
theorem dX8_commonDivisor_19 : decode cX8_commonDivisor 19 = .ok (.lcmp, 1) := by decide +kernel
theorem dX8_commonDivisor_20 : decode cX8_commonDivisor 20 = .ok (.ifCond .eq 24, 3) := by decide +kernel
theorem dX8_commonDivisor_23 : decode cX8_commonDivisor 23 = .ok (.lload 4, 2) := by decide +kernel
theorem dX8_commonDivisor_25 : decode cX8_commonDivisor 25 = .ok (.lload 6, 2) := by decide +kernel
theorem dX8_commonDivisor_27 : decode cX8_commonDivisor 27 = .ok (.lrem, 1) := by decide +kernel
theorem dX8_commonDivisor_28 : decode cX8_commonDivisor 28 = .ok (.lstore 9, 2) := by decide +kernel
theorem dX8_commonDivisor_30 : decode cX8_commonDivisor 30 = .ok (.lload 6, 2) := by decide +kernel
theorem dX8_commonDivisor_32 : decode cX8_commonDivisor 32 = .ok (.lstore 4, 2) := by decide +kernel
theorem dX8_commonDivisor_34 : decode cX8_commonDivisor 34 = .ok (.lload 9, 2) := by decide +kernel
theorem dX8_commonDivisor_36 : decode cX8_commonDivisor 36 = .ok (.lstore 6, 2) := by decide +kernel
theorem dX8_commonDivisor_38 : decode cX8_commonDivisor 38 = .ok (.iinc 8 1, 3) := by decide +kernel
theorem dX8_commonDivisor_41 : decode cX8_commonDivisor 41 = .ok (.goto (-32), 3) := by decide +kernel
theorem dX8_commonDivisor_44 : decode cX8_commonDivisor 44 = .ok (.lload 4, 2) := by decide +kernel
theorem dX8_commonDivisor_46 : decode cX8_commonDivisor 46 = .ok (.lreturn, 1) := by decide +kernel
