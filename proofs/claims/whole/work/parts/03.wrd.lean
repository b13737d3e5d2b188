def lb_tbl : List Cond := lw_tbl.filter goodWord
theorem lb_all : ∀ w ∈ lb_tbl, goodWord w = true := fun w h => (List.mem_filter.mp h).2
theorem lb_sub : ∀ w ∈ lb_tbl, w ∈ lw_tbl := fun w h => (List.mem_filter.mp h).1
theorem lb_mem0 {w : Cond} {i : Nat} (h : (k2_sels lw_privs)[i]? = some w) (g : goodWord w = true) : w ∈ lb_tbl := List.mem_filter.mpr ⟨(fun (h : w ∈ k2_sels lw_privs) => (show w ∈ k2_sels lw_privs ++ (tables_1_1 ++ (tables_1_2 ++ (tables_1_3 ++ (tables_1_4 ++ (tables_1_5))))) from List.mem_append_left _ h)) (List.mem_of_getElem? h), g⟩
theorem lb_mem1 {w : Cond} {i : Nat} (h : (tables_1_1)[i]? = some w) (g : goodWord w = true) : w ∈ lb_tbl := List.mem_filter.mpr ⟨(fun (h : w ∈ tables_1_1) => (show w ∈ k2_sels lw_privs ++ (tables_1_1 ++ (tables_1_2 ++ (tables_1_3 ++ (tables_1_4 ++ (tables_1_5))))) from List.mem_append_right _ (List.mem_append_left _ h))) (List.mem_of_getElem? h), g⟩
theorem lb_mem2 {w : Cond} {i : Nat} (h : (tables_1_2)[i]? = some w) (g : goodWord w = true) : w ∈ lb_tbl := List.mem_filter.mpr ⟨(fun (h : w ∈ tables_1_2) => (show w ∈ k2_sels lw_privs ++ (tables_1_1 ++ (tables_1_2 ++ (tables_1_3 ++ (tables_1_4 ++ (tables_1_5))))) from List.mem_append_right _ (List.mem_append_right _ (List.mem_append_left _ h)))) (List.mem_of_getElem? h), g⟩
theorem lb_mem3 {w : Cond} {i : Nat} (h : (tables_1_3)[i]? = some w) (g : goodWord w = true) : w ∈ lb_tbl := List.mem_filter.mpr ⟨(fun (h : w ∈ tables_1_3) => (show w ∈ k2_sels lw_privs ++ (tables_1_1 ++ (tables_1_2 ++ (tables_1_3 ++ (tables_1_4 ++ (tables_1_5))))) from List.mem_append_right _ (List.mem_append_right _ (List.mem_append_right _ (List.mem_append_left _ h))))) (List.mem_of_getElem? h), g⟩
theorem lb_mem4 {w : Cond} {i : Nat} (h : (tables_1_4)[i]? = some w) (g : goodWord w = true) : w ∈ lb_tbl := List.mem_filter.mpr ⟨(fun (h : w ∈ tables_1_4) => (show w ∈ k2_sels lw_privs ++ (tables_1_1 ++ (tables_1_2 ++ (tables_1_3 ++ (tables_1_4 ++ (tables_1_5))))) from List.mem_append_right _ (List.mem_append_right _ (List.mem_append_right _ (List.mem_append_right _ (List.mem_append_left _ h)))))) (List.mem_of_getElem? h), g⟩
theorem lb_mem5 {w : Cond} {i : Nat} (h : (tables_1_5)[i]? = some w) (g : goodWord w = true) : w ∈ lb_tbl := List.mem_filter.mpr ⟨(fun (h : w ∈ tables_1_5) => (show w ∈ k2_sels lw_privs ++ (tables_1_1 ++ (tables_1_2 ++ (tables_1_3 ++ (tables_1_4 ++ (tables_1_5))))) from List.mem_append_right _ (List.mem_append_right _ (List.mem_append_right _ (List.mem_append_right _ (List.mem_append_right _ (h))))))) (List.mem_of_getElem? h), g⟩
set_option maxRecDepth 20000 in
theorem qw_0 : (Cond.selects RX8 yX8_refuse yX8_refuse) ∈ lb_tbl := lb_mem0 (i := 0) rfl rfl
set_option maxRecDepth 20000 in
theorem qw_1 : (Cond.selects RX8 yX8_potThere yX8_potThere) ∈ lb_tbl := lb_mem0 (i := 1) rfl rfl
set_option maxRecDepth 20000 in
theorem qw_2 : (Cond.selects RX8 yX8_personThere yX8_personThere) ∈ lb_tbl := lb_mem0 (i := 2) rfl rfl
set_option maxRecDepth 20000 in
theorem qw_3 : (Cond.selects RX8 yX8_refuseFar yX8_refuseFar) ∈ lb_tbl := lb_mem0 (i := 3) rfl rfl
set_option maxRecDepth 20000 in
theorem qw_4 : (Cond.selects RX8 yX8_allGraceBehind yX8_allGraceBehind) ∈ lb_tbl := lb_mem0 (i := 4) rfl rfl
set_option maxRecDepth 20000 in
theorem qw_5 : (Cond.selects RX8 yX8_firstGraceless yX8_firstGraceless) ∈ lb_tbl := lb_mem0 (i := 5) rfl rfl
set_option maxRecDepth 20000 in
theorem qw_6 : (Cond.selects RX8 yX8_allGraceChanged yX8_allGraceChanged) ∈ lb_tbl := lb_mem0 (i := 6) rfl rfl
set_option maxRecDepth 20000 in
theorem qw_7 : (Cond.selects RX8 yX8_allGraceGiven yX8_allGraceGiven) ∈ lb_tbl := lb_mem0 (i := 7) rfl rfl
set_option maxRecDepth 20000 in
theorem qw_8 : (Cond.selects RX8 yX8_whoGainsMost yX8_whoGainsMost) ∈ lb_tbl := lb_mem0 (i := 8) rfl rfl
set_option maxRecDepth 20000 in
theorem qw_9 : (Cond.selects RX8 yX8_fewestOf yX8_fewestOf) ∈ lb_tbl := lb_mem0 (i := 9) rfl rfl
set_option maxRecDepth 20000 in
theorem qw_10 : (Cond.selects RX8 yX8_keepsGrace yX8_keepsGrace) ∈ lb_tbl := lb_mem0 (i := 10) rfl rfl
set_option maxRecDepth 20000 in
theorem qw_11 : (Cond.selects RX8 yX8_graceBehind yX8_graceBehind) ∈ lb_tbl := lb_mem0 (i := 11) rfl rfl
set_option maxRecDepth 20000 in
theorem qw_12 : (Cond.selects RX8 yX8_ownersGraceWithout yX8_ownersGraceWithout) ∈ lb_tbl := lb_mem0 (i := 12) rfl rfl
set_option maxRecDepth 20000 in
theorem qw_13 : (Cond.selects RX8 yX8_isBetterWithout yX8_isBetterWithout) ∈ lb_tbl := lb_mem0 (i := 13) rfl rfl
set_option maxRecDepth 20000 in
theorem qw_14 : (Cond.selects RX8 yX8_refuseFarthest yX8_refuseFarthest) ∈ lb_tbl := lb_mem0 (i := 14) rfl rfl
set_option maxRecDepth 20000 in
theorem qw_15 : (Cond.selects RX8 yX8_graceIfErring yX8_graceIfErring) ∈ lb_tbl := lb_mem0 (i := 15) rfl rfl
set_option maxRecDepth 20000 in
theorem qw_16 : (Cond.selects RX8 yX8_goesAsRow yX8_goesAsRow) ∈ lb_tbl := lb_mem0 (i := 16) rfl rfl
set_option maxRecDepth 20000 in
theorem qw_17 : (Cond.selects RX9 yX9_no yX9_no) ∈ lb_tbl := lb_mem0 (i := 17) rfl rfl
set_option maxRecDepth 20000 in
theorem qw_18 : (Cond.selects RX9 yX9_readsStatement yX9_readsStatement) ∈ lb_tbl := lb_mem0 (i := 18) rfl rfl
set_option maxRecDepth 20000 in
theorem qw_19 : (Cond.selects RX9 yX9_here yX9_here) ∈ lb_tbl := lb_mem0 (i := 19) rfl rfl
set_option maxRecDepth 20000 in
theorem qw_20 : (Cond.selects RX9 yX9_readsNumber yX9_readsNumber) ∈ lb_tbl := lb_mem0 (i := 20) rfl rfl
set_option maxRecDepth 20000 in
theorem qw_21 : (Cond.selects RX9 yX9_readsKind yX9_readsKind) ∈ lb_tbl := lb_mem0 (i := 21) rfl rfl
set_option maxRecDepth 20000 in
theorem qw_22 : (Cond.selects RX9 yX9_isDone yX9_isDone) ∈ lb_tbl := lb_mem0 (i := 22) rfl rfl
set_option maxRecDepth 20000 in
theorem qw_23 : (Cond.selects RX9 yX9_addsPot yX9_addsPot) ∈ lb_tbl := lb_mem0 (i := 23) rfl rfl
set_option maxRecDepth 20000 in
theorem qw_24 : (Cond.selects RX9 yX9_isPerson yX9_isPerson) ∈ lb_tbl := lb_mem0 (i := 24) rfl rfl
set_option maxRecDepth 20000 in
theorem qw_25 : (Cond.selects RX9 yX9_isPot yX9_isPot) ∈ lb_tbl := lb_mem0 (i := 25) rfl rfl
set_option maxRecDepth 20000 in
theorem qw_26 : (Cond.selects RX9 yX9_potsOf yX9_potsOf) ∈ lb_tbl := lb_mem0 (i := 26) rfl rfl
set_option maxRecDepth 20000 in
theorem qw_27 : (Cond.selects RX9 yX9_noFar yX9_noFar) ∈ lb_tbl := lb_mem0 (i := 27) rfl rfl
set_option maxRecDepth 20000 in
theorem qw_28 : (Cond.selects RX9 yX9_takes yX9_takes) ∈ lb_tbl := lb_mem0 (i := 28) rfl rfl
set_option maxRecDepth 20000 in
theorem qw_29 : (Cond.selects RX9 yX9_firstGone yX9_firstGone) ∈ lb_tbl := lb_mem0 (i := 29) rfl rfl
set_option maxRecDepth 20000 in
theorem qw_30 : (Cond.selects RX9 yX9_whenGone yX9_whenGone) ∈ lb_tbl := lb_mem0 (i := 30) rfl rfl
set_option maxRecDepth 20000 in
theorem qw_31 : (Cond.selects RX9 yX9_honestOnes yX9_honestOnes) ∈ lb_tbl := lb_mem0 (i := 31) rfl rfl
set_option maxRecDepth 20000 in
theorem qw_32 : (Cond.selects RX9 yX9_hopefulOnes yX9_hopefulOnes) ∈ lb_tbl := lb_mem0 (i := 32) rfl rfl
set_option maxRecDepth 20000 in
theorem qw_33 : (Cond.selects RX9 yX9_graceNow yX9_graceNow) ∈ lb_tbl := lb_mem0 (i := 33) rfl rfl
set_option maxRecDepth 20000 in
theorem qw_34 : (Cond.selects RX9 yX9_graceGiven yX9_graceGiven) ∈ lb_tbl := lb_mem0 (i := 34) rfl rfl
set_option maxRecDepth 20000 in
theorem qw_35 : (Cond.selects RX9 yX9_dealtTo yX9_dealtTo) ∈ lb_tbl := lb_mem0 (i := 35) rfl rfl
set_option maxRecDepth 20000 in
theorem qw_36 : (Cond.selects RX9 yX9_gainsOwner yX9_gainsOwner) ∈ lb_tbl := lb_mem0 (i := 36) rfl rfl
set_option maxRecDepth 20000 in
theorem qw_37 : (Cond.selects RX9 yX9_spoonsOf yX9_spoonsOf) ∈ lb_tbl := lb_mem0 (i := 37) rfl rfl
set_option maxRecDepth 20000 in
theorem qw_38 : (Cond.selects RX9 yX9_isNobodyGraceless yX9_isNobodyGraceless) ∈ lb_tbl := lb_mem0 (i := 38) rfl rfl
set_option maxRecDepth 20000 in
theorem qw_39 : (Cond.selects RX9 yX9_leadBy yX9_leadBy) ∈ lb_tbl := lb_mem0 (i := 39) rfl rfl
set_option maxRecDepth 20000 in
theorem qw_40 : (Cond.selects RX9 yX9_noWide yX9_noWide) ∈ lb_tbl := lb_mem0 (i := 40) rfl rfl
set_option maxRecDepth 20000 in
theorem qw_41 : (Cond.selects RX9 yX9_drawn yX9_drawn) ∈ lb_tbl := lb_mem0 (i := 41) rfl rfl
set_option maxRecDepth 20000 in
theorem qw_42 : (Cond.initialized RL) ∈ lb_tbl := lb_mem1 (i := 0) rfl rfl
set_option maxRecDepth 20000 in
theorem qw_43 : (Cond.initialized RX8) ∈ lb_tbl := lb_mem1 (i := 1) rfl rfl
set_option maxRecDepth 20000 in
theorem qw_44 : (Cond.initialized RX7) ∈ lb_tbl := lb_mem1 (i := 2) rfl rfl
set_option maxRecDepth 20000 in
theorem qw_45 : (Cond.initialized RX3) ∈ lb_tbl := lb_mem1 (i := 3) rfl rfl
set_option maxRecDepth 20000 in
theorem qw_46 : (Cond.initialized RX6) ∈ lb_tbl := lb_mem1 (i := 4) rfl rfl
set_option maxRecDepth 20000 in
theorem qw_47 : (Cond.initialized RX5) ∈ lb_tbl := lb_mem1 (i := 5) rfl rfl
set_option maxRecDepth 20000 in
theorem qw_48 : (Cond.initialized RX0) ∈ lb_tbl := lb_mem1 (i := 6) rfl rfl
set_option maxRecDepth 20000 in
theorem qw_49 : (Cond.initialized RX2) ∈ lb_tbl := lb_mem1 (i := 7) rfl rfl
set_option maxRecDepth 20000 in
theorem qw_50 : (Cond.initialized RX1) ∈ lb_tbl := lb_mem1 (i := 8) rfl rfl
set_option maxRecDepth 20000 in
theorem qw_51 : (Cond.initialized RX4) ∈ lb_tbl := lb_mem1 (i := 9) rfl rfl
set_option maxRecDepth 20000 in
theorem qw_52 : (Cond.initialized RX9) ∈ lb_tbl := lb_mem1 (i := 10) rfl rfl
set_option maxRecDepth 20000 in
theorem qw_53 : (Cond.initialized RJ0) ∈ lb_tbl := lb_mem1 (i := 11) rfl rfl
set_option maxRecDepth 20000 in
theorem qw_54 : (Cond.initialized RJ1) ∈ lb_tbl := lb_mem1 (i := 12) rfl rfl
set_option maxRecDepth 20000 in
theorem qw_55 : (Cond.initialized RJ9) ∈ lb_tbl := lb_mem1 (i := 13) rfl rfl
set_option maxRecDepth 20000 in
theorem qw_56 : (Cond.initialized RJ2) ∈ lb_tbl := lb_mem1 (i := 14) rfl rfl
set_option maxRecDepth 20000 in
theorem qw_57 : (Cond.initialized RJ3) ∈ lb_tbl := lb_mem1 (i := 15) rfl rfl
set_option maxRecDepth 20000 in
theorem qw_58 : (Cond.initialized RJ11) ∈ lb_tbl := lb_mem1 (i := 16) rfl rfl
set_option maxRecDepth 20000 in
theorem qw_59 : (Cond.initialized RJ10) ∈ lb_tbl := lb_mem1 (i := 17) rfl rfl
set_option maxRecDepth 20000 in
theorem qw_60 : (Cond.initialized RJ6) ∈ lb_tbl := lb_mem1 (i := 18) rfl rfl
set_option maxRecDepth 20000 in
theorem qw_61 : (Cond.classLink RL 7 RX8) ∈ lb_tbl := lb_mem1 (i := 19) rfl rfl
set_option maxRecDepth 20000 in
theorem qw_62 : (Cond.instantiable RX8 8) ∈ lb_tbl := lb_mem1 (i := 20) rfl rfl
set_option maxRecDepth 20000 in
theorem qw_63 : (Cond.methodLink RL 9 yX8_init) ∈ lb_tbl := lb_mem1 (i := 21) rfl rfl
set_option maxRecDepth 20000 in
theorem qw_64 : (Cond.instanceMethod yX8_init) ∈ lb_tbl := lb_mem1 (i := 22) rfl rfl
set_option maxRecDepth 20000 in
theorem qw_65 : (Cond.code yX8_init cX8_init 1 none) ∈ lb_tbl := lb_mem1 (i := 23) rfl rfl
set_option maxRecDepth 20000 in
theorem qw_66 : (Cond.methodLink RX8 1 ⟨"java/lang/Object", "<init>", "()V"⟩) ∈ lb_tbl := lb_mem1 (i := 24) rfl rfl
set_option maxRecDepth 20000 in
theorem qw_67 : (Cond.instanceMethod ⟨"java/lang/Object", "<init>", "()V"⟩) ∈ lb_tbl := lb_mem1 (i := 25) rfl rfl
set_option maxRecDepth 20000 in
theorem qw_68 : (Cond.code ⟨"java/lang/Object", "<init>", "()V"⟩ object_method_1_code 1 none) ∈ lb_tbl := lb_mem1 (i := 26) rfl rfl
set_option maxRecDepth 20000 in
theorem qw_69 : (Cond.classLink RX8 7 RX7) ∈ lb_tbl := lb_mem1 (i := 27) rfl rfl
set_option maxRecDepth 20000 in
theorem qw_70 : (Cond.instantiable RX7 12) ∈ lb_tbl := lb_mem1 (i := 28) rfl rfl
set_option maxRecDepth 20000 in
theorem qw_71 : (Cond.methodLink RX8 9 yX7_init) ∈ lb_tbl := lb_mem1 (i := 29) rfl rfl
set_option maxRecDepth 20000 in
theorem qw_72 : (Cond.instanceMethod yX7_init) ∈ lb_tbl := lb_mem1 (i := 30) rfl rfl
set_option maxRecDepth 20000 in
theorem qw_73 : (Cond.code yX7_init cX7_init 1 none) ∈ lb_tbl := lb_mem1 (i := 31) rfl rfl
set_option maxRecDepth 20000 in
theorem qw_74 : (Cond.methodLink RX7 3 ⟨"java/lang/Object", "<init>", "()V"⟩) ∈ lb_tbl := lb_mem1 (i := 32) rfl rfl
set_option maxRecDepth 20000 in
theorem qw_75 : (Cond.classLink RX7 9 RX3) ∈ lb_tbl := lb_mem1 (i := 33) rfl rfl
set_option maxRecDepth 20000 in
theorem qw_77 : (Cond.instantiable RX3 0) ∈ lb_tbl := lb_mem1 (i := 35) rfl rfl
set_option maxRecDepth 20000 in
theorem qw_78 : (Cond.methodLink RX7 11 yX3_init) ∈ lb_tbl := lb_mem1 (i := 36) rfl rfl
set_option maxRecDepth 20000 in
theorem qw_79 : (Cond.instanceMethod yX3_init) ∈ lb_tbl := lb_mem1 (i := 37) rfl rfl
set_option maxRecDepth 20000 in
theorem qw_80 : (Cond.code yX3_init cX3_init 1 none) ∈ lb_tbl := lb_mem1 (i := 38) rfl rfl
set_option maxRecDepth 20000 in
theorem qw_81 : (Cond.methodLink RX3 1 ⟨"java/lang/Object", "<init>", "()V"⟩) ∈ lb_tbl := lb_mem1 (i := 39) rfl rfl
set_option maxRecDepth 20000 in
theorem qw_82 : (Cond.superclass RX3 "java/lang/Object") ∈ lb_tbl := lb_mem1 (i := 40) rfl rfl
set_option maxRecDepth 20000 in
theorem qw_83 : (Cond.classLink RX7 12 RX6) ∈ lb_tbl := lb_mem1 (i := 41) rfl rfl
set_option maxRecDepth 20000 in
theorem qw_84 : (Cond.instantiable RX6 0) ∈ lb_tbl := lb_mem1 (i := 42) rfl rfl
set_option maxRecDepth 20000 in
theorem qw_85 : (Cond.methodLink RX7 14 yX6_init) ∈ lb_tbl := lb_mem1 (i := 43) rfl rfl
set_option maxRecDepth 20000 in
theorem qw_86 : (Cond.instanceMethod yX6_init) ∈ lb_tbl := lb_mem1 (i := 44) rfl rfl
set_option maxRecDepth 20000 in
theorem qw_87 : (Cond.code yX6_init cX6_init 1 none) ∈ lb_tbl := lb_mem1 (i := 45) rfl rfl
set_option maxRecDepth 20000 in
theorem qw_88 : (Cond.methodLink RX6 1 yX3_init) ∈ lb_tbl := lb_mem1 (i := 46) rfl rfl
set_option maxRecDepth 20000 in
theorem qw_89 : (Cond.superclass RX6 RX3) ∈ lb_tbl := lb_mem1 (i := 47) rfl rfl
set_option maxRecDepth 20000 in
theorem qw_90 : (Cond.classLink RX7 15 RX5) ∈ lb_tbl := lb_mem1 (i := 48) rfl rfl
set_option maxRecDepth 20000 in
theorem qw_91 : (Cond.instantiable RX5 0) ∈ lb_tbl := lb_mem1 (i := 49) rfl rfl
set_option maxRecDepth 20000 in
theorem qw_92 : (Cond.methodLink RX7 17 yX5_init) ∈ lb_tbl := lb_mem1 (i := 50) rfl rfl
set_option maxRecDepth 20000 in
theorem qw_93 : (Cond.instanceMethod yX5_init) ∈ lb_tbl := lb_mem1 (i := 51) rfl rfl
set_option maxRecDepth 20000 in
theorem qw_94 : (Cond.code yX5_init cX5_init 1 none) ∈ lb_tbl := lb_mem1 (i := 52) rfl rfl
set_option maxRecDepth 20000 in
theorem qw_95 : (Cond.methodLink RX5 1 yX3_init) ∈ lb_tbl := lb_mem1 (i := 53) rfl rfl
set_option maxRecDepth 20000 in
theorem qw_96 : (Cond.superclass RX5 RX3) ∈ lb_tbl := lb_mem1 (i := 54) rfl rfl
set_option maxRecDepth 20000 in
theorem qw_97 : (Cond.classLink RX7 18 RX0) ∈ lb_tbl := lb_mem1 (i := 55) rfl rfl
set_option maxRecDepth 20000 in
theorem qw_98 : (Cond.instantiable RX0 0) ∈ lb_tbl := lb_mem1 (i := 56) rfl rfl
set_option maxRecDepth 20000 in
theorem qw_99 : (Cond.methodLink RX7 20 yX0_init) ∈ lb_tbl := lb_mem1 (i := 57) rfl rfl
set_option maxRecDepth 20000 in
theorem qw_100 : (Cond.instanceMethod yX0_init) ∈ lb_tbl := lb_mem1 (i := 58) rfl rfl
set_option maxRecDepth 20000 in
theorem qw_101 : (Cond.code yX0_init cX0_init 1 none) ∈ lb_tbl := lb_mem1 (i := 59) rfl rfl
set_option maxRecDepth 20000 in
theorem qw_102 : (Cond.methodLink RX0 1 yX6_init) ∈ lb_tbl := lb_mem1 (i := 60) rfl rfl
set_option maxRecDepth 20000 in
theorem qw_103 : (Cond.superclass RX0 RX6) ∈ lb_tbl := lb_mem1 (i := 61) rfl rfl
set_option maxRecDepth 20000 in
theorem qw_104 : (Cond.classLink RX7 21 RX2) ∈ lb_tbl := lb_mem1 (i := 62) rfl rfl
set_option maxRecDepth 20000 in
theorem qw_105 : (Cond.instantiable RX2 0) ∈ lb_tbl := lb_mem1 (i := 63) rfl rfl
set_option maxRecDepth 20000 in
theorem qw_106 : (Cond.methodLink RX7 23 yX2_init) ∈ lb_tbl := lb_mem1 (i := 64) rfl rfl
set_option maxRecDepth 20000 in
theorem qw_107 : (Cond.instanceMethod yX2_init) ∈ lb_tbl := lb_mem1 (i := 65) rfl rfl
set_option maxRecDepth 20000 in
theorem qw_108 : (Cond.code yX2_init cX2_init 1 none) ∈ lb_tbl := lb_mem1 (i := 66) rfl rfl
set_option maxRecDepth 20000 in
theorem qw_109 : (Cond.methodLink RX2 1 yX5_init) ∈ lb_tbl := lb_mem1 (i := 67) rfl rfl
set_option maxRecDepth 20000 in
theorem qw_110 : (Cond.superclass RX2 RX5) ∈ lb_tbl := lb_mem1 (i := 68) rfl rfl
set_option maxRecDepth 20000 in
theorem qw_111 : (Cond.classLink RX7 24 RX1) ∈ lb_tbl := lb_mem1 (i := 69) rfl rfl
set_option maxRecDepth 20000 in
theorem qw_112 : (Cond.instantiable RX1 0) ∈ lb_tbl := lb_mem1 (i := 70) rfl rfl
set_option maxRecDepth 20000 in
theorem qw_113 : (Cond.methodLink RX7 26 yX1_init) ∈ lb_tbl := lb_mem1 (i := 71) rfl rfl
set_option maxRecDepth 20000 in
theorem qw_114 : (Cond.instanceMethod yX1_init) ∈ lb_tbl := lb_mem1 (i := 72) rfl rfl
set_option maxRecDepth 20000 in
theorem qw_115 : (Cond.code yX1_init cX1_init 1 none) ∈ lb_tbl := lb_mem1 (i := 73) rfl rfl
set_option maxRecDepth 20000 in
theorem qw_116 : (Cond.methodLink RX1 1 yX3_init) ∈ lb_tbl := lb_mem1 (i := 74) rfl rfl
set_option maxRecDepth 20000 in
theorem qw_117 : (Cond.superclass RX1 RX3) ∈ lb_tbl := lb_mem1 (i := 75) rfl rfl
set_option maxRecDepth 20000 in
theorem qw_118 : (Cond.fieldLink RX7 27 "LabelsByAnotherHand$Village" "kinds" "[LLabelsByAnotherHand$Jam;") ∈ lb_tbl := lb_mem1 (i := 76) rfl rfl
set_option maxRecDepth 20000 in
theorem qw_119 : (Cond.fieldLink RX7 33 "LabelsByAnotherHand$Village" "kind" "[I") ∈ lb_tbl := lb_mem1 (i := 77) rfl rfl
set_option maxRecDepth 20000 in
theorem qw_120 : (Cond.fieldLink RX8 89 "LabelsByAnotherHand$Village" "kind" "[I") ∈ lb_tbl := lb_mem1 (i := 78) rfl rfl
set_option maxRecDepth 20000 in
theorem qw_121 : (Cond.fieldLink RX7 37 "LabelsByAnotherHand$Village" "figure" "[I") ∈ lb_tbl := lb_mem1 (i := 79) rfl rfl
set_option maxRecDepth 20000 in
theorem qw_122 : (Cond.fieldLink RX8 92 "LabelsByAnotherHand$Village" "figure" "[I") ∈ lb_tbl := lb_mem1 (i := 80) rfl rfl
set_option maxRecDepth 20000 in
theorem qw_123 : (Cond.fieldLink RX7 40 "LabelsByAnotherHand$Village" "holds" "[I") ∈ lb_tbl := lb_mem1 (i := 81) rfl rfl
set_option maxRecDepth 20000 in
theorem qw_124 : (Cond.fieldLink RX8 95 "LabelsByAnotherHand$Village" "holds" "[I") ∈ lb_tbl := lb_mem1 (i := 82) rfl rfl
set_option maxRecDepth 20000 in
theorem qw_125 : (Cond.fieldLink RX7 43 "LabelsByAnotherHand$Village" "label" "[I") ∈ lb_tbl := lb_mem1 (i := 83) rfl rfl
set_option maxRecDepth 20000 in
theorem qw_126 : (Cond.fieldLink RX8 98 "LabelsByAnotherHand$Village" "label" "[I") ∈ lb_tbl := lb_mem1 (i := 84) rfl rfl
set_option maxRecDepth 20000 in
theorem qw_127 : (Cond.fieldLink RX7 46 "LabelsByAnotherHand$Village" "full" "[I") ∈ lb_tbl := lb_mem1 (i := 85) rfl rfl
set_option maxRecDepth 20000 in
theorem qw_128 : (Cond.fieldLink RX8 101 "LabelsByAnotherHand$Village" "full" "[I") ∈ lb_tbl := lb_mem1 (i := 86) rfl rfl
set_option maxRecDepth 20000 in
theorem qw_129 : (Cond.fieldLink RX7 49 "LabelsByAnotherHand$Village" "owner" "[I") ∈ lb_tbl := lb_mem1 (i := 87) rfl rfl
set_option maxRecDepth 20000 in
theorem qw_130 : (Cond.fieldLink RX8 104 "LabelsByAnotherHand$Village" "owner" "[I") ∈ lb_tbl := lb_mem1 (i := 88) rfl rfl
set_option maxRecDepth 20000 in
theorem qw_131 : (Cond.fieldLink RX7 52 "LabelsByAnotherHand$Village" "likes" "[I") ∈ lb_tbl := lb_mem1 (i := 89) rfl rfl
set_option maxRecDepth 20000 in
theorem qw_132 : (Cond.fieldLink RX8 110 "LabelsByAnotherHand$Village" "likes" "[I") ∈ lb_tbl := lb_mem1 (i := 90) rfl rfl
set_option maxRecDepth 20000 in
theorem qw_133 : (Cond.fieldLink RX7 55 "LabelsByAnotherHand$Village" "grace" "[I") ∈ lb_tbl := lb_mem1 (i := 91) rfl rfl
set_option maxRecDepth 20000 in
theorem qw_134 : (Cond.fieldLink RX8 113 "LabelsByAnotherHand$Village" "grace" "[I") ∈ lb_tbl := lb_mem1 (i := 92) rfl rfl
set_option maxRecDepth 20000 in
theorem qw_135 : (Cond.fieldLink RX7 58 "LabelsByAnotherHand$Village" "pots" "I") ∈ lb_tbl := lb_mem1 (i := 93) rfl rfl
set_option maxRecDepth 20000 in
theorem qw_136 : (Cond.fieldLink RX8 165 "LabelsByAnotherHand$Village" "pots" "I") ∈ lb_tbl := lb_mem1 (i := 94) rfl rfl
set_option maxRecDepth 20000 in
theorem qw_137 : (Cond.fieldLink RX7 62 "LabelsByAnotherHand$Village" "people" "I") ∈ lb_tbl := lb_mem1 (i := 95) rfl rfl
set_option maxRecDepth 20000 in
theorem qw_138 : (Cond.fieldLink RX8 156 "LabelsByAnotherHand$Village" "people" "I") ∈ lb_tbl := lb_mem1 (i := 96) rfl rfl
set_option maxRecDepth 20000 in
theorem qw_139 : (Cond.fieldLink RX7 65 "LabelsByAnotherHand$Village" "year" "I") ∈ lb_tbl := lb_mem1 (i := 97) rfl rfl
set_option maxRecDepth 20000 in
theorem qw_140 : (Cond.fieldLink RX8 137 "LabelsByAnotherHand$Village" "year" "I") ∈ lb_tbl := lb_mem1 (i := 98) rfl rfl
set_option maxRecDepth 20000 in
theorem qw_141 : (Cond.laysFinal "LabelsByAnotherHand$Village" "LabelsByAnotherHand$Village" "kinds" "[LLabelsByAnotherHand$Jam;") ∈ lb_tbl := lb_mem1 (i := 99) rfl rfl
set_option maxRecDepth 20000 in
theorem qw_143 : (Cond.laysFinal "LabelsByAnotherHand$Village" "LabelsByAnotherHand$Village" "kind" "[I") ∈ lb_tbl := lb_mem1 (i := 101) rfl rfl
set_option maxRecDepth 20000 in
theorem qw_145 : (Cond.laysFinal "LabelsByAnotherHand$Village" "LabelsByAnotherHand$Village" "figure" "[I") ∈ lb_tbl := lb_mem1 (i := 103) rfl rfl
set_option maxRecDepth 20000 in
theorem qw_147 : (Cond.laysFinal "LabelsByAnotherHand$Village" "LabelsByAnotherHand$Village" "holds" "[I") ∈ lb_tbl := lb_mem1 (i := 105) rfl rfl
set_option maxRecDepth 20000 in
theorem qw_149 : (Cond.laysFinal "LabelsByAnotherHand$Village" "LabelsByAnotherHand$Village" "label" "[I") ∈ lb_tbl := lb_mem1 (i := 107) rfl rfl
set_option maxRecDepth 20000 in
theorem qw_151 : (Cond.laysFinal "LabelsByAnotherHand$Village" "LabelsByAnotherHand$Village" "full" "[I") ∈ lb_tbl := lb_mem1 (i := 109) rfl rfl
set_option maxRecDepth 20000 in
theorem qw_153 : (Cond.laysFinal "LabelsByAnotherHand$Village" "LabelsByAnotherHand$Village" "owner" "[I") ∈ lb_tbl := lb_mem1 (i := 111) rfl rfl
set_option maxRecDepth 20000 in
theorem qw_155 : (Cond.laysFinal "LabelsByAnotherHand$Village" "LabelsByAnotherHand$Village" "likes" "[I") ∈ lb_tbl := lb_mem1 (i := 113) rfl rfl
set_option maxRecDepth 20000 in
theorem qw_157 : (Cond.laysFinal "LabelsByAnotherHand$Village" "LabelsByAnotherHand$Village" "grace" "[I") ∈ lb_tbl := lb_mem1 (i := 115) rfl rfl
set_option maxRecDepth 20000 in
theorem qw_159 : (Cond.lays "LabelsByAnotherHand$Village" "LabelsByAnotherHand$Village" "pots" "I") ∈ lb_tbl := lb_mem1 (i := 117) rfl rfl
set_option maxRecDepth 20000 in
theorem qw_161 : (Cond.lays "LabelsByAnotherHand$Village" "LabelsByAnotherHand$Village" "people" "I") ∈ lb_tbl := lb_mem1 (i := 119) rfl rfl
set_option maxRecDepth 20000 in
theorem qw_163 : (Cond.lays "LabelsByAnotherHand$Village" "LabelsByAnotherHand$Village" "year" "I") ∈ lb_tbl := lb_mem1 (i := 121) rfl rfl
set_option maxRecDepth 20000 in
theorem qw_165 : (Cond.superclass RX7 "java/lang/Object") ∈ lb_tbl := lb_mem1 (i := 123) rfl rfl
set_option maxRecDepth 20000 in
theorem qw_166 : (Cond.arrayClass Jvm.ClassFile.FieldType.int) ∈ lb_tbl := lb_mem1 (i := 124) rfl rfl
set_option maxRecDepth 20000 in
theorem qw_167 : (Cond.classLink RX8 26 RX4) ∈ lb_tbl := lb_mem1 (i := 125) rfl rfl
set_option maxRecDepth 20000 in
theorem qw_168 : (Cond.instantiable RX4 2) ∈ lb_tbl := lb_mem1 (i := 126) rfl rfl
set_option maxRecDepth 20000 in
theorem qw_169 : (Cond.methodLink RX8 28 yX4_init) ∈ lb_tbl := lb_mem1 (i := 127) rfl rfl
set_option maxRecDepth 20000 in
theorem qw_170 : (Cond.instanceMethod yX4_init) ∈ lb_tbl := lb_mem1 (i := 128) rfl rfl
set_option maxRecDepth 20000 in
theorem qw_171 : (Cond.code yX4_init cX4_init 1 none) ∈ lb_tbl := lb_mem1 (i := 129) rfl rfl
set_option maxRecDepth 20000 in
theorem qw_172 : (Cond.methodLink RX4 3 ⟨"java/lang/Object", "<init>", "()V"⟩) ∈ lb_tbl := lb_mem1 (i := 130) rfl rfl
set_option maxRecDepth 20000 in
theorem qw_173 : (Cond.fieldLink RX4 9 "LabelsByAnotherHand$Letters" "letters" "[I") ∈ lb_tbl := lb_mem1 (i := 131) rfl rfl
set_option maxRecDepth 20000 in
theorem qw_174 : (Cond.fieldLink RX4 15 "LabelsByAnotherHand$Letters" "count" "I") ∈ lb_tbl := lb_mem1 (i := 132) rfl rfl
set_option maxRecDepth 20000 in
theorem qw_175 : (Cond.fieldLink RX8 48 "LabelsByAnotherHand$Letters" "count" "I") ∈ lb_tbl := lb_mem1 (i := 133) rfl rfl
set_option maxRecDepth 20000 in
theorem qw_176 : (Cond.laysFinal "LabelsByAnotherHand$Letters" "LabelsByAnotherHand$Letters" "letters" "[I") ∈ lb_tbl := lb_mem1 (i := 134) rfl rfl
set_option maxRecDepth 20000 in
theorem qw_178 : (Cond.lays "LabelsByAnotherHand$Letters" "LabelsByAnotherHand$Letters" "count" "I") ∈ lb_tbl := lb_mem1 (i := 136) rfl rfl
set_option maxRecDepth 20000 in
theorem qw_180 : (Cond.superclass RX4 "java/lang/Object") ∈ lb_tbl := lb_mem1 (i := 138) rfl rfl
set_option maxRecDepth 20000 in
theorem qw_181 : (Cond.fieldLink RX8 10 "LabelsByAnotherHand" "now" "LLabelsByAnotherHand$Village;") ∈ lb_tbl := lb_mem1 (i := 139) rfl rfl
set_option maxRecDepth 20000 in
theorem qw_182 : (Cond.fieldLink RX8 16 "LabelsByAnotherHand" "mind" "LLabelsByAnotherHand$Village;") ∈ lb_tbl := lb_mem1 (i := 140) rfl rfl
set_option maxRecDepth 20000 in
theorem qw_183 : (Cond.fieldLink RX8 19 "LabelsByAnotherHand" "kept" "LLabelsByAnotherHand$Village;") ∈ lb_tbl := lb_mem1 (i := 141) rfl rfl
set_option maxRecDepth 20000 in
theorem qw_184 : (Cond.fieldLink RX8 22 "LabelsByAnotherHand" "isKept" "Z") ∈ lb_tbl := lb_mem1 (i := 142) rfl rfl
set_option maxRecDepth 20000 in
theorem qw_185 : (Cond.fieldLink RX8 29 "LabelsByAnotherHand" "told" "LLabelsByAnotherHand$Letters;") ∈ lb_tbl := lb_mem1 (i := 143) rfl rfl
set_option maxRecDepth 20000 in
theorem qw_186 : (Cond.fieldLink RX8 33 "LabelsByAnotherHand" "row" "[I") ∈ lb_tbl := lb_mem1 (i := 144) rfl rfl
set_option maxRecDepth 20000 in
theorem qw_187 : (Cond.fieldLink RX8 37 "LabelsByAnotherHand" "rowCount" "I") ∈ lb_tbl := lb_mem1 (i := 145) rfl rfl
set_option maxRecDepth 20000 in
theorem qw_188 : (Cond.fieldLink RX8 41 "LabelsByAnotherHand" "refusals" "[I") ∈ lb_tbl := lb_mem1 (i := 146) rfl rfl
set_option maxRecDepth 20000 in
theorem qw_189 : (Cond.laysFinal "LabelsByAnotherHand" "LabelsByAnotherHand" "now" "LLabelsByAnotherHand$Village;") ∈ lb_tbl := lb_mem1 (i := 147) rfl rfl
set_option maxRecDepth 20000 in
theorem qw_191 : (Cond.laysFinal "LabelsByAnotherHand" "LabelsByAnotherHand" "mind" "LLabelsByAnotherHand$Village;") ∈ lb_tbl := lb_mem1 (i := 149) rfl rfl
set_option maxRecDepth 20000 in
theorem qw_193 : (Cond.laysFinal "LabelsByAnotherHand" "LabelsByAnotherHand" "kept" "LLabelsByAnotherHand$Village;") ∈ lb_tbl := lb_mem1 (i := 151) rfl rfl
set_option maxRecDepth 20000 in
theorem qw_195 : (Cond.lays "LabelsByAnotherHand" "LabelsByAnotherHand" "isKept" "Z") ∈ lb_tbl := lb_mem1 (i := 153) rfl rfl
set_option maxRecDepth 20000 in
theorem qw_197 : (Cond.laysFinal "LabelsByAnotherHand" "LabelsByAnotherHand" "told" "LLabelsByAnotherHand$Letters;") ∈ lb_tbl := lb_mem1 (i := 155) rfl rfl
set_option maxRecDepth 20000 in
theorem qw_199 : (Cond.laysFinal "LabelsByAnotherHand" "LabelsByAnotherHand" "row" "[I") ∈ lb_tbl := lb_mem1 (i := 157) rfl rfl
set_option maxRecDepth 20000 in
theorem qw_201 : (Cond.lays "LabelsByAnotherHand" "LabelsByAnotherHand" "rowCount" "I") ∈ lb_tbl := lb_mem1 (i := 159) rfl rfl
set_option maxRecDepth 20000 in
theorem qw_203 : (Cond.laysFinal "LabelsByAnotherHand" "LabelsByAnotherHand" "refusals" "[I") ∈ lb_tbl := lb_mem1 (i := 161) rfl rfl
set_option maxRecDepth 20000 in
theorem qw_205 : (Cond.superclass RX8 "java/lang/Object") ∈ lb_tbl := lb_mem1 (i := 163) rfl rfl
set_option maxRecDepth 20000 in
theorem qw_206 : (Cond.methodLink RL 13 yX8_letter) ∈ lb_tbl := lb_mem1 (i := 164) rfl rfl
set_option maxRecDepth 20000 in
theorem qw_207 : (Cond.instanceMethod yX8_letter) ∈ lb_tbl := lb_mem1 (i := 165) rfl rfl
set_option maxRecDepth 20000 in
theorem qw_208 : (Cond.selects RX8 yX8_letter yX8_letter) ∈ lb_tbl := lb_mem1 (i := 166) rfl rfl
set_option maxRecDepth 20000 in
theorem qw_209 : (Cond.code yX8_letter cX8_letter 3 (some .int)) ∈ lb_tbl := lb_mem1 (i := 167) rfl rfl
set_option maxRecDepth 20000 in
theorem qw_210 : (Cond.methodLink RX8 44 yX8_within) ∈ lb_tbl := lb_mem1 (i := 168) rfl rfl
set_option maxRecDepth 20000 in
theorem qw_211 : (Cond.static yX8_within) ∈ lb_tbl := lb_mem1 (i := 169) rfl rfl
set_option maxRecDepth 20000 in
theorem qw_212 : (Cond.code yX8_within cX8_within 3 (some .int)) ∈ lb_tbl := lb_mem1 (i := 170) rfl rfl
set_option maxRecDepth 20000 in
theorem qw_213 : (Cond.methodLink RX8 51 yX8_first) ∈ lb_tbl := lb_mem1 (i := 171) rfl rfl
set_option maxRecDepth 20000 in
theorem qw_214 : (Cond.static yX8_first) ∈ lb_tbl := lb_mem1 (i := 172) rfl rfl
set_option maxRecDepth 20000 in
theorem qw_215 : (Cond.code yX8_first cX8_first 2 (some .int)) ∈ lb_tbl := lb_mem1 (i := 173) rfl rfl
set_option maxRecDepth 20000 in
theorem qw_216 : (Cond.methodLink RX8 55 yX8_refuse) ∈ lb_tbl := lb_mem1 (i := 174) rfl rfl
set_option maxRecDepth 20000 in
theorem qw_218 : (Cond.instanceMethod yX8_refuse) ∈ lb_tbl := lb_mem1 (i := 176) rfl rfl
set_option maxRecDepth 20000 in
theorem qw_219 : (Cond.code yX8_refuse cX8_refuse 2 (some .int)) ∈ lb_tbl := lb_mem1 (i := 177) rfl rfl
set_option maxRecDepth 20000 in
theorem qw_220 : (Cond.methodLink RX8 59 yX4_add) ∈ lb_tbl := lb_mem1 (i := 178) rfl rfl
set_option maxRecDepth 20000 in
theorem qw_221 : (Cond.instanceMethod yX4_add) ∈ lb_tbl := lb_mem1 (i := 179) rfl rfl
set_option maxRecDepth 20000 in
theorem qw_222 : (Cond.selects RX4 yX4_add yX4_add) ∈ lb_tbl := lb_mem1 (i := 180) rfl rfl
set_option maxRecDepth 20000 in
theorem qw_223 : (Cond.code yX4_add cX4_add 2 none) ∈ lb_tbl := lb_mem1 (i := 181) rfl rfl
set_option maxRecDepth 20000 in
theorem qw_224 : (Cond.methodLink RL 18 yX8_village) ∈ lb_tbl := lb_mem1 (i := 182) rfl rfl
set_option maxRecDepth 20000 in
theorem qw_225 : (Cond.instanceMethod yX8_village) ∈ lb_tbl := lb_mem1 (i := 183) rfl rfl
set_option maxRecDepth 20000 in
theorem qw_226 : (Cond.selects RX8 yX8_village yX8_village) ∈ lb_tbl := lb_mem1 (i := 184) rfl rfl
set_option maxRecDepth 20000 in
theorem qw_227 : (Cond.code yX8_village cX8_village 4 (some .int)) ∈ lb_tbl := lb_mem1 (i := 185) rfl rfl
set_option maxRecDepth 20000 in
theorem qw_228 : (Cond.methodLink RX8 63 yX4_wrongPlace) ∈ lb_tbl := lb_mem1 (i := 186) rfl rfl
set_option maxRecDepth 20000 in
theorem qw_229 : (Cond.instanceMethod yX4_wrongPlace) ∈ lb_tbl := lb_mem1 (i := 187) rfl rfl
set_option maxRecDepth 20000 in
theorem qw_230 : (Cond.selects RX4 yX4_wrongPlace yX4_wrongPlace) ∈ lb_tbl := lb_mem1 (i := 188) rfl rfl
set_option maxRecDepth 20000 in
theorem qw_231 : (Cond.code yX4_wrongPlace cX4_wrongPlace 4 (some .int)) ∈ lb_tbl := lb_mem1 (i := 189) rfl rfl
set_option maxRecDepth 20000 in
theorem qw_232 : (Cond.methodLink RX4 30 yX4_lengthAt) ∈ lb_tbl := lb_mem1 (i := 190) rfl rfl
set_option maxRecDepth 20000 in
theorem qw_233 : (Cond.instanceMethod yX4_lengthAt) ∈ lb_tbl := lb_mem1 (i := 191) rfl rfl
set_option maxRecDepth 20000 in
theorem qw_234 : (Cond.selects RX4 yX4_lengthAt yX4_lengthAt) ∈ lb_tbl := lb_mem1 (i := 192) rfl rfl
set_option maxRecDepth 20000 in
theorem qw_235 : (Cond.code yX4_lengthAt cX4_lengthAt 2 (some .int)) ∈ lb_tbl := lb_mem1 (i := 193) rfl rfl
set_option maxRecDepth 20000 in
theorem qw_236 : (Cond.methodLink RX4 19 yX4_letterAt) ∈ lb_tbl := lb_mem1 (i := 194) rfl rfl
set_option maxRecDepth 20000 in
theorem qw_237 : (Cond.instanceMethod yX4_letterAt) ∈ lb_tbl := lb_mem1 (i := 195) rfl rfl
set_option maxRecDepth 20000 in
theorem qw_238 : (Cond.selects RX4 yX4_letterAt yX4_letterAt) ∈ lb_tbl := lb_mem1 (i := 196) rfl rfl
set_option maxRecDepth 20000 in
theorem qw_239 : (Cond.code yX4_letterAt cX4_letterAt 2 (some .int)) ∈ lb_tbl := lb_mem1 (i := 197) rfl rfl
set_option maxRecDepth 20000 in
theorem qw_240 : (Cond.methodLink RX4 33 yX4_fits) ∈ lb_tbl := lb_mem1 (i := 198) rfl rfl
set_option maxRecDepth 20000 in
theorem qw_241 : (Cond.instanceMethod yX4_fits) ∈ lb_tbl := lb_mem1 (i := 199) rfl rfl
set_option maxRecDepth 20000 in
theorem qw_242 : (Cond.selects RX4 yX4_fits yX4_fits) ∈ lb_tbl := lb_mem1 (i := 200) rfl rfl
set_option maxRecDepth 20000 in
theorem qw_243 : (Cond.code yX4_fits cX4_fits 4 (some .boolean)) ∈ lb_tbl := lb_mem1 (i := 201) rfl rfl
set_option maxRecDepth 20000 in
theorem qw_244 : (Cond.methodLink RX4 37 yX4_kindAt) ∈ lb_tbl := lb_mem1 (i := 202) rfl rfl
set_option maxRecDepth 20000 in
theorem qw_245 : (Cond.instanceMethod yX4_kindAt) ∈ lb_tbl := lb_mem1 (i := 203) rfl rfl
set_option maxRecDepth 20000 in
theorem qw_246 : (Cond.selects RX4 yX4_kindAt yX4_kindAt) ∈ lb_tbl := lb_mem1 (i := 204) rfl rfl
set_option maxRecDepth 20000 in
theorem qw_247 : (Cond.code yX4_kindAt cX4_kindAt 2 (some .int)) ∈ lb_tbl := lb_mem1 (i := 205) rfl rfl
set_option maxRecDepth 20000 in
theorem qw_249 : (Cond.methodLink RX4 25 yJ0_indexOf_0f7a4) ∈ lb_tbl := lb_mem1 (i := 207) rfl rfl
set_option maxRecDepth 20000 in
theorem qw_250 : (Cond.instanceMethod yJ0_indexOf_0f7a4) ∈ lb_tbl := lb_mem1 (i := 208) rfl rfl
set_option maxRecDepth 20000 in
theorem qw_251 : (Cond.selects RJ0 yJ0_indexOf_0f7a4 yJ0_indexOf_0f7a4) ∈ lb_tbl := lb_mem1 (i := 209) rfl rfl
set_option maxRecDepth 20000 in
theorem qw_252 : (Cond.code yJ0_indexOf_0f7a4 cJ0_indexOf_0f7a4 2 (some .int)) ∈ lb_tbl := lb_mem1 (i := 210) rfl rfl
set_option maxRecDepth 20000 in
theorem qw_253 : (Cond.methodLink RJ0 633 yJ0_indexOf_7cf53) ∈ lb_tbl := lb_mem1 (i := 211) rfl rfl
set_option maxRecDepth 20000 in
theorem qw_254 : (Cond.instanceMethod yJ0_indexOf_7cf53) ∈ lb_tbl := lb_mem1 (i := 212) rfl rfl
set_option maxRecDepth 20000 in
theorem qw_255 : (Cond.selects RJ0 yJ0_indexOf_7cf53 yJ0_indexOf_7cf53) ∈ lb_tbl := lb_mem1 (i := 213) rfl rfl
set_option maxRecDepth 20000 in
theorem qw_256 : (Cond.code yJ0_indexOf_7cf53 cJ0_indexOf_7cf53 3 (some .int)) ∈ lb_tbl := lb_mem1 (i := 214) rfl rfl
set_option maxRecDepth 20000 in
theorem qw_257 : (Cond.methodLink RJ0 492 yJ0_isLatin1_aae02) ∈ lb_tbl := lb_mem1 (i := 215) rfl rfl
set_option maxRecDepth 20000 in
theorem qw_258 : (Cond.instanceMethod yJ0_isLatin1_aae02) ∈ lb_tbl := lb_mem1 (i := 216) rfl rfl
set_option maxRecDepth 20000 in
theorem qw_259 : (Cond.selects RJ0 yJ0_isLatin1_aae02 yJ0_isLatin1_aae02) ∈ lb_tbl := lb_mem1 (i := 217) rfl rfl
set_option maxRecDepth 20000 in
theorem qw_260 : (Cond.code yJ0_isLatin1_aae02 cJ0_isLatin1_aae02 1 (some .boolean)) ∈ lb_tbl := lb_mem1 (i := 218) rfl rfl
set_option maxRecDepth 20000 in
theorem qw_261 : (Cond.fieldLink RJ0 38 "java/lang/String" "COMPACT_STRINGS" "Z") ∈ lb_tbl := lb_mem1 (i := 219) rfl rfl
set_option maxRecDepth 20000 in
theorem qw_263 : (Cond.methodLink RJ0 505 yJ0_length_8abf5) ∈ lb_tbl := lb_mem1 (i := 221) rfl rfl
set_option maxRecDepth 20000 in
theorem qw_264 : (Cond.instanceMethod yJ0_length_8abf5) ∈ lb_tbl := lb_mem1 (i := 222) rfl rfl
set_option maxRecDepth 20000 in
theorem qw_265 : (Cond.selects RJ0 yJ0_length_8abf5 yJ0_length_8abf5) ∈ lb_tbl := lb_mem1 (i := 223) rfl rfl
set_option maxRecDepth 20000 in
theorem qw_266 : (Cond.code yJ0_length_8abf5 cJ0_length_8abf5 1 (some .int)) ∈ lb_tbl := lb_mem1 (i := 224) rfl rfl
set_option maxRecDepth 20000 in
theorem qw_267 : (Cond.methodLink RJ0 335 yJ0_coder_7d493) ∈ lb_tbl := lb_mem1 (i := 225) rfl rfl
set_option maxRecDepth 20000 in
theorem qw_268 : (Cond.instanceMethod yJ0_coder_7d493) ∈ lb_tbl := lb_mem1 (i := 226) rfl rfl
set_option maxRecDepth 20000 in
theorem qw_269 : (Cond.selects RJ0 yJ0_coder_7d493 yJ0_coder_7d493) ∈ lb_tbl := lb_mem1 (i := 227) rfl rfl
set_option maxRecDepth 20000 in
theorem qw_270 : (Cond.code yJ0_coder_7d493 cJ0_coder_7d493 1 (some .byte)) ∈ lb_tbl := lb_mem1 (i := 228) rfl rfl
set_option maxRecDepth 20000 in
theorem qw_271 : (Cond.methodLink RJ0 637 yJ1_indexOf_4cfef) ∈ lb_tbl := lb_mem1 (i := 229) rfl rfl
set_option maxRecDepth 20000 in
theorem qw_272 : (Cond.static yJ1_indexOf_4cfef) ∈ lb_tbl := lb_mem1 (i := 230) rfl rfl
set_option maxRecDepth 20000 in
theorem qw_273 : (Cond.code yJ1_indexOf_4cfef cJ1_indexOf_4cfef 4 (some .int)) ∈ lb_tbl := lb_mem1 (i := 231) rfl rfl
set_option maxRecDepth 20000 in
theorem qw_274 : (Cond.methodLink RJ1 88 yJ1_canEncode_9a6ad) ∈ lb_tbl := lb_mem1 (i := 232) rfl rfl
set_option maxRecDepth 20000 in
theorem qw_275 : (Cond.static yJ1_canEncode_9a6ad) ∈ lb_tbl := lb_mem1 (i := 233) rfl rfl
set_option maxRecDepth 20000 in
theorem qw_276 : (Cond.code yJ1_canEncode_9a6ad cJ1_canEncode_9a6ad 1 (some .boolean)) ∈ lb_tbl := lb_mem1 (i := 234) rfl rfl
set_option maxRecDepth 20000 in
theorem qw_277 : (Cond.methodLink RJ1 92 yJ9_max_7cf53) ∈ lb_tbl := lb_mem1 (i := 235) rfl rfl
set_option maxRecDepth 20000 in
theorem qw_278 : (Cond.static yJ9_max_7cf53) ∈ lb_tbl := lb_mem1 (i := 236) rfl rfl
set_option maxRecDepth 20000 in
theorem qw_279 : (Cond.code yJ9_max_7cf53 cJ9_max_7cf53 2 (some .int)) ∈ lb_tbl := lb_mem1 (i := 237) rfl rfl
set_option maxRecDepth 20000 in
theorem qw_280 : (Cond.methodLink RJ1 38 yJ9_min_7cf53) ∈ lb_tbl := lb_mem1 (i := 238) rfl rfl
set_option maxRecDepth 20000 in
theorem qw_281 : (Cond.static yJ9_min_7cf53) ∈ lb_tbl := lb_mem1 (i := 239) rfl rfl
set_option maxRecDepth 20000 in
theorem qw_282 : (Cond.code yJ9_min_7cf53 cJ9_min_7cf53 2 (some .int)) ∈ lb_tbl := lb_mem2 (i := 0) rfl rfl
set_option maxRecDepth 20000 in
theorem qw_283 : (Cond.methodLink RJ1 95 yJ1_indexOfChar_4cfef) ∈ lb_tbl := lb_mem2 (i := 1) rfl rfl
set_option maxRecDepth 20000 in
theorem qw_284 : (Cond.static yJ1_indexOfChar_4cfef) ∈ lb_tbl := lb_mem2 (i := 2) rfl rfl
set_option maxRecDepth 20000 in
theorem qw_285 : (Cond.code yJ1_indexOfChar_4cfef cJ1_indexOfChar_4cfef 6 (some .int)) ∈ lb_tbl := lb_mem2 (i := 3) rfl rfl
set_option maxRecDepth 20000 in
theorem qw_286 : (Cond.methodLink RJ0 640 yJ2_indexOf_4cfef) ∈ lb_tbl := lb_mem2 (i := 4) rfl rfl
set_option maxRecDepth 20000 in
theorem qw_287 : (Cond.static yJ2_indexOf_4cfef) ∈ lb_tbl := lb_mem2 (i := 5) rfl rfl
set_option maxRecDepth 20000 in
theorem qw_288 : (Cond.code yJ2_indexOf_4cfef cJ2_indexOf_4cfef 4 (some .int)) ∈ lb_tbl := lb_mem2 (i := 6) rfl rfl
set_option maxRecDepth 20000 in
theorem qw_289 : (Cond.methodLink RJ2 224 yJ9_max_7cf53) ∈ lb_tbl := lb_mem2 (i := 7) rfl rfl
set_option maxRecDepth 20000 in
theorem qw_290 : (Cond.methodLink RJ2 183 yJ9_min_7cf53) ∈ lb_tbl := lb_mem2 (i := 8) rfl rfl
set_option maxRecDepth 20000 in
theorem qw_291 : (Cond.constant RJ2 227 (65536)) ∈ lb_tbl := lb_mem2 (i := 9) rfl rfl
set_option maxRecDepth 20000 in
theorem qw_292 : (Cond.methodLink RJ2 228 yJ2_indexOfChar_4cfef) ∈ lb_tbl := lb_mem2 (i := 10) rfl rfl
set_option maxRecDepth 20000 in
theorem qw_293 : (Cond.static yJ2_indexOfChar_4cfef) ∈ lb_tbl := lb_mem2 (i := 11) rfl rfl
set_option maxRecDepth 20000 in
theorem qw_294 : (Cond.code yJ2_indexOfChar_4cfef cJ2_indexOfChar_4cfef 4 (some .int)) ∈ lb_tbl := lb_mem2 (i := 12) rfl rfl
set_option maxRecDepth 20000 in
theorem qw_295 : (Cond.methodLink RJ2 96 yJ2_checkBoundsBeginEnd_d044e) ∈ lb_tbl := lb_mem2 (i := 13) rfl rfl
set_option maxRecDepth 20000 in
theorem qw_296 : (Cond.static yJ2_checkBoundsBeginEnd_d044e) ∈ lb_tbl := lb_mem2 (i := 14) rfl rfl
set_option maxRecDepth 20000 in
theorem qw_297 : (Cond.code yJ2_checkBoundsBeginEnd_d044e cJ2_checkBoundsBeginEnd_d044e 3 none) ∈ lb_tbl := lb_mem2 (i := 15) rfl rfl
set_option maxRecDepth 20000 in
theorem qw_298 : (Cond.methodLink RJ2 48 yJ2_length_9d52b) ∈ lb_tbl := lb_mem2 (i := 16) rfl rfl
set_option maxRecDepth 20000 in
theorem qw_299 : (Cond.static yJ2_length_9d52b) ∈ lb_tbl := lb_mem2 (i := 17) rfl rfl
set_option maxRecDepth 20000 in
theorem qw_300 : (Cond.code yJ2_length_9d52b cJ2_length_9d52b 1 (some .int)) ∈ lb_tbl := lb_mem2 (i := 18) rfl rfl
set_option maxRecDepth 20000 in
theorem qw_301 : (Cond.methodLink RJ2 241 yJ0_checkBoundsBeginEnd_23922) ∈ lb_tbl := lb_mem2 (i := 19) rfl rfl
set_option maxRecDepth 20000 in
theorem qw_302 : (Cond.static yJ0_checkBoundsBeginEnd_23922) ∈ lb_tbl := lb_mem2 (i := 20) rfl rfl
set_option maxRecDepth 20000 in
theorem qw_303 : (Cond.code yJ0_checkBoundsBeginEnd_23922 cJ0_checkBoundsBeginEnd_23922 3 none) ∈ lb_tbl := lb_mem2 (i := 21) rfl rfl
set_option maxRecDepth 20000 in
theorem qw_304 : (Cond.fieldLink RJ0 1053 "jdk/internal/util/Preconditions" "SIOOBE_FORMATTER" "Ljava/util/function/BiFunction;") ∈ lb_tbl := lb_mem2 (i := 22) rfl rfl
set_option maxRecDepth 20000 in
theorem qw_306 : (Cond.methodLink RJ0 1062 yJ3_checkFromToIndex_8c36e) ∈ lb_tbl := lb_mem2 (i := 24) rfl rfl
set_option maxRecDepth 20000 in
theorem qw_307 : (Cond.static yJ3_checkFromToIndex_8c36e) ∈ lb_tbl := lb_mem2 (i := 25) rfl rfl
set_option maxRecDepth 20000 in
theorem qw_308 : (Cond.code yJ3_checkFromToIndex_8c36e cJ3_checkFromToIndex_8c36e 4 (some .int)) ∈ lb_tbl := lb_mem2 (i := 26) rfl rfl
set_option maxRecDepth 20000 in
theorem qw_309 : (Cond.methodLink RJ2 244 yJ2_indexOfCharUnsafe_4cfef) ∈ lb_tbl := lb_mem2 (i := 27) rfl rfl
set_option maxRecDepth 20000 in
theorem qw_310 : (Cond.static yJ2_indexOfCharUnsafe_4cfef) ∈ lb_tbl := lb_mem2 (i := 28) rfl rfl
set_option maxRecDepth 20000 in
theorem qw_311 : (Cond.code yJ2_indexOfCharUnsafe_4cfef cJ2_indexOfCharUnsafe_4cfef 5 (some .int)) ∈ lb_tbl := lb_mem2 (i := 29) rfl rfl
set_option maxRecDepth 20000 in
theorem qw_312 : (Cond.methodLink RJ2 71 yJ2_getChar_3b067) ∈ lb_tbl := lb_mem2 (i := 30) rfl rfl
set_option maxRecDepth 20000 in
theorem qw_313 : (Cond.static yJ2_getChar_3b067) ∈ lb_tbl := lb_mem2 (i := 31) rfl rfl
set_option maxRecDepth 20000 in
theorem qw_314 : (Cond.code yJ2_getChar_3b067 cJ2_getChar_3b067 2 (some .char)) ∈ lb_tbl := lb_mem2 (i := 32) rfl rfl
set_option maxRecDepth 20000 in
theorem qw_315 : (Cond.fieldLink RJ2 44 "java/lang/StringUTF16" "$assertionsDisabled" "Z") ∈ lb_tbl := lb_mem2 (i := 33) rfl rfl
set_option maxRecDepth 20000 in
theorem qw_317 : (Cond.fieldLink RJ2 59 "java/lang/StringUTF16" "HI_BYTE_SHIFT" "I") ∈ lb_tbl := lb_mem2 (i := 35) rfl rfl
set_option maxRecDepth 20000 in
theorem qw_319 : (Cond.fieldLink RJ2 63 "java/lang/StringUTF16" "LO_BYTE_SHIFT" "I") ∈ lb_tbl := lb_mem2 (i := 37) rfl rfl
set_option maxRecDepth 20000 in
theorem qw_321 : (Cond.methodLink RJ2 232 yJ2_indexOfSupplementary_4cfef) ∈ lb_tbl := lb_mem2 (i := 39) rfl rfl
set_option maxRecDepth 20000 in
theorem qw_322 : (Cond.static yJ2_indexOfSupplementary_4cfef) ∈ lb_tbl := lb_mem2 (i := 40) rfl rfl
set_option maxRecDepth 20000 in
theorem qw_323 : (Cond.code yJ2_indexOfSupplementary_4cfef cJ2_indexOfSupplementary_4cfef 7 (some .int)) ∈ lb_tbl := lb_mem2 (i := 41) rfl rfl
set_option maxRecDepth 20000 in
theorem qw_324 : (Cond.methodLink RJ2 164 yJ11_isValidCodePoint_9a6ad) ∈ lb_tbl := lb_mem2 (i := 42) rfl rfl
set_option maxRecDepth 20000 in
theorem qw_325 : (Cond.static yJ11_isValidCodePoint_9a6ad) ∈ lb_tbl := lb_mem2 (i := 43) rfl rfl
set_option maxRecDepth 20000 in
theorem qw_326 : (Cond.code yJ11_isValidCodePoint_9a6ad cJ11_isValidCodePoint_9a6ad 2 (some .boolean)) ∈ lb_tbl := lb_mem2 (i := 44) rfl rfl
set_option maxRecDepth 20000 in
theorem qw_327 : (Cond.methodLink RJ2 157 yJ11_highSurrogate_5068e) ∈ lb_tbl := lb_mem2 (i := 45) rfl rfl
set_option maxRecDepth 20000 in
theorem qw_328 : (Cond.static yJ11_highSurrogate_5068e) ∈ lb_tbl := lb_mem2 (i := 46) rfl rfl
set_option maxRecDepth 20000 in
theorem qw_329 : (Cond.code yJ11_highSurrogate_5068e cJ11_highSurrogate_5068e 1 (some .char)) ∈ lb_tbl := lb_mem2 (i := 47) rfl rfl
set_option maxRecDepth 20000 in
theorem qw_330 : (Cond.constant RJ11 110 (55232)) ∈ lb_tbl := lb_mem2 (i := 48) rfl rfl
set_option maxRecDepth 20000 in
theorem qw_331 : (Cond.methodLink RJ2 161 yJ11_lowSurrogate_5068e) ∈ lb_tbl := lb_mem2 (i := 49) rfl rfl
set_option maxRecDepth 20000 in
theorem qw_332 : (Cond.static yJ11_lowSurrogate_5068e) ∈ lb_tbl := lb_mem2 (i := 50) rfl rfl
set_option maxRecDepth 20000 in
theorem qw_333 : (Cond.code yJ11_lowSurrogate_5068e cJ11_lowSurrogate_5068e 1 (some .char)) ∈ lb_tbl := lb_mem2 (i := 51) rfl rfl
set_option maxRecDepth 20000 in
theorem qw_334 : (Cond.constant RJ11 76 (56320)) ∈ lb_tbl := lb_mem2 (i := 52) rfl rfl
set_option maxRecDepth 20000 in
theorem qw_335 : (Cond.methodLink RX4 40 yX4_digitAt) ∈ lb_tbl := lb_mem2 (i := 53) rfl rfl
set_option maxRecDepth 20000 in
theorem qw_336 : (Cond.instanceMethod yX4_digitAt) ∈ lb_tbl := lb_mem2 (i := 54) rfl rfl
set_option maxRecDepth 20000 in
theorem qw_337 : (Cond.selects RX4 yX4_digitAt yX4_digitAt) ∈ lb_tbl := lb_mem2 (i := 55) rfl rfl
set_option maxRecDepth 20000 in
theorem qw_338 : (Cond.code yX4_digitAt cX4_digitAt 2 (some .int)) ∈ lb_tbl := lb_mem2 (i := 56) rfl rfl
set_option maxRecDepth 20000 in
theorem qw_339 : (Cond.methodLink RX4 43 yX7_isDigit) ∈ lb_tbl := lb_mem2 (i := 57) rfl rfl
set_option maxRecDepth 20000 in
theorem qw_340 : (Cond.static yX7_isDigit) ∈ lb_tbl := lb_mem2 (i := 58) rfl rfl
set_option maxRecDepth 20000 in
theorem qw_341 : (Cond.code yX7_isDigit cX7_isDigit 1 (some .boolean)) ∈ lb_tbl := lb_mem2 (i := 59) rfl rfl
set_option maxRecDepth 20000 in
theorem qw_342 : (Cond.methodLink RX8 67 yX7_become) ∈ lb_tbl := lb_mem2 (i := 60) rfl rfl
set_option maxRecDepth 20000 in
theorem qw_343 : (Cond.instanceMethod yX7_become) ∈ lb_tbl := lb_mem2 (i := 61) rfl rfl
set_option maxRecDepth 20000 in
theorem qw_344 : (Cond.selects RX7 yX7_become yX7_become) ∈ lb_tbl := lb_mem2 (i := 62) rfl rfl
set_option maxRecDepth 20000 in
theorem qw_345 : (Cond.code yX7_become cX7_become 2 none) ∈ lb_tbl := lb_mem2 (i := 63) rfl rfl
set_option maxRecDepth 20000 in
theorem qw_346 : (Cond.methodLink RX7 68 ⟨RJ10, "arraycopy", "(Ljava/lang/Object;ILjava/lang/Object;II)V"⟩) ∈ lb_tbl := lb_mem2 (i := 64) rfl rfl
set_option maxRecDepth 20000 in
theorem qw_347 : (Cond.static ⟨RJ10, "arraycopy", "(Ljava/lang/Object;ILjava/lang/Object;II)V"⟩) ∈ lb_tbl := lb_mem2 (i := 65) rfl rfl
set_option maxRecDepth 20000 in
theorem qw_348 : (Cond.native ⟨RJ10, "arraycopy", "(Ljava/lang/Object;ILjava/lang/Object;II)V"⟩) ∈ lb_tbl := lb_mem2 (i := 66) rfl rfl
set_option maxRecDepth 20000 in
theorem qw_349 : (Cond.methodLink RX8 71 yX4_isObeyed) ∈ lb_tbl := lb_mem2 (i := 67) rfl rfl
set_option maxRecDepth 20000 in
theorem qw_350 : (Cond.instanceMethod yX4_isObeyed) ∈ lb_tbl := lb_mem2 (i := 68) rfl rfl
set_option maxRecDepth 20000 in
theorem qw_351 : (Cond.selects RX4 yX4_isObeyed yX4_isObeyed) ∈ lb_tbl := lb_mem2 (i := 69) rfl rfl
set_option maxRecDepth 20000 in
theorem qw_352 : (Cond.code yX4_isObeyed cX4_isObeyed 7 (some .boolean)) ∈ lb_tbl := lb_mem2 (i := 70) rfl rfl
set_option maxRecDepth 20000 in
theorem qw_353 : (Cond.methodLink RX4 49 yX7_addPerson) ∈ lb_tbl := lb_mem2 (i := 71) rfl rfl
set_option maxRecDepth 20000 in
theorem qw_354 : (Cond.instanceMethod yX7_addPerson) ∈ lb_tbl := lb_mem2 (i := 72) rfl rfl
set_option maxRecDepth 20000 in
theorem qw_355 : (Cond.selects RX7 yX7_addPerson yX7_addPerson) ∈ lb_tbl := lb_mem2 (i := 73) rfl rfl
set_option maxRecDepth 20000 in
theorem qw_356 : (Cond.code yX7_addPerson cX7_addPerson 2 (some .boolean)) ∈ lb_tbl := lb_mem2 (i := 74) rfl rfl
set_option maxRecDepth 20000 in
theorem qw_357 : (Cond.methodLink RX7 74 yX7_isSort) ∈ lb_tbl := lb_mem2 (i := 75) rfl rfl
set_option maxRecDepth 20000 in
theorem qw_358 : (Cond.static yX7_isSort) ∈ lb_tbl := lb_mem2 (i := 76) rfl rfl
set_option maxRecDepth 20000 in
theorem qw_359 : (Cond.code yX7_isSort cX7_isSort 1 (some .boolean)) ∈ lb_tbl := lb_mem2 (i := 77) rfl rfl
set_option maxRecDepth 20000 in
theorem qw_360 : (Cond.methodLink RX4 52 yX7_addPot) ∈ lb_tbl := lb_mem2 (i := 78) rfl rfl
set_option maxRecDepth 20000 in
theorem qw_361 : (Cond.instanceMethod yX7_addPot) ∈ lb_tbl := lb_mem2 (i := 79) rfl rfl
set_option maxRecDepth 20000 in
theorem qw_362 : (Cond.selects RX7 yX7_addPot yX7_addPot) ∈ lb_tbl := lb_mem2 (i := 80) rfl rfl
set_option maxRecDepth 20000 in
theorem qw_363 : (Cond.code yX7_addPot cX7_addPot 8 (some .boolean)) ∈ lb_tbl := lb_mem2 (i := 81) rfl rfl
set_option maxRecDepth 20000 in
theorem qw_364 : (Cond.methodLink RX7 115 yX7_isKind) ∈ lb_tbl := lb_mem2 (i := 82) rfl rfl
set_option maxRecDepth 20000 in
theorem qw_365 : (Cond.static yX7_isKind) ∈ lb_tbl := lb_mem2 (i := 83) rfl rfl
set_option maxRecDepth 20000 in
theorem qw_366 : (Cond.code yX7_isKind cX7_isKind 1 (some .boolean)) ∈ lb_tbl := lb_mem2 (i := 84) rfl rfl
set_option maxRecDepth 20000 in
theorem qw_367 : (Cond.methodLink RX7 118 yX7_isDigit) ∈ lb_tbl := lb_mem2 (i := 85) rfl rfl
set_option maxRecDepth 20000 in
theorem qw_368 : (Cond.methodLink RX7 121 yX7_isLabel) ∈ lb_tbl := lb_mem2 (i := 86) rfl rfl
set_option maxRecDepth 20000 in
theorem qw_369 : (Cond.static yX7_isLabel) ∈ lb_tbl := lb_mem2 (i := 87) rfl rfl
set_option maxRecDepth 20000 in
theorem qw_370 : (Cond.code yX7_isLabel cX7_isLabel 1 (some .boolean)) ∈ lb_tbl := lb_mem2 (i := 88) rfl rfl
set_option maxRecDepth 20000 in
theorem qw_371 : (Cond.methodLink RX7 124 yX7_hasPerson) ∈ lb_tbl := lb_mem2 (i := 89) rfl rfl
set_option maxRecDepth 20000 in
theorem qw_372 : (Cond.instanceMethod yX7_hasPerson) ∈ lb_tbl := lb_mem2 (i := 90) rfl rfl
set_option maxRecDepth 20000 in
theorem qw_373 : (Cond.selects RX7 yX7_hasPerson yX7_hasPerson) ∈ lb_tbl := lb_mem2 (i := 91) rfl rfl
set_option maxRecDepth 20000 in
theorem qw_374 : (Cond.code yX7_hasPerson cX7_hasPerson 2 (some .boolean)) ∈ lb_tbl := lb_mem2 (i := 92) rfl rfl
set_option maxRecDepth 20000 in
theorem qw_375 : (Cond.methodLink RX4 56 yX7_setLabel) ∈ lb_tbl := lb_mem2 (i := 93) rfl rfl
set_option maxRecDepth 20000 in
theorem qw_376 : (Cond.instanceMethod yX7_setLabel) ∈ lb_tbl := lb_mem2 (i := 94) rfl rfl
set_option maxRecDepth 20000 in
theorem qw_377 : (Cond.selects RX7 yX7_setLabel yX7_setLabel) ∈ lb_tbl := lb_mem2 (i := 95) rfl rfl
set_option maxRecDepth 20000 in
theorem qw_378 : (Cond.code yX7_setLabel cX7_setLabel 3 (some .boolean)) ∈ lb_tbl := lb_mem2 (i := 96) rfl rfl
set_option maxRecDepth 20000 in
theorem qw_379 : (Cond.methodLink RX7 127 yX7_hasPot) ∈ lb_tbl := lb_mem2 (i := 97) rfl rfl
set_option maxRecDepth 20000 in
theorem qw_380 : (Cond.instanceMethod yX7_hasPot) ∈ lb_tbl := lb_mem2 (i := 98) rfl rfl
set_option maxRecDepth 20000 in
theorem qw_381 : (Cond.selects RX7 yX7_hasPot yX7_hasPot) ∈ lb_tbl := lb_mem2 (i := 99) rfl rfl
set_option maxRecDepth 20000 in
theorem qw_382 : (Cond.code yX7_hasPot cX7_hasPot 2 (some .boolean)) ∈ lb_tbl := lb_mem2 (i := 100) rfl rfl
set_option maxRecDepth 20000 in
theorem qw_383 : (Cond.methodLink RX4 60 yX7_setOwner) ∈ lb_tbl := lb_mem2 (i := 101) rfl rfl
set_option maxRecDepth 20000 in
theorem qw_384 : (Cond.instanceMethod yX7_setOwner) ∈ lb_tbl := lb_mem2 (i := 102) rfl rfl
set_option maxRecDepth 20000 in
theorem qw_385 : (Cond.selects RX7 yX7_setOwner yX7_setOwner) ∈ lb_tbl := lb_mem2 (i := 103) rfl rfl
set_option maxRecDepth 20000 in
theorem qw_386 : (Cond.code yX7_setOwner cX7_setOwner 3 (some .boolean)) ∈ lb_tbl := lb_mem2 (i := 104) rfl rfl
set_option maxRecDepth 20000 in
theorem qw_387 : (Cond.methodLink RX4 63 yX7_setLikes) ∈ lb_tbl := lb_mem2 (i := 105) rfl rfl
set_option maxRecDepth 20000 in
theorem qw_388 : (Cond.instanceMethod yX7_setLikes) ∈ lb_tbl := lb_mem2 (i := 106) rfl rfl
set_option maxRecDepth 20000 in
theorem qw_389 : (Cond.selects RX7 yX7_setLikes yX7_setLikes) ∈ lb_tbl := lb_mem2 (i := 107) rfl rfl
set_option maxRecDepth 20000 in
theorem qw_390 : (Cond.code yX7_setLikes cX7_setLikes 3 (some .boolean)) ∈ lb_tbl := lb_mem2 (i := 108) rfl rfl
set_option maxRecDepth 20000 in
theorem qw_391 : (Cond.methodLink RX4 66 yX7_setFull) ∈ lb_tbl := lb_mem2 (i := 109) rfl rfl
set_option maxRecDepth 20000 in
theorem qw_392 : (Cond.instanceMethod yX7_setFull) ∈ lb_tbl := lb_mem2 (i := 110) rfl rfl
set_option maxRecDepth 20000 in
theorem qw_393 : (Cond.selects RX7 yX7_setFull yX7_setFull) ∈ lb_tbl := lb_mem2 (i := 111) rfl rfl
set_option maxRecDepth 20000 in
theorem qw_394 : (Cond.code yX7_setFull cX7_setFull 3 (some .boolean)) ∈ lb_tbl := lb_mem2 (i := 112) rfl rfl
set_option maxRecDepth 20000 in
theorem qw_395 : (Cond.methodLink RX4 69 yX7_canGoOn) ∈ lb_tbl := lb_mem2 (i := 113) rfl rfl
set_option maxRecDepth 20000 in
theorem qw_396 : (Cond.instanceMethod yX7_canGoOn) ∈ lb_tbl := lb_mem2 (i := 114) rfl rfl
set_option maxRecDepth 20000 in
theorem qw_397 : (Cond.selects RX7 yX7_canGoOn yX7_canGoOn) ∈ lb_tbl := lb_mem2 (i := 115) rfl rfl
set_option maxRecDepth 20000 in
theorem qw_398 : (Cond.code yX7_canGoOn cX7_canGoOn 2 (some .boolean)) ∈ lb_tbl := lb_mem2 (i := 116) rfl rfl
set_option maxRecDepth 20000 in
theorem qw_399 : (Cond.methodLink RX4 72 yX7_pass) ∈ lb_tbl := lb_mem2 (i := 117) rfl rfl
set_option maxRecDepth 20000 in
theorem qw_400 : (Cond.instanceMethod yX7_pass) ∈ lb_tbl := lb_mem2 (i := 118) rfl rfl
set_option maxRecDepth 20000 in
theorem qw_401 : (Cond.selects RX7 yX7_pass yX7_pass) ∈ lb_tbl := lb_mem2 (i := 119) rfl rfl
set_option maxRecDepth 20000 in
theorem qw_402 : (Cond.code yX7_pass cX7_pass 3 none) ∈ lb_tbl := lb_mem2 (i := 120) rfl rfl
set_option maxRecDepth 20000 in
theorem qw_403 : (Cond.methodLink RX7 99 yX7_passFor) ∈ lb_tbl := lb_mem2 (i := 121) rfl rfl
set_option maxRecDepth 20000 in
theorem qw_404 : (Cond.instanceMethod yX7_passFor) ∈ lb_tbl := lb_mem2 (i := 122) rfl rfl
set_option maxRecDepth 20000 in
theorem qw_405 : (Cond.selects RX7 yX7_passFor yX7_passFor) ∈ lb_tbl := lb_mem2 (i := 123) rfl rfl
set_option maxRecDepth 20000 in
theorem qw_406 : (Cond.code yX7_passFor cX7_passFor 6 none) ∈ lb_tbl := lb_mem2 (i := 124) rfl rfl
set_option maxRecDepth 20000 in
theorem qw_407 : (Cond.methodLink RX7 103 yX7_opened) ∈ lb_tbl := lb_mem2 (i := 125) rfl rfl
set_option maxRecDepth 20000 in
theorem qw_408 : (Cond.instanceMethod yX7_opened) ∈ lb_tbl := lb_mem2 (i := 126) rfl rfl
set_option maxRecDepth 20000 in
theorem qw_409 : (Cond.selects RX7 yX7_opened yX7_opened) ∈ lb_tbl := lb_mem2 (i := 127) rfl rfl
set_option maxRecDepth 20000 in
theorem qw_410 : (Cond.code yX7_opened cX7_opened 6 (some .int)) ∈ lb_tbl := lb_mem2 (i := 128) rfl rfl
set_option maxRecDepth 20000 in
theorem qw_411 : (Cond.methodLink RX7 95 yX7_canOpen) ∈ lb_tbl := lb_mem2 (i := 129) rfl rfl
set_option maxRecDepth 20000 in
theorem qw_412 : (Cond.instanceMethod yX7_canOpen) ∈ lb_tbl := lb_mem2 (i := 130) rfl rfl
set_option maxRecDepth 20000 in
theorem qw_413 : (Cond.selects RX7 yX7_canOpen yX7_canOpen) ∈ lb_tbl := lb_mem2 (i := 131) rfl rfl
set_option maxRecDepth 20000 in
theorem qw_414 : (Cond.code yX7_canOpen cX7_canOpen 3 (some .boolean)) ∈ lb_tbl := lb_mem2 (i := 132) rfl rfl
set_option maxRecDepth 20000 in
theorem qw_415 : (Cond.methodLink RX7 88 yX7_off) ∈ lb_tbl := lb_mem2 (i := 133) rfl rfl
set_option maxRecDepth 20000 in
theorem qw_416 : (Cond.static yX7_off) ∈ lb_tbl := lb_mem2 (i := 134) rfl rfl
set_option maxRecDepth 20000 in
theorem qw_417 : (Cond.code yX7_off cX7_off 3 (some .int)) ∈ lb_tbl := lb_mem2 (i := 135) rfl rfl
set_option maxRecDepth 20000 in
theorem qw_418 : (Cond.methodLink RX7 78 yJ9_abs_0f7a4) ∈ lb_tbl := lb_mem2 (i := 136) rfl rfl
set_option maxRecDepth 20000 in
theorem qw_419 : (Cond.static yJ9_abs_0f7a4) ∈ lb_tbl := lb_mem2 (i := 137) rfl rfl
set_option maxRecDepth 20000 in
theorem qw_420 : (Cond.code yJ9_abs_0f7a4 cJ9_abs_0f7a4 1 (some .int)) ∈ lb_tbl := lb_mem2 (i := 138) rfl rfl
set_option maxRecDepth 20000 in
theorem qw_421 : (Cond.methodLink RX7 84 yJ9_min_7cf53) ∈ lb_tbl := lb_mem2 (i := 139) rfl rfl
set_option maxRecDepth 20000 in
theorem qw_422 : (Cond.methodLink RX7 106 yX7_gained) ∈ lb_tbl := lb_mem2 (i := 140) rfl rfl
set_option maxRecDepth 20000 in
theorem qw_423 : (Cond.instanceMethod yX7_gained) ∈ lb_tbl := lb_mem2 (i := 141) rfl rfl
set_option maxRecDepth 20000 in
theorem qw_424 : (Cond.selects RX7 yX7_gained yX7_gained) ∈ lb_tbl := lb_mem2 (i := 142) rfl rfl
set_option maxRecDepth 20000 in
theorem qw_425 : (Cond.code yX7_gained cX7_gained 5 (some .int)) ∈ lb_tbl := lb_mem2 (i := 143) rfl rfl
set_option maxRecDepth 20000 in
theorem qw_426 : (Cond.methodLink RX7 91 yX3_spoon) ∈ lb_tbl := lb_mem2 (i := 144) rfl rfl
set_option maxRecDepth 20000 in
theorem qw_427 : (Cond.instanceMethod yX3_spoon) ∈ lb_tbl := lb_mem2 (i := 145) rfl rfl
set_option maxRecDepth 20000 in
theorem qw_428 : (Cond.selects RX3 yX3_spoon yX3_spoon) ∈ lb_tbl := lb_mem2 (i := 146) rfl rfl
set_option maxRecDepth 20000 in
theorem qw_429 : (Cond.sameMethod RX3 RX3 "spoon" "(III)I") ∈ lb_tbl := lb_mem2 (i := 147) rfl rfl
set_option maxRecDepth 20000 in
theorem qw_430 : (Cond.selects RX0 yX3_spoon yX0_spoon) ∈ lb_tbl := lb_mem2 (i := 148) rfl rfl
set_option maxRecDepth 20000 in
theorem qw_431 : (Cond.instanceMethod yX0_spoon) ∈ lb_tbl := lb_mem2 (i := 149) rfl rfl
set_option maxRecDepth 20000 in
theorem qw_432 : (Cond.code yX0_spoon cX0_spoon 5 (some .int)) ∈ lb_tbl := lb_mem2 (i := 150) rfl rfl
set_option maxRecDepth 20000 in
theorem qw_433 : (Cond.methodLink RX0 7 yX6_spoon) ∈ lb_tbl := lb_mem2 (i := 151) rfl rfl
set_option maxRecDepth 20000 in
theorem qw_434 : (Cond.instanceMethod yX6_spoon) ∈ lb_tbl := lb_mem2 (i := 152) rfl rfl
set_option maxRecDepth 20000 in
theorem qw_435 : (Cond.code yX6_spoon cX6_spoon 4 (some .int)) ∈ lb_tbl := lb_mem2 (i := 153) rfl rfl
set_option maxRecDepth 20000 in
theorem qw_436 : (Cond.methodLink RX6 7 yX3_spoon) ∈ lb_tbl := lb_mem2 (i := 154) rfl rfl
set_option maxRecDepth 20000 in
theorem qw_437 : (Cond.selects RX1 yX3_spoon yX1_spoon) ∈ lb_tbl := lb_mem2 (i := 155) rfl rfl
set_option maxRecDepth 20000 in
theorem qw_438 : (Cond.instanceMethod yX1_spoon) ∈ lb_tbl := lb_mem2 (i := 156) rfl rfl
set_option maxRecDepth 20000 in
theorem qw_439 : (Cond.code yX1_spoon cX1_spoon 4 (some .int)) ∈ lb_tbl := lb_mem2 (i := 157) rfl rfl
set_option maxRecDepth 20000 in
theorem qw_440 : (Cond.methodLink RX1 7 yX3_spoon) ∈ lb_tbl := lb_mem2 (i := 158) rfl rfl
set_option maxRecDepth 20000 in
theorem qw_441 : (Cond.selects RX2 yX3_spoon yX2_spoon) ∈ lb_tbl := lb_mem2 (i := 159) rfl rfl
set_option maxRecDepth 20000 in
theorem qw_442 : (Cond.instanceMethod yX2_spoon) ∈ lb_tbl := lb_mem2 (i := 160) rfl rfl
set_option maxRecDepth 20000 in
theorem qw_443 : (Cond.code yX2_spoon cX2_spoon 4 (some .int)) ∈ lb_tbl := lb_mem2 (i := 161) rfl rfl
set_option maxRecDepth 20000 in
theorem qw_444 : (Cond.methodLink RX2 7 yX5_spoon) ∈ lb_tbl := lb_mem2 (i := 162) rfl rfl
set_option maxRecDepth 20000 in
theorem qw_445 : (Cond.instanceMethod yX5_spoon) ∈ lb_tbl := lb_mem2 (i := 163) rfl rfl
set_option maxRecDepth 20000 in
theorem qw_446 : (Cond.code yX5_spoon cX5_spoon 4 (some .int)) ∈ lb_tbl := lb_mem2 (i := 164) rfl rfl
set_option maxRecDepth 20000 in
theorem qw_447 : (Cond.methodLink RX5 7 yX3_spoon) ∈ lb_tbl := lb_mem2 (i := 165) rfl rfl
set_option maxRecDepth 20000 in
theorem qw_448 : (Cond.methodLink RX2 11 yJ9_max_7cf53) ∈ lb_tbl := lb_mem2 (i := 166) rfl rfl
set_option maxRecDepth 20000 in
theorem qw_449 : (Cond.selects RX5 yX3_spoon yX5_spoon) ∈ lb_tbl := lb_mem2 (i := 167) rfl rfl
set_option maxRecDepth 20000 in
theorem qw_450 : (Cond.selects RX6 yX3_spoon yX6_spoon) ∈ lb_tbl := lb_mem2 (i := 168) rfl rfl
set_option maxRecDepth 20000 in
theorem qw_451 : (Cond.code yX3_spoon cX3_spoon 4 (some .int)) ∈ lb_tbl := lb_mem2 (i := 169) rfl rfl
set_option maxRecDepth 20000 in
theorem qw_452 : (Cond.methodLink RX7 109 yJ9_max_7cf53) ∈ lb_tbl := lb_mem2 (i := 170) rfl rfl
set_option maxRecDepth 20000 in
theorem qw_453 : (Cond.methodLink RX8 75 yX4_lengthAt) ∈ lb_tbl := lb_mem2 (i := 171) rfl rfl
set_option maxRecDepth 20000 in
theorem qw_454 : (Cond.methodLink RX8 78 yJ9_max_7cf53) ∈ lb_tbl := lb_mem2 (i := 172) rfl rfl
set_option maxRecDepth 20000 in
theorem qw_455 : (Cond.arrayClass Jvm.ClassFile.FieldType.byte) ∈ lb_tbl := lb_mem2 (i := 173) rfl rfl
set_option maxRecDepth 20000 in
theorem qw_456 : (Cond.methodLink RL 23 yX8_pot) ∈ lb_tbl := lb_mem2 (i := 174) rfl rfl
set_option maxRecDepth 20000 in
theorem qw_457 : (Cond.instanceMethod yX8_pot) ∈ lb_tbl := lb_mem2 (i := 175) rfl rfl
set_option maxRecDepth 20000 in
theorem qw_458 : (Cond.selects RX8 yX8_pot yX8_pot) ∈ lb_tbl := lb_mem2 (i := 176) rfl rfl
set_option maxRecDepth 20000 in
theorem qw_459 : (Cond.code yX8_pot cX8_pot 4 (some .int)) ∈ lb_tbl := lb_mem2 (i := 177) rfl rfl
set_option maxRecDepth 20000 in
theorem qw_460 : (Cond.methodLink RX8 83 yX8_potThere) ∈ lb_tbl := lb_mem2 (i := 178) rfl rfl
set_option maxRecDepth 20000 in
theorem qw_462 : (Cond.instanceMethod yX8_potThere) ∈ lb_tbl := lb_mem2 (i := 180) rfl rfl
set_option maxRecDepth 20000 in
theorem qw_463 : (Cond.code yX8_potThere cX8_potThere 2 (some .int)) ∈ lb_tbl := lb_mem2 (i := 181) rfl rfl
set_option maxRecDepth 20000 in
theorem qw_464 : (Cond.methodLink RX8 232 yX7_hasPot) ∈ lb_tbl := lb_mem2 (i := 182) rfl rfl
set_option maxRecDepth 20000 in
theorem qw_465 : (Cond.methodLink RX8 86 yX8_known) ∈ lb_tbl := lb_mem2 (i := 183) rfl rfl
set_option maxRecDepth 20000 in
theorem qw_466 : (Cond.static yX8_known) ∈ lb_tbl := lb_mem2 (i := 184) rfl rfl
set_option maxRecDepth 20000 in
theorem qw_467 : (Cond.code yX8_known cX8_known 2 (some .int)) ∈ lb_tbl := lb_mem2 (i := 185) rfl rfl
set_option maxRecDepth 20000 in
theorem qw_468 : (Cond.methodLink RL 28 yX8_person) ∈ lb_tbl := lb_mem2 (i := 186) rfl rfl
set_option maxRecDepth 20000 in
theorem qw_469 : (Cond.instanceMethod yX8_person) ∈ lb_tbl := lb_mem2 (i := 187) rfl rfl
set_option maxRecDepth 20000 in
theorem qw_470 : (Cond.selects RX8 yX8_person yX8_person) ∈ lb_tbl := lb_mem2 (i := 188) rfl rfl
set_option maxRecDepth 20000 in
theorem qw_471 : (Cond.code yX8_person cX8_person 4 (some .int)) ∈ lb_tbl := lb_mem2 (i := 189) rfl rfl
set_option maxRecDepth 20000 in
theorem qw_472 : (Cond.methodLink RX8 107 yX8_personThere) ∈ lb_tbl := lb_mem2 (i := 190) rfl rfl
set_option maxRecDepth 20000 in
theorem qw_474 : (Cond.instanceMethod yX8_personThere) ∈ lb_tbl := lb_mem2 (i := 192) rfl rfl
set_option maxRecDepth 20000 in
theorem qw_475 : (Cond.code yX8_personThere cX8_personThere 2 (some .int)) ∈ lb_tbl := lb_mem2 (i := 193) rfl rfl
set_option maxRecDepth 20000 in
theorem qw_476 : (Cond.methodLink RX8 250 yX7_hasPerson) ∈ lb_tbl := lb_mem2 (i := 194) rfl rfl
set_option maxRecDepth 20000 in
theorem qw_477 : (Cond.methodLink RX8 116 yX7_opened) ∈ lb_tbl := lb_mem2 (i := 195) rfl rfl
set_option maxRecDepth 20000 in
theorem qw_478 : (Cond.methodLink RX8 119 yX7_potsOf) ∈ lb_tbl := lb_mem2 (i := 196) rfl rfl
set_option maxRecDepth 20000 in
theorem qw_479 : (Cond.instanceMethod yX7_potsOf) ∈ lb_tbl := lb_mem2 (i := 197) rfl rfl
set_option maxRecDepth 20000 in
theorem qw_480 : (Cond.selects RX7 yX7_potsOf yX7_potsOf) ∈ lb_tbl := lb_mem2 (i := 198) rfl rfl
set_option maxRecDepth 20000 in
theorem qw_481 : (Cond.code yX7_potsOf cX7_potsOf 4 (some .int)) ∈ lb_tbl := lb_mem2 (i := 199) rfl rfl
set_option maxRecDepth 20000 in
theorem qw_482 : (Cond.methodLink RL 32 yX8_gains) ∈ lb_tbl := lb_mem2 (i := 200) rfl rfl
set_option maxRecDepth 20000 in
theorem qw_483 : (Cond.instanceMethod yX8_gains) ∈ lb_tbl := lb_mem2 (i := 201) rfl rfl
set_option maxRecDepth 20000 in
theorem qw_484 : (Cond.selects RX8 yX8_gains yX8_gains) ∈ lb_tbl := lb_mem2 (i := 202) rfl rfl
set_option maxRecDepth 20000 in
theorem qw_485 : (Cond.code yX8_gains cX8_gains 4 (some .int)) ∈ lb_tbl := lb_mem2 (i := 203) rfl rfl
set_option maxRecDepth 20000 in
theorem qw_486 : (Cond.methodLink RX8 122 yX8_refuseFar) ∈ lb_tbl := lb_mem2 (i := 204) rfl rfl
set_option maxRecDepth 20000 in
theorem qw_488 : (Cond.instanceMethod yX8_refuseFar) ∈ lb_tbl := lb_mem2 (i := 206) rfl rfl
set_option maxRecDepth 20000 in
theorem qw_489 : (Cond.code yX8_refuseFar cX8_refuseFar 2 (some .int)) ∈ lb_tbl := lb_mem2 (i := 207) rfl rfl
set_option maxRecDepth 20000 in
theorem qw_490 : (Cond.constant RX8 247 (1000000000)) ∈ lb_tbl := lb_mem2 (i := 208) rfl rfl
set_option maxRecDepth 20000 in
theorem qw_491 : (Cond.methodLink RX8 125 yX7_gained) ∈ lb_tbl := lb_mem2 (i := 209) rfl rfl
set_option maxRecDepth 20000 in
theorem qw_492 : (Cond.methodLink RL 36 yX8_labels) ∈ lb_tbl := lb_mem2 (i := 210) rfl rfl
set_option maxRecDepth 20000 in
theorem qw_493 : (Cond.instanceMethod yX8_labels) ∈ lb_tbl := lb_mem2 (i := 211) rfl rfl
set_option maxRecDepth 20000 in
theorem qw_494 : (Cond.selects RX8 yX8_labels yX8_labels) ∈ lb_tbl := lb_mem2 (i := 212) rfl rfl
set_option maxRecDepth 20000 in
theorem qw_495 : (Cond.code yX8_labels cX8_labels 5 (some .int)) ∈ lb_tbl := lb_mem2 (i := 213) rfl rfl
set_option maxRecDepth 20000 in
theorem qw_496 : (Cond.methodLink RX8 128 yX7_isLabel) ∈ lb_tbl := lb_mem2 (i := 214) rfl rfl
set_option maxRecDepth 20000 in
theorem qw_497 : (Cond.methodLink RL 40 yX8_gives) ∈ lb_tbl := lb_mem2 (i := 215) rfl rfl
set_option maxRecDepth 20000 in
theorem qw_498 : (Cond.instanceMethod yX8_gives) ∈ lb_tbl := lb_mem2 (i := 216) rfl rfl
set_option maxRecDepth 20000 in
theorem qw_499 : (Cond.selects RX8 yX8_gives yX8_gives) ∈ lb_tbl := lb_mem2 (i := 217) rfl rfl
set_option maxRecDepth 20000 in
theorem qw_500 : (Cond.code yX8_gives cX8_gives 5 (some .int)) ∈ lb_tbl := lb_mem2 (i := 218) rfl rfl
set_option maxRecDepth 20000 in
theorem qw_501 : (Cond.methodLink RL 44 yX8_likes) ∈ lb_tbl := lb_mem2 (i := 219) rfl rfl
set_option maxRecDepth 20000 in
theorem qw_502 : (Cond.instanceMethod yX8_likes) ∈ lb_tbl := lb_mem2 (i := 220) rfl rfl
set_option maxRecDepth 20000 in
theorem qw_503 : (Cond.selects RX8 yX8_likes yX8_likes) ∈ lb_tbl := lb_mem2 (i := 221) rfl rfl
set_option maxRecDepth 20000 in
theorem qw_504 : (Cond.code yX8_likes cX8_likes 5 (some .int)) ∈ lb_tbl := lb_mem2 (i := 222) rfl rfl
set_option maxRecDepth 20000 in
theorem qw_505 : (Cond.methodLink RX8 132 yX7_isSort) ∈ lb_tbl := lb_mem2 (i := 223) rfl rfl
set_option maxRecDepth 20000 in
theorem qw_506 : (Cond.methodLink RL 48 yX8_fills) ∈ lb_tbl := lb_mem2 (i := 224) rfl rfl
set_option maxRecDepth 20000 in
theorem qw_507 : (Cond.instanceMethod yX8_fills) ∈ lb_tbl := lb_mem2 (i := 225) rfl rfl
set_option maxRecDepth 20000 in
theorem qw_508 : (Cond.selects RX8 yX8_fills yX8_fills) ∈ lb_tbl := lb_mem2 (i := 226) rfl rfl
set_option maxRecDepth 20000 in
theorem qw_509 : (Cond.code yX8_fills cX8_fills 5 (some .int)) ∈ lb_tbl := lb_mem2 (i := 227) rfl rfl
set_option maxRecDepth 20000 in
theorem qw_510 : (Cond.methodLink RL 52 yX8_turn) ∈ lb_tbl := lb_mem2 (i := 228) rfl rfl
set_option maxRecDepth 20000 in
theorem qw_511 : (Cond.instanceMethod yX8_turn) ∈ lb_tbl := lb_mem2 (i := 229) rfl rfl
set_option maxRecDepth 20000 in
theorem qw_512 : (Cond.selects RX8 yX8_turn yX8_turn) ∈ lb_tbl := lb_mem2 (i := 230) rfl rfl
set_option maxRecDepth 20000 in
theorem qw_513 : (Cond.code yX8_turn cX8_turn 6 (some .int)) ∈ lb_tbl := lb_mem2 (i := 231) rfl rfl
set_option maxRecDepth 20000 in
theorem qw_514 : (Cond.methodLink RX8 135 yX8_first_) ∈ lb_tbl := lb_mem2 (i := 232) rfl rfl
set_option maxRecDepth 20000 in
theorem qw_515 : (Cond.static yX8_first_) ∈ lb_tbl := lb_mem2 (i := 233) rfl rfl
set_option maxRecDepth 20000 in
theorem qw_516 : (Cond.code yX8_first_ cX8_first_ 3 (some .int)) ∈ lb_tbl := lb_mem2 (i := 234) rfl rfl
set_option maxRecDepth 20000 in
theorem qw_517 : (Cond.methodLink RL 57 yX8_years) ∈ lb_tbl := lb_mem2 (i := 235) rfl rfl
set_option maxRecDepth 20000 in
theorem qw_518 : (Cond.instanceMethod yX8_years) ∈ lb_tbl := lb_mem2 (i := 236) rfl rfl
set_option maxRecDepth 20000 in
theorem qw_519 : (Cond.selects RX8 yX8_years yX8_years) ∈ lb_tbl := lb_mem2 (i := 237) rfl rfl
set_option maxRecDepth 20000 in
theorem qw_520 : (Cond.code yX8_years cX8_years 3 (some .int)) ∈ lb_tbl := lb_mem2 (i := 238) rfl rfl
set_option maxRecDepth 20000 in
theorem qw_521 : (Cond.methodLink RX8 140 yX7_pass) ∈ lb_tbl := lb_mem2 (i := 239) rfl rfl
set_option maxRecDepth 20000 in
theorem qw_522 : (Cond.methodLink RX8 143 yX7_allGrace) ∈ lb_tbl := lb_mem3 (i := 0) rfl rfl
set_option maxRecDepth 20000 in
theorem qw_523 : (Cond.instanceMethod yX7_allGrace) ∈ lb_tbl := lb_mem3 (i := 1) rfl rfl
set_option maxRecDepth 20000 in
theorem qw_524 : (Cond.selects RX7 yX7_allGrace yX7_allGrace) ∈ lb_tbl := lb_mem3 (i := 2) rfl rfl
set_option maxRecDepth 20000 in
theorem qw_525 : (Cond.code yX7_allGrace cX7_allGrace 3 (some .int)) ∈ lb_tbl := lb_mem3 (i := 3) rfl rfl
set_option maxRecDepth 20000 in
theorem qw_526 : (Cond.methodLink RL 61 yX8_personThen) ∈ lb_tbl := lb_mem3 (i := 4) rfl rfl
set_option maxRecDepth 20000 in
theorem qw_527 : (Cond.instanceMethod yX8_personThen) ∈ lb_tbl := lb_mem3 (i := 5) rfl rfl
set_option maxRecDepth 20000 in
theorem qw_528 : (Cond.selects RX8 yX8_personThen yX8_personThen) ∈ lb_tbl := lb_mem3 (i := 6) rfl rfl
set_option maxRecDepth 20000 in
theorem qw_529 : (Cond.code yX8_personThen cX8_personThen 5 (some .int)) ∈ lb_tbl := lb_mem3 (i := 7) rfl rfl
set_option maxRecDepth 20000 in
theorem qw_530 : (Cond.methodLink RX8 146 yX7_passFor) ∈ lb_tbl := lb_mem3 (i := 8) rfl rfl
set_option maxRecDepth 20000 in
theorem qw_531 : (Cond.methodLink RL 65 yX8_fullThen) ∈ lb_tbl := lb_mem3 (i := 9) rfl rfl
set_option maxRecDepth 20000 in
theorem qw_532 : (Cond.instanceMethod yX8_fullThen) ∈ lb_tbl := lb_mem3 (i := 10) rfl rfl
set_option maxRecDepth 20000 in
theorem qw_533 : (Cond.selects RX8 yX8_fullThen yX8_fullThen) ∈ lb_tbl := lb_mem3 (i := 11) rfl rfl
set_option maxRecDepth 20000 in
theorem qw_534 : (Cond.code yX8_fullThen cX8_fullThen 4 (some .int)) ∈ lb_tbl := lb_mem3 (i := 12) rfl rfl
set_option maxRecDepth 20000 in
theorem qw_535 : (Cond.methodLink RL 69 yX8_graceThen) ∈ lb_tbl := lb_mem3 (i := 13) rfl rfl
set_option maxRecDepth 20000 in
theorem qw_536 : (Cond.instanceMethod yX8_graceThen) ∈ lb_tbl := lb_mem3 (i := 14) rfl rfl
set_option maxRecDepth 20000 in
theorem qw_537 : (Cond.selects RX8 yX8_graceThen yX8_graceThen) ∈ lb_tbl := lb_mem3 (i := 15) rfl rfl
set_option maxRecDepth 20000 in
theorem qw_538 : (Cond.code yX8_graceThen cX8_graceThen 3 (some .int)) ∈ lb_tbl := lb_mem3 (i := 16) rfl rfl
set_option maxRecDepth 20000 in
theorem qw_539 : (Cond.methodLink RX8 150 yX8_allGraceBehind) ∈ lb_tbl := lb_mem3 (i := 17) rfl rfl
set_option maxRecDepth 20000 in
theorem qw_541 : (Cond.instanceMethod yX8_allGraceBehind) ∈ lb_tbl := lb_mem3 (i := 19) rfl rfl
set_option maxRecDepth 20000 in
theorem qw_542 : (Cond.code yX8_allGraceBehind cX8_allGraceBehind 2 (some .int)) ∈ lb_tbl := lb_mem3 (i := 20) rfl rfl
set_option maxRecDepth 20000 in
theorem qw_543 : (Cond.methodLink RL 73 yX8_graceless) ∈ lb_tbl := lb_mem3 (i := 21) rfl rfl
set_option maxRecDepth 20000 in
theorem qw_544 : (Cond.instanceMethod yX8_graceless) ∈ lb_tbl := lb_mem3 (i := 22) rfl rfl
set_option maxRecDepth 20000 in
theorem qw_545 : (Cond.selects RX8 yX8_graceless yX8_graceless) ∈ lb_tbl := lb_mem3 (i := 23) rfl rfl
set_option maxRecDepth 20000 in
theorem qw_546 : (Cond.code yX8_graceless cX8_graceless 4 (some .int)) ∈ lb_tbl := lb_mem3 (i := 24) rfl rfl
set_option maxRecDepth 20000 in
theorem qw_547 : (Cond.methodLink RX8 153 yX8_firstGraceless) ∈ lb_tbl := lb_mem3 (i := 25) rfl rfl
set_option maxRecDepth 20000 in
theorem qw_549 : (Cond.instanceMethod yX8_firstGraceless) ∈ lb_tbl := lb_mem3 (i := 27) rfl rfl
set_option maxRecDepth 20000 in
theorem qw_550 : (Cond.code yX8_firstGraceless cX8_firstGraceless 3 (some .int)) ∈ lb_tbl := lb_mem3 (i := 28) rfl rfl
set_option maxRecDepth 20000 in
theorem qw_551 : (Cond.methodLink RL 77 yX8_empties) ∈ lb_tbl := lb_mem3 (i := 29) rfl rfl
set_option maxRecDepth 20000 in
theorem qw_552 : (Cond.instanceMethod yX8_empties) ∈ lb_tbl := lb_mem3 (i := 30) rfl rfl
set_option maxRecDepth 20000 in
theorem qw_553 : (Cond.selects RX8 yX8_empties yX8_empties) ∈ lb_tbl := lb_mem3 (i := 31) rfl rfl
set_option maxRecDepth 20000 in
theorem qw_554 : (Cond.code yX8_empties cX8_empties 4 (some .int)) ∈ lb_tbl := lb_mem3 (i := 32) rfl rfl
set_option maxRecDepth 20000 in
theorem qw_555 : (Cond.methodLink RL 81 yX8_label) ∈ lb_tbl := lb_mem3 (i := 33) rfl rfl
set_option maxRecDepth 20000 in
theorem qw_556 : (Cond.instanceMethod yX8_label) ∈ lb_tbl := lb_mem3 (i := 34) rfl rfl
set_option maxRecDepth 20000 in
theorem qw_557 : (Cond.selects RX8 yX8_label yX8_label) ∈ lb_tbl := lb_mem3 (i := 35) rfl rfl
set_option maxRecDepth 20000 in
theorem qw_558 : (Cond.code yX8_label cX8_label 8 (some .int)) ∈ lb_tbl := lb_mem3 (i := 36) rfl rfl
set_option maxRecDepth 20000 in
theorem qw_559 : (Cond.methodLink RL 85 yX8_honest) ∈ lb_tbl := lb_mem3 (i := 37) rfl rfl
set_option maxRecDepth 20000 in
theorem qw_560 : (Cond.instanceMethod yX8_honest) ∈ lb_tbl := lb_mem3 (i := 38) rfl rfl
set_option maxRecDepth 20000 in
theorem qw_561 : (Cond.selects RX8 yX8_honest yX8_honest) ∈ lb_tbl := lb_mem3 (i := 39) rfl rfl
set_option maxRecDepth 20000 in
theorem qw_562 : (Cond.code yX8_honest cX8_honest 3 (some .int)) ∈ lb_tbl := lb_mem3 (i := 40) rfl rfl
set_option maxRecDepth 20000 in
theorem qw_563 : (Cond.methodLink RX8 159 yX7_honestPots) ∈ lb_tbl := lb_mem3 (i := 41) rfl rfl
set_option maxRecDepth 20000 in
theorem qw_564 : (Cond.instanceMethod yX7_honestPots) ∈ lb_tbl := lb_mem3 (i := 42) rfl rfl
set_option maxRecDepth 20000 in
theorem qw_565 : (Cond.selects RX7 yX7_honestPots yX7_honestPots) ∈ lb_tbl := lb_mem3 (i := 43) rfl rfl
set_option maxRecDepth 20000 in
theorem qw_566 : (Cond.code yX7_honestPots cX7_honestPots 3 (some .int)) ∈ lb_tbl := lb_mem3 (i := 44) rfl rfl
set_option maxRecDepth 20000 in
theorem qw_567 : (Cond.methodLink RX8 162 yX7_hopefulPots) ∈ lb_tbl := lb_mem3 (i := 45) rfl rfl
set_option maxRecDepth 20000 in
theorem qw_568 : (Cond.instanceMethod yX7_hopefulPots) ∈ lb_tbl := lb_mem3 (i := 46) rfl rfl
set_option maxRecDepth 20000 in
theorem qw_569 : (Cond.selects RX7 yX7_hopefulPots yX7_hopefulPots) ∈ lb_tbl := lb_mem3 (i := 47) rfl rfl
set_option maxRecDepth 20000 in
theorem qw_570 : (Cond.code yX7_hopefulPots cX7_hopefulPots 3 (some .int)) ∈ lb_tbl := lb_mem3 (i := 48) rfl rfl
set_option maxRecDepth 20000 in
theorem qw_571 : (Cond.methodLink RL 89 yX8_audit) ∈ lb_tbl := lb_mem3 (i := 49) rfl rfl
set_option maxRecDepth 20000 in
theorem qw_572 : (Cond.instanceMethod yX8_audit) ∈ lb_tbl := lb_mem3 (i := 50) rfl rfl
set_option maxRecDepth 20000 in
theorem qw_573 : (Cond.selects RX8 yX8_audit yX8_audit) ∈ lb_tbl := lb_mem3 (i := 51) rfl rfl
set_option maxRecDepth 20000 in
theorem qw_574 : (Cond.code yX8_audit cX8_audit 6 (some .int)) ∈ lb_tbl := lb_mem3 (i := 52) rfl rfl
set_option maxRecDepth 20000 in
theorem qw_575 : (Cond.methodLink RL 93 yX8_change) ∈ lb_tbl := lb_mem3 (i := 53) rfl rfl
set_option maxRecDepth 20000 in
theorem qw_576 : (Cond.instanceMethod yX8_change) ∈ lb_tbl := lb_mem3 (i := 54) rfl rfl
set_option maxRecDepth 20000 in
theorem qw_577 : (Cond.selects RX8 yX8_change yX8_change) ∈ lb_tbl := lb_mem3 (i := 55) rfl rfl
set_option maxRecDepth 20000 in
theorem qw_578 : (Cond.code yX8_change cX8_change 8 (some .int)) ∈ lb_tbl := lb_mem3 (i := 56) rfl rfl
set_option maxRecDepth 20000 in
theorem qw_579 : (Cond.methodLink RX8 168 yX8_allGraceChanged) ∈ lb_tbl := lb_mem3 (i := 57) rfl rfl
set_option maxRecDepth 20000 in
theorem qw_581 : (Cond.instanceMethod yX8_allGraceChanged) ∈ lb_tbl := lb_mem3 (i := 59) rfl rfl
set_option maxRecDepth 20000 in
theorem qw_582 : (Cond.code yX8_allGraceChanged cX8_allGraceChanged 4 (some .int)) ∈ lb_tbl := lb_mem3 (i := 60) rfl rfl
set_option maxRecDepth 20000 in
theorem qw_583 : (Cond.methodLink RL 97 yX8_gift) ∈ lb_tbl := lb_mem3 (i := 61) rfl rfl
set_option maxRecDepth 20000 in
theorem qw_584 : (Cond.instanceMethod yX8_gift) ∈ lb_tbl := lb_mem3 (i := 62) rfl rfl
set_option maxRecDepth 20000 in
theorem qw_585 : (Cond.selects RX8 yX8_gift yX8_gift) ∈ lb_tbl := lb_mem3 (i := 63) rfl rfl
set_option maxRecDepth 20000 in
theorem qw_586 : (Cond.code yX8_gift cX8_gift 8 (some .int)) ∈ lb_tbl := lb_mem3 (i := 64) rfl rfl
set_option maxRecDepth 20000 in
theorem qw_587 : (Cond.methodLink RX8 171 yX8_allGraceGiven) ∈ lb_tbl := lb_mem3 (i := 65) rfl rfl
set_option maxRecDepth 20000 in
theorem qw_589 : (Cond.instanceMethod yX8_allGraceGiven) ∈ lb_tbl := lb_mem3 (i := 67) rfl rfl
set_option maxRecDepth 20000 in
theorem qw_590 : (Cond.code yX8_allGraceGiven cX8_allGraceGiven 4 (some .int)) ∈ lb_tbl := lb_mem3 (i := 68) rfl rfl
set_option maxRecDepth 20000 in
theorem qw_591 : (Cond.methodLink RL 101 yX8_deal) ∈ lb_tbl := lb_mem3 (i := 69) rfl rfl
set_option maxRecDepth 20000 in
theorem qw_592 : (Cond.instanceMethod yX8_deal) ∈ lb_tbl := lb_mem3 (i := 70) rfl rfl
set_option maxRecDepth 20000 in
theorem qw_593 : (Cond.selects RX8 yX8_deal yX8_deal) ∈ lb_tbl := lb_mem3 (i := 71) rfl rfl
set_option maxRecDepth 20000 in
theorem qw_594 : (Cond.code yX8_deal cX8_deal 6 (some .int)) ∈ lb_tbl := lb_mem3 (i := 72) rfl rfl
set_option maxRecDepth 20000 in
theorem qw_595 : (Cond.methodLink RX8 174 yX8_whoGainsMost) ∈ lb_tbl := lb_mem3 (i := 73) rfl rfl
set_option maxRecDepth 20000 in
theorem qw_597 : (Cond.instanceMethod yX8_whoGainsMost) ∈ lb_tbl := lb_mem3 (i := 75) rfl rfl
set_option maxRecDepth 20000 in
theorem qw_598 : (Cond.code yX8_whoGainsMost cX8_whoGainsMost 4 (some .int)) ∈ lb_tbl := lb_mem3 (i := 76) rfl rfl
set_option maxRecDepth 20000 in
theorem qw_599 : (Cond.methodLink RL 105 yX8_worst) ∈ lb_tbl := lb_mem3 (i := 77) rfl rfl
set_option maxRecDepth 20000 in
theorem qw_600 : (Cond.instanceMethod yX8_worst) ∈ lb_tbl := lb_mem3 (i := 78) rfl rfl
set_option maxRecDepth 20000 in
theorem qw_601 : (Cond.selects RX8 yX8_worst yX8_worst) ∈ lb_tbl := lb_mem3 (i := 79) rfl rfl
set_option maxRecDepth 20000 in
theorem qw_602 : (Cond.code yX8_worst cX8_worst 7 (some .int)) ∈ lb_tbl := lb_mem3 (i := 80) rfl rfl
set_option maxRecDepth 20000 in
theorem qw_603 : (Cond.methodLink RL 109 yX8_trust) ∈ lb_tbl := lb_mem3 (i := 81) rfl rfl
set_option maxRecDepth 20000 in
theorem qw_604 : (Cond.instanceMethod yX8_trust) ∈ lb_tbl := lb_mem3 (i := 82) rfl rfl
set_option maxRecDepth 20000 in
theorem qw_605 : (Cond.selects RX8 yX8_trust yX8_trust) ∈ lb_tbl := lb_mem3 (i := 83) rfl rfl
set_option maxRecDepth 20000 in
theorem qw_606 : (Cond.code yX8_trust cX8_trust 5 (some .int)) ∈ lb_tbl := lb_mem3 (i := 84) rfl rfl
set_option maxRecDepth 20000 in
theorem qw_607 : (Cond.methodLink RX8 177 yX7_canOpen) ∈ lb_tbl := lb_mem3 (i := 85) rfl rfl
set_option maxRecDepth 20000 in
theorem qw_608 : (Cond.methodLink RL 113 yX8_shelf) ∈ lb_tbl := lb_mem3 (i := 86) rfl rfl
set_option maxRecDepth 20000 in
theorem qw_609 : (Cond.instanceMethod yX8_shelf) ∈ lb_tbl := lb_mem3 (i := 87) rfl rfl
set_option maxRecDepth 20000 in
theorem qw_610 : (Cond.selects RX8 yX8_shelf yX8_shelf) ∈ lb_tbl := lb_mem3 (i := 88) rfl rfl
set_option maxRecDepth 20000 in
theorem qw_611 : (Cond.code yX8_shelf cX8_shelf 7 (some .int)) ∈ lb_tbl := lb_mem3 (i := 89) rfl rfl
set_option maxRecDepth 20000 in
theorem qw_612 : (Cond.methodLink RL 117 yX8_sorts) ∈ lb_tbl := lb_mem3 (i := 90) rfl rfl
set_option maxRecDepth 20000 in
theorem qw_613 : (Cond.instanceMethod yX8_sorts) ∈ lb_tbl := lb_mem3 (i := 91) rfl rfl
set_option maxRecDepth 20000 in
theorem qw_614 : (Cond.selects RX8 yX8_sorts yX8_sorts) ∈ lb_tbl := lb_mem3 (i := 92) rfl rfl
set_option maxRecDepth 20000 in
theorem qw_615 : (Cond.code yX8_sorts cX8_sorts 3 (some .int)) ∈ lb_tbl := lb_mem3 (i := 93) rfl rfl
set_option maxRecDepth 20000 in
theorem qw_616 : (Cond.methodLink RX8 181 yX7_sortsHeld) ∈ lb_tbl := lb_mem3 (i := 94) rfl rfl
set_option maxRecDepth 20000 in
theorem qw_617 : (Cond.instanceMethod yX7_sortsHeld) ∈ lb_tbl := lb_mem3 (i := 95) rfl rfl
set_option maxRecDepth 20000 in
theorem qw_618 : (Cond.selects RX7 yX7_sortsHeld yX7_sortsHeld) ∈ lb_tbl := lb_mem3 (i := 96) rfl rfl
set_option maxRecDepth 20000 in
theorem qw_619 : (Cond.code yX7_sortsHeld cX7_sortsHeld 3 (some .int)) ∈ lb_tbl := lb_mem3 (i := 97) rfl rfl
set_option maxRecDepth 20000 in
theorem qw_620 : (Cond.methodLink RX8 184 yX7_mostHeld) ∈ lb_tbl := lb_mem3 (i := 98) rfl rfl
set_option maxRecDepth 20000 in
theorem qw_621 : (Cond.instanceMethod yX7_mostHeld) ∈ lb_tbl := lb_mem3 (i := 99) rfl rfl
set_option maxRecDepth 20000 in
theorem qw_622 : (Cond.selects RX7 yX7_mostHeld yX7_mostHeld) ∈ lb_tbl := lb_mem3 (i := 100) rfl rfl
set_option maxRecDepth 20000 in
theorem qw_623 : (Cond.code yX7_mostHeld cX7_mostHeld 3 (some .int)) ∈ lb_tbl := lb_mem3 (i := 101) rfl rfl
set_option maxRecDepth 20000 in
theorem qw_624 : (Cond.methodLink RX7 112 yX7_spoonsOf) ∈ lb_tbl := lb_mem3 (i := 102) rfl rfl
set_option maxRecDepth 20000 in
theorem qw_625 : (Cond.instanceMethod yX7_spoonsOf) ∈ lb_tbl := lb_mem3 (i := 103) rfl rfl
set_option maxRecDepth 20000 in
theorem qw_626 : (Cond.selects RX7 yX7_spoonsOf yX7_spoonsOf) ∈ lb_tbl := lb_mem3 (i := 104) rfl rfl
set_option maxRecDepth 20000 in
theorem qw_627 : (Cond.code yX7_spoonsOf cX7_spoonsOf 4 (some .int)) ∈ lb_tbl := lb_mem3 (i := 105) rfl rfl
set_option maxRecDepth 20000 in
theorem qw_628 : (Cond.methodLink RX8 187 yX7_sortsOnLabels) ∈ lb_tbl := lb_mem3 (i := 106) rfl rfl
set_option maxRecDepth 20000 in
theorem qw_629 : (Cond.instanceMethod yX7_sortsOnLabels) ∈ lb_tbl := lb_mem3 (i := 107) rfl rfl
set_option maxRecDepth 20000 in
theorem qw_630 : (Cond.selects RX7 yX7_sortsOnLabels yX7_sortsOnLabels) ∈ lb_tbl := lb_mem3 (i := 108) rfl rfl
set_option maxRecDepth 20000 in
theorem qw_631 : (Cond.code yX7_sortsOnLabels cX7_sortsOnLabels 3 (some .int)) ∈ lb_tbl := lb_mem3 (i := 109) rfl rfl
set_option maxRecDepth 20000 in
theorem qw_632 : (Cond.methodLink RL 121 yX8_fewest) ∈ lb_tbl := lb_mem3 (i := 110) rfl rfl
set_option maxRecDepth 20000 in
theorem qw_633 : (Cond.instanceMethod yX8_fewest) ∈ lb_tbl := lb_mem3 (i := 111) rfl rfl
set_option maxRecDepth 20000 in
theorem qw_634 : (Cond.selects RX8 yX8_fewest yX8_fewest) ∈ lb_tbl := lb_mem3 (i := 112) rfl rfl
set_option maxRecDepth 20000 in
theorem qw_635 : (Cond.code yX8_fewest cX8_fewest 6 (some .int)) ∈ lb_tbl := lb_mem3 (i := 113) rfl rfl
set_option maxRecDepth 20000 in
theorem qw_636 : (Cond.methodLink RX8 190 yX8_fewestOf) ∈ lb_tbl := lb_mem3 (i := 114) rfl rfl
set_option maxRecDepth 20000 in
theorem qw_638 : (Cond.instanceMethod yX8_fewestOf) ∈ lb_tbl := lb_mem3 (i := 116) rfl rfl
set_option maxRecDepth 20000 in
theorem qw_639 : (Cond.code yX8_fewestOf cX8_fewestOf 7 (some .int)) ∈ lb_tbl := lb_mem3 (i := 117) rfl rfl
set_option maxRecDepth 20000 in
theorem qw_640 : (Cond.methodLink RX8 193 yJ6_bitCount_0f7a4) ∈ lb_tbl := lb_mem3 (i := 118) rfl rfl
set_option maxRecDepth 20000 in
theorem qw_641 : (Cond.static yJ6_bitCount_0f7a4) ∈ lb_tbl := lb_mem3 (i := 119) rfl rfl
set_option maxRecDepth 20000 in
theorem qw_642 : (Cond.code yJ6_bitCount_0f7a4 cJ6_bitCount_0f7a4 1 (some .int)) ∈ lb_tbl := lb_mem3 (i := 120) rfl rfl
set_option maxRecDepth 20000 in
theorem qw_643 : (Cond.constant RJ6 265 (1431655765)) ∈ lb_tbl := lb_mem3 (i := 121) rfl rfl
set_option maxRecDepth 20000 in
theorem qw_644 : (Cond.constant RJ6 266 (858993459)) ∈ lb_tbl := lb_mem3 (i := 122) rfl rfl
set_option maxRecDepth 20000 in
theorem qw_645 : (Cond.constant RJ6 267 (252645135)) ∈ lb_tbl := lb_mem3 (i := 123) rfl rfl
set_option maxRecDepth 20000 in
theorem qw_646 : (Cond.methodLink RX8 198 yX8_keepsGrace) ∈ lb_tbl := lb_mem3 (i := 124) rfl rfl
set_option maxRecDepth 20000 in
theorem qw_648 : (Cond.instanceMethod yX8_keepsGrace) ∈ lb_tbl := lb_mem3 (i := 126) rfl rfl
set_option maxRecDepth 20000 in
theorem qw_649 : (Cond.code yX8_keepsGrace cX8_keepsGrace 5 (some .boolean)) ∈ lb_tbl := lb_mem3 (i := 127) rfl rfl
set_option maxRecDepth 20000 in
theorem qw_650 : (Cond.methodLink RL 125 yX8_warn) ∈ lb_tbl := lb_mem3 (i := 128) rfl rfl
set_option maxRecDepth 20000 in
theorem qw_651 : (Cond.instanceMethod yX8_warn) ∈ lb_tbl := lb_mem3 (i := 129) rfl rfl
set_option maxRecDepth 20000 in
theorem qw_652 : (Cond.selects RX8 yX8_warn yX8_warn) ∈ lb_tbl := lb_mem3 (i := 130) rfl rfl
set_option maxRecDepth 20000 in
theorem qw_653 : (Cond.code yX8_warn cX8_warn 8 (some .int)) ∈ lb_tbl := lb_mem3 (i := 131) rfl rfl
set_option maxRecDepth 20000 in
theorem qw_654 : (Cond.methodLink RX8 202 yX8_graceBehind) ∈ lb_tbl := lb_mem3 (i := 132) rfl rfl
set_option maxRecDepth 20000 in
theorem qw_656 : (Cond.instanceMethod yX8_graceBehind) ∈ lb_tbl := lb_mem3 (i := 134) rfl rfl
set_option maxRecDepth 20000 in
theorem qw_657 : (Cond.code yX8_graceBehind cX8_graceBehind 3 (some .int)) ∈ lb_tbl := lb_mem3 (i := 135) rfl rfl
set_option maxRecDepth 20000 in
theorem qw_658 : (Cond.methodLink RX8 205 yX8_ownersGraceWithout) ∈ lb_tbl := lb_mem3 (i := 136) rfl rfl
set_option maxRecDepth 20000 in
theorem qw_660 : (Cond.instanceMethod yX8_ownersGraceWithout) ∈ lb_tbl := lb_mem3 (i := 138) rfl rfl
set_option maxRecDepth 20000 in
theorem qw_661 : (Cond.code yX8_ownersGraceWithout cX8_ownersGraceWithout 4 (some .int)) ∈ lb_tbl := lb_mem3 (i := 139) rfl rfl
set_option maxRecDepth 20000 in
theorem qw_662 : (Cond.methodLink RL 129 yX8_heir) ∈ lb_tbl := lb_mem3 (i := 140) rfl rfl
set_option maxRecDepth 20000 in
theorem qw_663 : (Cond.instanceMethod yX8_heir) ∈ lb_tbl := lb_mem3 (i := 141) rfl rfl
set_option maxRecDepth 20000 in
theorem qw_664 : (Cond.selects RX8 yX8_heir yX8_heir) ∈ lb_tbl := lb_mem3 (i := 142) rfl rfl
set_option maxRecDepth 20000 in
theorem qw_665 : (Cond.code yX8_heir cX8_heir 8 (some .int)) ∈ lb_tbl := lb_mem3 (i := 143) rfl rfl
set_option maxRecDepth 20000 in
theorem qw_666 : (Cond.methodLink RL 133 yX8_two) ∈ lb_tbl := lb_mem3 (i := 144) rfl rfl
set_option maxRecDepth 20000 in
theorem qw_667 : (Cond.instanceMethod yX8_two) ∈ lb_tbl := lb_mem3 (i := 145) rfl rfl
set_option maxRecDepth 20000 in
theorem qw_668 : (Cond.selects RX8 yX8_two yX8_two) ∈ lb_tbl := lb_mem3 (i := 146) rfl rfl
set_option maxRecDepth 20000 in
theorem qw_669 : (Cond.code yX8_two cX8_two 5 (some .int)) ∈ lb_tbl := lb_mem3 (i := 147) rfl rfl
set_option maxRecDepth 20000 in
theorem qw_670 : (Cond.methodLink RX8 208 yX8_isBetterWithout) ∈ lb_tbl := lb_mem3 (i := 148) rfl rfl
set_option maxRecDepth 20000 in
theorem qw_672 : (Cond.instanceMethod yX8_isBetterWithout) ∈ lb_tbl := lb_mem3 (i := 150) rfl rfl
set_option maxRecDepth 20000 in
theorem qw_673 : (Cond.code yX8_isBetterWithout cX8_isBetterWithout 3 (some .boolean)) ∈ lb_tbl := lb_mem3 (i := 151) rfl rfl
set_option maxRecDepth 20000 in
theorem qw_674 : (Cond.methodLink RL 137 yX8_errs) ∈ lb_tbl := lb_mem3 (i := 152) rfl rfl
set_option maxRecDepth 20000 in
theorem qw_675 : (Cond.instanceMethod yX8_errs) ∈ lb_tbl := lb_mem3 (i := 153) rfl rfl
set_option maxRecDepth 20000 in
theorem qw_676 : (Cond.selects RX8 yX8_errs yX8_errs) ∈ lb_tbl := lb_mem3 (i := 154) rfl rfl
set_option maxRecDepth 20000 in
theorem qw_677 : (Cond.code yX8_errs cX8_errs 10 (some .long)) ∈ lb_tbl := lb_mem3 (i := 155) rfl rfl
set_option maxRecDepth 20000 in
theorem qw_678 : (Cond.methodLink RX8 211 yX8_refuseFarthest) ∈ lb_tbl := lb_mem3 (i := 156) rfl rfl
set_option maxRecDepth 20000 in
theorem qw_680 : (Cond.instanceMethod yX8_refuseFarthest) ∈ lb_tbl := lb_mem3 (i := 158) rfl rfl
set_option maxRecDepth 20000 in
theorem qw_681 : (Cond.code yX8_refuseFarthest cX8_refuseFarthest 2 (some .long)) ∈ lb_tbl := lb_mem3 (i := 159) rfl rfl
set_option maxRecDepth 20000 in
theorem qw_682 : (Cond.constantLong RX8 248 (4000000000000000000)) ∈ lb_tbl := lb_mem3 (i := 160) rfl rfl
set_option maxRecDepth 20000 in
theorem qw_683 : (Cond.methodLink RX8 215 yX8_graceIfErring) ∈ lb_tbl := lb_mem3 (i := 161) rfl rfl
set_option maxRecDepth 20000 in
theorem qw_685 : (Cond.instanceMethod yX8_graceIfErring) ∈ lb_tbl := lb_mem3 (i := 163) rfl rfl
set_option maxRecDepth 20000 in
theorem qw_686 : (Cond.code yX8_graceIfErring cX8_graceIfErring 5 (some .int)) ∈ lb_tbl := lb_mem3 (i := 164) rfl rfl
set_option maxRecDepth 20000 in
theorem qw_687 : (Cond.methodLink RX8 226 yX7_labelsOneOn) ∈ lb_tbl := lb_mem3 (i := 165) rfl rfl
set_option maxRecDepth 20000 in
theorem qw_688 : (Cond.instanceMethod yX7_labelsOneOn) ∈ lb_tbl := lb_mem3 (i := 166) rfl rfl
set_option maxRecDepth 20000 in
theorem qw_689 : (Cond.selects RX7 yX7_labelsOneOn yX7_labelsOneOn) ∈ lb_tbl := lb_mem3 (i := 167) rfl rfl
set_option maxRecDepth 20000 in
theorem qw_690 : (Cond.code yX7_labelsOneOn cX7_labelsOneOn 2 none) ∈ lb_tbl := lb_mem3 (i := 168) rfl rfl
set_option maxRecDepth 20000 in
theorem qw_691 : (Cond.methodLink RX8 218 yX8_power) ∈ lb_tbl := lb_mem3 (i := 169) rfl rfl
set_option maxRecDepth 20000 in
theorem qw_692 : (Cond.static yX8_power) ∈ lb_tbl := lb_mem3 (i := 170) rfl rfl
set_option maxRecDepth 20000 in
theorem qw_693 : (Cond.code yX8_power cX8_power 5 (some .long)) ∈ lb_tbl := lb_mem3 (i := 171) rfl rfl
set_option maxRecDepth 20000 in
theorem qw_694 : (Cond.methodLink RX8 222 yX8_ofFraction) ∈ lb_tbl := lb_mem3 (i := 172) rfl rfl
set_option maxRecDepth 20000 in
theorem qw_695 : (Cond.static yX8_ofFraction) ∈ lb_tbl := lb_mem3 (i := 173) rfl rfl
set_option maxRecDepth 20000 in
theorem qw_696 : (Cond.code yX8_ofFraction cX8_ofFraction 7 (some .long)) ∈ lb_tbl := lb_mem3 (i := 174) rfl rfl
set_option maxRecDepth 20000 in
theorem qw_697 : (Cond.methodLink RX8 256 yX8_commonDivisor) ∈ lb_tbl := lb_mem3 (i := 175) rfl rfl
set_option maxRecDepth 20000 in
theorem qw_698 : (Cond.static yX8_commonDivisor) ∈ lb_tbl := lb_mem3 (i := 176) rfl rfl
set_option maxRecDepth 20000 in
theorem qw_699 : (Cond.code yX8_commonDivisor cX8_commonDivisor 11 (some .long)) ∈ lb_tbl := lb_mem3 (i := 177) rfl rfl
set_option maxRecDepth 20000 in
theorem qw_700 : (Cond.methodLink RX8 260 yJ9_max_f86c9) ∈ lb_tbl := lb_mem3 (i := 178) rfl rfl
set_option maxRecDepth 20000 in
theorem qw_701 : (Cond.static yJ9_max_f86c9) ∈ lb_tbl := lb_mem3 (i := 179) rfl rfl
set_option maxRecDepth 20000 in
theorem qw_702 : (Cond.code yJ9_max_f86c9 cJ9_max_f86c9 4 (some .long)) ∈ lb_tbl := lb_mem3 (i := 180) rfl rfl
set_option maxRecDepth 20000 in
theorem qw_703 : (Cond.methodLink RL 142 yX8_mean) ∈ lb_tbl := lb_mem3 (i := 181) rfl rfl
set_option maxRecDepth 20000 in
theorem qw_704 : (Cond.instanceMethod yX8_mean) ∈ lb_tbl := lb_mem3 (i := 182) rfl rfl
set_option maxRecDepth 20000 in
theorem qw_705 : (Cond.selects RX8 yX8_mean yX8_mean) ∈ lb_tbl := lb_mem3 (i := 183) rfl rfl
set_option maxRecDepth 20000 in
theorem qw_706 : (Cond.code yX8_mean cX8_mean 3 (some .long)) ∈ lb_tbl := lb_mem3 (i := 184) rfl rfl
set_option maxRecDepth 20000 in
theorem qw_707 : (Cond.methodLink RL 147 yX8_whatIn) ∈ lb_tbl := lb_mem3 (i := 185) rfl rfl
set_option maxRecDepth 20000 in
theorem qw_708 : (Cond.instanceMethod yX8_whatIn) ∈ lb_tbl := lb_mem3 (i := 186) rfl rfl
set_option maxRecDepth 20000 in
theorem qw_709 : (Cond.selects RX8 yX8_whatIn yX8_whatIn) ∈ lb_tbl := lb_mem3 (i := 187) rfl rfl
set_option maxRecDepth 20000 in
theorem qw_710 : (Cond.code yX8_whatIn cX8_whatIn 7 (some .int)) ∈ lb_tbl := lb_mem3 (i := 188) rfl rfl
set_option maxRecDepth 20000 in
theorem qw_711 : (Cond.methodLink RX8 229 yX8_goesAsRow) ∈ lb_tbl := lb_mem3 (i := 189) rfl rfl
set_option maxRecDepth 20000 in
theorem qw_713 : (Cond.instanceMethod yX8_goesAsRow) ∈ lb_tbl := lb_mem3 (i := 191) rfl rfl
set_option maxRecDepth 20000 in
theorem qw_714 : (Cond.code yX8_goesAsRow cX8_goesAsRow 3 (some .boolean)) ∈ lb_tbl := lb_mem3 (i := 192) rfl rfl
set_option maxRecDepth 20000 in
theorem qw_715 : (Cond.methodLink RL 151 yX8_row) ∈ lb_tbl := lb_mem3 (i := 193) rfl rfl
set_option maxRecDepth 20000 in
theorem qw_716 : (Cond.instanceMethod yX8_row) ∈ lb_tbl := lb_mem3 (i := 194) rfl rfl
set_option maxRecDepth 20000 in
theorem qw_717 : (Cond.selects RX8 yX8_row yX8_row) ∈ lb_tbl := lb_mem3 (i := 195) rfl rfl
set_option maxRecDepth 20000 in
theorem qw_718 : (Cond.code yX8_row cX8_row 3 (some .int)) ∈ lb_tbl := lb_mem3 (i := 196) rfl rfl
set_option maxRecDepth 20000 in
theorem qw_719 : (Cond.methodLink RL 155 yX8_judge) ∈ lb_tbl := lb_mem3 (i := 197) rfl rfl
set_option maxRecDepth 20000 in
theorem qw_720 : (Cond.instanceMethod yX8_judge) ∈ lb_tbl := lb_mem3 (i := 198) rfl rfl
set_option maxRecDepth 20000 in
theorem qw_721 : (Cond.selects RX8 yX8_judge yX8_judge) ∈ lb_tbl := lb_mem3 (i := 199) rfl rfl
set_option maxRecDepth 20000 in
theorem qw_722 : (Cond.code yX8_judge cX8_judge 3 (some .int)) ∈ lb_tbl := lb_mem3 (i := 200) rfl rfl
set_option maxRecDepth 20000 in
theorem qw_723 : (Cond.methodLink RL 159 yX8_clear) ∈ lb_tbl := lb_mem3 (i := 201) rfl rfl
set_option maxRecDepth 20000 in
theorem qw_724 : (Cond.instanceMethod yX8_clear) ∈ lb_tbl := lb_mem3 (i := 202) rfl rfl
set_option maxRecDepth 20000 in
theorem qw_725 : (Cond.selects RX8 yX8_clear yX8_clear) ∈ lb_tbl := lb_mem3 (i := 203) rfl rfl
set_option maxRecDepth 20000 in
theorem qw_726 : (Cond.code yX8_clear cX8_clear 2 (some .int)) ∈ lb_tbl := lb_mem3 (i := 204) rfl rfl
set_option maxRecDepth 20000 in
theorem qw_727 : (Cond.methodLink RL 163 yX8_lots) ∈ lb_tbl := lb_mem3 (i := 205) rfl rfl
set_option maxRecDepth 20000 in
theorem qw_728 : (Cond.instanceMethod yX8_lots) ∈ lb_tbl := lb_mem3 (i := 206) rfl rfl
set_option maxRecDepth 20000 in
theorem qw_729 : (Cond.selects RX8 yX8_lots yX8_lots) ∈ lb_tbl := lb_mem3 (i := 207) rfl rfl
set_option maxRecDepth 20000 in
theorem qw_730 : (Cond.code yX8_lots cX8_lots 10 (some .int)) ∈ lb_tbl := lb_mem3 (i := 208) rfl rfl
set_option maxRecDepth 20000 in
theorem qw_731 : (Cond.methodLink RX8 235 yX8_nextSeed) ∈ lb_tbl := lb_mem3 (i := 209) rfl rfl
set_option maxRecDepth 20000 in
theorem qw_732 : (Cond.static yX8_nextSeed) ∈ lb_tbl := lb_mem3 (i := 210) rfl rfl
set_option maxRecDepth 20000 in
theorem qw_733 : (Cond.code yX8_nextSeed cX8_nextSeed 1 (some .int)) ∈ lb_tbl := lb_mem3 (i := 211) rfl rfl
set_option maxRecDepth 20000 in
theorem qw_734 : (Cond.constant RX8 253 (1664525)) ∈ lb_tbl := lb_mem3 (i := 212) rfl rfl
set_option maxRecDepth 20000 in
theorem qw_735 : (Cond.constant RX8 254 (1013904223)) ∈ lb_tbl := lb_mem3 (i := 213) rfl rfl
set_option maxRecDepth 20000 in
theorem qw_736 : (Cond.methodLink RX8 238 yX8_drawn) ∈ lb_tbl := lb_mem3 (i := 214) rfl rfl
set_option maxRecDepth 20000 in
theorem qw_737 : (Cond.static yX8_drawn) ∈ lb_tbl := lb_mem3 (i := 215) rfl rfl
set_option maxRecDepth 20000 in
theorem qw_738 : (Cond.code yX8_drawn cX8_drawn 2 (some .int)) ∈ lb_tbl := lb_mem3 (i := 216) rfl rfl
set_option maxRecDepth 20000 in
theorem qw_739 : (Cond.constant RX8 255 (2147483647)) ∈ lb_tbl := lb_mem3 (i := 217) rfl rfl
set_option maxRecDepth 20000 in
theorem qw_740 : (Cond.methodLink RX8 241 yX7_withoutGrace) ∈ lb_tbl := lb_mem3 (i := 218) rfl rfl
set_option maxRecDepth 20000 in
theorem qw_741 : (Cond.instanceMethod yX7_withoutGrace) ∈ lb_tbl := lb_mem3 (i := 219) rfl rfl
set_option maxRecDepth 20000 in
theorem qw_742 : (Cond.selects RX7 yX7_withoutGrace yX7_withoutGrace) ∈ lb_tbl := lb_mem3 (i := 220) rfl rfl
set_option maxRecDepth 20000 in
theorem qw_743 : (Cond.code yX7_withoutGrace cX7_withoutGrace 3 (some .int)) ∈ lb_tbl := lb_mem3 (i := 221) rfl rfl
set_option maxRecDepth 20000 in
theorem qw_744 : (Cond.methodLink RL 167 yX8_image) ∈ lb_tbl := lb_mem3 (i := 222) rfl rfl
set_option maxRecDepth 20000 in
theorem qw_745 : (Cond.instanceMethod yX8_image) ∈ lb_tbl := lb_mem3 (i := 223) rfl rfl
set_option maxRecDepth 20000 in
theorem qw_746 : (Cond.selects RX8 yX8_image yX8_image) ∈ lb_tbl := lb_mem3 (i := 224) rfl rfl
set_option maxRecDepth 20000 in
theorem qw_747 : (Cond.code yX8_image cX8_image 1 (some .int)) ∈ lb_tbl := lb_mem3 (i := 225) rfl rfl
set_option maxRecDepth 20000 in
theorem qw_748 : (Cond.methodLink RL 171 yX8_on) ∈ lb_tbl := lb_mem3 (i := 226) rfl rfl
set_option maxRecDepth 20000 in
theorem qw_749 : (Cond.instanceMethod yX8_on) ∈ lb_tbl := lb_mem3 (i := 227) rfl rfl
set_option maxRecDepth 20000 in
theorem qw_750 : (Cond.selects RX8 yX8_on yX8_on) ∈ lb_tbl := lb_mem3 (i := 228) rfl rfl
set_option maxRecDepth 20000 in
theorem qw_751 : (Cond.code yX8_on cX8_on 1 (some .int)) ∈ lb_tbl := lb_mem3 (i := 229) rfl rfl
set_option maxRecDepth 20000 in
theorem qw_752 : (Cond.methodLink RL 175 yX8_count) ∈ lb_tbl := lb_mem3 (i := 230) rfl rfl
set_option maxRecDepth 20000 in
theorem qw_753 : (Cond.instanceMethod yX8_count) ∈ lb_tbl := lb_mem3 (i := 231) rfl rfl
set_option maxRecDepth 20000 in
theorem qw_754 : (Cond.selects RX8 yX8_count yX8_count) ∈ lb_tbl := lb_mem3 (i := 232) rfl rfl
set_option maxRecDepth 20000 in
theorem qw_755 : (Cond.code yX8_count cX8_count 2 (some .int)) ∈ lb_tbl := lb_mem3 (i := 233) rfl rfl
set_option maxRecDepth 20000 in
theorem qw_756 : (Cond.methodLink RX8 244 yX7_spoons) ∈ lb_tbl := lb_mem3 (i := 234) rfl rfl
set_option maxRecDepth 20000 in
theorem qw_757 : (Cond.instanceMethod yX7_spoons) ∈ lb_tbl := lb_mem3 (i := 235) rfl rfl
set_option maxRecDepth 20000 in
theorem qw_758 : (Cond.selects RX7 yX7_spoons yX7_spoons) ∈ lb_tbl := lb_mem3 (i := 236) rfl rfl
set_option maxRecDepth 20000 in
theorem qw_759 : (Cond.code yX7_spoons cX7_spoons 3 (some .int)) ∈ lb_tbl := lb_mem3 (i := 237) rfl rfl
set_option maxRecDepth 20000 in
theorem qw_760 : (Cond.classLink RL 10 RX9) ∈ lb_tbl := lb_mem3 (i := 238) rfl rfl
set_option maxRecDepth 20000 in
theorem qw_761 : (Cond.instantiable RX9 13) ∈ lb_tbl := lb_mem3 (i := 239) rfl rfl
set_option maxRecDepth 20000 in
theorem qw_762 : (Cond.methodLink RL 12 yX9_init) ∈ lb_tbl := lb_mem4 (i := 0) rfl rfl
set_option maxRecDepth 20000 in
theorem qw_763 : (Cond.instanceMethod yX9_init) ∈ lb_tbl := lb_mem4 (i := 1) rfl rfl
set_option maxRecDepth 20000 in
theorem qw_764 : (Cond.code yX9_init cX9_init 1 none) ∈ lb_tbl := lb_mem4 (i := 2) rfl rfl
set_option maxRecDepth 20000 in
theorem qw_765 : (Cond.methodLink RX9 1 ⟨"java/lang/Object", "<init>", "()V"⟩) ∈ lb_tbl := lb_mem4 (i := 3) rfl rfl
set_option maxRecDepth 20000 in
theorem qw_766 : (Cond.fieldLink RX9 9 "LabelsByAnotherHandModel" "s" "[I") ∈ lb_tbl := lb_mem4 (i := 4) rfl rfl
set_option maxRecDepth 20000 in
theorem qw_767 : (Cond.fieldLink RX9 13 "LabelsByAnotherHandModel" "m" "[I") ∈ lb_tbl := lb_mem4 (i := 5) rfl rfl
set_option maxRecDepth 20000 in
theorem qw_768 : (Cond.fieldLink RX9 16 "LabelsByAnotherHandModel" "image" "[I") ∈ lb_tbl := lb_mem4 (i := 6) rfl rfl
set_option maxRecDepth 20000 in
theorem qw_769 : (Cond.fieldLink RX9 19 "LabelsByAnotherHandModel" "was" "[I") ∈ lb_tbl := lb_mem4 (i := 7) rfl rfl
set_option maxRecDepth 20000 in
theorem qw_770 : (Cond.fieldLink RX9 204 "LabelsByAnotherHandModel" "hasImage" "Z") ∈ lb_tbl := lb_mem4 (i := 8) rfl rfl
set_option maxRecDepth 20000 in
theorem qw_771 : (Cond.fieldLink RX9 22 "LabelsByAnotherHandModel" "letters" "[I") ∈ lb_tbl := lb_mem4 (i := 9) rfl rfl
set_option maxRecDepth 20000 in
theorem qw_772 : (Cond.fieldLink RX9 25 "LabelsByAnotherHandModel" "row" "[I") ∈ lb_tbl := lb_mem4 (i := 10) rfl rfl
set_option maxRecDepth 20000 in
theorem qw_773 : (Cond.fieldLink RX9 28 "LabelsByAnotherHandModel" "refused" "[I") ∈ lb_tbl := lb_mem4 (i := 11) rfl rfl
set_option maxRecDepth 20000 in
theorem qw_774 : (Cond.fieldLink RX9 73 "LabelsByAnotherHandModel" "letterMany" "I") ∈ lb_tbl := lb_mem4 (i := 12) rfl rfl
set_option maxRecDepth 20000 in
theorem qw_775 : (Cond.fieldLink RX9 192 "LabelsByAnotherHandModel" "rowMany" "I") ∈ lb_tbl := lb_mem4 (i := 13) rfl rfl
set_option maxRecDepth 20000 in
theorem qw_776 : (Cond.fieldLink RX9 77 "LabelsByAnotherHandModel" "place" "I") ∈ lb_tbl := lb_mem4 (i := 14) rfl rfl
set_option maxRecDepth 20000 in
theorem qw_777 : (Cond.fieldLink RX9 31 "LabelsByAnotherHandModel" "numbers" "[I") ∈ lb_tbl := lb_mem4 (i := 15) rfl rfl
set_option maxRecDepth 20000 in
theorem qw_778 : (Cond.fieldLink RX9 195 "LabelsByAnotherHandModel" "seed" "I") ∈ lb_tbl := lb_mem4 (i := 16) rfl rfl
set_option maxRecDepth 20000 in
theorem qw_779 : (Cond.laysFinal "LabelsByAnotherHandModel" "LabelsByAnotherHandModel" "s" "[I") ∈ lb_tbl := lb_mem4 (i := 17) rfl rfl
set_option maxRecDepth 20000 in
theorem qw_781 : (Cond.laysFinal "LabelsByAnotherHandModel" "LabelsByAnotherHandModel" "m" "[I") ∈ lb_tbl := lb_mem4 (i := 19) rfl rfl
set_option maxRecDepth 20000 in
theorem qw_783 : (Cond.laysFinal "LabelsByAnotherHandModel" "LabelsByAnotherHandModel" "image" "[I") ∈ lb_tbl := lb_mem4 (i := 21) rfl rfl
set_option maxRecDepth 20000 in
theorem qw_785 : (Cond.laysFinal "LabelsByAnotherHandModel" "LabelsByAnotherHandModel" "was" "[I") ∈ lb_tbl := lb_mem4 (i := 23) rfl rfl
set_option maxRecDepth 20000 in
theorem qw_787 : (Cond.lays "LabelsByAnotherHandModel" "LabelsByAnotherHandModel" "hasImage" "Z") ∈ lb_tbl := lb_mem4 (i := 25) rfl rfl
set_option maxRecDepth 20000 in
theorem qw_789 : (Cond.laysFinal "LabelsByAnotherHandModel" "LabelsByAnotherHandModel" "letters" "[I") ∈ lb_tbl := lb_mem4 (i := 27) rfl rfl
set_option maxRecDepth 20000 in
theorem qw_791 : (Cond.laysFinal "LabelsByAnotherHandModel" "LabelsByAnotherHandModel" "row" "[I") ∈ lb_tbl := lb_mem4 (i := 29) rfl rfl
set_option maxRecDepth 20000 in
theorem qw_793 : (Cond.laysFinal "LabelsByAnotherHandModel" "LabelsByAnotherHandModel" "refused" "[I") ∈ lb_tbl := lb_mem4 (i := 31) rfl rfl
set_option maxRecDepth 20000 in
theorem qw_795 : (Cond.lays "LabelsByAnotherHandModel" "LabelsByAnotherHandModel" "letterMany" "I") ∈ lb_tbl := lb_mem4 (i := 33) rfl rfl
set_option maxRecDepth 20000 in
theorem qw_797 : (Cond.lays "LabelsByAnotherHandModel" "LabelsByAnotherHandModel" "rowMany" "I") ∈ lb_tbl := lb_mem4 (i := 35) rfl rfl
set_option maxRecDepth 20000 in
theorem qw_799 : (Cond.lays "LabelsByAnotherHandModel" "LabelsByAnotherHandModel" "place" "I") ∈ lb_tbl := lb_mem4 (i := 37) rfl rfl
set_option maxRecDepth 20000 in
theorem qw_801 : (Cond.laysFinal "LabelsByAnotherHandModel" "LabelsByAnotherHandModel" "numbers" "[I") ∈ lb_tbl := lb_mem4 (i := 39) rfl rfl
set_option maxRecDepth 20000 in
theorem qw_803 : (Cond.lays "LabelsByAnotherHandModel" "LabelsByAnotherHandModel" "seed" "I") ∈ lb_tbl := lb_mem4 (i := 41) rfl rfl
set_option maxRecDepth 20000 in
theorem qw_805 : (Cond.superclass RX9 "java/lang/Object") ∈ lb_tbl := lb_mem4 (i := 43) rfl rfl
set_option maxRecDepth 20000 in
theorem qw_806 : (Cond.methodLink RL 17 yX9_letter) ∈ lb_tbl := lb_mem4 (i := 44) rfl rfl
set_option maxRecDepth 20000 in
theorem qw_807 : (Cond.instanceMethod yX9_letter) ∈ lb_tbl := lb_mem4 (i := 45) rfl rfl
set_option maxRecDepth 20000 in
theorem qw_808 : (Cond.selects RX9 yX9_letter yX9_letter) ∈ lb_tbl := lb_mem4 (i := 46) rfl rfl
set_option maxRecDepth 20000 in
theorem qw_809 : (Cond.code yX9_letter cX9_letter 2 (some .int)) ∈ lb_tbl := lb_mem4 (i := 47) rfl rfl
set_option maxRecDepth 20000 in
theorem qw_810 : (Cond.methodLink RX9 35 yX9_no) ∈ lb_tbl := lb_mem4 (i := 48) rfl rfl
set_option maxRecDepth 20000 in
theorem qw_812 : (Cond.instanceMethod yX9_no) ∈ lb_tbl := lb_mem4 (i := 50) rfl rfl
set_option maxRecDepth 20000 in
theorem qw_813 : (Cond.code yX9_no cX9_no 2 (some .int)) ∈ lb_tbl := lb_mem4 (i := 51) rfl rfl
set_option maxRecDepth 20000 in
theorem qw_814 : (Cond.methodLink RL 22 yX9_village) ∈ lb_tbl := lb_mem4 (i := 52) rfl rfl
set_option maxRecDepth 20000 in
theorem qw_815 : (Cond.instanceMethod yX9_village) ∈ lb_tbl := lb_mem4 (i := 53) rfl rfl
set_option maxRecDepth 20000 in
theorem qw_816 : (Cond.selects RX9 yX9_village yX9_village) ∈ lb_tbl := lb_mem4 (i := 54) rfl rfl
set_option maxRecDepth 20000 in
theorem qw_817 : (Cond.code yX9_village cX9_village 6 (some .int)) ∈ lb_tbl := lb_mem4 (i := 55) rfl rfl
set_option maxRecDepth 20000 in
theorem qw_818 : (Cond.methodLink RX9 109 yX9_readsStatement) ∈ lb_tbl := lb_mem4 (i := 56) rfl rfl
set_option maxRecDepth 20000 in
theorem qw_820 : (Cond.instanceMethod yX9_readsStatement) ∈ lb_tbl := lb_mem4 (i := 58) rfl rfl
set_option maxRecDepth 20000 in
theorem qw_821 : (Cond.code yX9_readsStatement cX9_readsStatement 3 (some .boolean)) ∈ lb_tbl := lb_mem4 (i := 59) rfl rfl
set_option maxRecDepth 20000 in
theorem qw_822 : (Cond.methodLink RX9 80 yX9_here) ∈ lb_tbl := lb_mem4 (i := 60) rfl rfl
set_option maxRecDepth 20000 in
theorem qw_824 : (Cond.instanceMethod yX9_here) ∈ lb_tbl := lb_mem4 (i := 62) rfl rfl
set_option maxRecDepth 20000 in
theorem qw_825 : (Cond.code yX9_here cX9_here 1 (some .int)) ∈ lb_tbl := lb_mem4 (i := 63) rfl rfl
set_option maxRecDepth 20000 in
theorem qw_826 : (Cond.methodLink RX9 87 yX9_readsNumber) ∈ lb_tbl := lb_mem4 (i := 64) rfl rfl
set_option maxRecDepth 20000 in
theorem qw_828 : (Cond.instanceMethod yX9_readsNumber) ∈ lb_tbl := lb_mem4 (i := 66) rfl rfl
set_option maxRecDepth 20000 in
theorem qw_829 : (Cond.code yX9_readsNumber cX9_readsNumber 4 (some .boolean)) ∈ lb_tbl := lb_mem4 (i := 67) rfl rfl
set_option maxRecDepth 20000 in
theorem qw_830 : (Cond.methodLink RX9 41 yX9_isIn) ∈ lb_tbl := lb_mem4 (i := 68) rfl rfl
set_option maxRecDepth 20000 in
theorem qw_831 : (Cond.static yX9_isIn) ∈ lb_tbl := lb_mem4 (i := 69) rfl rfl
set_option maxRecDepth 20000 in
theorem qw_832 : (Cond.code yX9_isIn cX9_isIn 3 (some .boolean)) ∈ lb_tbl := lb_mem4 (i := 70) rfl rfl
set_option maxRecDepth 20000 in
theorem qw_833 : (Cond.methodLink RX9 91 yX9_readsKind) ∈ lb_tbl := lb_mem4 (i := 71) rfl rfl
set_option maxRecDepth 20000 in
theorem qw_835 : (Cond.instanceMethod yX9_readsKind) ∈ lb_tbl := lb_mem4 (i := 73) rfl rfl
set_option maxRecDepth 20000 in
theorem qw_836 : (Cond.code yX9_readsKind cX9_readsKind 1 (some .boolean)) ∈ lb_tbl := lb_mem4 (i := 74) rfl rfl
set_option maxRecDepth 20000 in
theorem qw_837 : (Cond.methodLink RX9 84 yX9_kindBy) ∈ lb_tbl := lb_mem4 (i := 75) rfl rfl
set_option maxRecDepth 20000 in
theorem qw_838 : (Cond.static yX9_kindBy) ∈ lb_tbl := lb_mem4 (i := 76) rfl rfl
set_option maxRecDepth 20000 in
theorem qw_839 : (Cond.code yX9_kindBy cX9_kindBy 1 (some .int)) ∈ lb_tbl := lb_mem4 (i := 77) rfl rfl
set_option maxRecDepth 20000 in
theorem qw_840 : (Cond.methodLink RX9 112 yX9_copies) ∈ lb_tbl := lb_mem4 (i := 78) rfl rfl
set_option maxRecDepth 20000 in
theorem qw_841 : (Cond.static yX9_copies) ∈ lb_tbl := lb_mem4 (i := 79) rfl rfl
set_option maxRecDepth 20000 in
theorem qw_842 : (Cond.code yX9_copies cX9_copies 3 none) ∈ lb_tbl := lb_mem4 (i := 80) rfl rfl
set_option maxRecDepth 20000 in
theorem qw_843 : (Cond.methodLink RX9 116 yX9_isDone) ∈ lb_tbl := lb_mem4 (i := 81) rfl rfl
set_option maxRecDepth 20000 in
theorem qw_845 : (Cond.instanceMethod yX9_isDone) ∈ lb_tbl := lb_mem4 (i := 83) rfl rfl
set_option maxRecDepth 20000 in
theorem qw_846 : (Cond.code yX9_isDone cX9_isDone 4 (some .boolean)) ∈ lb_tbl := lb_mem4 (i := 84) rfl rfl
set_option maxRecDepth 20000 in
theorem qw_847 : (Cond.methodLink RX9 52 yX9_ofP) ∈ lb_tbl := lb_mem4 (i := 85) rfl rfl
set_option maxRecDepth 20000 in
theorem qw_848 : (Cond.static yX9_ofP) ∈ lb_tbl := lb_mem4 (i := 86) rfl rfl
set_option maxRecDepth 20000 in
theorem qw_849 : (Cond.code yX9_ofP cX9_ofP 2 (some .int)) ∈ lb_tbl := lb_mem4 (i := 87) rfl rfl
set_option maxRecDepth 20000 in
theorem qw_850 : (Cond.methodLink RX9 99 yX9_addsPot) ∈ lb_tbl := lb_mem4 (i := 88) rfl rfl
set_option maxRecDepth 20000 in
theorem qw_852 : (Cond.instanceMethod yX9_addsPot) ∈ lb_tbl := lb_mem4 (i := 90) rfl rfl
set_option maxRecDepth 20000 in
theorem qw_853 : (Cond.code yX9_addsPot cX9_addsPot 2 (some .boolean)) ∈ lb_tbl := lb_mem4 (i := 91) rfl rfl
set_option maxRecDepth 20000 in
theorem qw_854 : (Cond.methodLink RX9 95 yX9_isPerson) ∈ lb_tbl := lb_mem4 (i := 92) rfl rfl
set_option maxRecDepth 20000 in
theorem qw_856 : (Cond.instanceMethod yX9_isPerson) ∈ lb_tbl := lb_mem4 (i := 94) rfl rfl
set_option maxRecDepth 20000 in
theorem qw_857 : (Cond.code yX9_isPerson cX9_isPerson 2 (some .boolean)) ∈ lb_tbl := lb_mem4 (i := 95) rfl rfl
set_option maxRecDepth 20000 in
theorem qw_858 : (Cond.methodLink RX9 45 yX9_ofT) ∈ lb_tbl := lb_mem4 (i := 96) rfl rfl
set_option maxRecDepth 20000 in
theorem qw_859 : (Cond.static yX9_ofT) ∈ lb_tbl := lb_mem4 (i := 97) rfl rfl
set_option maxRecDepth 20000 in
theorem qw_860 : (Cond.code yX9_ofT cX9_ofT 2 (some .int)) ∈ lb_tbl := lb_mem4 (i := 98) rfl rfl
set_option maxRecDepth 20000 in
theorem qw_861 : (Cond.methodLink RX9 102 yX9_isPot) ∈ lb_tbl := lb_mem4 (i := 99) rfl rfl
set_option maxRecDepth 20000 in
theorem qw_863 : (Cond.instanceMethod yX9_isPot) ∈ lb_tbl := lb_mem4 (i := 101) rfl rfl
set_option maxRecDepth 20000 in
theorem qw_864 : (Cond.code yX9_isPot cX9_isPot 2 (some .boolean)) ∈ lb_tbl := lb_mem4 (i := 102) rfl rfl
set_option maxRecDepth 20000 in
theorem qw_865 : (Cond.methodLink RX9 105 yX9_yearsOn) ∈ lb_tbl := lb_mem4 (i := 103) rfl rfl
set_option maxRecDepth 20000 in
theorem qw_866 : (Cond.static yX9_yearsOn) ∈ lb_tbl := lb_mem4 (i := 104) rfl rfl
set_option maxRecDepth 20000 in
theorem qw_867 : (Cond.code yX9_yearsOn cX9_yearsOn 3 none) ∈ lb_tbl := lb_mem4 (i := 105) rfl rfl
set_option maxRecDepth 20000 in
theorem qw_868 : (Cond.methodLink RX9 69 yX9_year) ∈ lb_tbl := lb_mem4 (i := 106) rfl rfl
set_option maxRecDepth 20000 in
theorem qw_869 : (Cond.static yX9_year) ∈ lb_tbl := lb_mem4 (i := 107) rfl rfl
set_option maxRecDepth 20000 in
theorem qw_870 : (Cond.code yX9_year cX9_year 3 none) ∈ lb_tbl := lb_mem4 (i := 108) rfl rfl
set_option maxRecDepth 20000 in
theorem qw_871 : (Cond.methodLink RX9 59 yX9_opensIn) ∈ lb_tbl := lb_mem4 (i := 109) rfl rfl
set_option maxRecDepth 20000 in
theorem qw_872 : (Cond.static yX9_opensIn) ∈ lb_tbl := lb_mem4 (i := 110) rfl rfl
set_option maxRecDepth 20000 in
theorem qw_873 : (Cond.code yX9_opensIn cX9_opensIn 4 (some .int)) ∈ lb_tbl := lb_mem4 (i := 111) rfl rfl
set_option maxRecDepth 20000 in
theorem qw_874 : (Cond.methodLink RX9 55 yX9_wishedOff) ∈ lb_tbl := lb_mem4 (i := 112) rfl rfl
set_option maxRecDepth 20000 in
theorem qw_875 : (Cond.static yX9_wishedOff) ∈ lb_tbl := lb_mem4 (i := 113) rfl rfl
set_option maxRecDepth 20000 in
theorem qw_876 : (Cond.code yX9_wishedOff cX9_wishedOff 3 (some .int)) ∈ lb_tbl := lb_mem4 (i := 114) rfl rfl
set_option maxRecDepth 20000 in
theorem qw_877 : (Cond.methodLink RX9 49 yX9_off) ∈ lb_tbl := lb_mem4 (i := 115) rfl rfl
set_option maxRecDepth 20000 in
theorem qw_878 : (Cond.static yX9_off) ∈ lb_tbl := lb_mem4 (i := 116) rfl rfl
set_option maxRecDepth 20000 in
theorem qw_879 : (Cond.code yX9_off cX9_off 3 (some .int)) ∈ lb_tbl := lb_mem4 (i := 117) rfl rfl
set_option maxRecDepth 20000 in
theorem qw_880 : (Cond.methodLink RX9 63 yX9_gainsIn) ∈ lb_tbl := lb_mem4 (i := 118) rfl rfl
set_option maxRecDepth 20000 in
theorem qw_881 : (Cond.static yX9_gainsIn) ∈ lb_tbl := lb_mem4 (i := 119) rfl rfl
set_option maxRecDepth 20000 in
theorem qw_882 : (Cond.code yX9_gainsIn cX9_gainsIn 7 (some .int)) ∈ lb_tbl := lb_mem4 (i := 120) rfl rfl
set_option maxRecDepth 20000 in
theorem qw_883 : (Cond.methodLink RX9 66 yX9_held) ∈ lb_tbl := lb_mem4 (i := 121) rfl rfl
set_option maxRecDepth 20000 in
theorem qw_884 : (Cond.static yX9_held) ∈ lb_tbl := lb_mem4 (i := 122) rfl rfl
set_option maxRecDepth 20000 in
theorem qw_885 : (Cond.code yX9_held cX9_held 1 (some .int)) ∈ lb_tbl := lb_mem4 (i := 123) rfl rfl
set_option maxRecDepth 20000 in
theorem qw_886 : (Cond.methodLink RL 27 yX9_pot) ∈ lb_tbl := lb_mem4 (i := 124) rfl rfl
set_option maxRecDepth 20000 in
theorem qw_887 : (Cond.instanceMethod yX9_pot) ∈ lb_tbl := lb_mem4 (i := 125) rfl rfl
set_option maxRecDepth 20000 in
theorem qw_888 : (Cond.selects RX9 yX9_pot yX9_pot) ∈ lb_tbl := lb_mem4 (i := 126) rfl rfl
set_option maxRecDepth 20000 in
theorem qw_889 : (Cond.code yX9_pot cX9_pot 3 (some .int)) ∈ lb_tbl := lb_mem4 (i := 127) rfl rfl
set_option maxRecDepth 20000 in
theorem qw_890 : (Cond.methodLink RL 31 yX9_person) ∈ lb_tbl := lb_mem4 (i := 128) rfl rfl
set_option maxRecDepth 20000 in
theorem qw_891 : (Cond.instanceMethod yX9_person) ∈ lb_tbl := lb_mem4 (i := 129) rfl rfl
set_option maxRecDepth 20000 in
theorem qw_892 : (Cond.selects RX9 yX9_person yX9_person) ∈ lb_tbl := lb_mem4 (i := 130) rfl rfl
set_option maxRecDepth 20000 in
theorem qw_893 : (Cond.code yX9_person cX9_person 3 (some .int)) ∈ lb_tbl := lb_mem4 (i := 131) rfl rfl
set_option maxRecDepth 20000 in
theorem qw_894 : (Cond.methodLink RX9 119 yX9_potsOf) ∈ lb_tbl := lb_mem4 (i := 132) rfl rfl
set_option maxRecDepth 20000 in
theorem qw_896 : (Cond.instanceMethod yX9_potsOf) ∈ lb_tbl := lb_mem4 (i := 134) rfl rfl
set_option maxRecDepth 20000 in
theorem qw_897 : (Cond.code yX9_potsOf cX9_potsOf 4 (some .int)) ∈ lb_tbl := lb_mem4 (i := 135) rfl rfl
set_option maxRecDepth 20000 in
theorem qw_898 : (Cond.methodLink RL 35 yX9_gains) ∈ lb_tbl := lb_mem4 (i := 136) rfl rfl
set_option maxRecDepth 20000 in
theorem qw_899 : (Cond.instanceMethod yX9_gains) ∈ lb_tbl := lb_mem4 (i := 137) rfl rfl
set_option maxRecDepth 20000 in
theorem qw_900 : (Cond.selects RX9 yX9_gains yX9_gains) ∈ lb_tbl := lb_mem4 (i := 138) rfl rfl
set_option maxRecDepth 20000 in
theorem qw_901 : (Cond.code yX9_gains cX9_gains 3 (some .int)) ∈ lb_tbl := lb_mem4 (i := 139) rfl rfl
set_option maxRecDepth 20000 in
theorem qw_902 : (Cond.methodLink RX9 122 yX9_noFar) ∈ lb_tbl := lb_mem4 (i := 140) rfl rfl
set_option maxRecDepth 20000 in
theorem qw_904 : (Cond.instanceMethod yX9_noFar) ∈ lb_tbl := lb_mem4 (i := 142) rfl rfl
set_option maxRecDepth 20000 in
theorem qw_905 : (Cond.code yX9_noFar cX9_noFar 2 (some .int)) ∈ lb_tbl := lb_mem4 (i := 143) rfl rfl
set_option maxRecDepth 20000 in
theorem qw_906 : (Cond.constant RX9 34 (1000000000)) ∈ lb_tbl := lb_mem4 (i := 144) rfl rfl
set_option maxRecDepth 20000 in
theorem qw_907 : (Cond.methodLink RL 39 yX9_labels) ∈ lb_tbl := lb_mem4 (i := 145) rfl rfl
set_option maxRecDepth 20000 in
theorem qw_908 : (Cond.instanceMethod yX9_labels) ∈ lb_tbl := lb_mem4 (i := 146) rfl rfl
set_option maxRecDepth 20000 in
theorem qw_909 : (Cond.selects RX9 yX9_labels yX9_labels) ∈ lb_tbl := lb_mem4 (i := 147) rfl rfl
set_option maxRecDepth 20000 in
theorem qw_910 : (Cond.code yX9_labels cX9_labels 4 (some .int)) ∈ lb_tbl := lb_mem4 (i := 148) rfl rfl
set_option maxRecDepth 20000 in
theorem qw_911 : (Cond.methodLink RL 43 yX9_gives) ∈ lb_tbl := lb_mem4 (i := 149) rfl rfl
set_option maxRecDepth 20000 in
theorem qw_912 : (Cond.instanceMethod yX9_gives) ∈ lb_tbl := lb_mem4 (i := 150) rfl rfl
set_option maxRecDepth 20000 in
theorem qw_913 : (Cond.selects RX9 yX9_gives yX9_gives) ∈ lb_tbl := lb_mem4 (i := 151) rfl rfl
set_option maxRecDepth 20000 in
theorem qw_914 : (Cond.code yX9_gives cX9_gives 4 (some .int)) ∈ lb_tbl := lb_mem4 (i := 152) rfl rfl
set_option maxRecDepth 20000 in
theorem qw_915 : (Cond.methodLink RL 47 yX9_likes) ∈ lb_tbl := lb_mem4 (i := 153) rfl rfl
set_option maxRecDepth 20000 in
theorem qw_916 : (Cond.instanceMethod yX9_likes) ∈ lb_tbl := lb_mem4 (i := 154) rfl rfl
set_option maxRecDepth 20000 in
theorem qw_917 : (Cond.selects RX9 yX9_likes yX9_likes) ∈ lb_tbl := lb_mem4 (i := 155) rfl rfl
set_option maxRecDepth 20000 in
theorem qw_918 : (Cond.code yX9_likes cX9_likes 4 (some .int)) ∈ lb_tbl := lb_mem4 (i := 156) rfl rfl
set_option maxRecDepth 20000 in
theorem qw_919 : (Cond.methodLink RL 51 yX9_fills) ∈ lb_tbl := lb_mem4 (i := 157) rfl rfl
set_option maxRecDepth 20000 in
theorem qw_920 : (Cond.instanceMethod yX9_fills) ∈ lb_tbl := lb_mem4 (i := 158) rfl rfl
set_option maxRecDepth 20000 in
theorem qw_921 : (Cond.selects RX9 yX9_fills yX9_fills) ∈ lb_tbl := lb_mem4 (i := 159) rfl rfl
set_option maxRecDepth 20000 in
theorem qw_922 : (Cond.code yX9_fills cX9_fills 5 (some .int)) ∈ lb_tbl := lb_mem4 (i := 160) rfl rfl
set_option maxRecDepth 20000 in
theorem qw_923 : (Cond.methodLink RX9 125 yX9_wrongBy) ∈ lb_tbl := lb_mem4 (i := 161) rfl rfl
set_option maxRecDepth 20000 in
theorem qw_924 : (Cond.static yX9_wrongBy) ∈ lb_tbl := lb_mem4 (i := 162) rfl rfl
set_option maxRecDepth 20000 in
theorem qw_925 : (Cond.code yX9_wrongBy cX9_wrongBy 3 (some .int)) ∈ lb_tbl := lb_mem4 (i := 163) rfl rfl
set_option maxRecDepth 20000 in
theorem qw_926 : (Cond.methodLink RL 56 yX9_turn) ∈ lb_tbl := lb_mem4 (i := 164) rfl rfl
set_option maxRecDepth 20000 in
theorem qw_927 : (Cond.instanceMethod yX9_turn) ∈ lb_tbl := lb_mem4 (i := 165) rfl rfl
set_option maxRecDepth 20000 in
theorem qw_928 : (Cond.selects RX9 yX9_turn yX9_turn) ∈ lb_tbl := lb_mem4 (i := 166) rfl rfl
set_option maxRecDepth 20000 in
theorem qw_929 : (Cond.code yX9_turn cX9_turn 6 (some .int)) ∈ lb_tbl := lb_mem4 (i := 167) rfl rfl
set_option maxRecDepth 20000 in
theorem qw_930 : (Cond.methodLink RL 60 yX9_years) ∈ lb_tbl := lb_mem4 (i := 168) rfl rfl
set_option maxRecDepth 20000 in
theorem qw_931 : (Cond.instanceMethod yX9_years) ∈ lb_tbl := lb_mem4 (i := 169) rfl rfl
set_option maxRecDepth 20000 in
theorem qw_932 : (Cond.selects RX9 yX9_years yX9_years) ∈ lb_tbl := lb_mem4 (i := 170) rfl rfl
set_option maxRecDepth 20000 in
theorem qw_933 : (Cond.code yX9_years cX9_years 2 (some .int)) ∈ lb_tbl := lb_mem4 (i := 171) rfl rfl
set_option maxRecDepth 20000 in
theorem qw_934 : (Cond.methodLink RX9 129 yX9_allGrace) ∈ lb_tbl := lb_mem4 (i := 172) rfl rfl
set_option maxRecDepth 20000 in
theorem qw_935 : (Cond.static yX9_allGrace) ∈ lb_tbl := lb_mem4 (i := 173) rfl rfl
set_option maxRecDepth 20000 in
theorem qw_936 : (Cond.code yX9_allGrace cX9_allGrace 3 (some .int)) ∈ lb_tbl := lb_mem4 (i := 174) rfl rfl
set_option maxRecDepth 20000 in
theorem qw_937 : (Cond.methodLink RL 64 yX9_personThen) ∈ lb_tbl := lb_mem4 (i := 175) rfl rfl
set_option maxRecDepth 20000 in
theorem qw_938 : (Cond.instanceMethod yX9_personThen) ∈ lb_tbl := lb_mem4 (i := 176) rfl rfl
set_option maxRecDepth 20000 in
theorem qw_939 : (Cond.selects RX9 yX9_personThen yX9_personThen) ∈ lb_tbl := lb_mem4 (i := 177) rfl rfl
set_option maxRecDepth 20000 in
theorem qw_940 : (Cond.code yX9_personThen cX9_personThen 5 (some .int)) ∈ lb_tbl := lb_mem4 (i := 178) rfl rfl
set_option maxRecDepth 20000 in
theorem qw_941 : (Cond.methodLink RX9 133 yX9_takes) ∈ lb_tbl := lb_mem4 (i := 179) rfl rfl
set_option maxRecDepth 20000 in
theorem qw_943 : (Cond.instanceMethod yX9_takes) ∈ lb_tbl := lb_mem4 (i := 181) rfl rfl
set_option maxRecDepth 20000 in
theorem qw_944 : (Cond.code yX9_takes cX9_takes 2 none) ∈ lb_tbl := lb_mem4 (i := 182) rfl rfl
set_option maxRecDepth 20000 in
theorem qw_945 : (Cond.methodLink RL 68 yX9_fullThen) ∈ lb_tbl := lb_mem4 (i := 183) rfl rfl
set_option maxRecDepth 20000 in
theorem qw_946 : (Cond.instanceMethod yX9_fullThen) ∈ lb_tbl := lb_mem4 (i := 184) rfl rfl
set_option maxRecDepth 20000 in
theorem qw_947 : (Cond.selects RX9 yX9_fullThen yX9_fullThen) ∈ lb_tbl := lb_mem4 (i := 185) rfl rfl
set_option maxRecDepth 20000 in
theorem qw_948 : (Cond.code yX9_fullThen cX9_fullThen 4 (some .int)) ∈ lb_tbl := lb_mem4 (i := 186) rfl rfl
set_option maxRecDepth 20000 in
theorem qw_949 : (Cond.methodLink RL 72 yX9_graceThen) ∈ lb_tbl := lb_mem4 (i := 187) rfl rfl
set_option maxRecDepth 20000 in
theorem qw_950 : (Cond.instanceMethod yX9_graceThen) ∈ lb_tbl := lb_mem4 (i := 188) rfl rfl
set_option maxRecDepth 20000 in
theorem qw_951 : (Cond.selects RX9 yX9_graceThen yX9_graceThen) ∈ lb_tbl := lb_mem4 (i := 189) rfl rfl
set_option maxRecDepth 20000 in
theorem qw_952 : (Cond.code yX9_graceThen cX9_graceThen 3 (some .int)) ∈ lb_tbl := lb_mem4 (i := 190) rfl rfl
set_option maxRecDepth 20000 in
theorem qw_953 : (Cond.methodLink RL 76 yX9_graceless) ∈ lb_tbl := lb_mem4 (i := 191) rfl rfl
set_option maxRecDepth 20000 in
theorem qw_954 : (Cond.instanceMethod yX9_graceless) ∈ lb_tbl := lb_mem4 (i := 192) rfl rfl
set_option maxRecDepth 20000 in
theorem qw_955 : (Cond.selects RX9 yX9_graceless yX9_graceless) ∈ lb_tbl := lb_mem4 (i := 193) rfl rfl
set_option maxRecDepth 20000 in
theorem qw_956 : (Cond.code yX9_graceless cX9_graceless 2 (some .int)) ∈ lb_tbl := lb_mem4 (i := 194) rfl rfl
set_option maxRecDepth 20000 in
theorem qw_957 : (Cond.methodLink RX9 140 yX9_firstGone) ∈ lb_tbl := lb_mem4 (i := 195) rfl rfl
set_option maxRecDepth 20000 in
theorem qw_959 : (Cond.instanceMethod yX9_firstGone) ∈ lb_tbl := lb_mem4 (i := 197) rfl rfl
set_option maxRecDepth 20000 in
theorem qw_960 : (Cond.code yX9_firstGone cX9_firstGone 5 (some .int)) ∈ lb_tbl := lb_mem4 (i := 198) rfl rfl
set_option maxRecDepth 20000 in
theorem qw_961 : (Cond.methodLink RX9 137 yX9_whenGone) ∈ lb_tbl := lb_mem4 (i := 199) rfl rfl
set_option maxRecDepth 20000 in
theorem qw_963 : (Cond.instanceMethod yX9_whenGone) ∈ lb_tbl := lb_mem4 (i := 201) rfl rfl
set_option maxRecDepth 20000 in
theorem qw_964 : (Cond.code yX9_whenGone cX9_whenGone 3 (some .int)) ∈ lb_tbl := lb_mem4 (i := 202) rfl rfl
set_option maxRecDepth 20000 in
theorem qw_965 : (Cond.methodLink RL 80 yX9_empties) ∈ lb_tbl := lb_mem4 (i := 203) rfl rfl
set_option maxRecDepth 20000 in
theorem qw_966 : (Cond.instanceMethod yX9_empties) ∈ lb_tbl := lb_mem4 (i := 204) rfl rfl
set_option maxRecDepth 20000 in
theorem qw_967 : (Cond.selects RX9 yX9_empties yX9_empties) ∈ lb_tbl := lb_mem4 (i := 205) rfl rfl
set_option maxRecDepth 20000 in
theorem qw_968 : (Cond.code yX9_empties cX9_empties 2 (some .int)) ∈ lb_tbl := lb_mem4 (i := 206) rfl rfl
set_option maxRecDepth 20000 in
theorem qw_969 : (Cond.methodLink RL 84 yX9_label) ∈ lb_tbl := lb_mem4 (i := 207) rfl rfl
set_option maxRecDepth 20000 in
theorem qw_970 : (Cond.instanceMethod yX9_label) ∈ lb_tbl := lb_mem4 (i := 208) rfl rfl
set_option maxRecDepth 20000 in
theorem qw_971 : (Cond.selects RX9 yX9_label yX9_label) ∈ lb_tbl := lb_mem4 (i := 209) rfl rfl
set_option maxRecDepth 20000 in
theorem qw_972 : (Cond.code yX9_label cX9_label 8 (some .int)) ∈ lb_tbl := lb_mem4 (i := 210) rfl rfl
set_option maxRecDepth 20000 in
theorem qw_973 : (Cond.methodLink RL 88 yX9_honest) ∈ lb_tbl := lb_mem4 (i := 211) rfl rfl
set_option maxRecDepth 20000 in
theorem qw_974 : (Cond.instanceMethod yX9_honest) ∈ lb_tbl := lb_mem4 (i := 212) rfl rfl
set_option maxRecDepth 20000 in
theorem qw_975 : (Cond.selects RX9 yX9_honest yX9_honest) ∈ lb_tbl := lb_mem4 (i := 213) rfl rfl
set_option maxRecDepth 20000 in
theorem qw_976 : (Cond.code yX9_honest cX9_honest 2 (some .int)) ∈ lb_tbl := lb_mem4 (i := 214) rfl rfl
set_option maxRecDepth 20000 in
theorem qw_977 : (Cond.methodLink RX9 143 yX9_honestOnes) ∈ lb_tbl := lb_mem4 (i := 215) rfl rfl
set_option maxRecDepth 20000 in
theorem qw_979 : (Cond.instanceMethod yX9_honestOnes) ∈ lb_tbl := lb_mem4 (i := 217) rfl rfl
set_option maxRecDepth 20000 in
theorem qw_980 : (Cond.code yX9_honestOnes cX9_honestOnes 3 (some .int)) ∈ lb_tbl := lb_mem4 (i := 218) rfl rfl
set_option maxRecDepth 20000 in
theorem qw_981 : (Cond.methodLink RX9 146 yX9_hopefulOnes) ∈ lb_tbl := lb_mem4 (i := 219) rfl rfl
set_option maxRecDepth 20000 in
theorem qw_983 : (Cond.instanceMethod yX9_hopefulOnes) ∈ lb_tbl := lb_mem4 (i := 221) rfl rfl
set_option maxRecDepth 20000 in
theorem qw_984 : (Cond.code yX9_hopefulOnes cX9_hopefulOnes 3 (some .int)) ∈ lb_tbl := lb_mem4 (i := 222) rfl rfl
set_option maxRecDepth 20000 in
theorem qw_985 : (Cond.methodLink RL 92 yX9_audit) ∈ lb_tbl := lb_mem4 (i := 223) rfl rfl
set_option maxRecDepth 20000 in
theorem qw_986 : (Cond.instanceMethod yX9_audit) ∈ lb_tbl := lb_mem4 (i := 224) rfl rfl
set_option maxRecDepth 20000 in
theorem qw_987 : (Cond.selects RX9 yX9_audit yX9_audit) ∈ lb_tbl := lb_mem4 (i := 225) rfl rfl
set_option maxRecDepth 20000 in
theorem qw_988 : (Cond.code yX9_audit cX9_audit 6 (some .int)) ∈ lb_tbl := lb_mem4 (i := 226) rfl rfl
set_option maxRecDepth 20000 in
theorem qw_989 : (Cond.methodLink RX9 149 yX9_graceNow) ∈ lb_tbl := lb_mem4 (i := 227) rfl rfl
set_option maxRecDepth 20000 in
theorem qw_991 : (Cond.instanceMethod yX9_graceNow) ∈ lb_tbl := lb_mem4 (i := 229) rfl rfl
set_option maxRecDepth 20000 in
theorem qw_992 : (Cond.code yX9_graceNow cX9_graceNow 2 (some .int)) ∈ lb_tbl := lb_mem4 (i := 230) rfl rfl
set_option maxRecDepth 20000 in
theorem qw_993 : (Cond.methodLink RL 96 yX9_change) ∈ lb_tbl := lb_mem4 (i := 231) rfl rfl
set_option maxRecDepth 20000 in
theorem qw_994 : (Cond.instanceMethod yX9_change) ∈ lb_tbl := lb_mem4 (i := 232) rfl rfl
set_option maxRecDepth 20000 in
theorem qw_995 : (Cond.selects RX9 yX9_change yX9_change) ∈ lb_tbl := lb_mem4 (i := 233) rfl rfl
set_option maxRecDepth 20000 in
theorem qw_996 : (Cond.code yX9_change cX9_change 7 (some .int)) ∈ lb_tbl := lb_mem4 (i := 234) rfl rfl
set_option maxRecDepth 20000 in
theorem qw_997 : (Cond.methodLink RL 100 yX9_gift) ∈ lb_tbl := lb_mem4 (i := 235) rfl rfl
set_option maxRecDepth 20000 in
theorem qw_998 : (Cond.instanceMethod yX9_gift) ∈ lb_tbl := lb_mem4 (i := 236) rfl rfl
set_option maxRecDepth 20000 in
theorem qw_999 : (Cond.selects RX9 yX9_gift yX9_gift) ∈ lb_tbl := lb_mem4 (i := 237) rfl rfl
set_option maxRecDepth 20000 in
theorem qw_1000 : (Cond.code yX9_gift cX9_gift 8 (some .int)) ∈ lb_tbl := lb_mem4 (i := 238) rfl rfl
set_option maxRecDepth 20000 in
theorem qw_1001 : (Cond.methodLink RX9 152 yX9_graceGiven) ∈ lb_tbl := lb_mem4 (i := 239) rfl rfl
set_option maxRecDepth 20000 in
theorem qw_1003 : (Cond.instanceMethod yX9_graceGiven) ∈ lb_tbl := lb_mem5 (i := 1) rfl rfl
set_option maxRecDepth 20000 in
theorem qw_1004 : (Cond.code yX9_graceGiven cX9_graceGiven 4 (some .int)) ∈ lb_tbl := lb_mem5 (i := 2) rfl rfl
set_option maxRecDepth 20000 in
theorem qw_1005 : (Cond.methodLink RL 104 yX9_deal) ∈ lb_tbl := lb_mem5 (i := 3) rfl rfl
set_option maxRecDepth 20000 in
theorem qw_1006 : (Cond.instanceMethod yX9_deal) ∈ lb_tbl := lb_mem5 (i := 4) rfl rfl
set_option maxRecDepth 20000 in
theorem qw_1007 : (Cond.selects RX9 yX9_deal yX9_deal) ∈ lb_tbl := lb_mem5 (i := 5) rfl rfl
set_option maxRecDepth 20000 in
theorem qw_1008 : (Cond.code yX9_deal cX9_deal 6 (some .int)) ∈ lb_tbl := lb_mem5 (i := 6) rfl rfl
set_option maxRecDepth 20000 in
theorem qw_1009 : (Cond.methodLink RX9 155 yX9_dealtTo) ∈ lb_tbl := lb_mem5 (i := 7) rfl rfl
set_option maxRecDepth 20000 in
theorem qw_1011 : (Cond.instanceMethod yX9_dealtTo) ∈ lb_tbl := lb_mem5 (i := 9) rfl rfl
set_option maxRecDepth 20000 in
theorem qw_1012 : (Cond.code yX9_dealtTo cX9_dealtTo 4 (some .int)) ∈ lb_tbl := lb_mem5 (i := 10) rfl rfl
set_option maxRecDepth 20000 in
theorem qw_1013 : (Cond.methodLink RL 108 yX9_worst) ∈ lb_tbl := lb_mem5 (i := 11) rfl rfl
set_option maxRecDepth 20000 in
theorem qw_1014 : (Cond.instanceMethod yX9_worst) ∈ lb_tbl := lb_mem5 (i := 12) rfl rfl
set_option maxRecDepth 20000 in
theorem qw_1015 : (Cond.selects RX9 yX9_worst yX9_worst) ∈ lb_tbl := lb_mem5 (i := 13) rfl rfl
set_option maxRecDepth 20000 in
theorem qw_1016 : (Cond.code yX9_worst cX9_worst 4 (some .int)) ∈ lb_tbl := lb_mem5 (i := 14) rfl rfl
set_option maxRecDepth 20000 in
theorem qw_1017 : (Cond.methodLink RX9 158 yX9_gainsOwner) ∈ lb_tbl := lb_mem5 (i := 15) rfl rfl
set_option maxRecDepth 20000 in
theorem qw_1019 : (Cond.instanceMethod yX9_gainsOwner) ∈ lb_tbl := lb_mem5 (i := 17) rfl rfl
set_option maxRecDepth 20000 in
theorem qw_1020 : (Cond.code yX9_gainsOwner cX9_gainsOwner 2 (some .int)) ∈ lb_tbl := lb_mem5 (i := 18) rfl rfl
set_option maxRecDepth 20000 in
theorem qw_1021 : (Cond.methodLink RL 112 yX9_trust) ∈ lb_tbl := lb_mem5 (i := 19) rfl rfl
set_option maxRecDepth 20000 in
theorem qw_1022 : (Cond.instanceMethod yX9_trust) ∈ lb_tbl := lb_mem5 (i := 20) rfl rfl
set_option maxRecDepth 20000 in
theorem qw_1023 : (Cond.selects RX9 yX9_trust yX9_trust) ∈ lb_tbl := lb_mem5 (i := 21) rfl rfl
set_option maxRecDepth 20000 in
theorem qw_1024 : (Cond.code yX9_trust cX9_trust 4 (some .int)) ∈ lb_tbl := lb_mem5 (i := 22) rfl rfl
set_option maxRecDepth 20000 in
theorem qw_1025 : (Cond.methodLink RL 116 yX9_shelf) ∈ lb_tbl := lb_mem5 (i := 23) rfl rfl
set_option maxRecDepth 20000 in
theorem qw_1026 : (Cond.instanceMethod yX9_shelf) ∈ lb_tbl := lb_mem5 (i := 24) rfl rfl
set_option maxRecDepth 20000 in
theorem qw_1027 : (Cond.selects RX9 yX9_shelf yX9_shelf) ∈ lb_tbl := lb_mem5 (i := 25) rfl rfl
set_option maxRecDepth 20000 in
theorem qw_1028 : (Cond.code yX9_shelf cX9_shelf 6 (some .int)) ∈ lb_tbl := lb_mem5 (i := 26) rfl rfl
set_option maxRecDepth 20000 in
theorem qw_1029 : (Cond.methodLink RL 120 yX9_sorts) ∈ lb_tbl := lb_mem5 (i := 27) rfl rfl
set_option maxRecDepth 20000 in
theorem qw_1030 : (Cond.instanceMethod yX9_sorts) ∈ lb_tbl := lb_mem5 (i := 28) rfl rfl
set_option maxRecDepth 20000 in
theorem qw_1031 : (Cond.selects RX9 yX9_sorts yX9_sorts) ∈ lb_tbl := lb_mem5 (i := 29) rfl rfl
set_option maxRecDepth 20000 in
theorem qw_1032 : (Cond.code yX9_sorts cX9_sorts 6 (some .int)) ∈ lb_tbl := lb_mem5 (i := 30) rfl rfl
set_option maxRecDepth 20000 in
theorem qw_1033 : (Cond.methodLink RX9 161 yX9_spoonsOf) ∈ lb_tbl := lb_mem5 (i := 31) rfl rfl
set_option maxRecDepth 20000 in
theorem qw_1035 : (Cond.instanceMethod yX9_spoonsOf) ∈ lb_tbl := lb_mem5 (i := 33) rfl rfl
set_option maxRecDepth 20000 in
theorem qw_1036 : (Cond.code yX9_spoonsOf cX9_spoonsOf 4 (some .int)) ∈ lb_tbl := lb_mem5 (i := 34) rfl rfl
set_option maxRecDepth 20000 in
theorem qw_1037 : (Cond.methodLink RL 124 yX9_fewest) ∈ lb_tbl := lb_mem5 (i := 35) rfl rfl
set_option maxRecDepth 20000 in
theorem qw_1038 : (Cond.instanceMethod yX9_fewest) ∈ lb_tbl := lb_mem5 (i := 36) rfl rfl
set_option maxRecDepth 20000 in
theorem qw_1039 : (Cond.selects RX9 yX9_fewest yX9_fewest) ∈ lb_tbl := lb_mem5 (i := 37) rfl rfl
set_option maxRecDepth 20000 in
theorem qw_1040 : (Cond.code yX9_fewest cX9_fewest 6 (some .int)) ∈ lb_tbl := lb_mem5 (i := 38) rfl rfl
set_option maxRecDepth 20000 in
theorem qw_1041 : (Cond.methodLink RX9 164 yX9_bits) ∈ lb_tbl := lb_mem5 (i := 39) rfl rfl
set_option maxRecDepth 20000 in
theorem qw_1042 : (Cond.static yX9_bits) ∈ lb_tbl := lb_mem5 (i := 40) rfl rfl
set_option maxRecDepth 20000 in
theorem qw_1043 : (Cond.code yX9_bits cX9_bits 3 (some .int)) ∈ lb_tbl := lb_mem5 (i := 41) rfl rfl
set_option maxRecDepth 20000 in
theorem qw_1044 : (Cond.methodLink RX9 167 yX9_has) ∈ lb_tbl := lb_mem5 (i := 42) rfl rfl
set_option maxRecDepth 20000 in
theorem qw_1045 : (Cond.static yX9_has) ∈ lb_tbl := lb_mem5 (i := 43) rfl rfl
set_option maxRecDepth 20000 in
theorem qw_1046 : (Cond.code yX9_has cX9_has 2 (some .boolean)) ∈ lb_tbl := lb_mem5 (i := 44) rfl rfl
set_option maxRecDepth 20000 in
theorem qw_1047 : (Cond.methodLink RX9 170 yX9_isNobodyGraceless) ∈ lb_tbl := lb_mem5 (i := 45) rfl rfl
set_option maxRecDepth 20000 in
theorem qw_1049 : (Cond.instanceMethod yX9_isNobodyGraceless) ∈ lb_tbl := lb_mem5 (i := 47) rfl rfl
set_option maxRecDepth 20000 in
theorem qw_1050 : (Cond.code yX9_isNobodyGraceless cX9_isNobodyGraceless 4 (some .boolean)) ∈ lb_tbl := lb_mem5 (i := 48) rfl rfl
set_option maxRecDepth 20000 in
theorem qw_1051 : (Cond.methodLink RL 128 yX9_warn) ∈ lb_tbl := lb_mem5 (i := 49) rfl rfl
set_option maxRecDepth 20000 in
theorem qw_1052 : (Cond.instanceMethod yX9_warn) ∈ lb_tbl := lb_mem5 (i := 50) rfl rfl
set_option maxRecDepth 20000 in
theorem qw_1053 : (Cond.selects RX9 yX9_warn yX9_warn) ∈ lb_tbl := lb_mem5 (i := 51) rfl rfl
set_option maxRecDepth 20000 in
theorem qw_1054 : (Cond.code yX9_warn cX9_warn 7 (some .int)) ∈ lb_tbl := lb_mem5 (i := 52) rfl rfl
set_option maxRecDepth 20000 in
theorem qw_1055 : (Cond.methodLink RL 132 yX9_heir) ∈ lb_tbl := lb_mem5 (i := 53) rfl rfl
set_option maxRecDepth 20000 in
theorem qw_1056 : (Cond.instanceMethod yX9_heir) ∈ lb_tbl := lb_mem5 (i := 54) rfl rfl
set_option maxRecDepth 20000 in
theorem qw_1057 : (Cond.selects RX9 yX9_heir yX9_heir) ∈ lb_tbl := lb_mem5 (i := 55) rfl rfl
set_option maxRecDepth 20000 in
theorem qw_1058 : (Cond.code yX9_heir cX9_heir 8 (some .int)) ∈ lb_tbl := lb_mem5 (i := 56) rfl rfl
set_option maxRecDepth 20000 in
theorem qw_1059 : (Cond.methodLink RL 136 yX9_two) ∈ lb_tbl := lb_mem5 (i := 57) rfl rfl
set_option maxRecDepth 20000 in
theorem qw_1060 : (Cond.instanceMethod yX9_two) ∈ lb_tbl := lb_mem5 (i := 58) rfl rfl
set_option maxRecDepth 20000 in
theorem qw_1061 : (Cond.selects RX9 yX9_two yX9_two) ∈ lb_tbl := lb_mem5 (i := 59) rfl rfl
set_option maxRecDepth 20000 in
theorem qw_1062 : (Cond.code yX9_two cX9_two 10 (some .int)) ∈ lb_tbl := lb_mem5 (i := 60) rfl rfl
set_option maxRecDepth 20000 in
theorem qw_1063 : (Cond.methodLink RX9 173 yX9_leadBy) ∈ lb_tbl := lb_mem5 (i := 61) rfl rfl
set_option maxRecDepth 20000 in
theorem qw_1065 : (Cond.instanceMethod yX9_leadBy) ∈ lb_tbl := lb_mem5 (i := 63) rfl rfl
set_option maxRecDepth 20000 in
theorem qw_1066 : (Cond.code yX9_leadBy cX9_leadBy 8 (some .int)) ∈ lb_tbl := lb_mem5 (i := 64) rfl rfl
set_option maxRecDepth 20000 in
theorem qw_1067 : (Cond.methodLink RL 141 yX9_errs) ∈ lb_tbl := lb_mem5 (i := 65) rfl rfl
set_option maxRecDepth 20000 in
theorem qw_1068 : (Cond.instanceMethod yX9_errs) ∈ lb_tbl := lb_mem5 (i := 66) rfl rfl
set_option maxRecDepth 20000 in
theorem qw_1069 : (Cond.selects RX9 yX9_errs yX9_errs) ∈ lb_tbl := lb_mem5 (i := 67) rfl rfl
set_option maxRecDepth 20000 in
theorem qw_1070 : (Cond.code yX9_errs cX9_errs 14 (some .long)) ∈ lb_tbl := lb_mem5 (i := 68) rfl rfl
set_option maxRecDepth 20000 in
theorem qw_1071 : (Cond.methodLink RX9 181 yX9_noWide) ∈ lb_tbl := lb_mem5 (i := 69) rfl rfl
set_option maxRecDepth 20000 in
theorem qw_1073 : (Cond.instanceMethod yX9_noWide) ∈ lb_tbl := lb_mem5 (i := 71) rfl rfl
set_option maxRecDepth 20000 in
theorem qw_1074 : (Cond.code yX9_noWide cX9_noWide 2 (some .long)) ∈ lb_tbl := lb_mem5 (i := 72) rfl rfl
set_option maxRecDepth 20000 in
theorem qw_1075 : (Cond.constantLong RX9 39 (4000000000000000000)) ∈ lb_tbl := lb_mem5 (i := 73) rfl rfl
set_option maxRecDepth 20000 in
theorem qw_1076 : (Cond.methodLink RX9 185 yX9_errsIn) ∈ lb_tbl := lb_mem5 (i := 74) rfl rfl
set_option maxRecDepth 20000 in
theorem qw_1077 : (Cond.static yX9_errsIn) ∈ lb_tbl := lb_mem5 (i := 75) rfl rfl
set_option maxRecDepth 20000 in
theorem qw_1078 : (Cond.code yX9_errsIn cX9_errsIn 2 none) ∈ lb_tbl := lb_mem5 (i := 76) rfl rfl
set_option maxRecDepth 20000 in
theorem qw_1079 : (Cond.methodLink RX9 188 yX9_partOf) ∈ lb_tbl := lb_mem5 (i := 77) rfl rfl
set_option maxRecDepth 20000 in
theorem qw_1080 : (Cond.static yX9_partOf) ∈ lb_tbl := lb_mem5 (i := 78) rfl rfl
set_option maxRecDepth 20000 in
theorem qw_1081 : (Cond.code yX9_partOf cX9_partOf 5 (some .long)) ∈ lb_tbl := lb_mem5 (i := 79) rfl rfl
set_option maxRecDepth 20000 in
theorem qw_1082 : (Cond.methodLink RX9 177 yX9_gcd) ∈ lb_tbl := lb_mem5 (i := 80) rfl rfl
set_option maxRecDepth 20000 in
theorem qw_1083 : (Cond.static yX9_gcd) ∈ lb_tbl := lb_mem5 (i := 81) rfl rfl
set_option maxRecDepth 20000 in
theorem qw_1084 : (Cond.code yX9_gcd cX9_gcd 10 (some .long)) ∈ lb_tbl := lb_mem5 (i := 82) rfl rfl
set_option maxRecDepth 20000 in
theorem qw_1085 : (Cond.methodLink RL 146 yX9_mean) ∈ lb_tbl := lb_mem5 (i := 83) rfl rfl
set_option maxRecDepth 20000 in
theorem qw_1086 : (Cond.instanceMethod yX9_mean) ∈ lb_tbl := lb_mem5 (i := 84) rfl rfl
set_option maxRecDepth 20000 in
theorem qw_1087 : (Cond.selects RX9 yX9_mean yX9_mean) ∈ lb_tbl := lb_mem5 (i := 85) rfl rfl
set_option maxRecDepth 20000 in
theorem qw_1088 : (Cond.code yX9_mean cX9_mean 2 (some .long)) ∈ lb_tbl := lb_mem5 (i := 86) rfl rfl
set_option maxRecDepth 20000 in
theorem qw_1089 : (Cond.methodLink RL 150 yX9_whatIn) ∈ lb_tbl := lb_mem5 (i := 87) rfl rfl
set_option maxRecDepth 20000 in
theorem qw_1090 : (Cond.instanceMethod yX9_whatIn) ∈ lb_tbl := lb_mem5 (i := 88) rfl rfl
set_option maxRecDepth 20000 in
theorem qw_1091 : (Cond.selects RX9 yX9_whatIn yX9_whatIn) ∈ lb_tbl := lb_mem5 (i := 89) rfl rfl
set_option maxRecDepth 20000 in
theorem qw_1092 : (Cond.code yX9_whatIn cX9_whatIn 8 (some .int)) ∈ lb_tbl := lb_mem5 (i := 90) rfl rfl
set_option maxRecDepth 20000 in
theorem qw_1093 : (Cond.methodLink RL 154 yX9_row) ∈ lb_tbl := lb_mem5 (i := 91) rfl rfl
set_option maxRecDepth 20000 in
theorem qw_1094 : (Cond.instanceMethod yX9_row) ∈ lb_tbl := lb_mem5 (i := 92) rfl rfl
set_option maxRecDepth 20000 in
theorem qw_1095 : (Cond.selects RX9 yX9_row yX9_row) ∈ lb_tbl := lb_mem5 (i := 93) rfl rfl
set_option maxRecDepth 20000 in
theorem qw_1096 : (Cond.code yX9_row cX9_row 3 (some .int)) ∈ lb_tbl := lb_mem5 (i := 94) rfl rfl
set_option maxRecDepth 20000 in
theorem qw_1097 : (Cond.methodLink RL 158 yX9_judge) ∈ lb_tbl := lb_mem5 (i := 95) rfl rfl
set_option maxRecDepth 20000 in
theorem qw_1098 : (Cond.instanceMethod yX9_judge) ∈ lb_tbl := lb_mem5 (i := 96) rfl rfl
set_option maxRecDepth 20000 in
theorem qw_1099 : (Cond.selects RX9 yX9_judge yX9_judge) ∈ lb_tbl := lb_mem5 (i := 97) rfl rfl
set_option maxRecDepth 20000 in
theorem qw_1100 : (Cond.code yX9_judge cX9_judge 3 (some .int)) ∈ lb_tbl := lb_mem5 (i := 98) rfl rfl
set_option maxRecDepth 20000 in
theorem qw_1101 : (Cond.methodLink RL 162 yX9_clear) ∈ lb_tbl := lb_mem5 (i := 99) rfl rfl
set_option maxRecDepth 20000 in
theorem qw_1102 : (Cond.instanceMethod yX9_clear) ∈ lb_tbl := lb_mem5 (i := 100) rfl rfl
set_option maxRecDepth 20000 in
theorem qw_1103 : (Cond.selects RX9 yX9_clear yX9_clear) ∈ lb_tbl := lb_mem5 (i := 101) rfl rfl
set_option maxRecDepth 20000 in
theorem qw_1104 : (Cond.code yX9_clear cX9_clear 2 (some .int)) ∈ lb_tbl := lb_mem5 (i := 102) rfl rfl
set_option maxRecDepth 20000 in
theorem qw_1105 : (Cond.methodLink RL 166 yX9_lots) ∈ lb_tbl := lb_mem5 (i := 103) rfl rfl
set_option maxRecDepth 20000 in
theorem qw_1106 : (Cond.instanceMethod yX9_lots) ∈ lb_tbl := lb_mem5 (i := 104) rfl rfl
set_option maxRecDepth 20000 in
theorem qw_1107 : (Cond.selects RX9 yX9_lots yX9_lots) ∈ lb_tbl := lb_mem5 (i := 105) rfl rfl
set_option maxRecDepth 20000 in
theorem qw_1108 : (Cond.code yX9_lots cX9_lots 7 (some .int)) ∈ lb_tbl := lb_mem5 (i := 106) rfl rfl
set_option maxRecDepth 20000 in
theorem qw_1109 : (Cond.methodLink RX9 201 yX9_drawn) ∈ lb_tbl := lb_mem5 (i := 107) rfl rfl
set_option maxRecDepth 20000 in
theorem qw_1111 : (Cond.instanceMethod yX9_drawn) ∈ lb_tbl := lb_mem5 (i := 109) rfl rfl
set_option maxRecDepth 20000 in
theorem qw_1112 : (Cond.code yX9_drawn cX9_drawn 2 (some .int)) ∈ lb_tbl := lb_mem5 (i := 110) rfl rfl
set_option maxRecDepth 20000 in
theorem qw_1113 : (Cond.constant RX9 198 (1664525)) ∈ lb_tbl := lb_mem5 (i := 111) rfl rfl
set_option maxRecDepth 20000 in
theorem qw_1114 : (Cond.constant RX9 199 (1013904223)) ∈ lb_tbl := lb_mem5 (i := 112) rfl rfl
set_option maxRecDepth 20000 in
theorem qw_1115 : (Cond.constant RX9 200 (2147483647)) ∈ lb_tbl := lb_mem5 (i := 113) rfl rfl
set_option maxRecDepth 20000 in
theorem qw_1116 : (Cond.methodLink RL 170 yX9_image) ∈ lb_tbl := lb_mem5 (i := 114) rfl rfl
set_option maxRecDepth 20000 in
theorem qw_1117 : (Cond.instanceMethod yX9_image) ∈ lb_tbl := lb_mem5 (i := 115) rfl rfl
set_option maxRecDepth 20000 in
theorem qw_1118 : (Cond.selects RX9 yX9_image yX9_image) ∈ lb_tbl := lb_mem5 (i := 116) rfl rfl
set_option maxRecDepth 20000 in
theorem qw_1119 : (Cond.code yX9_image cX9_image 1 (some .int)) ∈ lb_tbl := lb_mem5 (i := 117) rfl rfl
set_option maxRecDepth 20000 in
theorem qw_1120 : (Cond.methodLink RL 174 yX9_on) ∈ lb_tbl := lb_mem5 (i := 118) rfl rfl
set_option maxRecDepth 20000 in
theorem qw_1121 : (Cond.instanceMethod yX9_on) ∈ lb_tbl := lb_mem5 (i := 119) rfl rfl
set_option maxRecDepth 20000 in
theorem qw_1122 : (Cond.selects RX9 yX9_on yX9_on) ∈ lb_tbl := lb_mem5 (i := 120) rfl rfl
set_option maxRecDepth 20000 in
theorem qw_1123 : (Cond.code yX9_on cX9_on 1 (some .int)) ∈ lb_tbl := lb_mem5 (i := 121) rfl rfl
set_option maxRecDepth 20000 in
theorem qw_1124 : (Cond.methodLink RL 178 yX9_count) ∈ lb_tbl := lb_mem5 (i := 122) rfl rfl
set_option maxRecDepth 20000 in
theorem qw_1125 : (Cond.instanceMethod yX9_count) ∈ lb_tbl := lb_mem5 (i := 123) rfl rfl
set_option maxRecDepth 20000 in
theorem qw_1126 : (Cond.selects RX9 yX9_count yX9_count) ∈ lb_tbl := lb_mem5 (i := 124) rfl rfl
set_option maxRecDepth 20000 in
theorem qw_1127 : (Cond.code yX9_count cX9_count 4 (some .int)) ∈ lb_tbl := lb_mem5 (i := 125) rfl rfl
set_option maxRecDepth 20000 in
theorem qw_1128 : (Cond.sameMethod RX6 RX6 "spoon" "(III)I") ∈ lb_tbl := lb_mem5 (i := 126) rfl rfl
set_option maxRecDepth 20000 in
theorem qw_1129 : (Cond.sameMethod RX5 RX5 "spoon" "(III)I") ∈ lb_tbl := lb_mem5 (i := 127) rfl rfl
set_option maxRecDepth 20000 in
theorem qw_1135 : (Cond.fieldLink RJ0 15 "java/lang/String" "coder" "B") ∈ lb_tbl := lb_mem5 (i := 133) rfl rfl
set_option maxRecDepth 20000 in
theorem qw_1136 : (Cond.fieldLink RJ0 9 "java/lang/String" "value" "[B") ∈ lb_tbl := lb_mem5 (i := 134) rfl rfl
theorem lb_in0 : ∀ w ∈ u_ws RX0 TX0 0, w ∈ lb_tbl := fun w h => List.mem_filter.mpr ⟨lb_inl0 w h, (List.all_eq_true.mp (show (u_ws RX0 TX0 0).all goodWord = true from rfl)) w h⟩
theorem lb_in1 : ∀ w ∈ u_ws RX1 TX1 0, w ∈ lb_tbl := fun w h => List.mem_filter.mpr ⟨lb_inl1 w h, (List.all_eq_true.mp (show (u_ws RX1 TX1 0).all goodWord = true from rfl)) w h⟩
theorem lb_in2 : ∀ w ∈ u_ws RX2 TX2 0, w ∈ lb_tbl := fun w h => List.mem_filter.mpr ⟨lb_inl2 w h, (List.all_eq_true.mp (show (u_ws RX2 TX2 0).all goodWord = true from rfl)) w h⟩
theorem lb_in3 : ∀ w ∈ u_ws RX3 TX3 0, w ∈ lb_tbl := fun w h => List.mem_filter.mpr ⟨lb_inl3 w h, (List.all_eq_true.mp (show (u_ws RX3 TX3 0).all goodWord = true from rfl)) w h⟩
theorem lb_in4 : ∀ w ∈ u_ws RX4 TX4 2, w ∈ lb_tbl := fun w h => List.mem_filter.mpr ⟨lb_inl4 w h, (List.all_eq_true.mp (show (u_ws RX4 TX4 2).all goodWord = true from rfl)) w h⟩
theorem lb_in5 : ∀ w ∈ u_ws RX5 TX5 0, w ∈ lb_tbl := fun w h => List.mem_filter.mpr ⟨lb_inl5 w h, (List.all_eq_true.mp (show (u_ws RX5 TX5 0).all goodWord = true from rfl)) w h⟩
theorem lb_in6 : ∀ w ∈ u_ws RX6 TX6 0, w ∈ lb_tbl := fun w h => List.mem_filter.mpr ⟨lb_inl6 w h, (List.all_eq_true.mp (show (u_ws RX6 TX6 0).all goodWord = true from rfl)) w h⟩
theorem lb_in7 : ∀ w ∈ u_ws RX7 TX7 12, w ∈ lb_tbl := fun w h => List.mem_filter.mpr ⟨lb_inl7 w h, (List.all_eq_true.mp (show (u_ws RX7 TX7 12).all goodWord = true from rfl)) w h⟩
theorem lb_in8 : ∀ w ∈ u_ws RX8 TX8 8, w ∈ lb_tbl := fun w h => List.mem_filter.mpr ⟨lb_inl8 w h, (List.all_eq_true.mp (show (u_ws RX8 TX8 8).all goodWord = true from rfl)) w h⟩
theorem lb_in9 : ∀ w ∈ u_ws RX9 TX9 13, w ∈ lb_tbl := fun w h => List.mem_filter.mpr ⟨lb_inl9 w h, (List.all_eq_true.mp (show (u_ws RX9 TX9 13).all goodWord = true from rfl)) w h⟩
