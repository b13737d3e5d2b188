section
-- ===== PART A: goes FIRST, ahead of the names: the tables' words, and 'selects' of the private methods out of them =====
/-- a private method of a class that the tables say can be made, by its rows of tables_1 -/
def lw_okq (q : MethodName × Nat) : Prop := (q.1.cls ≠ "java/lang/invoke/MethodHandle" ∧ q.1.cls ≠ "java/lang/invoke/VarHandle") ∧ Cond.instantiable q.1.cls q.2 ∈ tables_1 ∧ Cond.privateMethod q.1 ∈ tables_1 ∧ Cond.instanceMethod q.1 ∈ tables_1
theorem lw_p0 : lw_okq (⟨"LabelsByAnotherHand", "refuse", "(I)I"⟩, 8) := ⟨⟨by decide +kernel, by decide +kernel⟩, List.mem_of_getElem? (i := 20) (by decide +kernel), List.mem_of_getElem? (i := 175) (by decide +kernel), List.mem_of_getElem? (i := 176) (by decide +kernel)⟩
theorem lw_p1 : lw_okq (⟨"LabelsByAnotherHand", "potThere", "(I)I"⟩, 8) := ⟨⟨by decide +kernel, by decide +kernel⟩, List.mem_of_getElem? (i := 20) (by decide +kernel), List.mem_of_getElem? (i := 419) (by decide +kernel), List.mem_of_getElem? (i := 420) (by decide +kernel)⟩
theorem lw_p2 : lw_okq (⟨"LabelsByAnotherHand", "personThere", "(I)I"⟩, 8) := ⟨⟨by decide +kernel, by decide +kernel⟩, List.mem_of_getElem? (i := 20) (by decide +kernel), List.mem_of_getElem? (i := 431) (by decide +kernel), List.mem_of_getElem? (i := 432) (by decide +kernel)⟩
theorem lw_p3 : lw_okq (⟨"LabelsByAnotherHand", "refuseFar", "(I)I"⟩, 8) := ⟨⟨by decide +kernel, by decide +kernel⟩, List.mem_of_getElem? (i := 20) (by decide +kernel), List.mem_of_getElem? (i := 445) (by decide +kernel), List.mem_of_getElem? (i := 446) (by decide +kernel)⟩
theorem lw_p4 : lw_okq (⟨"LabelsByAnotherHand", "allGraceBehind", "(I)I"⟩, 8) := ⟨⟨by decide +kernel, by decide +kernel⟩, List.mem_of_getElem? (i := 20) (by decide +kernel), List.mem_of_getElem? (i := 498) (by decide +kernel), List.mem_of_getElem? (i := 499) (by decide +kernel)⟩
theorem lw_p5 : lw_okq (⟨"LabelsByAnotherHand", "firstGraceless", "()I"⟩, 8) := ⟨⟨by decide +kernel, by decide +kernel⟩, List.mem_of_getElem? (i := 20) (by decide +kernel), List.mem_of_getElem? (i := 506) (by decide +kernel), List.mem_of_getElem? (i := 507) (by decide +kernel)⟩
theorem lw_p6 : lw_okq (⟨"LabelsByAnotherHand", "allGraceChanged", "(III)I"⟩, 8) := ⟨⟨by decide +kernel, by decide +kernel⟩, List.mem_of_getElem? (i := 20) (by decide +kernel), List.mem_of_getElem? (i := 538) (by decide +kernel), List.mem_of_getElem? (i := 539) (by decide +kernel)⟩
theorem lw_p7 : lw_okq (⟨"LabelsByAnotherHand", "allGraceGiven", "(III)I"⟩, 8) := ⟨⟨by decide +kernel, by decide +kernel⟩, List.mem_of_getElem? (i := 20) (by decide +kernel), List.mem_of_getElem? (i := 546) (by decide +kernel), List.mem_of_getElem? (i := 547) (by decide +kernel)⟩
theorem lw_p8 : lw_okq (⟨"LabelsByAnotherHand", "whoGainsMost", "(I)I"⟩, 8) := ⟨⟨by decide +kernel, by decide +kernel⟩, List.mem_of_getElem? (i := 20) (by decide +kernel), List.mem_of_getElem? (i := 554) (by decide +kernel), List.mem_of_getElem? (i := 555) (by decide +kernel)⟩
theorem lw_p9 : lw_okq (⟨"LabelsByAnotherHand", "fewestOf", "(II)I"⟩, 8) := ⟨⟨by decide +kernel, by decide +kernel⟩, List.mem_of_getElem? (i := 20) (by decide +kernel), List.mem_of_getElem? (i := 595) (by decide +kernel), List.mem_of_getElem? (i := 596) (by decide +kernel)⟩
theorem lw_p10 : lw_okq (⟨"LabelsByAnotherHand", "keepsGrace", "(III)Z"⟩, 8) := ⟨⟨by decide +kernel, by decide +kernel⟩, List.mem_of_getElem? (i := 20) (by decide +kernel), List.mem_of_getElem? (i := 605) (by decide +kernel), List.mem_of_getElem? (i := 606) (by decide +kernel)⟩
theorem lw_p11 : lw_okq (⟨"LabelsByAnotherHand", "graceBehind", "(II)I"⟩, 8) := ⟨⟨by decide +kernel, by decide +kernel⟩, List.mem_of_getElem? (i := 20) (by decide +kernel), List.mem_of_getElem? (i := 613) (by decide +kernel), List.mem_of_getElem? (i := 614) (by decide +kernel)⟩
theorem lw_p12 : lw_okq (⟨"LabelsByAnotherHand", "ownersGraceWithout", "(II)I"⟩, 8) := ⟨⟨by decide +kernel, by decide +kernel⟩, List.mem_of_getElem? (i := 20) (by decide +kernel), List.mem_of_getElem? (i := 617) (by decide +kernel), List.mem_of_getElem? (i := 618) (by decide +kernel)⟩
theorem lw_p13 : lw_okq (⟨"LabelsByAnotherHand", "isBetterWithout", "(II)Z"⟩, 8) := ⟨⟨by decide +kernel, by decide +kernel⟩, List.mem_of_getElem? (i := 20) (by decide +kernel), List.mem_of_getElem? (i := 629) (by decide +kernel), List.mem_of_getElem? (i := 630) (by decide +kernel)⟩
theorem lw_p14 : lw_okq (⟨"LabelsByAnotherHand", "refuseFarthest", "(I)J"⟩, 8) := ⟨⟨by decide +kernel, by decide +kernel⟩, List.mem_of_getElem? (i := 20) (by decide +kernel), List.mem_of_getElem? (i := 637) (by decide +kernel), List.mem_of_getElem? (i := 638) (by decide +kernel)⟩
theorem lw_p15 : lw_okq (⟨"LabelsByAnotherHand", "graceIfErring", "(III)I"⟩, 8) := ⟨⟨by decide +kernel, by decide +kernel⟩, List.mem_of_getElem? (i := 20) (by decide +kernel), List.mem_of_getElem? (i := 642) (by decide +kernel), List.mem_of_getElem? (i := 643) (by decide +kernel)⟩
def lw_privs_1 : List (MethodName × Nat) := [(⟨"LabelsByAnotherHand", "refuse", "(I)I"⟩, 8), (⟨"LabelsByAnotherHand", "potThere", "(I)I"⟩, 8), (⟨"LabelsByAnotherHand", "personThere", "(I)I"⟩, 8), (⟨"LabelsByAnotherHand", "refuseFar", "(I)I"⟩, 8), (⟨"LabelsByAnotherHand", "allGraceBehind", "(I)I"⟩, 8), (⟨"LabelsByAnotherHand", "firstGraceless", "()I"⟩, 8), (⟨"LabelsByAnotherHand", "allGraceChanged", "(III)I"⟩, 8), (⟨"LabelsByAnotherHand", "allGraceGiven", "(III)I"⟩, 8), (⟨"LabelsByAnotherHand", "whoGainsMost", "(I)I"⟩, 8), (⟨"LabelsByAnotherHand", "fewestOf", "(II)I"⟩, 8), (⟨"LabelsByAnotherHand", "keepsGrace", "(III)Z"⟩, 8), (⟨"LabelsByAnotherHand", "graceBehind", "(II)I"⟩, 8), (⟨"LabelsByAnotherHand", "ownersGraceWithout", "(II)I"⟩, 8), (⟨"LabelsByAnotherHand", "isBetterWithout", "(II)Z"⟩, 8), (⟨"LabelsByAnotherHand", "refuseFarthest", "(I)J"⟩, 8), (⟨"LabelsByAnotherHand", "graceIfErring", "(III)I"⟩, 8)]
theorem lw_r1 : ∀ q ∈ lw_privs_1, lw_okq q := List.forall_mem_cons.mpr ⟨lw_p0, List.forall_mem_cons.mpr ⟨lw_p1, List.forall_mem_cons.mpr ⟨lw_p2, List.forall_mem_cons.mpr ⟨lw_p3, List.forall_mem_cons.mpr ⟨lw_p4, List.forall_mem_cons.mpr ⟨lw_p5, List.forall_mem_cons.mpr ⟨lw_p6, List.forall_mem_cons.mpr ⟨lw_p7, List.forall_mem_cons.mpr ⟨lw_p8, List.forall_mem_cons.mpr ⟨lw_p9, List.forall_mem_cons.mpr ⟨lw_p10, List.forall_mem_cons.mpr ⟨lw_p11, List.forall_mem_cons.mpr ⟨lw_p12, List.forall_mem_cons.mpr ⟨lw_p13, List.forall_mem_cons.mpr ⟨lw_p14, List.forall_mem_cons.mpr ⟨lw_p15, fun _ h => absurd h List.not_mem_nil⟩⟩⟩⟩⟩⟩⟩⟩⟩⟩⟩⟩⟩⟩⟩⟩
theorem lw_p16 : lw_okq (⟨"LabelsByAnotherHand", "goesAsRow", "(I)Z"⟩, 8) := ⟨⟨by decide +kernel, by decide +kernel⟩, List.mem_of_getElem? (i := 20) (by decide +kernel), List.mem_of_getElem? (i := 670) (by decide +kernel), List.mem_of_getElem? (i := 671) (by decide +kernel)⟩
theorem lw_p17 : lw_okq (⟨"LabelsByAnotherHandModel", "no", "(I)I"⟩, 13) := ⟨⟨by decide +kernel, by decide +kernel⟩, List.mem_of_getElem? (i := 719) (by decide +kernel), List.mem_of_getElem? (i := 769) (by decide +kernel), List.mem_of_getElem? (i := 770) (by decide +kernel)⟩
theorem lw_p18 : lw_okq (⟨"LabelsByAnotherHandModel", "readsStatement", "()Z"⟩, 13) := ⟨⟨by decide +kernel, by decide +kernel⟩, List.mem_of_getElem? (i := 719) (by decide +kernel), List.mem_of_getElem? (i := 777) (by decide +kernel), List.mem_of_getElem? (i := 778) (by decide +kernel)⟩
theorem lw_p19 : lw_okq (⟨"LabelsByAnotherHandModel", "here", "()I"⟩, 13) := ⟨⟨by decide +kernel, by decide +kernel⟩, List.mem_of_getElem? (i := 719) (by decide +kernel), List.mem_of_getElem? (i := 781) (by decide +kernel), List.mem_of_getElem? (i := 782) (by decide +kernel)⟩
theorem lw_p20 : lw_okq (⟨"LabelsByAnotherHandModel", "readsNumber", "(II)Z"⟩, 13) := ⟨⟨by decide +kernel, by decide +kernel⟩, List.mem_of_getElem? (i := 719) (by decide +kernel), List.mem_of_getElem? (i := 785) (by decide +kernel), List.mem_of_getElem? (i := 786) (by decide +kernel)⟩
theorem lw_p21 : lw_okq (⟨"LabelsByAnotherHandModel", "readsKind", "()Z"⟩, 13) := ⟨⟨by decide +kernel, by decide +kernel⟩, List.mem_of_getElem? (i := 719) (by decide +kernel), List.mem_of_getElem? (i := 792) (by decide +kernel), List.mem_of_getElem? (i := 793) (by decide +kernel)⟩
theorem lw_p22 : lw_okq (⟨"LabelsByAnotherHandModel", "isDone", "(I)Z"⟩, 13) := ⟨⟨by decide +kernel, by decide +kernel⟩, List.mem_of_getElem? (i := 719) (by decide +kernel), List.mem_of_getElem? (i := 802) (by decide +kernel), List.mem_of_getElem? (i := 803) (by decide +kernel)⟩
theorem lw_p23 : lw_okq (⟨"LabelsByAnotherHandModel", "addsPot", "()Z"⟩, 13) := ⟨⟨by decide +kernel, by decide +kernel⟩, List.mem_of_getElem? (i := 719) (by decide +kernel), List.mem_of_getElem? (i := 809) (by decide +kernel), List.mem_of_getElem? (i := 810) (by decide +kernel)⟩
theorem lw_p24 : lw_okq (⟨"LabelsByAnotherHandModel", "isPerson", "(I)Z"⟩, 13) := ⟨⟨by decide +kernel, by decide +kernel⟩, List.mem_of_getElem? (i := 719) (by decide +kernel), List.mem_of_getElem? (i := 813) (by decide +kernel), List.mem_of_getElem? (i := 814) (by decide +kernel)⟩
theorem lw_p25 : lw_okq (⟨"LabelsByAnotherHandModel", "isPot", "(I)Z"⟩, 13) := ⟨⟨by decide +kernel, by decide +kernel⟩, List.mem_of_getElem? (i := 719) (by decide +kernel), List.mem_of_getElem? (i := 820) (by decide +kernel), List.mem_of_getElem? (i := 821) (by decide +kernel)⟩
theorem lw_p26 : lw_okq (⟨"LabelsByAnotherHandModel", "potsOf", "(I)I"⟩, 13) := ⟨⟨by decide +kernel, by decide +kernel⟩, List.mem_of_getElem? (i := 719) (by decide +kernel), List.mem_of_getElem? (i := 853) (by decide +kernel), List.mem_of_getElem? (i := 854) (by decide +kernel)⟩
theorem lw_p27 : lw_okq (⟨"LabelsByAnotherHandModel", "noFar", "(I)I"⟩, 13) := ⟨⟨by decide +kernel, by decide +kernel⟩, List.mem_of_getElem? (i := 719) (by decide +kernel), List.mem_of_getElem? (i := 861) (by decide +kernel), List.mem_of_getElem? (i := 862) (by decide +kernel)⟩
theorem lw_p28 : lw_okq (⟨"LabelsByAnotherHandModel", "takes", "(I)V"⟩, 13) := ⟨⟨by decide +kernel, by decide +kernel⟩, List.mem_of_getElem? (i := 719) (by decide +kernel), List.mem_of_getElem? (i := 900) (by decide +kernel), List.mem_of_getElem? (i := 901) (by decide +kernel)⟩
theorem lw_p29 : lw_okq (⟨"LabelsByAnotherHandModel", "firstGone", "()I"⟩, 13) := ⟨⟨by decide +kernel, by decide +kernel⟩, List.mem_of_getElem? (i := 719) (by decide +kernel), List.mem_of_getElem? (i := 916) (by decide +kernel), List.mem_of_getElem? (i := 917) (by decide +kernel)⟩
theorem lw_p30 : lw_okq (⟨"LabelsByAnotherHandModel", "whenGone", "(I)I"⟩, 13) := ⟨⟨by decide +kernel, by decide +kernel⟩, List.mem_of_getElem? (i := 719) (by decide +kernel), List.mem_of_getElem? (i := 920) (by decide +kernel), List.mem_of_getElem? (i := 921) (by decide +kernel)⟩
theorem lw_p31 : lw_okq (⟨"LabelsByAnotherHandModel", "honestOnes", "()I"⟩, 13) := ⟨⟨by decide +kernel, by decide +kernel⟩, List.mem_of_getElem? (i := 719) (by decide +kernel), List.mem_of_getElem? (i := 936) (by decide +kernel), List.mem_of_getElem? (i := 937) (by decide +kernel)⟩
def lw_privs_2 : List (MethodName × Nat) := [(⟨"LabelsByAnotherHand", "goesAsRow", "(I)Z"⟩, 8), (⟨"LabelsByAnotherHandModel", "no", "(I)I"⟩, 13), (⟨"LabelsByAnotherHandModel", "readsStatement", "()Z"⟩, 13), (⟨"LabelsByAnotherHandModel", "here", "()I"⟩, 13), (⟨"LabelsByAnotherHandModel", "readsNumber", "(II)Z"⟩, 13), (⟨"LabelsByAnotherHandModel", "readsKind", "()Z"⟩, 13), (⟨"LabelsByAnotherHandModel", "isDone", "(I)Z"⟩, 13), (⟨"LabelsByAnotherHandModel", "addsPot", "()Z"⟩, 13), (⟨"LabelsByAnotherHandModel", "isPerson", "(I)Z"⟩, 13), (⟨"LabelsByAnotherHandModel", "isPot", "(I)Z"⟩, 13), (⟨"LabelsByAnotherHandModel", "potsOf", "(I)I"⟩, 13), (⟨"LabelsByAnotherHandModel", "noFar", "(I)I"⟩, 13), (⟨"LabelsByAnotherHandModel", "takes", "(I)V"⟩, 13), (⟨"LabelsByAnotherHandModel", "firstGone", "()I"⟩, 13), (⟨"LabelsByAnotherHandModel", "whenGone", "(I)I"⟩, 13), (⟨"LabelsByAnotherHandModel", "honestOnes", "()I"⟩, 13)]
theorem lw_r2 : ∀ q ∈ lw_privs_2, lw_okq q := List.forall_mem_cons.mpr ⟨lw_p16, List.forall_mem_cons.mpr ⟨lw_p17, List.forall_mem_cons.mpr ⟨lw_p18, List.forall_mem_cons.mpr ⟨lw_p19, List.forall_mem_cons.mpr ⟨lw_p20, List.forall_mem_cons.mpr ⟨lw_p21, List.forall_mem_cons.mpr ⟨lw_p22, List.forall_mem_cons.mpr ⟨lw_p23, List.forall_mem_cons.mpr ⟨lw_p24, List.forall_mem_cons.mpr ⟨lw_p25, List.forall_mem_cons.mpr ⟨lw_p26, List.forall_mem_cons.mpr ⟨lw_p27, List.forall_mem_cons.mpr ⟨lw_p28, List.forall_mem_cons.mpr ⟨lw_p29, List.forall_mem_cons.mpr ⟨lw_p30, List.forall_mem_cons.mpr ⟨lw_p31, fun _ h => absurd h List.not_mem_nil⟩⟩⟩⟩⟩⟩⟩⟩⟩⟩⟩⟩⟩⟩⟩⟩
theorem lw_p32 : lw_okq (⟨"LabelsByAnotherHandModel", "hopefulOnes", "()I"⟩, 13) := ⟨⟨by decide +kernel, by decide +kernel⟩, List.mem_of_getElem? (i := 719) (by decide +kernel), List.mem_of_getElem? (i := 940) (by decide +kernel), List.mem_of_getElem? (i := 941) (by decide +kernel)⟩
theorem lw_p33 : lw_okq (⟨"LabelsByAnotherHandModel", "graceNow", "(I)I"⟩, 13) := ⟨⟨by decide +kernel, by decide +kernel⟩, List.mem_of_getElem? (i := 719) (by decide +kernel), List.mem_of_getElem? (i := 948) (by decide +kernel), List.mem_of_getElem? (i := 949) (by decide +kernel)⟩
theorem lw_p34 : lw_okq (⟨"LabelsByAnotherHandModel", "graceGiven", "(III)I"⟩, 13) := ⟨⟨by decide +kernel, by decide +kernel⟩, List.mem_of_getElem? (i := 719) (by decide +kernel), List.mem_of_getElem? (i := 960) (by decide +kernel), List.mem_of_getElem? (i := 961) (by decide +kernel)⟩
theorem lw_p35 : lw_okq (⟨"LabelsByAnotherHandModel", "dealtTo", "(I)I"⟩, 13) := ⟨⟨by decide +kernel, by decide +kernel⟩, List.mem_of_getElem? (i := 719) (by decide +kernel), List.mem_of_getElem? (i := 968) (by decide +kernel), List.mem_of_getElem? (i := 969) (by decide +kernel)⟩
theorem lw_p36 : lw_okq (⟨"LabelsByAnotherHandModel", "gainsOwner", "(I)I"⟩, 13) := ⟨⟨by decide +kernel, by decide +kernel⟩, List.mem_of_getElem? (i := 719) (by decide +kernel), List.mem_of_getElem? (i := 976) (by decide +kernel), List.mem_of_getElem? (i := 977) (by decide +kernel)⟩
theorem lw_p37 : lw_okq (⟨"LabelsByAnotherHandModel", "spoonsOf", "(I)I"⟩, 13) := ⟨⟨by decide +kernel, by decide +kernel⟩, List.mem_of_getElem? (i := 719) (by decide +kernel), List.mem_of_getElem? (i := 992) (by decide +kernel), List.mem_of_getElem? (i := 993) (by decide +kernel)⟩
theorem lw_p38 : lw_okq (⟨"LabelsByAnotherHandModel", "isNobodyGraceless", "(I)Z"⟩, 13) := ⟨⟨by decide +kernel, by decide +kernel⟩, List.mem_of_getElem? (i := 719) (by decide +kernel), List.mem_of_getElem? (i := 1006) (by decide +kernel), List.mem_of_getElem? (i := 1007) (by decide +kernel)⟩
theorem lw_p39 : lw_okq (⟨"LabelsByAnotherHandModel", "leadBy", "(IIIIIII)I"⟩, 13) := ⟨⟨by decide +kernel, by decide +kernel⟩, List.mem_of_getElem? (i := 719) (by decide +kernel), List.mem_of_getElem? (i := 1022) (by decide +kernel), List.mem_of_getElem? (i := 1023) (by decide +kernel)⟩
theorem lw_p40 : lw_okq (⟨"LabelsByAnotherHandModel", "noWide", "(I)J"⟩, 13) := ⟨⟨by decide +kernel, by decide +kernel⟩, List.mem_of_getElem? (i := 719) (by decide +kernel), List.mem_of_getElem? (i := 1030) (by decide +kernel), List.mem_of_getElem? (i := 1031) (by decide +kernel)⟩
theorem lw_p41 : lw_okq (⟨"LabelsByAnotherHandModel", "drawn", "(I)I"⟩, 13) := ⟨⟨by decide +kernel, by decide +kernel⟩, List.mem_of_getElem? (i := 719) (by decide +kernel), List.mem_of_getElem? (i := 1068) (by decide +kernel), List.mem_of_getElem? (i := 1069) (by decide +kernel)⟩
def lw_privs_3 : List (MethodName × Nat) := [(⟨"LabelsByAnotherHandModel", "hopefulOnes", "()I"⟩, 13), (⟨"LabelsByAnotherHandModel", "graceNow", "(I)I"⟩, 13), (⟨"LabelsByAnotherHandModel", "graceGiven", "(III)I"⟩, 13), (⟨"LabelsByAnotherHandModel", "dealtTo", "(I)I"⟩, 13), (⟨"LabelsByAnotherHandModel", "gainsOwner", "(I)I"⟩, 13), (⟨"LabelsByAnotherHandModel", "spoonsOf", "(I)I"⟩, 13), (⟨"LabelsByAnotherHandModel", "isNobodyGraceless", "(I)Z"⟩, 13), (⟨"LabelsByAnotherHandModel", "leadBy", "(IIIIIII)I"⟩, 13), (⟨"LabelsByAnotherHandModel", "noWide", "(I)J"⟩, 13), (⟨"LabelsByAnotherHandModel", "drawn", "(I)I"⟩, 13)]
theorem lw_r3 : ∀ q ∈ lw_privs_3, lw_okq q := List.forall_mem_cons.mpr ⟨lw_p32, List.forall_mem_cons.mpr ⟨lw_p33, List.forall_mem_cons.mpr ⟨lw_p34, List.forall_mem_cons.mpr ⟨lw_p35, List.forall_mem_cons.mpr ⟨lw_p36, List.forall_mem_cons.mpr ⟨lw_p37, List.forall_mem_cons.mpr ⟨lw_p38, List.forall_mem_cons.mpr ⟨lw_p39, List.forall_mem_cons.mpr ⟨lw_p40, List.forall_mem_cons.mpr ⟨lw_p41, fun _ h => absurd h List.not_mem_nil⟩⟩⟩⟩⟩⟩⟩⟩⟩⟩
def lw_privs : List (MethodName × Nat) := lw_privs_1 ++ (lw_privs_2 ++ (lw_privs_3))
def lw_tbl : List Cond := k2_sels lw_privs ++ tables_1
theorem lw_privs_ok : ∀ q ∈ lw_privs, lw_okq q := by
  show ∀ q ∈ lw_privs_1 ++ (lw_privs_2 ++ (lw_privs_3)), lw_okq q
  exact List.forall_mem_append.mpr ⟨lw_r1, List.forall_mem_append.mpr ⟨lw_r2, lw_r3⟩⟩
end
section
def RX0 : String := "LabelsByAnotherHand$Anvil"
def TX0 : u_T := fun k => match k with
  | _ => ("", "", "", false)
def tyX0 : Nat → FieldType := fun k => match k with
  | _ => .int
theorem nmX0 : ∀ a, a < 0 → ∀ b, b < 0 → a ≠ b → (TX0 a).2.1 ≠ (TX0 b).2.1 := by decide +kernel
theorem tyX0_ok : ∀ k, k < 0 → parseFieldDescriptor (TX0 k).2.2.1 = some (tyX0 k) := by decide +kernel
abbrev cX0_init : ByteArray := prog_2_method_1_code
def yX0_init : MethodName := ⟨RX0, "<init>", "()V"⟩
abbrev cX0_spoon : ByteArray := prog_2_method_2_code
def yX0_spoon : MethodName := ⟨RX0, "spoon", "(III)I"⟩
def RX1 : String := "LabelsByAnotherHand$Bitter"
def TX1 : u_T := fun k => match k with
  | _ => ("", "", "", false)
def tyX1 : Nat → FieldType := fun k => match k with
  | _ => .int
theorem nmX1 : ∀ a, a < 0 → ∀ b, b < 0 → a ≠ b → (TX1 a).2.1 ≠ (TX1 b).2.1 := by decide +kernel
theorem tyX1_ok : ∀ k, k < 0 → parseFieldDescriptor (TX1 k).2.2.1 = some (tyX1 k) := by decide +kernel
abbrev cX1_init : ByteArray := prog_3_method_1_code
def yX1_init : MethodName := ⟨RX1, "<init>", "()V"⟩
abbrev cX1_spoon : ByteArray := prog_3_method_2_code
def yX1_spoon : MethodName := ⟨RX1, "spoon", "(III)I"⟩
def RX2 : String := "LabelsByAnotherHand$Honey"
def TX2 : u_T := fun k => match k with
  | _ => ("", "", "", false)
def tyX2 : Nat → FieldType := fun k => match k with
  | _ => .int
theorem nmX2 : ∀ a, a < 0 → ∀ b, b < 0 → a ≠ b → (TX2 a).2.1 ≠ (TX2 b).2.1 := by decide +kernel
theorem tyX2_ok : ∀ k, k < 0 → parseFieldDescriptor (TX2 k).2.2.1 = some (tyX2 k) := by decide +kernel
abbrev cX2_init : ByteArray := prog_4_method_1_code
def yX2_init : MethodName := ⟨RX2, "<init>", "()V"⟩
abbrev cX2_spoon : ByteArray := prog_4_method_2_code
def yX2_spoon : MethodName := ⟨RX2, "spoon", "(III)I"⟩
def RX3 : String := "LabelsByAnotherHand$Jam"
def TX3 : u_T := fun k => match k with
  | _ => ("", "", "", false)
def tyX3 : Nat → FieldType := fun k => match k with
  | _ => .int
theorem nmX3 : ∀ a, a < 0 → ∀ b, b < 0 → a ≠ b → (TX3 a).2.1 ≠ (TX3 b).2.1 := by decide +kernel
theorem tyX3_ok : ∀ k, k < 0 → parseFieldDescriptor (TX3 k).2.2.1 = some (tyX3 k) := by decide +kernel
abbrev cX3_init : ByteArray := prog_5_method_1_code
def yX3_init : MethodName := ⟨RX3, "<init>", "()V"⟩
abbrev cX3_spoon : ByteArray := prog_5_method_2_code
def yX3_spoon : MethodName := ⟨RX3, "spoon", "(III)I"⟩
def RX4 : String := "LabelsByAnotherHand$Letters"
def TX4 : u_T := fun k => match k with
  | 0 => ("LabelsByAnotherHand$Letters", "letters", "[I", true)
  | _ => ("LabelsByAnotherHand$Letters", "count", "I", false)
def tyX4 : Nat → FieldType := fun k => match k with
  | 0 => .array .int
  | _ => .int
theorem nmX4 : ∀ a, a < 2 → ∀ b, b < 2 → a ≠ b → (TX4 a).2.1 ≠ (TX4 b).2.1 := by decide +kernel
theorem tyX4_ok : ∀ k, k < 2 → parseFieldDescriptor (TX4 k).2.2.1 = some (tyX4 k) := by decide +kernel
abbrev cX4_init : ByteArray := prog_6_method_1_code
def yX4_init : MethodName := ⟨RX4, "<init>", "()V"⟩
abbrev cX4_add : ByteArray := prog_6_method_2_code
def yX4_add : MethodName := ⟨RX4, "add", "(I)V"⟩
abbrev cX4_letterAt : ByteArray := prog_6_method_3_code
def yX4_letterAt : MethodName := ⟨RX4, "letterAt", "(I)I"⟩
abbrev cX4_digitAt : ByteArray := prog_6_method_4_code
def yX4_digitAt : MethodName := ⟨RX4, "digitAt", "(I)I"⟩
abbrev cX4_kindAt : ByteArray := prog_6_method_5_code
def yX4_kindAt : MethodName := ⟨RX4, "kindAt", "(I)I"⟩
abbrev cX4_lengthAt : ByteArray := prog_6_method_6_code
def yX4_lengthAt : MethodName := ⟨RX4, "lengthAt", "(I)I"⟩
abbrev cX4_wrongPlace : ByteArray := prog_6_method_7_code
def yX4_wrongPlace : MethodName := ⟨RX4, "wrongPlace", "()I"⟩
abbrev cX4_fits : ByteArray := prog_6_method_8_code
def yX4_fits : MethodName := ⟨RX4, "fits", "(III)Z"⟩
abbrev cX4_isObeyed : ByteArray := prog_6_method_9_code
def yX4_isObeyed : MethodName := ⟨RX4, "isObeyed", "(ILLabelsByAnotherHand$Village;)Z"⟩
def RX5 : String := "LabelsByAnotherHand$Sweet"
def TX5 : u_T := fun k => match k with
  | _ => ("", "", "", false)
def tyX5 : Nat → FieldType := fun k => match k with
  | _ => .int
theorem nmX5 : ∀ a, a < 0 → ∀ b, b < 0 → a ≠ b → (TX5 a).2.1 ≠ (TX5 b).2.1 := by decide +kernel
theorem tyX5_ok : ∀ k, k < 0 → parseFieldDescriptor (TX5 k).2.2.1 = some (tyX5 k) := by decide +kernel
abbrev cX5_init : ByteArray := prog_7_method_1_code
def yX5_init : MethodName := ⟨RX5, "<init>", "()V"⟩
abbrev cX5_spoon : ByteArray := prog_7_method_2_code
def yX5_spoon : MethodName := ⟨RX5, "spoon", "(III)I"⟩
def RX6 : String := "LabelsByAnotherHand$Tin"
def TX6 : u_T := fun k => match k with
  | _ => ("", "", "", false)
def tyX6 : Nat → FieldType := fun k => match k with
  | _ => .int
theorem nmX6 : ∀ a, a < 0 → ∀ b, b < 0 → a ≠ b → (TX6 a).2.1 ≠ (TX6 b).2.1 := by decide +kernel
theorem tyX6_ok : ∀ k, k < 0 → parseFieldDescriptor (TX6 k).2.2.1 = some (tyX6 k) := by decide +kernel
abbrev cX6_init : ByteArray := prog_8_method_1_code
def yX6_init : MethodName := ⟨RX6, "<init>", "()V"⟩
abbrev cX6_spoon : ByteArray := prog_8_method_2_code
def yX6_spoon : MethodName := ⟨RX6, "spoon", "(III)I"⟩
def RX7 : String := "LabelsByAnotherHand$Village"
def TX7 : u_T := fun k => match k with
  | 0 => ("LabelsByAnotherHand$Village", "kinds", "[LLabelsByAnotherHand$Jam;", true)
  | 1 => ("LabelsByAnotherHand$Village", "kind", "[I", true)
  | 2 => ("LabelsByAnotherHand$Village", "figure", "[I", true)
  | 3 => ("LabelsByAnotherHand$Village", "holds", "[I", true)
  | 4 => ("LabelsByAnotherHand$Village", "label", "[I", true)
  | 5 => ("LabelsByAnotherHand$Village", "full", "[I", true)
  | 6 => ("LabelsByAnotherHand$Village", "owner", "[I", true)
  | 7 => ("LabelsByAnotherHand$Village", "likes", "[I", true)
  | 8 => ("LabelsByAnotherHand$Village", "grace", "[I", true)
  | 9 => ("LabelsByAnotherHand$Village", "pots", "I", false)
  | 10 => ("LabelsByAnotherHand$Village", "people", "I", false)
  | _ => ("LabelsByAnotherHand$Village", "year", "I", false)
def tyX7 : Nat → FieldType := fun k => match k with
  | 0 => .array (.object "LabelsByAnotherHand$Jam")
  | 1 => .array .int
  | 2 => .array .int
  | 3 => .array .int
  | 4 => .array .int
  | 5 => .array .int
  | 6 => .array .int
  | 7 => .array .int
  | 8 => .array .int
  | 9 => .int
  | 10 => .int
  | _ => .int
theorem nmX7 : ∀ a, a < 12 → ∀ b, b < 12 → a ≠ b → (TX7 a).2.1 ≠ (TX7 b).2.1 := by decide +kernel
theorem tyX7_ok : ∀ k, k < 12 → parseFieldDescriptor (TX7 k).2.2.1 = some (tyX7 k) := by decide +kernel
abbrev cX7_init : ByteArray := prog_9_method_1_code
def yX7_init : MethodName := ⟨RX7, "<init>", "()V"⟩
abbrev cX7_become : ByteArray := prog_9_method_2_code
def yX7_become : MethodName := ⟨RX7, "become", "(LLabelsByAnotherHand$Village;)V"⟩
abbrev cX7_hasPot : ByteArray := prog_9_method_3_code
def yX7_hasPot : MethodName := ⟨RX7, "hasPot", "(I)Z"⟩
abbrev cX7_hasPerson : ByteArray := prog_9_method_4_code
def yX7_hasPerson : MethodName := ⟨RX7, "hasPerson", "(I)Z"⟩
abbrev cX7_isSort : ByteArray := prog_9_method_5_code
def yX7_isSort : MethodName := ⟨RX7, "isSort", "(I)Z"⟩
abbrev cX7_isLabel : ByteArray := prog_9_method_6_code
def yX7_isLabel : MethodName := ⟨RX7, "isLabel", "(I)Z"⟩
abbrev cX7_isKind : ByteArray := prog_9_method_7_code
def yX7_isKind : MethodName := ⟨RX7, "isKind", "(I)Z"⟩
abbrev cX7_isDigit : ByteArray := prog_9_method_8_code
def yX7_isDigit : MethodName := ⟨RX7, "isDigit", "(I)Z"⟩
abbrev cX7_off : ByteArray := prog_9_method_9_code
def yX7_off : MethodName := ⟨RX7, "off", "(II)I"⟩
abbrev cX7_gained : ByteArray := prog_9_method_10_code
def yX7_gained : MethodName := ⟨RX7, "gained", "(II)I"⟩
abbrev cX7_canOpen : ByteArray := prog_9_method_11_code
def yX7_canOpen : MethodName := ⟨RX7, "canOpen", "(II)Z"⟩
abbrev cX7_opened : ByteArray := prog_9_method_12_code
def yX7_opened : MethodName := ⟨RX7, "opened", "(I)I"⟩
abbrev cX7_pass : ByteArray := prog_9_method_13_code
def yX7_pass : MethodName := ⟨RX7, "pass", "(I)V"⟩
abbrev cX7_passFor : ByteArray := prog_9_method_14_code
def yX7_passFor : MethodName := ⟨RX7, "passFor", "(II)V"⟩
abbrev cX7_labelsOneOn : ByteArray := prog_9_method_15_code
def yX7_labelsOneOn : MethodName := ⟨RX7, "labelsOneOn", "()V"⟩
abbrev cX7_allGrace : ByteArray := prog_9_method_16_code
def yX7_allGrace : MethodName := ⟨RX7, "allGrace", "()I"⟩
abbrev cX7_withoutGrace : ByteArray := prog_9_method_17_code
def yX7_withoutGrace : MethodName := ⟨RX7, "withoutGrace", "()I"⟩
abbrev cX7_spoons : ByteArray := prog_9_method_18_code
def yX7_spoons : MethodName := ⟨RX7, "spoons", "()I"⟩
abbrev cX7_potsOf : ByteArray := prog_9_method_19_code
def yX7_potsOf : MethodName := ⟨RX7, "potsOf", "(I)I"⟩
abbrev cX7_honestPots : ByteArray := prog_9_method_20_code
def yX7_honestPots : MethodName := ⟨RX7, "honestPots", "()I"⟩
abbrev cX7_hopefulPots : ByteArray := prog_9_method_21_code
def yX7_hopefulPots : MethodName := ⟨RX7, "hopefulPots", "()I"⟩
abbrev cX7_sortsHeld : ByteArray := prog_9_method_22_code
def yX7_sortsHeld : MethodName := ⟨RX7, "sortsHeld", "()I"⟩
abbrev cX7_sortsOnLabels : ByteArray := prog_9_method_23_code
def yX7_sortsOnLabels : MethodName := ⟨RX7, "sortsOnLabels", "()I"⟩
abbrev cX7_mostHeld : ByteArray := prog_9_method_24_code
def yX7_mostHeld : MethodName := ⟨RX7, "mostHeld", "()I"⟩
abbrev cX7_spoonsOf : ByteArray := prog_9_method_25_code
def yX7_spoonsOf : MethodName := ⟨RX7, "spoonsOf", "(I)I"⟩
abbrev cX7_addPerson : ByteArray := prog_9_method_26_code
def yX7_addPerson : MethodName := ⟨RX7, "addPerson", "(I)Z"⟩
abbrev cX7_addPot : ByteArray := prog_9_method_27_code
def yX7_addPot : MethodName := ⟨RX7, "addPot", "(IIIIII)Z"⟩
abbrev cX7_setLabel : ByteArray := prog_9_method_28_code
def yX7_setLabel : MethodName := ⟨RX7, "setLabel", "(II)Z"⟩
abbrev cX7_setOwner : ByteArray := prog_9_method_29_code
def yX7_setOwner : MethodName := ⟨RX7, "setOwner", "(II)Z"⟩
abbrev cX7_setLikes : ByteArray := prog_9_method_30_code
def yX7_setLikes : MethodName := ⟨RX7, "setLikes", "(II)Z"⟩
abbrev cX7_setFull : ByteArray := prog_9_method_31_code
def yX7_setFull : MethodName := ⟨RX7, "setFull", "(II)Z"⟩
abbrev cX7_canGoOn : ByteArray := prog_9_method_32_code
def yX7_canGoOn : MethodName := ⟨RX7, "canGoOn", "(I)Z"⟩
def RX8 : String := "LabelsByAnotherHand"
def TX8 : u_T := fun k => match k with
  | 0 => ("LabelsByAnotherHand", "now", "LLabelsByAnotherHand$Village;", true)
  | 1 => ("LabelsByAnotherHand", "mind", "LLabelsByAnotherHand$Village;", true)
  | 2 => ("LabelsByAnotherHand", "kept", "LLabelsByAnotherHand$Village;", true)
  | 3 => ("LabelsByAnotherHand", "isKept", "Z", false)
  | 4 => ("LabelsByAnotherHand", "told", "LLabelsByAnotherHand$Letters;", true)
  | 5 => ("LabelsByAnotherHand", "row", "[I", true)
  | 6 => ("LabelsByAnotherHand", "rowCount", "I", false)
  | _ => ("LabelsByAnotherHand", "refusals", "[I", true)
def tyX8 : Nat → FieldType := fun k => match k with
  | 0 => .object "LabelsByAnotherHand$Village"
  | 1 => .object "LabelsByAnotherHand$Village"
  | 2 => .object "LabelsByAnotherHand$Village"
  | 3 => .boolean
  | 4 => .object "LabelsByAnotherHand$Letters"
  | 5 => .array .int
  | 6 => .int
  | _ => .array .int
theorem nmX8 : ∀ a, a < 8 → ∀ b, b < 8 → a ≠ b → (TX8 a).2.1 ≠ (TX8 b).2.1 := by decide +kernel
theorem tyX8_ok : ∀ k, k < 8 → parseFieldDescriptor (TX8 k).2.2.1 = some (tyX8 k) := by decide +kernel
abbrev cX8_init : ByteArray := prog_1_method_1_code
def yX8_init : MethodName := ⟨RX8, "<init>", "()V"⟩
abbrev cX8_letter : ByteArray := prog_1_method_2_code
def yX8_letter : MethodName := ⟨RX8, "letter", "(I)I"⟩
abbrev cX8_village : ByteArray := prog_1_method_3_code
def yX8_village : MethodName := ⟨RX8, "village", "()I"⟩
abbrev cX8_pot : ByteArray := prog_1_method_4_code
def yX8_pot : MethodName := ⟨RX8, "pot", "(II)I"⟩
abbrev cX8_person : ByteArray := prog_1_method_5_code
def yX8_person : MethodName := ⟨RX8, "person", "(II)I"⟩
abbrev cX8_gains : ByteArray := prog_1_method_6_code
def yX8_gains : MethodName := ⟨RX8, "gains", "(II)I"⟩
abbrev cX8_labels : ByteArray := prog_1_method_7_code
def yX8_labels : MethodName := ⟨RX8, "labels", "(II)I"⟩
abbrev cX8_gives : ByteArray := prog_1_method_8_code
def yX8_gives : MethodName := ⟨RX8, "gives", "(II)I"⟩
abbrev cX8_likes : ByteArray := prog_1_method_9_code
def yX8_likes : MethodName := ⟨RX8, "likes", "(II)I"⟩
abbrev cX8_fills : ByteArray := prog_1_method_10_code
def yX8_fills : MethodName := ⟨RX8, "fills", "(II)I"⟩
abbrev cX8_turn : ByteArray := prog_1_method_11_code
def yX8_turn : MethodName := ⟨RX8, "turn", "(III)I"⟩
abbrev cX8_years : ByteArray := prog_1_method_12_code
def yX8_years : MethodName := ⟨RX8, "years", "(I)I"⟩
abbrev cX8_personThen : ByteArray := prog_1_method_13_code
def yX8_personThen : MethodName := ⟨RX8, "personThen", "(III)I"⟩
abbrev cX8_fullThen : ByteArray := prog_1_method_14_code
def yX8_fullThen : MethodName := ⟨RX8, "fullThen", "(II)I"⟩
abbrev cX8_graceThen : ByteArray := prog_1_method_15_code
def yX8_graceThen : MethodName := ⟨RX8, "graceThen", "(I)I"⟩
abbrev cX8_graceless : ByteArray := prog_1_method_16_code
def yX8_graceless : MethodName := ⟨RX8, "graceless", "(I)I"⟩
abbrev cX8_firstGraceless : ByteArray := prog_1_method_17_code
def yX8_firstGraceless : MethodName := ⟨RX8, "firstGraceless", "()I"⟩
abbrev cX8_empties : ByteArray := prog_1_method_18_code
def yX8_empties : MethodName := ⟨RX8, "empties", "(I)I"⟩
abbrev cX8_label : ByteArray := prog_1_method_19_code
def yX8_label : MethodName := ⟨RX8, "label", "(II)I"⟩
abbrev cX8_honest : ByteArray := prog_1_method_20_code
def yX8_honest : MethodName := ⟨RX8, "honest", "(I)I"⟩
abbrev cX8_audit : ByteArray := prog_1_method_21_code
def yX8_audit : MethodName := ⟨RX8, "audit", "(II)I"⟩
abbrev cX8_change : ByteArray := prog_1_method_22_code
def yX8_change : MethodName := ⟨RX8, "change", "(I)I"⟩
abbrev cX8_allGraceChanged : ByteArray := prog_1_method_23_code
def yX8_allGraceChanged : MethodName := ⟨RX8, "allGraceChanged", "(III)I"⟩
abbrev cX8_gift : ByteArray := prog_1_method_24_code
def yX8_gift : MethodName := ⟨RX8, "gift", "(I)I"⟩
abbrev cX8_allGraceGiven : ByteArray := prog_1_method_25_code
def yX8_allGraceGiven : MethodName := ⟨RX8, "allGraceGiven", "(III)I"⟩
abbrev cX8_deal : ByteArray := prog_1_method_26_code
def yX8_deal : MethodName := ⟨RX8, "deal", "(I)I"⟩
abbrev cX8_whoGainsMost : ByteArray := prog_1_method_27_code
def yX8_whoGainsMost : MethodName := ⟨RX8, "whoGainsMost", "(I)I"⟩
abbrev cX8_worst : ByteArray := prog_1_method_28_code
def yX8_worst : MethodName := ⟨RX8, "worst", "(I)I"⟩
abbrev cX8_trust : ByteArray := prog_1_method_29_code
def yX8_trust : MethodName := ⟨RX8, "trust", "(I)I"⟩
abbrev cX8_shelf : ByteArray := prog_1_method_30_code
def yX8_shelf : MethodName := ⟨RX8, "shelf", "(II)I"⟩
abbrev cX8_sorts : ByteArray := prog_1_method_31_code
def yX8_sorts : MethodName := ⟨RX8, "sorts", "(I)I"⟩
abbrev cX8_fewest : ByteArray := prog_1_method_32_code
def yX8_fewest : MethodName := ⟨RX8, "fewest", "(I)I"⟩
abbrev cX8_fewestOf : ByteArray := prog_1_method_33_code
def yX8_fewestOf : MethodName := ⟨RX8, "fewestOf", "(II)I"⟩
abbrev cX8_keepsGrace : ByteArray := prog_1_method_34_code
def yX8_keepsGrace : MethodName := ⟨RX8, "keepsGrace", "(III)Z"⟩
abbrev cX8_warn : ByteArray := prog_1_method_35_code
def yX8_warn : MethodName := ⟨RX8, "warn", "(II)I"⟩
abbrev cX8_heir : ByteArray := prog_1_method_36_code
def yX8_heir : MethodName := ⟨RX8, "heir", "(II)I"⟩
abbrev cX8_two : ByteArray := prog_1_method_37_code
def yX8_two : MethodName := ⟨RX8, "two", "(III)I"⟩
abbrev cX8_isBetterWithout : ByteArray := prog_1_method_38_code
def yX8_isBetterWithout : MethodName := ⟨RX8, "isBetterWithout", "(II)Z"⟩
abbrev cX8_errs : ByteArray := prog_1_method_39_code
def yX8_errs : MethodName := ⟨RX8, "errs", "(IIIII)J"⟩
abbrev cX8_graceIfErring : ByteArray := prog_1_method_40_code
def yX8_graceIfErring : MethodName := ⟨RX8, "graceIfErring", "(III)I"⟩
abbrev cX8_mean : ByteArray := prog_1_method_41_code
def yX8_mean : MethodName := ⟨RX8, "mean", "(I)J"⟩
abbrev cX8_whatIn : ByteArray := prog_1_method_42_code
def yX8_whatIn : MethodName := ⟨RX8, "whatIn", "(II)I"⟩
abbrev cX8_goesAsRow : ByteArray := prog_1_method_43_code
def yX8_goesAsRow : MethodName := ⟨RX8, "goesAsRow", "(I)Z"⟩
abbrev cX8_row : ByteArray := prog_1_method_44_code
def yX8_row : MethodName := ⟨RX8, "row", "(I)I"⟩
abbrev cX8_judge : ByteArray := prog_1_method_45_code
def yX8_judge : MethodName := ⟨RX8, "judge", "()I"⟩
abbrev cX8_clear : ByteArray := prog_1_method_46_code
def yX8_clear : MethodName := ⟨RX8, "clear", "()I"⟩
abbrev cX8_lots : ByteArray := prog_1_method_47_code
def yX8_lots : MethodName := ⟨RX8, "lots", "(III)I"⟩
abbrev cX8_image : ByteArray := prog_1_method_48_code
def yX8_image : MethodName := ⟨RX8, "image", "()I"⟩
abbrev cX8_on : ByteArray := prog_1_method_49_code
def yX8_on : MethodName := ⟨RX8, "on", "()I"⟩
abbrev cX8_count : ByteArray := prog_1_method_50_code
def yX8_count : MethodName := ⟨RX8, "count", "(I)I"⟩
abbrev cX8_allGraceBehind : ByteArray := prog_1_method_51_code
def yX8_allGraceBehind : MethodName := ⟨RX8, "allGraceBehind", "(I)I"⟩
abbrev cX8_graceBehind : ByteArray := prog_1_method_52_code
def yX8_graceBehind : MethodName := ⟨RX8, "graceBehind", "(II)I"⟩
abbrev cX8_ownersGraceWithout : ByteArray := prog_1_method_53_code
def yX8_ownersGraceWithout : MethodName := ⟨RX8, "ownersGraceWithout", "(II)I"⟩
abbrev cX8_refuse : ByteArray := prog_1_method_54_code
def yX8_refuse : MethodName := ⟨RX8, "refuse", "(I)I"⟩
abbrev cX8_refuseFar : ByteArray := prog_1_method_55_code
def yX8_refuseFar : MethodName := ⟨RX8, "refuseFar", "(I)I"⟩
abbrev cX8_refuseFarthest : ByteArray := prog_1_method_56_code
def yX8_refuseFarthest : MethodName := ⟨RX8, "refuseFarthest", "(I)J"⟩
abbrev cX8_potThere : ByteArray := prog_1_method_57_code
def yX8_potThere : MethodName := ⟨RX8, "potThere", "(I)I"⟩
abbrev cX8_personThere : ByteArray := prog_1_method_58_code
def yX8_personThere : MethodName := ⟨RX8, "personThere", "(I)I"⟩
abbrev cX8_within : ByteArray := prog_1_method_59_code
def yX8_within : MethodName := ⟨RX8, "within", "(III)I"⟩
abbrev cX8_known : ByteArray := prog_1_method_60_code
def yX8_known : MethodName := ⟨RX8, "known", "(II)I"⟩
abbrev cX8_first : ByteArray := prog_1_method_61_code
def yX8_first : MethodName := ⟨RX8, "first", "(II)I"⟩
abbrev cX8_first_ : ByteArray := prog_1_method_62_code
def yX8_first_ : MethodName := ⟨RX8, "first", "(III)I"⟩
abbrev cX8_nextSeed : ByteArray := prog_1_method_63_code
def yX8_nextSeed : MethodName := ⟨RX8, "nextSeed", "(I)I"⟩
abbrev cX8_drawn : ByteArray := prog_1_method_64_code
def yX8_drawn : MethodName := ⟨RX8, "drawn", "(II)I"⟩
abbrev cX8_power : ByteArray := prog_1_method_65_code
def yX8_power : MethodName := ⟨RX8, "power", "(II)J"⟩
abbrev cX8_ofFraction : ByteArray := prog_1_method_66_code
def yX8_ofFraction : MethodName := ⟨RX8, "ofFraction", "(JJI)J"⟩
abbrev cX8_commonDivisor : ByteArray := prog_1_method_67_code
def yX8_commonDivisor : MethodName := ⟨RX8, "commonDivisor", "(JJ)J"⟩
def RX9 : String := "LabelsByAnotherHandModel"
def TX9 : u_T := fun k => match k with
  | 0 => ("LabelsByAnotherHandModel", "s", "[I", true)
  | 1 => ("LabelsByAnotherHandModel", "m", "[I", true)
  | 2 => ("LabelsByAnotherHandModel", "image", "[I", true)
  | 3 => ("LabelsByAnotherHandModel", "was", "[I", true)
  | 4 => ("LabelsByAnotherHandModel", "hasImage", "Z", false)
  | 5 => ("LabelsByAnotherHandModel", "letters", "[I", true)
  | 6 => ("LabelsByAnotherHandModel", "row", "[I", true)
  | 7 => ("LabelsByAnotherHandModel", "refused", "[I", true)
  | 8 => ("LabelsByAnotherHandModel", "letterMany", "I", false)
  | 9 => ("LabelsByAnotherHandModel", "rowMany", "I", false)
  | 10 => ("LabelsByAnotherHandModel", "place", "I", false)
  | 11 => ("LabelsByAnotherHandModel", "numbers", "[I", true)
  | _ => ("LabelsByAnotherHandModel", "seed", "I", false)
def tyX9 : Nat → FieldType := fun k => match k with
  | 0 => .array .int
  | 1 => .array .int
  | 2 => .array .int
  | 3 => .array .int
  | 4 => .boolean
  | 5 => .array .int
  | 6 => .array .int
  | 7 => .array .int
  | 8 => .int
  | 9 => .int
  | 10 => .int
  | 11 => .array .int
  | _ => .int
theorem nmX9 : ∀ a, a < 13 → ∀ b, b < 13 → a ≠ b → (TX9 a).2.1 ≠ (TX9 b).2.1 := by decide +kernel
theorem tyX9_ok : ∀ k, k < 13 → parseFieldDescriptor (TX9 k).2.2.1 = some (tyX9 k) := by decide +kernel
abbrev cX9_init : ByteArray := prog_11_method_1_code
def yX9_init : MethodName := ⟨RX9, "<init>", "()V"⟩
abbrev cX9_isIn : ByteArray := prog_11_method_2_code
def yX9_isIn : MethodName := ⟨RX9, "isIn", "(III)Z"⟩
abbrev cX9_held : ByteArray := prog_11_method_3_code
def yX9_held : MethodName := ⟨RX9, "held", "(I)I"⟩
abbrev cX9_copies : ByteArray := prog_11_method_4_code
def yX9_copies : MethodName := ⟨RX9, "copies", "([I[I)V"⟩
abbrev cX9_no : ByteArray := prog_11_method_5_code
def yX9_no : MethodName := ⟨RX9, "no", "(I)I"⟩
abbrev cX9_noFar : ByteArray := prog_11_method_6_code
def yX9_noFar : MethodName := ⟨RX9, "noFar", "(I)I"⟩
abbrev cX9_noWide : ByteArray := prog_11_method_7_code
def yX9_noWide : MethodName := ⟨RX9, "noWide", "(I)J"⟩
abbrev cX9_ofT : ByteArray := prog_11_method_8_code
def yX9_ofT : MethodName := ⟨RX9, "ofT", "(II)I"⟩
abbrev cX9_ofP : ByteArray := prog_11_method_9_code
def yX9_ofP : MethodName := ⟨RX9, "ofP", "(II)I"⟩
abbrev cX9_isPot : ByteArray := prog_11_method_10_code
def yX9_isPot : MethodName := ⟨RX9, "isPot", "(I)Z"⟩
abbrev cX9_isPerson : ByteArray := prog_11_method_11_code
def yX9_isPerson : MethodName := ⟨RX9, "isPerson", "(I)Z"⟩
abbrev cX9_has : ByteArray := prog_11_method_12_code
def yX9_has : MethodName := ⟨RX9, "has", "(II)Z"⟩
abbrev cX9_bits : ByteArray := prog_11_method_13_code
def yX9_bits : MethodName := ⟨RX9, "bits", "(I)I"⟩
abbrev cX9_off : ByteArray := prog_11_method_14_code
def yX9_off : MethodName := ⟨RX9, "off", "(II)I"⟩
abbrev cX9_gainsIn : ByteArray := prog_11_method_15_code
def yX9_gainsIn : MethodName := ⟨RX9, "gainsIn", "([III)I"⟩
abbrev cX9_wishedOff : ByteArray := prog_11_method_16_code
def yX9_wishedOff : MethodName := ⟨RX9, "wishedOff", "([III)I"⟩
abbrev cX9_opensIn : ByteArray := prog_11_method_17_code
def yX9_opensIn : MethodName := ⟨RX9, "opensIn", "([II)I"⟩
abbrev cX9_year : ByteArray := prog_11_method_18_code
def yX9_year : MethodName := ⟨RX9, "year", "([I)V"⟩
abbrev cX9_yearsOn : ByteArray := prog_11_method_19_code
def yX9_yearsOn : MethodName := ⟨RX9, "yearsOn", "([II)V"⟩
abbrev cX9_allGrace : ByteArray := prog_11_method_20_code
def yX9_allGrace : MethodName := ⟨RX9, "allGrace", "([I)I"⟩
abbrev cX9_letter : ByteArray := prog_11_method_21_code
def yX9_letter : MethodName := ⟨RX9, "letter", "(I)I"⟩
abbrev cX9_here : ByteArray := prog_11_method_22_code
def yX9_here : MethodName := ⟨RX9, "here", "()I"⟩
abbrev cX9_readsNumber : ByteArray := prog_11_method_23_code
def yX9_readsNumber : MethodName := ⟨RX9, "readsNumber", "(II)Z"⟩
abbrev cX9_kindBy : ByteArray := prog_11_method_24_code
def yX9_kindBy : MethodName := ⟨RX9, "kindBy", "(I)I"⟩
abbrev cX9_readsKind : ByteArray := prog_11_method_25_code
def yX9_readsKind : MethodName := ⟨RX9, "readsKind", "()Z"⟩
abbrev cX9_readsStatement : ByteArray := prog_11_method_26_code
def yX9_readsStatement : MethodName := ⟨RX9, "readsStatement", "()Z"⟩
abbrev cX9_addsPot : ByteArray := prog_11_method_27_code
def yX9_addsPot : MethodName := ⟨RX9, "addsPot", "()Z"⟩
abbrev cX9_isDone : ByteArray := prog_11_method_28_code
def yX9_isDone : MethodName := ⟨RX9, "isDone", "(I)Z"⟩
abbrev cX9_village : ByteArray := prog_11_method_29_code
def yX9_village : MethodName := ⟨RX9, "village", "()I"⟩
abbrev cX9_pot : ByteArray := prog_11_method_30_code
def yX9_pot : MethodName := ⟨RX9, "pot", "(II)I"⟩
abbrev cX9_potsOf : ByteArray := prog_11_method_31_code
def yX9_potsOf : MethodName := ⟨RX9, "potsOf", "(I)I"⟩
abbrev cX9_person : ByteArray := prog_11_method_32_code
def yX9_person : MethodName := ⟨RX9, "person", "(II)I"⟩
abbrev cX9_gains : ByteArray := prog_11_method_33_code
def yX9_gains : MethodName := ⟨RX9, "gains", "(II)I"⟩
abbrev cX9_labels : ByteArray := prog_11_method_34_code
def yX9_labels : MethodName := ⟨RX9, "labels", "(II)I"⟩
abbrev cX9_gives : ByteArray := prog_11_method_35_code
def yX9_gives : MethodName := ⟨RX9, "gives", "(II)I"⟩
abbrev cX9_likes : ByteArray := prog_11_method_36_code
def yX9_likes : MethodName := ⟨RX9, "likes", "(II)I"⟩
abbrev cX9_wrongBy : ByteArray := prog_11_method_37_code
def yX9_wrongBy : MethodName := ⟨RX9, "wrongBy", "(III)I"⟩
abbrev cX9_fills : ByteArray := prog_11_method_38_code
def yX9_fills : MethodName := ⟨RX9, "fills", "(II)I"⟩
abbrev cX9_turn : ByteArray := prog_11_method_39_code
def yX9_turn : MethodName := ⟨RX9, "turn", "(III)I"⟩
abbrev cX9_years : ByteArray := prog_11_method_40_code
def yX9_years : MethodName := ⟨RX9, "years", "(I)I"⟩
abbrev cX9_takes : ByteArray := prog_11_method_41_code
def yX9_takes : MethodName := ⟨RX9, "takes", "(I)V"⟩
abbrev cX9_personThen : ByteArray := prog_11_method_42_code
def yX9_personThen : MethodName := ⟨RX9, "personThen", "(III)I"⟩
abbrev cX9_fullThen : ByteArray := prog_11_method_43_code
def yX9_fullThen : MethodName := ⟨RX9, "fullThen", "(II)I"⟩
abbrev cX9_graceThen : ByteArray := prog_11_method_44_code
def yX9_graceThen : MethodName := ⟨RX9, "graceThen", "(I)I"⟩
abbrev cX9_whenGone : ByteArray := prog_11_method_45_code
def yX9_whenGone : MethodName := ⟨RX9, "whenGone", "(I)I"⟩
abbrev cX9_firstGone : ByteArray := prog_11_method_46_code
def yX9_firstGone : MethodName := ⟨RX9, "firstGone", "()I"⟩
abbrev cX9_graceless : ByteArray := prog_11_method_47_code
def yX9_graceless : MethodName := ⟨RX9, "graceless", "(I)I"⟩
abbrev cX9_empties : ByteArray := prog_11_method_48_code
def yX9_empties : MethodName := ⟨RX9, "empties", "(I)I"⟩
abbrev cX9_label : ByteArray := prog_11_method_49_code
def yX9_label : MethodName := ⟨RX9, "label", "(II)I"⟩
abbrev cX9_honestOnes : ByteArray := prog_11_method_50_code
def yX9_honestOnes : MethodName := ⟨RX9, "honestOnes", "()I"⟩
abbrev cX9_hopefulOnes : ByteArray := prog_11_method_51_code
def yX9_hopefulOnes : MethodName := ⟨RX9, "hopefulOnes", "()I"⟩
abbrev cX9_honest : ByteArray := prog_11_method_52_code
def yX9_honest : MethodName := ⟨RX9, "honest", "(I)I"⟩
abbrev cX9_graceNow : ByteArray := prog_11_method_53_code
def yX9_graceNow : MethodName := ⟨RX9, "graceNow", "(I)I"⟩
abbrev cX9_audit : ByteArray := prog_11_method_54_code
def yX9_audit : MethodName := ⟨RX9, "audit", "(II)I"⟩
abbrev cX9_change : ByteArray := prog_11_method_55_code
def yX9_change : MethodName := ⟨RX9, "change", "(I)I"⟩
abbrev cX9_graceGiven : ByteArray := prog_11_method_56_code
def yX9_graceGiven : MethodName := ⟨RX9, "graceGiven", "(III)I"⟩
abbrev cX9_gift : ByteArray := prog_11_method_57_code
def yX9_gift : MethodName := ⟨RX9, "gift", "(I)I"⟩
abbrev cX9_dealtTo : ByteArray := prog_11_method_58_code
def yX9_dealtTo : MethodName := ⟨RX9, "dealtTo", "(I)I"⟩
abbrev cX9_deal : ByteArray := prog_11_method_59_code
def yX9_deal : MethodName := ⟨RX9, "deal", "(I)I"⟩
abbrev cX9_gainsOwner : ByteArray := prog_11_method_60_code
def yX9_gainsOwner : MethodName := ⟨RX9, "gainsOwner", "(I)I"⟩
abbrev cX9_worst : ByteArray := prog_11_method_61_code
def yX9_worst : MethodName := ⟨RX9, "worst", "(I)I"⟩
abbrev cX9_trust : ByteArray := prog_11_method_62_code
def yX9_trust : MethodName := ⟨RX9, "trust", "(I)I"⟩
abbrev cX9_shelf : ByteArray := prog_11_method_63_code
def yX9_shelf : MethodName := ⟨RX9, "shelf", "(II)I"⟩
abbrev cX9_spoonsOf : ByteArray := prog_11_method_64_code
def yX9_spoonsOf : MethodName := ⟨RX9, "spoonsOf", "(I)I"⟩
abbrev cX9_sorts : ByteArray := prog_11_method_65_code
def yX9_sorts : MethodName := ⟨RX9, "sorts", "(I)I"⟩
abbrev cX9_isNobodyGraceless : ByteArray := prog_11_method_66_code
def yX9_isNobodyGraceless : MethodName := ⟨RX9, "isNobodyGraceless", "(I)Z"⟩
abbrev cX9_fewest : ByteArray := prog_11_method_67_code
def yX9_fewest : MethodName := ⟨RX9, "fewest", "(I)I"⟩
abbrev cX9_warn : ByteArray := prog_11_method_68_code
def yX9_warn : MethodName := ⟨RX9, "warn", "(II)I"⟩
abbrev cX9_heir : ByteArray := prog_11_method_69_code
def yX9_heir : MethodName := ⟨RX9, "heir", "(II)I"⟩
abbrev cX9_leadBy : ByteArray := prog_11_method_70_code
def yX9_leadBy : MethodName := ⟨RX9, "leadBy", "(IIIIIII)I"⟩
abbrev cX9_two : ByteArray := prog_11_method_71_code
def yX9_two : MethodName := ⟨RX9, "two", "(III)I"⟩
abbrev cX9_gcd : ByteArray := prog_11_method_72_code
def yX9_gcd : MethodName := ⟨RX9, "gcd", "(JJ)J"⟩
abbrev cX9_partOf : ByteArray := prog_11_method_73_code
def yX9_partOf : MethodName := ⟨RX9, "partOf", "(JJI)J"⟩
abbrev cX9_errsIn : ByteArray := prog_11_method_74_code
def yX9_errsIn : MethodName := ⟨RX9, "errsIn", "([I)V"⟩
abbrev cX9_errs : ByteArray := prog_11_method_75_code
def yX9_errs : MethodName := ⟨RX9, "errs", "(IIIII)J"⟩
abbrev cX9_mean : ByteArray := prog_11_method_76_code
def yX9_mean : MethodName := ⟨RX9, "mean", "(I)J"⟩
abbrev cX9_whatIn : ByteArray := prog_11_method_77_code
def yX9_whatIn : MethodName := ⟨RX9, "whatIn", "(II)I"⟩
abbrev cX9_row : ByteArray := prog_11_method_78_code
def yX9_row : MethodName := ⟨RX9, "row", "(I)I"⟩
abbrev cX9_judge : ByteArray := prog_11_method_79_code
def yX9_judge : MethodName := ⟨RX9, "judge", "()I"⟩
abbrev cX9_clear : ByteArray := prog_11_method_80_code
def yX9_clear : MethodName := ⟨RX9, "clear", "()I"⟩
abbrev cX9_drawn : ByteArray := prog_11_method_81_code
def yX9_drawn : MethodName := ⟨RX9, "drawn", "(I)I"⟩
abbrev cX9_lots : ByteArray := prog_11_method_82_code
def yX9_lots : MethodName := ⟨RX9, "lots", "(III)I"⟩
abbrev cX9_image : ByteArray := prog_11_method_83_code
def yX9_image : MethodName := ⟨RX9, "image", "()I"⟩
abbrev cX9_on : ByteArray := prog_11_method_84_code
def yX9_on : MethodName := ⟨RX9, "on", "()I"⟩
abbrev cX9_count : ByteArray := prog_11_method_85_code
def yX9_count : MethodName := ⟨RX9, "count", "(I)I"⟩
def RJ11 : String := "java/lang/Character"
abbrev cJ11_isValidCodePoint_9a6ad : ByteArray := prog_12_method_11_code
def yJ11_isValidCodePoint_9a6ad : MethodName := ⟨RJ11, "isValidCodePoint", "(I)Z"⟩
abbrev cJ11_highSurrogate_5068e : ByteArray := prog_12_method_28_code
def yJ11_highSurrogate_5068e : MethodName := ⟨RJ11, "highSurrogate", "(I)C"⟩
abbrev cJ11_lowSurrogate_5068e : ByteArray := prog_12_method_29_code
def yJ11_lowSurrogate_5068e : MethodName := ⟨RJ11, "lowSurrogate", "(I)C"⟩
def RJ6 : String := "java/lang/Integer"
abbrev cJ6_bitCount_0f7a4 : ByteArray := prog_13_method_49_code
def yJ6_bitCount_0f7a4 : MethodName := ⟨RJ6, "bitCount", "(I)I"⟩
def RJ9 : String := "java/lang/Math"
abbrev cJ9_abs_0f7a4 : ByteArray := prog_14_method_59_code
def yJ9_abs_0f7a4 : MethodName := ⟨RJ9, "abs", "(I)I"⟩
abbrev cJ9_max_7cf53 : ByteArray := prog_14_method_65_code
def yJ9_max_7cf53 : MethodName := ⟨RJ9, "max", "(II)I"⟩
abbrev cJ9_max_f86c9 : ByteArray := prog_14_method_66_code
def yJ9_max_f86c9 : MethodName := ⟨RJ9, "max", "(JJ)J"⟩
abbrev cJ9_min_7cf53 : ByteArray := prog_14_method_69_code
def yJ9_min_7cf53 : MethodName := ⟨RJ9, "min", "(II)I"⟩
def RJ0 : String := "java/lang/String"
abbrev cJ0_length_8abf5 : ByteArray := prog_15_method_54_code
def yJ0_length_8abf5 : MethodName := ⟨RJ0, "length", "()I"⟩
abbrev cJ0_indexOf_0f7a4 : ByteArray := prog_15_method_79_code
def yJ0_indexOf_0f7a4 : MethodName := ⟨RJ0, "indexOf", "(I)I"⟩
abbrev cJ0_indexOf_7cf53 : ByteArray := prog_15_method_80_code
def yJ0_indexOf_7cf53 : MethodName := ⟨RJ0, "indexOf", "(II)I"⟩
abbrev cJ0_coder_7d493 : ByteArray := prog_15_method_152_code
def yJ0_coder_7d493 : MethodName := ⟨RJ0, "coder", "()B"⟩
abbrev cJ0_isLatin1_aae02 : ByteArray := prog_15_method_154_code
def yJ0_isLatin1_aae02 : MethodName := ⟨RJ0, "isLatin1", "()Z"⟩
abbrev cJ0_checkBoundsBeginEnd_23922 : ByteArray := prog_15_method_158_code
def yJ0_checkBoundsBeginEnd_23922 : MethodName := ⟨RJ0, "checkBoundsBeginEnd", "(III)V"⟩
def RJ1 : String := "java/lang/StringLatin1"
abbrev cJ1_canEncode_9a6ad : ByteArray := prog_16_method_4_code
def yJ1_canEncode_9a6ad : MethodName := ⟨RJ1, "canEncode", "(I)Z"⟩
abbrev cJ1_indexOf_4cfef : ByteArray := prog_16_method_22_code
def yJ1_indexOf_4cfef : MethodName := ⟨RJ1, "indexOf", "([BIII)I"⟩
abbrev cJ1_indexOfChar_4cfef : ByteArray := prog_16_method_23_code
def yJ1_indexOfChar_4cfef : MethodName := ⟨RJ1, "indexOfChar", "([BIII)I"⟩
def RJ2 : String := "java/lang/StringUTF16"
abbrev cJ2_getChar_3b067 : ByteArray := prog_17_method_5_code
def yJ2_getChar_3b067 : MethodName := ⟨RJ2, "getChar", "([BI)C"⟩
abbrev cJ2_length_9d52b : ByteArray := prog_17_method_6_code
def yJ2_length_9d52b : MethodName := ⟨RJ2, "length", "([B)I"⟩
abbrev cJ2_indexOf_4cfef : ByteArray := prog_17_method_40_code
def yJ2_indexOf_4cfef : MethodName := ⟨RJ2, "indexOf", "([BIII)I"⟩
abbrev cJ2_indexOfChar_4cfef : ByteArray := prog_17_method_47_code
def yJ2_indexOfChar_4cfef : MethodName := ⟨RJ2, "indexOfChar", "([BIII)I"⟩
abbrev cJ2_indexOfCharUnsafe_4cfef : ByteArray := prog_17_method_48_code
def yJ2_indexOfCharUnsafe_4cfef : MethodName := ⟨RJ2, "indexOfCharUnsafe", "([BIII)I"⟩
abbrev cJ2_indexOfSupplementary_4cfef : ByteArray := prog_17_method_49_code
def yJ2_indexOfSupplementary_4cfef : MethodName := ⟨RJ2, "indexOfSupplementary", "([BIII)I"⟩
abbrev cJ2_checkBoundsBeginEnd_d044e : ByteArray := prog_17_method_93_code
def yJ2_checkBoundsBeginEnd_d044e : MethodName := ⟨RJ2, "checkBoundsBeginEnd", "(II[B)V"⟩
def RJ10 : String := "java/lang/System"
def RJ3 : String := "jdk/internal/util/Preconditions"
abbrev cJ3_checkFromToIndex_8c36e : ByteArray := prog_19_method_12_code
def yJ3_checkFromToIndex_8c36e : MethodName := ⟨RJ3, "checkFromToIndex", "(IIILjava/util/function/BiFunction;)I"⟩
def RL : String := "LabelsByAnotherHandLaw"
abbrev cL_law : ByteArray := code
abbrev vwCl : List vw_C := [(RX0, TX0, 0), (RX1, TX1, 0), (RX2, TX2, 0), (RX3, TX3, 0), (RX4, TX4, 2), (RX5, TX5, 0), (RX6, TX6, 0), (RX7, TX7, 12), (RX8, TX8, 8), (RX9, TX9, 13)]
theorem lb_inl0 : ∀ w ∈ u_ws RX0 TX0 0, w ∈ lw_tbl := by decide +kernel
theorem lb_inl1 : ∀ w ∈ u_ws RX1 TX1 0, w ∈ lw_tbl := by decide +kernel
theorem lb_inl2 : ∀ w ∈ u_ws RX2 TX2 0, w ∈ lw_tbl := by decide +kernel
theorem lb_inl3 : ∀ w ∈ u_ws RX3 TX3 0, w ∈ lw_tbl := by decide +kernel
theorem lb_inl4 : ∀ w ∈ u_ws RX4 TX4 2, w ∈ lw_tbl := by decide +kernel
theorem lb_inl5 : ∀ w ∈ u_ws RX5 TX5 0, w ∈ lw_tbl := by decide +kernel
theorem lb_inl6 : ∀ w ∈ u_ws RX6 TX6 0, w ∈ lw_tbl := by decide +kernel
theorem lb_inl7 : ∀ w ∈ u_ws RX7 TX7 12, w ∈ lw_tbl := by decide +kernel
theorem lb_inl8 : ∀ w ∈ u_ws RX8 TX8 8, w ∈ lw_tbl := by decide +kernel
theorem lb_inl9 : ∀ w ∈ u_ws RX9 TX9 13, w ∈ lw_tbl := by decide +kernel
end
section
def lb_tbl : List Cond := lw_tbl.filter goodWord
theorem lb_all : ∀ w ∈ lb_tbl, goodWord w = true := fun w h => (List.mem_filter.mp h).2
theorem lb_sub : ∀ w ∈ lb_tbl, w ∈ lw_tbl := fun w h => (List.mem_filter.mp h).1
theorem lb_mem0 {w : Cond} {i : Nat} (h : (k2_sels lw_privs)[i]? = some w) (g : goodWord w = true) : w ∈ lb_tbl := List.mem_filter.mpr ⟨(fun (h : w ∈ k2_sels lw_privs) => (show w ∈ k2_sels lw_privs ++ (tables_1_1 ++ (tables_1_2 ++ (tables_1_3 ++ (tables_1_4 ++ (tables_1_5))))) from List.mem_append_left _ h)) (List.mem_of_getElem? h), g⟩
theorem lb_mem1 {w : Cond} {i : Nat} (h : (tables_1_1)[i]? = some w) (g : goodWord w = true) : w ∈ lb_tbl := List.mem_filter.mpr ⟨(fun (h : w ∈ tables_1_1) => (show w ∈ k2_sels lw_privs ++ (tables_1_1 ++ (tables_1_2 ++ (tables_1_3 ++ (tables_1_4 ++ (tables_1_5))))) from List.mem_append_right _ (List.mem_append_left _ h))) (List.mem_of_getElem? h), g⟩
theorem lb_mem2 {w : Cond} {i : Nat} (h : (tables_1_2)[i]? = some w) (g : goodWord w = true) : w ∈ lb_tbl := List.mem_filter.mpr ⟨(fun (h : w ∈ tables_1_2) => (show w ∈ k2_sels lw_privs ++ (tables_1_1 ++ (tables_1_2 ++ (tables_1_3 ++ (tables_1_4 ++ (tables_1_5))))) from List.mem_append_right _ (List.mem_append_right _ (List.mem_append_left _ h)))) (List.mem_of_getElem? h), g⟩
theorem lb_mem3 {w : Cond} {i : Nat} (h : (tables_1_3)[i]? = some w) (g : goodWord w = true) : w ∈ lb_tbl := List.mem_filter.mpr ⟨(fun (h : w ∈ tables_1_3) => (show w ∈ k2_sels lw_privs ++ (tables_1_1 ++ (tables_1_2 ++ (tables_1_3 ++ (tables_1_4 ++ (tables_1_5))))) from List.mem_append_right _ (List.mem_append_right _ (List.mem_append_right _ (List.mem_append_left _ h))))) (List.mem_of_getElem? h), g⟩
theorem lb_mem4 {w : Cond} {i : Nat} (h : (tables_1_4)[i]? = some w) (g : goodWord w = true) : w ∈ lb_tbl := List.mem_filter.mpr ⟨(fun (h : w ∈ tables_1_4) => (show w ∈ k2_sels lw_privs ++ (tables_1_1 ++ (tables_1_2 ++ (tables_1_3 ++ (tables_1_4 ++ (tables_1_5))))) from List.mem_append_right _ (List.mem_append_right _ (List.mem_append_right _ (List.mem_append_right _ (List.mem_append_left _ h)))))) (List.mem_of_getElem? h), g⟩
theorem lb_mem5 {w : Cond} {i : Nat} (h : (tables_1_5)[i]? = some w) (g : goodWord w = true) : w ∈ lb_tbl := List.mem_filter.mpr ⟨(fun (h : w ∈ tables_1_5) => (show w ∈ k2_sels lw_privs ++ (tables_1_1 ++ (tables_1_2 ++ (tables_1_3 ++ (tables_1_4 ++ (tables_1_5))))) from List.mem_append_right _ (List.mem_append_right _ (List.mem_append_right _ (List.mem_append_right _ (List.mem_append_right _ (h))))))) (List.mem_of_getElem? h), g⟩
set_option maxRecDepth 20000 in
theorem qw_0 : (Cond.selects RX8 yX8_refuse yX8_refuse) ∈ lb_tbl := lb_mem0 (i := 0) rfl rfl
set_option maxRecDepth 20000 in
theorem qw_1 : (Cond.selects RX8 yX8_potThere yX8_potThere) ∈ lb_tbl := lb_mem0 (i := 1) rfl rfl
set_option maxRecDepth 20000 in
theorem qw_2 : (Cond.selects RX8 yX8_personThere yX8_personThere) ∈ lb_tbl := lb_mem0 (i := 2) rfl rfl
set_option maxRecDepth 20000 in
theorem qw_3 : (Cond.selects RX8 yX8_refuseFar yX8_refuseFar) ∈ lb_tbl := lb_mem0 (i := 3) rfl rfl
set_option maxRecDepth 20000 in
theorem qw_4 : (Cond.selects RX8 yX8_allGraceBehind yX8_allGraceBehind) ∈ lb_tbl := lb_mem0 (i := 4) rfl rfl
set_option maxRecDepth 20000 in
theorem qw_5 : (Cond.selects RX8 yX8_firstGraceless yX8_firstGraceless) ∈ lb_tbl := lb_mem0 (i := 5) rfl rfl
set_option maxRecDepth 20000 in
theorem qw_6 : (Cond.selects RX8 yX8_allGraceChanged yX8_allGraceChanged) ∈ lb_tbl := lb_mem0 (i := 6) rfl rfl
set_option maxRecDepth 20000 in
theorem qw_7 : (Cond.selects RX8 yX8_allGraceGiven yX8_allGraceGiven) ∈ lb_tbl := lb_mem0 (i := 7) rfl rfl
set_option maxRecDepth 20000 in
theorem qw_8 : (Cond.selects RX8 yX8_whoGainsMost yX8_whoGainsMost) ∈ lb_tbl := lb_mem0 (i := 8) rfl rfl
set_option maxRecDepth 20000 in
theorem qw_9 : (Cond.selects RX8 yX8_fewestOf yX8_fewestOf) ∈ lb_tbl := lb_mem0 (i := 9) rfl rfl
set_option maxRecDepth 20000 in
theorem qw_10 : (Cond.selects RX8 yX8_keepsGrace yX8_keepsGrace) ∈ lb_tbl := lb_mem0 (i := 10) rfl rfl
set_option maxRecDepth 20000 in
theorem qw_11 : (Cond.selects RX8 yX8_graceBehind yX8_graceBehind) ∈ lb_tbl := lb_mem0 (i := 11) rfl rfl
set_option maxRecDepth 20000 in
theorem qw_12 : (Cond.selects RX8 yX8_ownersGraceWithout yX8_ownersGraceWithout) ∈ lb_tbl := lb_mem0 (i := 12) rfl rfl
set_option maxRecDepth 20000 in
theorem qw_13 : (Cond.selects RX8 yX8_isBetterWithout yX8_isBetterWithout) ∈ lb_tbl := lb_mem0 (i := 13) rfl rfl
set_option maxRecDepth 20000 in
theorem qw_14 : (Cond.selects RX8 yX8_refuseFarthest yX8_refuseFarthest) ∈ lb_tbl := lb_mem0 (i := 14) rfl rfl
set_option maxRecDepth 20000 in
theorem qw_15 : (Cond.selects RX8 yX8_graceIfErring yX8_graceIfErring) ∈ lb_tbl := lb_mem0 (i := 15) rfl rfl
set_option maxRecDepth 20000 in
theorem qw_16 : (Cond.selects RX8 yX8_goesAsRow yX8_goesAsRow) ∈ lb_tbl := lb_mem0 (i := 16) rfl rfl
set_option maxRecDepth 20000 in
theorem qw_17 : (Cond.selects RX9 yX9_no yX9_no) ∈ lb_tbl := lb_mem0 (i := 17) rfl rfl
set_option maxRecDepth 20000 in
theorem qw_18 : (Cond.selects RX9 yX9_readsStatement yX9_readsStatement) ∈ lb_tbl := lb_mem0 (i := 18) rfl rfl
set_option maxRecDepth 20000 in
theorem qw_19 : (Cond.selects RX9 yX9_here yX9_here) ∈ lb_tbl := lb_mem0 (i := 19) rfl rfl
set_option maxRecDepth 20000 in
theorem qw_20 : (Cond.selects RX9 yX9_readsNumber yX9_readsNumber) ∈ lb_tbl := lb_mem0 (i := 20) rfl rfl
set_option maxRecDepth 20000 in
theorem qw_21 : (Cond.selects RX9 yX9_readsKind yX9_readsKind) ∈ lb_tbl := lb_mem0 (i := 21) rfl rfl
set_option maxRecDepth 20000 in
theorem qw_22 : (Cond.selects RX9 yX9_isDone yX9_isDone) ∈ lb_tbl := lb_mem0 (i := 22) rfl rfl
set_option maxRecDepth 20000 in
theorem qw_23 : (Cond.selects RX9 yX9_addsPot yX9_addsPot) ∈ lb_tbl := lb_mem0 (i := 23) rfl rfl
set_option maxRecDepth 20000 in
theorem qw_24 : (Cond.selects RX9 yX9_isPerson yX9_isPerson) ∈ lb_tbl := lb_mem0 (i := 24) rfl rfl
set_option maxRecDepth 20000 in
theorem qw_25 : (Cond.selects RX9 yX9_isPot yX9_isPot) ∈ lb_tbl := lb_mem0 (i := 25) rfl rfl
set_option maxRecDepth 20000 in
theorem qw_26 : (Cond.selects RX9 yX9_potsOf yX9_potsOf) ∈ lb_tbl := lb_mem0 (i := 26) rfl rfl
set_option maxRecDepth 20000 in
theorem qw_27 : (Cond.selects RX9 yX9_noFar yX9_noFar) ∈ lb_tbl := lb_mem0 (i := 27) rfl rfl
set_option maxRecDepth 20000 in
theorem qw_28 : (Cond.selects RX9 yX9_takes yX9_takes) ∈ lb_tbl := lb_mem0 (i := 28) rfl rfl
set_option maxRecDepth 20000 in
theorem qw_29 : (Cond.selects RX9 yX9_firstGone yX9_firstGone) ∈ lb_tbl := lb_mem0 (i := 29) rfl rfl
set_option maxRecDepth 20000 in
theorem qw_30 : (Cond.selects RX9 yX9_whenGone yX9_whenGone) ∈ lb_tbl := lb_mem0 (i := 30) rfl rfl
set_option maxRecDepth 20000 in
theorem qw_31 : (Cond.selects RX9 yX9_honestOnes yX9_honestOnes) ∈ lb_tbl := lb_mem0 (i := 31) rfl rfl
set_option maxRecDepth 20000 in
theorem qw_32 : (Cond.selects RX9 yX9_hopefulOnes yX9_hopefulOnes) ∈ lb_tbl := lb_mem0 (i := 32) rfl rfl
set_option maxRecDepth 20000 in
theorem qw_33 : (Cond.selects RX9 yX9_graceNow yX9_graceNow) ∈ lb_tbl := lb_mem0 (i := 33) rfl rfl
set_option maxRecDepth 20000 in
theorem qw_34 : (Cond.selects RX9 yX9_graceGiven yX9_graceGiven) ∈ lb_tbl := lb_mem0 (i := 34) rfl rfl
set_option maxRecDepth 20000 in
theorem qw_35 : (Cond.selects RX9 yX9_dealtTo yX9_dealtTo) ∈ lb_tbl := lb_mem0 (i := 35) rfl rfl
set_option maxRecDepth 20000 in
theorem qw_36 : (Cond.selects RX9 yX9_gainsOwner yX9_gainsOwner) ∈ lb_tbl := lb_mem0 (i := 36) rfl rfl
set_option maxRecDepth 20000 in
theorem qw_37 : (Cond.selects RX9 yX9_spoonsOf yX9_spoonsOf) ∈ lb_tbl := lb_mem0 (i := 37) rfl rfl
set_option maxRecDepth 20000 in
theorem qw_38 : (Cond.selects RX9 yX9_isNobodyGraceless yX9_isNobodyGraceless) ∈ lb_tbl := lb_mem0 (i := 38) rfl rfl
set_option maxRecDepth 20000 in
theorem qw_39 : (Cond.selects RX9 yX9_leadBy yX9_leadBy) ∈ lb_tbl := lb_mem0 (i := 39) rfl rfl
set_option maxRecDepth 20000 in
theorem qw_40 : (Cond.selects RX9 yX9_noWide yX9_noWide) ∈ lb_tbl := lb_mem0 (i := 40) rfl rfl
set_option maxRecDepth 20000 in
theorem qw_41 : (Cond.selects RX9 yX9_drawn yX9_drawn) ∈ lb_tbl := lb_mem0 (i := 41) rfl rfl
set_option maxRecDepth 20000 in
theorem qw_42 : (Cond.initialized RL) ∈ lb_tbl := lb_mem1 (i := 0) rfl rfl
set_option maxRecDepth 20000 in
theorem qw_43 : (Cond.initialized RX8) ∈ lb_tbl := lb_mem1 (i := 1) rfl rfl
set_option maxRecDepth 20000 in
theorem qw_44 : (Cond.initialized RX7) ∈ lb_tbl := lb_mem1 (i := 2) rfl rfl
set_option maxRecDepth 20000 in
theorem qw_45 : (Cond.initialized RX3) ∈ lb_tbl := lb_mem1 (i := 3) rfl rfl
set_option maxRecDepth 20000 in
theorem qw_46 : (Cond.initialized RX6) ∈ lb_tbl := lb_mem1 (i := 4) rfl rfl
set_option maxRecDepth 20000 in
theorem qw_47 : (Cond.initialized RX5) ∈ lb_tbl := lb_mem1 (i := 5) rfl rfl
set_option maxRecDepth 20000 in
theorem qw_48 : (Cond.initialized RX0) ∈ lb_tbl := lb_mem1 (i := 6) rfl rfl
set_option maxRecDepth 20000 in
theorem qw_49 : (Cond.initialized RX2) ∈ lb_tbl := lb_mem1 (i := 7) rfl rfl
set_option maxRecDepth 20000 in
theorem qw_50 : (Cond.initialized RX1) ∈ lb_tbl := lb_mem1 (i := 8) rfl rfl
set_option maxRecDepth 20000 in
theorem qw_51 : (Cond.initialized RX4) ∈ lb_tbl := lb_mem1 (i := 9) rfl rfl
set_option maxRecDepth 20000 in
theorem qw_52 : (Cond.initialized RX9) ∈ lb_tbl := lb_mem1 (i := 10) rfl rfl
set_option maxRecDepth 20000 in
theorem qw_53 : (Cond.initialized RJ0) ∈ lb_tbl := lb_mem1 (i := 11) rfl rfl
set_option maxRecDepth 20000 in
theorem qw_54 : (Cond.initialized RJ1) ∈ lb_tbl := lb_mem1 (i := 12) rfl rfl
set_option maxRecDepth 20000 in
theorem qw_55 : (Cond.initialized RJ9) ∈ lb_tbl := lb_mem1 (i := 13) rfl rfl
set_option maxRecDepth 20000 in
theorem qw_56 : (Cond.initialized RJ2) ∈ lb_tbl := lb_mem1 (i := 14) rfl rfl
set_option maxRecDepth 20000 in
theorem qw_57 : (Cond.initialized RJ3) ∈ lb_tbl := lb_mem1 (i := 15) rfl rfl
set_option maxRecDepth 20000 in
theorem qw_58 : (Cond.initialized RJ11) ∈ lb_tbl := lb_mem1 (i := 16) rfl rfl
set_option maxRecDepth 20000 in
theorem qw_59 : (Cond.initialized RJ10) ∈ lb_tbl := lb_mem1 (i := 17) rfl rfl
set_option maxRecDepth 20000 in
theorem qw_60 : (Cond.initialized RJ6) ∈ lb_tbl := lb_mem1 (i := 18) rfl rfl
set_option maxRecDepth 20000 in
theorem qw_61 : (Cond.classLink RL 7 RX8) ∈ lb_tbl := lb_mem1 (i := 19) rfl rfl
set_option maxRecDepth 20000 in
theorem qw_62 : (Cond.instantiable RX8 8) ∈ lb_tbl := lb_mem1 (i := 20) rfl rfl
set_option maxRecDepth 20000 in
theorem qw_63 : (Cond.methodLink RL 9 yX8_init) ∈ lb_tbl := lb_mem1 (i := 21) rfl rfl
set_option maxRecDepth 20000 in
theorem qw_64 : (Cond.instanceMethod yX8_init) ∈ lb_tbl := lb_mem1 (i := 22) rfl rfl
set_option maxRecDepth 20000 in
theorem qw_65 : (Cond.code yX8_init cX8_init 1 none) ∈ lb_tbl := lb_mem1 (i := 23) rfl rfl
set_option maxRecDepth 20000 in
theorem qw_66 : (Cond.methodLink RX8 1 ⟨"java/lang/Object", "<init>", "()V"⟩) ∈ lb_tbl := lb_mem1 (i := 24) rfl rfl
set_option maxRecDepth 20000 in
theorem qw_67 : (Cond.instanceMethod ⟨"java/lang/Object", "<init>", "()V"⟩) ∈ lb_tbl := lb_mem1 (i := 25) rfl rfl
set_option maxRecDepth 20000 in
theorem qw_68 : (Cond.code ⟨"java/lang/Object", "<init>", "()V"⟩ object_method_1_code 1 none) ∈ lb_tbl := lb_mem1 (i := 26) rfl rfl
set_option maxRecDepth 20000 in
theorem qw_69 : (Cond.classLink RX8 7 RX7) ∈ lb_tbl := lb_mem1 (i := 27) rfl rfl
set_option maxRecDepth 20000 in
theorem qw_70 : (Cond.instantiable RX7 12) ∈ lb_tbl := lb_mem1 (i := 28) rfl rfl
set_option maxRecDepth 20000 in
theorem qw_71 : (Cond.methodLink RX8 9 yX7_init) ∈ lb_tbl := lb_mem1 (i := 29) rfl rfl
set_option maxRecDepth 20000 in
theorem qw_72 : (Cond.instanceMethod yX7_init) ∈ lb_tbl := lb_mem1 (i := 30) rfl rfl
set_option maxRecDepth 20000 in
theorem qw_73 : (Cond.code yX7_init cX7_init 1 none) ∈ lb_tbl := lb_mem1 (i := 31) rfl rfl
set_option maxRecDepth 20000 in
theorem qw_74 : (Cond.methodLink RX7 3 ⟨"java/lang/Object", "<init>", "()V"⟩) ∈ lb_tbl := lb_mem1 (i := 32) rfl rfl
set_option maxRecDepth 20000 in
theorem qw_75 : (Cond.classLink RX7 9 RX3) ∈ lb_tbl := lb_mem1 (i := 33) rfl rfl
set_option maxRecDepth 20000 in
theorem qw_77 : (Cond.instantiable RX3 0) ∈ lb_tbl := lb_mem1 (i := 35) rfl rfl
set_option maxRecDepth 20000 in
theorem qw_78 : (Cond.methodLink RX7 11 yX3_init) ∈ lb_tbl := lb_mem1 (i := 36) rfl rfl
set_option maxRecDepth 20000 in
theorem qw_79 : (Cond.instanceMethod yX3_init) ∈ lb_tbl := lb_mem1 (i := 37) rfl rfl
set_option maxRecDepth 20000 in
theorem qw_80 : (Cond.code yX3_init cX3_init 1 none) ∈ lb_tbl := lb_mem1 (i := 38) rfl rfl
set_option maxRecDepth 20000 in
theorem qw_81 : (Cond.methodLink RX3 1 ⟨"java/lang/Object", "<init>", "()V"⟩) ∈ lb_tbl := lb_mem1 (i := 39) rfl rfl
set_option maxRecDepth 20000 in
theorem qw_82 : (Cond.superclass RX3 "java/lang/Object") ∈ lb_tbl := lb_mem1 (i := 40) rfl rfl
set_option maxRecDepth 20000 in
theorem qw_83 : (Cond.classLink RX7 12 RX6) ∈ lb_tbl := lb_mem1 (i := 41) rfl rfl
set_option maxRecDepth 20000 in
theorem qw_84 : (Cond.instantiable RX6 0) ∈ lb_tbl := lb_mem1 (i := 42) rfl rfl
set_option maxRecDepth 20000 in
theorem qw_85 : (Cond.methodLink RX7 14 yX6_init) ∈ lb_tbl := lb_mem1 (i := 43) rfl rfl
set_option maxRecDepth 20000 in
theorem qw_86 : (Cond.instanceMethod yX6_init) ∈ lb_tbl := lb_mem1 (i := 44) rfl rfl
set_option maxRecDepth 20000 in
theorem qw_87 : (Cond.code yX6_init cX6_init 1 none) ∈ lb_tbl := lb_mem1 (i := 45) rfl rfl
set_option maxRecDepth 20000 in
theorem qw_88 : (Cond.methodLink RX6 1 yX3_init) ∈ lb_tbl := lb_mem1 (i := 46) rfl rfl
set_option maxRecDepth 20000 in
theorem qw_89 : (Cond.superclass RX6 RX3) ∈ lb_tbl := lb_mem1 (i := 47) rfl rfl
set_option maxRecDepth 20000 in
theorem qw_90 : (Cond.classLink RX7 15 RX5) ∈ lb_tbl := lb_mem1 (i := 48) rfl rfl
set_option maxRecDepth 20000 in
theorem qw_91 : (Cond.instantiable RX5 0) ∈ lb_tbl := lb_mem1 (i := 49) rfl rfl
set_option maxRecDepth 20000 in
theorem qw_92 : (Cond.methodLink RX7 17 yX5_init) ∈ lb_tbl := lb_mem1 (i := 50) rfl rfl
set_option maxRecDepth 20000 in
theorem qw_93 : (Cond.instanceMethod yX5_init) ∈ lb_tbl := lb_mem1 (i := 51) rfl rfl
set_option maxRecDepth 20000 in
theorem qw_94 : (Cond.code yX5_init cX5_init 1 none) ∈ lb_tbl := lb_mem1 (i := 52) rfl rfl
set_option maxRecDepth 20000 in
theorem qw_95 : (Cond.methodLink RX5 1 yX3_init) ∈ lb_tbl := lb_mem1 (i := 53) rfl rfl
set_option maxRecDepth 20000 in
theorem qw_96 : (Cond.superclass RX5 RX3) ∈ lb_tbl := lb_mem1 (i := 54) rfl rfl
set_option maxRecDepth 20000 in
theorem qw_97 : (Cond.classLink RX7 18 RX0) ∈ lb_tbl := lb_mem1 (i := 55) rfl rfl
set_option maxRecDepth 20000 in
theorem qw_98 : (Cond.instantiable RX0 0) ∈ lb_tbl := lb_mem1 (i := 56) rfl rfl
set_option maxRecDepth 20000 in
theorem qw_99 : (Cond.methodLink RX7 20 yX0_init) ∈ lb_tbl := lb_mem1 (i := 57) rfl rfl
set_option maxRecDepth 20000 in
theorem qw_100 : (Cond.instanceMethod yX0_init) ∈ lb_tbl := lb_mem1 (i := 58) rfl rfl
set_option maxRecDepth 20000 in
theorem qw_101 : (Cond.code yX0_init cX0_init 1 none) ∈ lb_tbl := lb_mem1 (i := 59) rfl rfl
set_option maxRecDepth 20000 in
theorem qw_102 : (Cond.methodLink RX0 1 yX6_init) ∈ lb_tbl := lb_mem1 (i := 60) rfl rfl
set_option maxRecDepth 20000 in
theorem qw_103 : (Cond.superclass RX0 RX6) ∈ lb_tbl := lb_mem1 (i := 61) rfl rfl
set_option maxRecDepth 20000 in
theorem qw_104 : (Cond.classLink RX7 21 RX2) ∈ lb_tbl := lb_mem1 (i := 62) rfl rfl
set_option maxRecDepth 20000 in
theorem qw_105 : (Cond.instantiable RX2 0) ∈ lb_tbl := lb_mem1 (i := 63) rfl rfl
set_option maxRecDepth 20000 in
theorem qw_106 : (Cond.methodLink RX7 23 yX2_init) ∈ lb_tbl := lb_mem1 (i := 64) rfl rfl
set_option maxRecDepth 20000 in
theorem qw_107 : (Cond.instanceMethod yX2_init) ∈ lb_tbl := lb_mem1 (i := 65) rfl rfl
set_option maxRecDepth 20000 in
theorem qw_108 : (Cond.code yX2_init cX2_init 1 none) ∈ lb_tbl := lb_mem1 (i := 66) rfl rfl
set_option maxRecDepth 20000 in
theorem qw_109 : (Cond.methodLink RX2 1 yX5_init) ∈ lb_tbl := lb_mem1 (i := 67) rfl rfl
set_option maxRecDepth 20000 in
theorem qw_110 : (Cond.superclass RX2 RX5) ∈ lb_tbl := lb_mem1 (i := 68) rfl rfl
set_option maxRecDepth 20000 in
theorem qw_111 : (Cond.classLink RX7 24 RX1) ∈ lb_tbl := lb_mem1 (i := 69) rfl rfl
set_option maxRecDepth 20000 in
theorem qw_112 : (Cond.instantiable RX1 0) ∈ lb_tbl := lb_mem1 (i := 70) rfl rfl
set_option maxRecDepth 20000 in
theorem qw_113 : (Cond.methodLink RX7 26 yX1_init) ∈ lb_tbl := lb_mem1 (i := 71) rfl rfl
set_option maxRecDepth 20000 in
theorem qw_114 : (Cond.instanceMethod yX1_init) ∈ lb_tbl := lb_mem1 (i := 72) rfl rfl
set_option maxRecDepth 20000 in
theorem qw_115 : (Cond.code yX1_init cX1_init 1 none) ∈ lb_tbl := lb_mem1 (i := 73) rfl rfl
set_option maxRecDepth 20000 in
theorem qw_116 : (Cond.methodLink RX1 1 yX3_init) ∈ lb_tbl := lb_mem1 (i := 74) rfl rfl
set_option maxRecDepth 20000 in
theorem qw_117 : (Cond.superclass RX1 RX3) ∈ lb_tbl := lb_mem1 (i := 75) rfl rfl
set_option maxRecDepth 20000 in
theorem qw_118 : (Cond.fieldLink RX7 27 "LabelsByAnotherHand$Village" "kinds" "[LLabelsByAnotherHand$Jam;") ∈ lb_tbl := lb_mem1 (i := 76) rfl rfl
set_option maxRecDepth 20000 in
theorem qw_119 : (Cond.fieldLink RX7 33 "LabelsByAnotherHand$Village" "kind" "[I") ∈ lb_tbl := lb_mem1 (i := 77) rfl rfl
set_option maxRecDepth 20000 in
theorem qw_120 : (Cond.fieldLink RX8 89 "LabelsByAnotherHand$Village" "kind" "[I") ∈ lb_tbl := lb_mem1 (i := 78) rfl rfl
set_option maxRecDepth 20000 in
theorem qw_121 : (Cond.fieldLink RX7 37 "LabelsByAnotherHand$Village" "figure" "[I") ∈ lb_tbl := lb_mem1 (i := 79) rfl rfl
set_option maxRecDepth 20000 in
theorem qw_122 : (Cond.fieldLink RX8 92 "LabelsByAnotherHand$Village" "figure" "[I") ∈ lb_tbl := lb_mem1 (i := 80) rfl rfl
set_option maxRecDepth 20000 in
theorem qw_123 : (Cond.fieldLink RX7 40 "LabelsByAnotherHand$Village" "holds" "[I") ∈ lb_tbl := lb_mem1 (i := 81) rfl rfl
set_option maxRecDepth 20000 in
theorem qw_124 : (Cond.fieldLink RX8 95 "LabelsByAnotherHand$Village" "holds" "[I") ∈ lb_tbl := lb_mem1 (i := 82) rfl rfl
set_option maxRecDepth 20000 in
theorem qw_125 : (Cond.fieldLink RX7 43 "LabelsByAnotherHand$Village" "label" "[I") ∈ lb_tbl := lb_mem1 (i := 83) rfl rfl
set_option maxRecDepth 20000 in
theorem qw_126 : (Cond.fieldLink RX8 98 "LabelsByAnotherHand$Village" "label" "[I") ∈ lb_tbl := lb_mem1 (i := 84) rfl rfl
set_option maxRecDepth 20000 in
theorem qw_127 : (Cond.fieldLink RX7 46 "LabelsByAnotherHand$Village" "full" "[I") ∈ lb_tbl := lb_mem1 (i := 85) rfl rfl
set_option maxRecDepth 20000 in
theorem qw_128 : (Cond.fieldLink RX8 101 "LabelsByAnotherHand$Village" "full" "[I") ∈ lb_tbl := lb_mem1 (i := 86) rfl rfl
set_option maxRecDepth 20000 in
theorem qw_129 : (Cond.fieldLink RX7 49 "LabelsByAnotherHand$Village" "owner" "[I") ∈ lb_tbl := lb_mem1 (i := 87) rfl rfl
set_option maxRecDepth 20000 in
theorem qw_130 : (Cond.fieldLink RX8 104 "LabelsByAnotherHand$Village" "owner" "[I") ∈ lb_tbl := lb_mem1 (i := 88) rfl rfl
set_option maxRecDepth 20000 in
theorem qw_131 : (Cond.fieldLink RX7 52 "LabelsByAnotherHand$Village" "likes" "[I") ∈ lb_tbl := lb_mem1 (i := 89) rfl rfl
set_option maxRecDepth 20000 in
theorem qw_132 : (Cond.fieldLink RX8 110 "LabelsByAnotherHand$Village" "likes" "[I") ∈ lb_tbl := lb_mem1 (i := 90) rfl rfl
set_option maxRecDepth 20000 in
theorem qw_133 : (Cond.fieldLink RX7 55 "LabelsByAnotherHand$Village" "grace" "[I") ∈ lb_tbl := lb_mem1 (i := 91) rfl rfl
set_option maxRecDepth 20000 in
theorem qw_134 : (Cond.fieldLink RX8 113 "LabelsByAnotherHand$Village" "grace" "[I") ∈ lb_tbl := lb_mem1 (i := 92) rfl rfl
set_option maxRecDepth 20000 in
theorem qw_135 : (Cond.fieldLink RX7 58 "LabelsByAnotherHand$Village" "pots" "I") ∈ lb_tbl := lb_mem1 (i := 93) rfl rfl
set_option maxRecDepth 20000 in
theorem qw_136 : (Cond.fieldLink RX8 165 "LabelsByAnotherHand$Village" "pots" "I") ∈ lb_tbl := lb_mem1 (i := 94) rfl rfl
set_option maxRecDepth 20000 in
theorem qw_137 : (Cond.fieldLink RX7 62 "LabelsByAnotherHand$Village" "people" "I") ∈ lb_tbl := lb_mem1 (i := 95) rfl rfl
set_option maxRecDepth 20000 in
theorem qw_138 : (Cond.fieldLink RX8 156 "LabelsByAnotherHand$Village" "people" "I") ∈ lb_tbl := lb_mem1 (i := 96) rfl rfl
set_option maxRecDepth 20000 in
theorem qw_139 : (Cond.fieldLink RX7 65 "LabelsByAnotherHand$Village" "year" "I") ∈ lb_tbl := lb_mem1 (i := 97) rfl rfl
set_option maxRecDepth 20000 in
theorem qw_140 : (Cond.fieldLink RX8 137 "LabelsByAnotherHand$Village" "year" "I") ∈ lb_tbl := lb_mem1 (i := 98) rfl rfl
set_option maxRecDepth 20000 in
theorem qw_141 : (Cond.laysFinal "LabelsByAnotherHand$Village" "LabelsByAnotherHand$Village" "kinds" "[LLabelsByAnotherHand$Jam;") ∈ lb_tbl := lb_mem1 (i := 99) rfl rfl
set_option maxRecDepth 20000 in
theorem qw_143 : (Cond.laysFinal "LabelsByAnotherHand$Village" "LabelsByAnotherHand$Village" "kind" "[I") ∈ lb_tbl := lb_mem1 (i := 101) rfl rfl
set_option maxRecDepth 20000 in
theorem qw_145 : (Cond.laysFinal "LabelsByAnotherHand$Village" "LabelsByAnotherHand$Village" "figure" "[I") ∈ lb_tbl := lb_mem1 (i := 103) rfl rfl
set_option maxRecDepth 20000 in
theorem qw_147 : (Cond.laysFinal "LabelsByAnotherHand$Village" "LabelsByAnotherHand$Village" "holds" "[I") ∈ lb_tbl := lb_mem1 (i := 105) rfl rfl
set_option maxRecDepth 20000 in
theorem qw_149 : (Cond.laysFinal "LabelsByAnotherHand$Village" "LabelsByAnotherHand$Village" "label" "[I") ∈ lb_tbl := lb_mem1 (i := 107) rfl rfl
set_option maxRecDepth 20000 in
theorem qw_151 : (Cond.laysFinal "LabelsByAnotherHand$Village" "LabelsByAnotherHand$Village" "full" "[I") ∈ lb_tbl := lb_mem1 (i := 109) rfl rfl
set_option maxRecDepth 20000 in
theorem qw_153 : (Cond.laysFinal "LabelsByAnotherHand$Village" "LabelsByAnotherHand$Village" "owner" "[I") ∈ lb_tbl := lb_mem1 (i := 111) rfl rfl
set_option maxRecDepth 20000 in
theorem qw_155 : (Cond.laysFinal "LabelsByAnotherHand$Village" "LabelsByAnotherHand$Village" "likes" "[I") ∈ lb_tbl := lb_mem1 (i := 113) rfl rfl
set_option maxRecDepth 20000 in
theorem qw_157 : (Cond.laysFinal "LabelsByAnotherHand$Village" "LabelsByAnotherHand$Village" "grace" "[I") ∈ lb_tbl := lb_mem1 (i := 115) rfl rfl
set_option maxRecDepth 20000 in
theorem qw_159 : (Cond.lays "LabelsByAnotherHand$Village" "LabelsByAnotherHand$Village" "pots" "I") ∈ lb_tbl := lb_mem1 (i := 117) rfl rfl
set_option maxRecDepth 20000 in
theorem qw_161 : (Cond.lays "LabelsByAnotherHand$Village" "LabelsByAnotherHand$Village" "people" "I") ∈ lb_tbl := lb_mem1 (i := 119) rfl rfl
set_option maxRecDepth 20000 in
theorem qw_163 : (Cond.lays "LabelsByAnotherHand$Village" "LabelsByAnotherHand$Village" "year" "I") ∈ lb_tbl := lb_mem1 (i := 121) rfl rfl
set_option maxRecDepth 20000 in
theorem qw_165 : (Cond.superclass RX7 "java/lang/Object") ∈ lb_tbl := lb_mem1 (i := 123) rfl rfl
set_option maxRecDepth 20000 in
theorem qw_166 : (Cond.arrayClass Jvm.ClassFile.FieldType.int) ∈ lb_tbl := lb_mem1 (i := 124) rfl rfl
set_option maxRecDepth 20000 in
theorem qw_167 : (Cond.classLink RX8 26 RX4) ∈ lb_tbl := lb_mem1 (i := 125) rfl rfl
set_option maxRecDepth 20000 in
theorem qw_168 : (Cond.instantiable RX4 2) ∈ lb_tbl := lb_mem1 (i := 126) rfl rfl
set_option maxRecDepth 20000 in
theorem qw_169 : (Cond.methodLink RX8 28 yX4_init) ∈ lb_tbl := lb_mem1 (i := 127) rfl rfl
set_option maxRecDepth 20000 in
theorem qw_170 : (Cond.instanceMethod yX4_init) ∈ lb_tbl := lb_mem1 (i := 128) rfl rfl
set_option maxRecDepth 20000 in
theorem qw_171 : (Cond.code yX4_init cX4_init 1 none) ∈ lb_tbl := lb_mem1 (i := 129) rfl rfl
set_option maxRecDepth 20000 in
theorem qw_172 : (Cond.methodLink RX4 3 ⟨"java/lang/Object", "<init>", "()V"⟩) ∈ lb_tbl := lb_mem1 (i := 130) rfl rfl
set_option maxRecDepth 20000 in
theorem qw_173 : (Cond.fieldLink RX4 9 "LabelsByAnotherHand$Letters" "letters" "[I") ∈ lb_tbl := lb_mem1 (i := 131) rfl rfl
set_option maxRecDepth 20000 in
theorem qw_174 : (Cond.fieldLink RX4 15 "LabelsByAnotherHand$Letters" "count" "I") ∈ lb_tbl := lb_mem1 (i := 132) rfl rfl
set_option maxRecDepth 20000 in
theorem qw_175 : (Cond.fieldLink RX8 48 "LabelsByAnotherHand$Letters" "count" "I") ∈ lb_tbl := lb_mem1 (i := 133) rfl rfl
set_option maxRecDepth 20000 in
theorem qw_176 : (Cond.laysFinal "LabelsByAnotherHand$Letters" "LabelsByAnotherHand$Letters" "letters" "[I") ∈ lb_tbl := lb_mem1 (i := 134) rfl rfl
set_option maxRecDepth 20000 in
theorem qw_178 : (Cond.lays "LabelsByAnotherHand$Letters" "LabelsByAnotherHand$Letters" "count" "I") ∈ lb_tbl := lb_mem1 (i := 136) rfl rfl
set_option maxRecDepth 20000 in
theorem qw_180 : (Cond.superclass RX4 "java/lang/Object") ∈ lb_tbl := lb_mem1 (i := 138) rfl rfl
set_option maxRecDepth 20000 in
theorem qw_181 : (Cond.fieldLink RX8 10 "LabelsByAnotherHand" "now" "LLabelsByAnotherHand$Village;") ∈ lb_tbl := lb_mem1 (i := 139) rfl rfl
set_option maxRecDepth 20000 in
theorem qw_182 : (Cond.fieldLink RX8 16 "LabelsByAnotherHand" "mind" "LLabelsByAnotherHand$Village;") ∈ lb_tbl := lb_mem1 (i := 140) rfl rfl
set_option maxRecDepth 20000 in
theorem qw_183 : (Cond.fieldLink RX8 19 "LabelsByAnotherHand" "kept" "LLabelsByAnotherHand$Village;") ∈ lb_tbl := lb_mem1 (i := 141) rfl rfl
set_option maxRecDepth 20000 in
theorem qw_184 : (Cond.fieldLink RX8 22 "LabelsByAnotherHand" "isKept" "Z") ∈ lb_tbl := lb_mem1 (i := 142) rfl rfl
set_option maxRecDepth 20000 in
theorem qw_185 : (Cond.fieldLink RX8 29 "LabelsByAnotherHand" "told" "LLabelsByAnotherHand$Letters;") ∈ lb_tbl := lb_mem1 (i := 143) rfl rfl
set_option maxRecDepth 20000 in
theorem qw_186 : (Cond.fieldLink RX8 33 "LabelsByAnotherHand" "row" "[I") ∈ lb_tbl := lb_mem1 (i := 144) rfl rfl
set_option maxRecDepth 20000 in
theorem qw_187 : (Cond.fieldLink RX8 37 "LabelsByAnotherHand" "rowCount" "I") ∈ lb_tbl := lb_mem1 (i := 145) rfl rfl
set_option maxRecDepth 20000 in
theorem qw_188 : (Cond.fieldLink RX8 41 "LabelsByAnotherHand" "refusals" "[I") ∈ lb_tbl := lb_mem1 (i := 146) rfl rfl
set_option maxRecDepth 20000 in
theorem qw_189 : (Cond.laysFinal "LabelsByAnotherHand" "LabelsByAnotherHand" "now" "LLabelsByAnotherHand$Village;") ∈ lb_tbl := lb_mem1 (i := 147) rfl rfl
set_option maxRecDepth 20000 in
theorem qw_191 : (Cond.laysFinal "LabelsByAnotherHand" "LabelsByAnotherHand" "mind" "LLabelsByAnotherHand$Village;") ∈ lb_tbl := lb_mem1 (i := 149) rfl rfl
set_option maxRecDepth 20000 in
theorem qw_193 : (Cond.laysFinal "LabelsByAnotherHand" "LabelsByAnotherHand" "kept" "LLabelsByAnotherHand$Village;") ∈ lb_tbl := lb_mem1 (i := 151) rfl rfl
set_option maxRecDepth 20000 in
theorem qw_195 : (Cond.lays "LabelsByAnotherHand" "LabelsByAnotherHand" "isKept" "Z") ∈ lb_tbl := lb_mem1 (i := 153) rfl rfl
set_option maxRecDepth 20000 in
theorem qw_197 : (Cond.laysFinal "LabelsByAnotherHand" "LabelsByAnotherHand" "told" "LLabelsByAnotherHand$Letters;") ∈ lb_tbl := lb_mem1 (i := 155) rfl rfl
set_option maxRecDepth 20000 in
theorem qw_199 : (Cond.laysFinal "LabelsByAnotherHand" "LabelsByAnotherHand" "row" "[I") ∈ lb_tbl := lb_mem1 (i := 157) rfl rfl
set_option maxRecDepth 20000 in
theorem qw_201 : (Cond.lays "LabelsByAnotherHand" "LabelsByAnotherHand" "rowCount" "I") ∈ lb_tbl := lb_mem1 (i := 159) rfl rfl
set_option maxRecDepth 20000 in
theorem qw_203 : (Cond.laysFinal "LabelsByAnotherHand" "LabelsByAnotherHand" "refusals" "[I") ∈ lb_tbl := lb_mem1 (i := 161) rfl rfl
set_option maxRecDepth 20000 in
theorem qw_205 : (Cond.superclass RX8 "java/lang/Object") ∈ lb_tbl := lb_mem1 (i := 163) rfl rfl
set_option maxRecDepth 20000 in
theorem qw_206 : (Cond.methodLink RL 13 yX8_letter) ∈ lb_tbl := lb_mem1 (i := 164) rfl rfl
set_option maxRecDepth 20000 in
theorem qw_207 : (Cond.instanceMethod yX8_letter) ∈ lb_tbl := lb_mem1 (i := 165) rfl rfl
set_option maxRecDepth 20000 in
theorem qw_208 : (Cond.selects RX8 yX8_letter yX8_letter) ∈ lb_tbl := lb_mem1 (i := 166) rfl rfl
set_option maxRecDepth 20000 in
theorem qw_209 : (Cond.code yX8_letter cX8_letter 3 (some .int)) ∈ lb_tbl := lb_mem1 (i := 167) rfl rfl
set_option maxRecDepth 20000 in
theorem qw_210 : (Cond.methodLink RX8 44 yX8_within) ∈ lb_tbl := lb_mem1 (i := 168) rfl rfl
set_option maxRecDepth 20000 in
theorem qw_211 : (Cond.static yX8_within) ∈ lb_tbl := lb_mem1 (i := 169) rfl rfl
set_option maxRecDepth 20000 in
theorem qw_212 : (Cond.code yX8_within cX8_within 3 (some .int)) ∈ lb_tbl := lb_mem1 (i := 170) rfl rfl
set_option maxRecDepth 20000 in
theorem qw_213 : (Cond.methodLink RX8 51 yX8_first) ∈ lb_tbl := lb_mem1 (i := 171) rfl rfl
set_option maxRecDepth 20000 in
theorem qw_214 : (Cond.static yX8_first) ∈ lb_tbl := lb_mem1 (i := 172) rfl rfl
set_option maxRecDepth 20000 in
theorem qw_215 : (Cond.code yX8_first cX8_first 2 (some .int)) ∈ lb_tbl := lb_mem1 (i := 173) rfl rfl
set_option maxRecDepth 20000 in
theorem qw_216 : (Cond.methodLink RX8 55 yX8_refuse) ∈ lb_tbl := lb_mem1 (i := 174) rfl rfl
set_option maxRecDepth 20000 in
theorem qw_218 : (Cond.instanceMethod yX8_refuse) ∈ lb_tbl := lb_mem1 (i := 176) rfl rfl
set_option maxRecDepth 20000 in
theorem qw_219 : (Cond.code yX8_refuse cX8_refuse 2 (some .int)) ∈ lb_tbl := lb_mem1 (i := 177) rfl rfl
set_option maxRecDepth 20000 in
theorem qw_220 : (Cond.methodLink RX8 59 yX4_add) ∈ lb_tbl := lb_mem1 (i := 178) rfl rfl
set_option maxRecDepth 20000 in
theorem qw_221 : (Cond.instanceMethod yX4_add) ∈ lb_tbl := lb_mem1 (i := 179) rfl rfl
set_option maxRecDepth 20000 in
theorem qw_222 : (Cond.selects RX4 yX4_add yX4_add) ∈ lb_tbl := lb_mem1 (i := 180) rfl rfl
set_option maxRecDepth 20000 in
theorem qw_223 : (Cond.code yX4_add cX4_add 2 none) ∈ lb_tbl := lb_mem1 (i := 181) rfl rfl
set_option maxRecDepth 20000 in
theorem qw_224 : (Cond.methodLink RL 18 yX8_village) ∈ lb_tbl := lb_mem1 (i := 182) rfl rfl
set_option maxRecDepth 20000 in
theorem qw_225 : (Cond.instanceMethod yX8_village) ∈ lb_tbl := lb_mem1 (i := 183) rfl rfl
set_option maxRecDepth 20000 in
theorem qw_226 : (Cond.selects RX8 yX8_village yX8_village) ∈ lb_tbl := lb_mem1 (i := 184) rfl rfl
set_option maxRecDepth 20000 in
theorem qw_227 : (Cond.code yX8_village cX8_village 4 (some .int)) ∈ lb_tbl := lb_mem1 (i := 185) rfl rfl
set_option maxRecDepth 20000 in
theorem qw_228 : (Cond.methodLink RX8 63 yX4_wrongPlace) ∈ lb_tbl := lb_mem1 (i := 186) rfl rfl
set_option maxRecDepth 20000 in
theorem qw_229 : (Cond.instanceMethod yX4_wrongPlace) ∈ lb_tbl := lb_mem1 (i := 187) rfl rfl
set_option maxRecDepth 20000 in
theorem qw_230 : (Cond.selects RX4 yX4_wrongPlace yX4_wrongPlace) ∈ lb_tbl := lb_mem1 (i := 188) rfl rfl
set_option maxRecDepth 20000 in
theorem qw_231 : (Cond.code yX4_wrongPlace cX4_wrongPlace 4 (some .int)) ∈ lb_tbl := lb_mem1 (i := 189) rfl rfl
set_option maxRecDepth 20000 in
theorem qw_232 : (Cond.methodLink RX4 30 yX4_lengthAt) ∈ lb_tbl := lb_mem1 (i := 190) rfl rfl
set_option maxRecDepth 20000 in
theorem qw_233 : (Cond.instanceMethod yX4_lengthAt) ∈ lb_tbl := lb_mem1 (i := 191) rfl rfl
set_option maxRecDepth 20000 in
theorem qw_234 : (Cond.selects RX4 yX4_lengthAt yX4_lengthAt) ∈ lb_tbl := lb_mem1 (i := 192) rfl rfl
set_option maxRecDepth 20000 in
theorem qw_235 : (Cond.code yX4_lengthAt cX4_lengthAt 2 (some .int)) ∈ lb_tbl := lb_mem1 (i := 193) rfl rfl
set_option maxRecDepth 20000 in
theorem qw_236 : (Cond.methodLink RX4 19 yX4_letterAt) ∈ lb_tbl := lb_mem1 (i := 194) rfl rfl
set_option maxRecDepth 20000 in
theorem qw_237 : (Cond.instanceMethod yX4_letterAt) ∈ lb_tbl := lb_mem1 (i := 195) rfl rfl
set_option maxRecDepth 20000 in
theorem qw_238 : (Cond.selects RX4 yX4_letterAt yX4_letterAt) ∈ lb_tbl := lb_mem1 (i := 196) rfl rfl
set_option maxRecDepth 20000 in
theorem qw_239 : (Cond.code yX4_letterAt cX4_letterAt 2 (some .int)) ∈ lb_tbl := lb_mem1 (i := 197) rfl rfl
set_option maxRecDepth 20000 in
theorem qw_240 : (Cond.methodLink RX4 33 yX4_fits) ∈ lb_tbl := lb_mem1 (i := 198) rfl rfl
set_option maxRecDepth 20000 in
theorem qw_241 : (Cond.instanceMethod yX4_fits) ∈ lb_tbl := lb_mem1 (i := 199) rfl rfl
set_option maxRecDepth 20000 in
theorem qw_242 : (Cond.selects RX4 yX4_fits yX4_fits) ∈ lb_tbl := lb_mem1 (i := 200) rfl rfl
set_option maxRecDepth 20000 in
theorem qw_243 : (Cond.code yX4_fits cX4_fits 4 (some .boolean)) ∈ lb_tbl := lb_mem1 (i := 201) rfl rfl
set_option maxRecDepth 20000 in
theorem qw_244 : (Cond.methodLink RX4 37 yX4_kindAt) ∈ lb_tbl := lb_mem1 (i := 202) rfl rfl
set_option maxRecDepth 20000 in
theorem qw_245 : (Cond.instanceMethod yX4_kindAt) ∈ lb_tbl := lb_mem1 (i := 203) rfl rfl
set_option maxRecDepth 20000 in
theorem qw_246 : (Cond.selects RX4 yX4_kindAt yX4_kindAt) ∈ lb_tbl := lb_mem1 (i := 204) rfl rfl
set_option maxRecDepth 20000 in
theorem qw_247 : (Cond.code yX4_kindAt cX4_kindAt 2 (some .int)) ∈ lb_tbl := lb_mem1 (i := 205) rfl rfl
set_option maxRecDepth 20000 in
theorem qw_249 : (Cond.methodLink RX4 25 yJ0_indexOf_0f7a4) ∈ lb_tbl := lb_mem1 (i := 207) rfl rfl
set_option maxRecDepth 20000 in
theorem qw_250 : (Cond.instanceMethod yJ0_indexOf_0f7a4) ∈ lb_tbl := lb_mem1 (i := 208) rfl rfl
set_option maxRecDepth 20000 in
theorem qw_251 : (Cond.selects RJ0 yJ0_indexOf_0f7a4 yJ0_indexOf_0f7a4) ∈ lb_tbl := lb_mem1 (i := 209) rfl rfl
set_option maxRecDepth 20000 in
theorem qw_252 : (Cond.code yJ0_indexOf_0f7a4 cJ0_indexOf_0f7a4 2 (some .int)) ∈ lb_tbl := lb_mem1 (i := 210) rfl rfl
set_option maxRecDepth 20000 in
theorem qw_253 : (Cond.methodLink RJ0 633 yJ0_indexOf_7cf53) ∈ lb_tbl := lb_mem1 (i := 211) rfl rfl
set_option maxRecDepth 20000 in
theorem qw_254 : (Cond.instanceMethod yJ0_indexOf_7cf53) ∈ lb_tbl := lb_mem1 (i := 212) rfl rfl
set_option maxRecDepth 20000 in
theorem qw_255 : (Cond.selects RJ0 yJ0_indexOf_7cf53 yJ0_indexOf_7cf53) ∈ lb_tbl := lb_mem1 (i := 213) rfl rfl
set_option maxRecDepth 20000 in
theorem qw_256 : (Cond.code yJ0_indexOf_7cf53 cJ0_indexOf_7cf53 3 (some .int)) ∈ lb_tbl := lb_mem1 (i := 214) rfl rfl
set_option maxRecDepth 20000 in
theorem qw_257 : (Cond.methodLink RJ0 492 yJ0_isLatin1_aae02) ∈ lb_tbl := lb_mem1 (i := 215) rfl rfl
set_option maxRecDepth 20000 in
theorem qw_258 : (Cond.instanceMethod yJ0_isLatin1_aae02) ∈ lb_tbl := lb_mem1 (i := 216) rfl rfl
set_option maxRecDepth 20000 in
theorem qw_259 : (Cond.selects RJ0 yJ0_isLatin1_aae02 yJ0_isLatin1_aae02) ∈ lb_tbl := lb_mem1 (i := 217) rfl rfl
set_option maxRecDepth 20000 in
theorem qw_260 : (Cond.code yJ0_isLatin1_aae02 cJ0_isLatin1_aae02 1 (some .boolean)) ∈ lb_tbl := lb_mem1 (i := 218) rfl rfl
set_option maxRecDepth 20000 in
theorem qw_261 : (Cond.fieldLink RJ0 38 "java/lang/String" "COMPACT_STRINGS" "Z") ∈ lb_tbl := lb_mem1 (i := 219) rfl rfl
set_option maxRecDepth 20000 in
theorem qw_263 : (Cond.methodLink RJ0 505 yJ0_length_8abf5) ∈ lb_tbl := lb_mem1 (i := 221) rfl rfl
set_option maxRecDepth 20000 in
theorem qw_264 : (Cond.instanceMethod yJ0_length_8abf5) ∈ lb_tbl := lb_mem1 (i := 222) rfl rfl
set_option maxRecDepth 20000 in
theorem qw_265 : (Cond.selects RJ0 yJ0_length_8abf5 yJ0_length_8abf5) ∈ lb_tbl := lb_mem1 (i := 223) rfl rfl
set_option maxRecDepth 20000 in
theorem qw_266 : (Cond.code yJ0_length_8abf5 cJ0_length_8abf5 1 (some .int)) ∈ lb_tbl := lb_mem1 (i := 224) rfl rfl
set_option maxRecDepth 20000 in
theorem qw_267 : (Cond.methodLink RJ0 335 yJ0_coder_7d493) ∈ lb_tbl := lb_mem1 (i := 225) rfl rfl
set_option maxRecDepth 20000 in
theorem qw_268 : (Cond.instanceMethod yJ0_coder_7d493) ∈ lb_tbl := lb_mem1 (i := 226) rfl rfl
set_option maxRecDepth 20000 in
theorem qw_269 : (Cond.selects RJ0 yJ0_coder_7d493 yJ0_coder_7d493) ∈ lb_tbl := lb_mem1 (i := 227) rfl rfl
set_option maxRecDepth 20000 in
theorem qw_270 : (Cond.code yJ0_coder_7d493 cJ0_coder_7d493 1 (some .byte)) ∈ lb_tbl := lb_mem1 (i := 228) rfl rfl
set_option maxRecDepth 20000 in
theorem qw_271 : (Cond.methodLink RJ0 637 yJ1_indexOf_4cfef) ∈ lb_tbl := lb_mem1 (i := 229) rfl rfl
set_option maxRecDepth 20000 in
theorem qw_272 : (Cond.static yJ1_indexOf_4cfef) ∈ lb_tbl := lb_mem1 (i := 230) rfl rfl
set_option maxRecDepth 20000 in
theorem qw_273 : (Cond.code yJ1_indexOf_4cfef cJ1_indexOf_4cfef 4 (some .int)) ∈ lb_tbl := lb_mem1 (i := 231) rfl rfl
set_option maxRecDepth 20000 in
theorem qw_274 : (Cond.methodLink RJ1 88 yJ1_canEncode_9a6ad) ∈ lb_tbl := lb_mem1 (i := 232) rfl rfl
set_option maxRecDepth 20000 in
theorem qw_275 : (Cond.static yJ1_canEncode_9a6ad) ∈ lb_tbl := lb_mem1 (i := 233) rfl rfl
set_option maxRecDepth 20000 in
theorem qw_276 : (Cond.code yJ1_canEncode_9a6ad cJ1_canEncode_9a6ad 1 (some .boolean)) ∈ lb_tbl := lb_mem1 (i := 234) rfl rfl
set_option maxRecDepth 20000 in
theorem qw_277 : (Cond.methodLink RJ1 92 yJ9_max_7cf53) ∈ lb_tbl := lb_mem1 (i := 235) rfl rfl
set_option maxRecDepth 20000 in
theorem qw_278 : (Cond.static yJ9_max_7cf53) ∈ lb_tbl := lb_mem1 (i := 236) rfl rfl
set_option maxRecDepth 20000 in
theorem qw_279 : (Cond.code yJ9_max_7cf53 cJ9_max_7cf53 2 (some .int)) ∈ lb_tbl := lb_mem1 (i := 237) rfl rfl
set_option maxRecDepth 20000 in
theorem qw_280 : (Cond.methodLink RJ1 38 yJ9_min_7cf53) ∈ lb_tbl := lb_mem1 (i := 238) rfl rfl
set_option maxRecDepth 20000 in
theorem qw_281 : (Cond.static yJ9_min_7cf53) ∈ lb_tbl := lb_mem1 (i := 239) rfl rfl
set_option maxRecDepth 20000 in
theorem qw_282 : (Cond.code yJ9_min_7cf53 cJ9_min_7cf53 2 (some .int)) ∈ lb_tbl := lb_mem2 (i := 0) rfl rfl
set_option maxRecDepth 20000 in
theorem qw_283 : (Cond.methodLink RJ1 95 yJ1_indexOfChar_4cfef) ∈ lb_tbl := lb_mem2 (i := 1) rfl rfl
set_option maxRecDepth 20000 in
theorem qw_284 : (Cond.static yJ1_indexOfChar_4cfef) ∈ lb_tbl := lb_mem2 (i := 2) rfl rfl
set_option maxRecDepth 20000 in
theorem qw_285 : (Cond.code yJ1_indexOfChar_4cfef cJ1_indexOfChar_4cfef 6 (some .int)) ∈ lb_tbl := lb_mem2 (i := 3) rfl rfl
set_option maxRecDepth 20000 in
theorem qw_286 : (Cond.methodLink RJ0 640 yJ2_indexOf_4cfef) ∈ lb_tbl := lb_mem2 (i := 4) rfl rfl
set_option maxRecDepth 20000 in
theorem qw_287 : (Cond.static yJ2_indexOf_4cfef) ∈ lb_tbl := lb_mem2 (i := 5) rfl rfl
set_option maxRecDepth 20000 in
theorem qw_288 : (Cond.code yJ2_indexOf_4cfef cJ2_indexOf_4cfef 4 (some .int)) ∈ lb_tbl := lb_mem2 (i := 6) rfl rfl
set_option maxRecDepth 20000 in
theorem qw_289 : (Cond.methodLink RJ2 224 yJ9_max_7cf53) ∈ lb_tbl := lb_mem2 (i := 7) rfl rfl
set_option maxRecDepth 20000 in
theorem qw_290 : (Cond.methodLink RJ2 183 yJ9_min_7cf53) ∈ lb_tbl := lb_mem2 (i := 8) rfl rfl
set_option maxRecDepth 20000 in
theorem qw_291 : (Cond.constant RJ2 227 (65536)) ∈ lb_tbl := lb_mem2 (i := 9) rfl rfl
set_option maxRecDepth 20000 in
theorem qw_292 : (Cond.methodLink RJ2 228 yJ2_indexOfChar_4cfef) ∈ lb_tbl := lb_mem2 (i := 10) rfl rfl
set_option maxRecDepth 20000 in
theorem qw_293 : (Cond.static yJ2_indexOfChar_4cfef) ∈ lb_tbl := lb_mem2 (i := 11) rfl rfl
set_option maxRecDepth 20000 in
theorem qw_294 : (Cond.code yJ2_indexOfChar_4cfef cJ2_indexOfChar_4cfef 4 (some .int)) ∈ lb_tbl := lb_mem2 (i := 12) rfl rfl
set_option maxRecDepth 20000 in
theorem qw_295 : (Cond.methodLink RJ2 96 yJ2_checkBoundsBeginEnd_d044e) ∈ lb_tbl := lb_mem2 (i := 13) rfl rfl
set_option maxRecDepth 20000 in
theorem qw_296 : (Cond.static yJ2_checkBoundsBeginEnd_d044e) ∈ lb_tbl := lb_mem2 (i := 14) rfl rfl
set_option maxRecDepth 20000 in
theorem qw_297 : (Cond.code yJ2_checkBoundsBeginEnd_d044e cJ2_checkBoundsBeginEnd_d044e 3 none) ∈ lb_tbl := lb_mem2 (i := 15) rfl rfl
set_option maxRecDepth 20000 in
theorem qw_298 : (Cond.methodLink RJ2 48 yJ2_length_9d52b) ∈ lb_tbl := lb_mem2 (i := 16) rfl rfl
set_option maxRecDepth 20000 in
theorem qw_299 : (Cond.static yJ2_length_9d52b) ∈ lb_tbl := lb_mem2 (i := 17) rfl rfl
set_option maxRecDepth 20000 in
theorem qw_300 : (Cond.code yJ2_length_9d52b cJ2_length_9d52b 1 (some .int)) ∈ lb_tbl := lb_mem2 (i := 18) rfl rfl
set_option maxRecDepth 20000 in
theorem qw_301 : (Cond.methodLink RJ2 241 yJ0_checkBoundsBeginEnd_23922) ∈ lb_tbl := lb_mem2 (i := 19) rfl rfl
set_option maxRecDepth 20000 in
theorem qw_302 : (Cond.static yJ0_checkBoundsBeginEnd_23922) ∈ lb_tbl := lb_mem2 (i := 20) rfl rfl
set_option maxRecDepth 20000 in
theorem qw_303 : (Cond.code yJ0_checkBoundsBeginEnd_23922 cJ0_checkBoundsBeginEnd_23922 3 none) ∈ lb_tbl := lb_mem2 (i := 21) rfl rfl
set_option maxRecDepth 20000 in
theorem qw_304 : (Cond.fieldLink RJ0 1053 "jdk/internal/util/Preconditions" "SIOOBE_FORMATTER" "Ljava/util/function/BiFunction;") ∈ lb_tbl := lb_mem2 (i := 22) rfl rfl
set_option maxRecDepth 20000 in
theorem qw_306 : (Cond.methodLink RJ0 1062 yJ3_checkFromToIndex_8c36e) ∈ lb_tbl := lb_mem2 (i := 24) rfl rfl
set_option maxRecDepth 20000 in
theorem qw_307 : (Cond.static yJ3_checkFromToIndex_8c36e) ∈ lb_tbl := lb_mem2 (i := 25) rfl rfl
set_option maxRecDepth 20000 in
theorem qw_308 : (Cond.code yJ3_checkFromToIndex_8c36e cJ3_checkFromToIndex_8c36e 4 (some .int)) ∈ lb_tbl := lb_mem2 (i := 26) rfl rfl
set_option maxRecDepth 20000 in
theorem qw_309 : (Cond.methodLink RJ2 244 yJ2_indexOfCharUnsafe_4cfef) ∈ lb_tbl := lb_mem2 (i := 27) rfl rfl
set_option maxRecDepth 20000 in
theorem qw_310 : (Cond.static yJ2_indexOfCharUnsafe_4cfef) ∈ lb_tbl := lb_mem2 (i := 28) rfl rfl
set_option maxRecDepth 20000 in
theorem qw_311 : (Cond.code yJ2_indexOfCharUnsafe_4cfef cJ2_indexOfCharUnsafe_4cfef 5 (some .int)) ∈ lb_tbl := lb_mem2 (i := 29) rfl rfl
set_option maxRecDepth 20000 in
theorem qw_312 : (Cond.methodLink RJ2 71 yJ2_getChar_3b067) ∈ lb_tbl := lb_mem2 (i := 30) rfl rfl
set_option maxRecDepth 20000 in
theorem qw_313 : (Cond.static yJ2_getChar_3b067) ∈ lb_tbl := lb_mem2 (i := 31) rfl rfl
set_option maxRecDepth 20000 in
theorem qw_314 : (Cond.code yJ2_getChar_3b067 cJ2_getChar_3b067 2 (some .char)) ∈ lb_tbl := lb_mem2 (i := 32) rfl rfl
set_option maxRecDepth 20000 in
theorem qw_315 : (Cond.fieldLink RJ2 44 "java/lang/StringUTF16" "$assertionsDisabled" "Z") ∈ lb_tbl := lb_mem2 (i := 33) rfl rfl
set_option maxRecDepth 20000 in
theorem qw_317 : (Cond.fieldLink RJ2 59 "java/lang/StringUTF16" "HI_BYTE_SHIFT" "I") ∈ lb_tbl := lb_mem2 (i := 35) rfl rfl
set_option maxRecDepth 20000 in
theorem qw_319 : (Cond.fieldLink RJ2 63 "java/lang/StringUTF16" "LO_BYTE_SHIFT" "I") ∈ lb_tbl := lb_mem2 (i := 37) rfl rfl
set_option maxRecDepth 20000 in
theorem qw_321 : (Cond.methodLink RJ2 232 yJ2_indexOfSupplementary_4cfef) ∈ lb_tbl := lb_mem2 (i := 39) rfl rfl
set_option maxRecDepth 20000 in
theorem qw_322 : (Cond.static yJ2_indexOfSupplementary_4cfef) ∈ lb_tbl := lb_mem2 (i := 40) rfl rfl
set_option maxRecDepth 20000 in
theorem qw_323 : (Cond.code yJ2_indexOfSupplementary_4cfef cJ2_indexOfSupplementary_4cfef 7 (some .int)) ∈ lb_tbl := lb_mem2 (i := 41) rfl rfl
set_option maxRecDepth 20000 in
theorem qw_324 : (Cond.methodLink RJ2 164 yJ11_isValidCodePoint_9a6ad) ∈ lb_tbl := lb_mem2 (i := 42) rfl rfl
set_option maxRecDepth 20000 in
theorem qw_325 : (Cond.static yJ11_isValidCodePoint_9a6ad) ∈ lb_tbl := lb_mem2 (i := 43) rfl rfl
set_option maxRecDepth 20000 in
theorem qw_326 : (Cond.code yJ11_isValidCodePoint_9a6ad cJ11_isValidCodePoint_9a6ad 2 (some .boolean)) ∈ lb_tbl := lb_mem2 (i := 44) rfl rfl
set_option maxRecDepth 20000 in
theorem qw_327 : (Cond.methodLink RJ2 157 yJ11_highSurrogate_5068e) ∈ lb_tbl := lb_mem2 (i := 45) rfl rfl
set_option maxRecDepth 20000 in
theorem qw_328 : (Cond.static yJ11_highSurrogate_5068e) ∈ lb_tbl := lb_mem2 (i := 46) rfl rfl
set_option maxRecDepth 20000 in
theorem qw_329 : (Cond.code yJ11_highSurrogate_5068e cJ11_highSurrogate_5068e 1 (some .char)) ∈ lb_tbl := lb_mem2 (i := 47) rfl rfl
set_option maxRecDepth 20000 in
theorem qw_330 : (Cond.constant RJ11 110 (55232)) ∈ lb_tbl := lb_mem2 (i := 48) rfl rfl
set_option maxRecDepth 20000 in
theorem qw_331 : (Cond.methodLink RJ2 161 yJ11_lowSurrogate_5068e) ∈ lb_tbl := lb_mem2 (i := 49) rfl rfl
set_option maxRecDepth 20000 in
theorem qw_332 : (Cond.static yJ11_lowSurrogate_5068e) ∈ lb_tbl := lb_mem2 (i := 50) rfl rfl
set_option maxRecDepth 20000 in
theorem qw_333 : (Cond.code yJ11_lowSurrogate_5068e cJ11_lowSurrogate_5068e 1 (some .char)) ∈ lb_tbl := lb_mem2 (i := 51) rfl rfl
set_option maxRecDepth 20000 in
theorem qw_334 : (Cond.constant RJ11 76 (56320)) ∈ lb_tbl := lb_mem2 (i := 52) rfl rfl
set_option maxRecDepth 20000 in
theorem qw_335 : (Cond.methodLink RX4 40 yX4_digitAt) ∈ lb_tbl := lb_mem2 (i := 53) rfl rfl
set_option maxRecDepth 20000 in
theorem qw_336 : (Cond.instanceMethod yX4_digitAt) ∈ lb_tbl := lb_mem2 (i := 54) rfl rfl
set_option maxRecDepth 20000 in
theorem qw_337 : (Cond.selects RX4 yX4_digitAt yX4_digitAt) ∈ lb_tbl := lb_mem2 (i := 55) rfl rfl
set_option maxRecDepth 20000 in
theorem qw_338 : (Cond.code yX4_digitAt cX4_digitAt 2 (some .int)) ∈ lb_tbl := lb_mem2 (i := 56) rfl rfl
set_option maxRecDepth 20000 in
theorem qw_339 : (Cond.methodLink RX4 43 yX7_isDigit) ∈ lb_tbl := lb_mem2 (i := 57) rfl rfl
set_option maxRecDepth 20000 in
theorem qw_340 : (Cond.static yX7_isDigit) ∈ lb_tbl := lb_mem2 (i := 58) rfl rfl
set_option maxRecDepth 20000 in
theorem qw_341 : (Cond.code yX7_isDigit cX7_isDigit 1 (some .boolean)) ∈ lb_tbl := lb_mem2 (i := 59) rfl rfl
set_option maxRecDepth 20000 in
theorem qw_342 : (Cond.methodLink RX8 67 yX7_become) ∈ lb_tbl := lb_mem2 (i := 60) rfl rfl
set_option maxRecDepth 20000 in
theorem qw_343 : (Cond.instanceMethod yX7_become) ∈ lb_tbl := lb_mem2 (i := 61) rfl rfl
set_option maxRecDepth 20000 in
theorem qw_344 : (Cond.selects RX7 yX7_become yX7_become) ∈ lb_tbl := lb_mem2 (i := 62) rfl rfl
set_option maxRecDepth 20000 in
theorem qw_345 : (Cond.code yX7_become cX7_become 2 none) ∈ lb_tbl := lb_mem2 (i := 63) rfl rfl
set_option maxRecDepth 20000 in
theorem qw_346 : (Cond.methodLink RX7 68 ⟨RJ10, "arraycopy", "(Ljava/lang/Object;ILjava/lang/Object;II)V"⟩) ∈ lb_tbl := lb_mem2 (i := 64) rfl rfl
set_option maxRecDepth 20000 in
theorem qw_347 : (Cond.static ⟨RJ10, "arraycopy", "(Ljava/lang/Object;ILjava/lang/Object;II)V"⟩) ∈ lb_tbl := lb_mem2 (i := 65) rfl rfl
set_option maxRecDepth 20000 in
theorem qw_348 : (Cond.native ⟨RJ10, "arraycopy", "(Ljava/lang/Object;ILjava/lang/Object;II)V"⟩) ∈ lb_tbl := lb_mem2 (i := 66) rfl rfl
set_option maxRecDepth 20000 in
theorem qw_349 : (Cond.methodLink RX8 71 yX4_isObeyed) ∈ lb_tbl := lb_mem2 (i := 67) rfl rfl
set_option maxRecDepth 20000 in
theorem qw_350 : (Cond.instanceMethod yX4_isObeyed) ∈ lb_tbl := lb_mem2 (i := 68) rfl rfl
set_option maxRecDepth 20000 in
theorem qw_351 : (Cond.selects RX4 yX4_isObeyed yX4_isObeyed) ∈ lb_tbl := lb_mem2 (i := 69) rfl rfl
set_option maxRecDepth 20000 in
theorem qw_352 : (Cond.code yX4_isObeyed cX4_isObeyed 7 (some .boolean)) ∈ lb_tbl := lb_mem2 (i := 70) rfl rfl
set_option maxRecDepth 20000 in
theorem qw_353 : (Cond.methodLink RX4 49 yX7_addPerson) ∈ lb_tbl := lb_mem2 (i := 71) rfl rfl
set_option maxRecDepth 20000 in
theorem qw_354 : (Cond.instanceMethod yX7_addPerson) ∈ lb_tbl := lb_mem2 (i := 72) rfl rfl
set_option maxRecDepth 20000 in
theorem qw_355 : (Cond.selects RX7 yX7_addPerson yX7_addPerson) ∈ lb_tbl := lb_mem2 (i := 73) rfl rfl
set_option maxRecDepth 20000 in
theorem qw_356 : (Cond.code yX7_addPerson cX7_addPerson 2 (some .boolean)) ∈ lb_tbl := lb_mem2 (i := 74) rfl rfl
set_option maxRecDepth 20000 in
theorem qw_357 : (Cond.methodLink RX7 74 yX7_isSort) ∈ lb_tbl := lb_mem2 (i := 75) rfl rfl
set_option maxRecDepth 20000 in
theorem qw_358 : (Cond.static yX7_isSort) ∈ lb_tbl := lb_mem2 (i := 76) rfl rfl
set_option maxRecDepth 20000 in
theorem qw_359 : (Cond.code yX7_isSort cX7_isSort 1 (some .boolean)) ∈ lb_tbl := lb_mem2 (i := 77) rfl rfl
set_option maxRecDepth 20000 in
theorem qw_360 : (Cond.methodLink RX4 52 yX7_addPot) ∈ lb_tbl := lb_mem2 (i := 78) rfl rfl
set_option maxRecDepth 20000 in
theorem qw_361 : (Cond.instanceMethod yX7_addPot) ∈ lb_tbl := lb_mem2 (i := 79) rfl rfl
set_option maxRecDepth 20000 in
theorem qw_362 : (Cond.selects RX7 yX7_addPot yX7_addPot) ∈ lb_tbl := lb_mem2 (i := 80) rfl rfl
set_option maxRecDepth 20000 in
theorem qw_363 : (Cond.code yX7_addPot cX7_addPot 8 (some .boolean)) ∈ lb_tbl := lb_mem2 (i := 81) rfl rfl
set_option maxRecDepth 20000 in
theorem qw_364 : (Cond.methodLink RX7 115 yX7_isKind) ∈ lb_tbl := lb_mem2 (i := 82) rfl rfl
set_option maxRecDepth 20000 in
theorem qw_365 : (Cond.static yX7_isKind) ∈ lb_tbl := lb_mem2 (i := 83) rfl rfl
set_option maxRecDepth 20000 in
theorem qw_366 : (Cond.code yX7_isKind cX7_isKind 1 (some .boolean)) ∈ lb_tbl := lb_mem2 (i := 84) rfl rfl
set_option maxRecDepth 20000 in
theorem qw_367 : (Cond.methodLink RX7 118 yX7_isDigit) ∈ lb_tbl := lb_mem2 (i := 85) rfl rfl
set_option maxRecDepth 20000 in
theorem qw_368 : (Cond.methodLink RX7 121 yX7_isLabel) ∈ lb_tbl := lb_mem2 (i := 86) rfl rfl
set_option maxRecDepth 20000 in
theorem qw_369 : (Cond.static yX7_isLabel) ∈ lb_tbl := lb_mem2 (i := 87) rfl rfl
set_option maxRecDepth 20000 in
theorem qw_370 : (Cond.code yX7_isLabel cX7_isLabel 1 (some .boolean)) ∈ lb_tbl := lb_mem2 (i := 88) rfl rfl
set_option maxRecDepth 20000 in
theorem qw_371 : (Cond.methodLink RX7 124 yX7_hasPerson) ∈ lb_tbl := lb_mem2 (i := 89) rfl rfl
set_option maxRecDepth 20000 in
theorem qw_372 : (Cond.instanceMethod yX7_hasPerson) ∈ lb_tbl := lb_mem2 (i := 90) rfl rfl
set_option maxRecDepth 20000 in
theorem qw_373 : (Cond.selects RX7 yX7_hasPerson yX7_hasPerson) ∈ lb_tbl := lb_mem2 (i := 91) rfl rfl
set_option maxRecDepth 20000 in
theorem qw_374 : (Cond.code yX7_hasPerson cX7_hasPerson 2 (some .boolean)) ∈ lb_tbl := lb_mem2 (i := 92) rfl rfl
set_option maxRecDepth 20000 in
theorem qw_375 : (Cond.methodLink RX4 56 yX7_setLabel) ∈ lb_tbl := lb_mem2 (i := 93) rfl rfl
set_option maxRecDepth 20000 in
theorem qw_376 : (Cond.instanceMethod yX7_setLabel) ∈ lb_tbl := lb_mem2 (i := 94) rfl rfl
set_option maxRecDepth 20000 in
theorem qw_377 : (Cond.selects RX7 yX7_setLabel yX7_setLabel) ∈ lb_tbl := lb_mem2 (i := 95) rfl rfl
set_option maxRecDepth 20000 in
theorem qw_378 : (Cond.code yX7_setLabel cX7_setLabel 3 (some .boolean)) ∈ lb_tbl := lb_mem2 (i := 96) rfl rfl
set_option maxRecDepth 20000 in
theorem qw_379 : (Cond.methodLink RX7 127 yX7_hasPot) ∈ lb_tbl := lb_mem2 (i := 97) rfl rfl
set_option maxRecDepth 20000 in
theorem qw_380 : (Cond.instanceMethod yX7_hasPot) ∈ lb_tbl := lb_mem2 (i := 98) rfl rfl
set_option maxRecDepth 20000 in
theorem qw_381 : (Cond.selects RX7 yX7_hasPot yX7_hasPot) ∈ lb_tbl := lb_mem2 (i := 99) rfl rfl
set_option maxRecDepth 20000 in
theorem qw_382 : (Cond.code yX7_hasPot cX7_hasPot 2 (some .boolean)) ∈ lb_tbl := lb_mem2 (i := 100) rfl rfl
set_option maxRecDepth 20000 in
theorem qw_383 : (Cond.methodLink RX4 60 yX7_setOwner) ∈ lb_tbl := lb_mem2 (i := 101) rfl rfl
set_option maxRecDepth 20000 in
theorem qw_384 : (Cond.instanceMethod yX7_setOwner) ∈ lb_tbl := lb_mem2 (i := 102) rfl rfl
set_option maxRecDepth 20000 in
theorem qw_385 : (Cond.selects RX7 yX7_setOwner yX7_setOwner) ∈ lb_tbl := lb_mem2 (i := 103) rfl rfl
set_option maxRecDepth 20000 in
theorem qw_386 : (Cond.code yX7_setOwner cX7_setOwner 3 (some .boolean)) ∈ lb_tbl := lb_mem2 (i := 104) rfl rfl
set_option maxRecDepth 20000 in
theorem qw_387 : (Cond.methodLink RX4 63 yX7_setLikes) ∈ lb_tbl := lb_mem2 (i := 105) rfl rfl
set_option maxRecDepth 20000 in
theorem qw_388 : (Cond.instanceMethod yX7_setLikes) ∈ lb_tbl := lb_mem2 (i := 106) rfl rfl
set_option maxRecDepth 20000 in
theorem qw_389 : (Cond.selects RX7 yX7_setLikes yX7_setLikes) ∈ lb_tbl := lb_mem2 (i := 107) rfl rfl
set_option maxRecDepth 20000 in
theorem qw_390 : (Cond.code yX7_setLikes cX7_setLikes 3 (some .boolean)) ∈ lb_tbl := lb_mem2 (i := 108) rfl rfl
set_option maxRecDepth 20000 in
theorem qw_391 : (Cond.methodLink RX4 66 yX7_setFull) ∈ lb_tbl := lb_mem2 (i := 109) rfl rfl
set_option maxRecDepth 20000 in
theorem qw_392 : (Cond.instanceMethod yX7_setFull) ∈ lb_tbl := lb_mem2 (i := 110) rfl rfl
set_option maxRecDepth 20000 in
theorem qw_393 : (Cond.selects RX7 yX7_setFull yX7_setFull) ∈ lb_tbl := lb_mem2 (i := 111) rfl rfl
set_option maxRecDepth 20000 in
theorem qw_394 : (Cond.code yX7_setFull cX7_setFull 3 (some .boolean)) ∈ lb_tbl := lb_mem2 (i := 112) rfl rfl
set_option maxRecDepth 20000 in
theorem qw_395 : (Cond.methodLink RX4 69 yX7_canGoOn) ∈ lb_tbl := lb_mem2 (i := 113) rfl rfl
set_option maxRecDepth 20000 in
theorem qw_396 : (Cond.instanceMethod yX7_canGoOn) ∈ lb_tbl := lb_mem2 (i := 114) rfl rfl
set_option maxRecDepth 20000 in
theorem qw_397 : (Cond.selects RX7 yX7_canGoOn yX7_canGoOn) ∈ lb_tbl := lb_mem2 (i := 115) rfl rfl
set_option maxRecDepth 20000 in
theorem qw_398 : (Cond.code yX7_canGoOn cX7_canGoOn 2 (some .boolean)) ∈ lb_tbl := lb_mem2 (i := 116) rfl rfl
set_option maxRecDepth 20000 in
theorem qw_399 : (Cond.methodLink RX4 72 yX7_pass) ∈ lb_tbl := lb_mem2 (i := 117) rfl rfl
set_option maxRecDepth 20000 in
theorem qw_400 : (Cond.instanceMethod yX7_pass) ∈ lb_tbl := lb_mem2 (i := 118) rfl rfl
set_option maxRecDepth 20000 in
theorem qw_401 : (Cond.selects RX7 yX7_pass yX7_pass) ∈ lb_tbl := lb_mem2 (i := 119) rfl rfl
set_option maxRecDepth 20000 in
theorem qw_402 : (Cond.code yX7_pass cX7_pass 3 none) ∈ lb_tbl := lb_mem2 (i := 120) rfl rfl
set_option maxRecDepth 20000 in
theorem qw_403 : (Cond.methodLink RX7 99 yX7_passFor) ∈ lb_tbl := lb_mem2 (i := 121) rfl rfl
set_option maxRecDepth 20000 in
theorem qw_404 : (Cond.instanceMethod yX7_passFor) ∈ lb_tbl := lb_mem2 (i := 122) rfl rfl
set_option maxRecDepth 20000 in
theorem qw_405 : (Cond.selects RX7 yX7_passFor yX7_passFor) ∈ lb_tbl := lb_mem2 (i := 123) rfl rfl
set_option maxRecDepth 20000 in
theorem qw_406 : (Cond.code yX7_passFor cX7_passFor 6 none) ∈ lb_tbl := lb_mem2 (i := 124) rfl rfl
set_option maxRecDepth 20000 in
theorem qw_407 : (Cond.methodLink RX7 103 yX7_opened) ∈ lb_tbl := lb_mem2 (i := 125) rfl rfl
set_option maxRecDepth 20000 in
theorem qw_408 : (Cond.instanceMethod yX7_opened) ∈ lb_tbl := lb_mem2 (i := 126) rfl rfl
set_option maxRecDepth 20000 in
theorem qw_409 : (Cond.selects RX7 yX7_opened yX7_opened) ∈ lb_tbl := lb_mem2 (i := 127) rfl rfl
set_option maxRecDepth 20000 in
theorem qw_410 : (Cond.code yX7_opened cX7_opened 6 (some .int)) ∈ lb_tbl := lb_mem2 (i := 128) rfl rfl
set_option maxRecDepth 20000 in
theorem qw_411 : (Cond.methodLink RX7 95 yX7_canOpen) ∈ lb_tbl := lb_mem2 (i := 129) rfl rfl
set_option maxRecDepth 20000 in
theorem qw_412 : (Cond.instanceMethod yX7_canOpen) ∈ lb_tbl := lb_mem2 (i := 130) rfl rfl
set_option maxRecDepth 20000 in
theorem qw_413 : (Cond.selects RX7 yX7_canOpen yX7_canOpen) ∈ lb_tbl := lb_mem2 (i := 131) rfl rfl
set_option maxRecDepth 20000 in
theorem qw_414 : (Cond.code yX7_canOpen cX7_canOpen 3 (some .boolean)) ∈ lb_tbl := lb_mem2 (i := 132) rfl rfl
set_option maxRecDepth 20000 in
theorem qw_415 : (Cond.methodLink RX7 88 yX7_off) ∈ lb_tbl := lb_mem2 (i := 133) rfl rfl
set_option maxRecDepth 20000 in
theorem qw_416 : (Cond.static yX7_off) ∈ lb_tbl := lb_mem2 (i := 134) rfl rfl
set_option maxRecDepth 20000 in
theorem qw_417 : (Cond.code yX7_off cX7_off 3 (some .int)) ∈ lb_tbl := lb_mem2 (i := 135) rfl rfl
set_option maxRecDepth 20000 in
theorem qw_418 : (Cond.methodLink RX7 78 yJ9_abs_0f7a4) ∈ lb_tbl := lb_mem2 (i := 136) rfl rfl
set_option maxRecDepth 20000 in
theorem qw_419 : (Cond.static yJ9_abs_0f7a4) ∈ lb_tbl := lb_mem2 (i := 137) rfl rfl
set_option maxRecDepth 20000 in
theorem qw_420 : (Cond.code yJ9_abs_0f7a4 cJ9_abs_0f7a4 1 (some .int)) ∈ lb_tbl := lb_mem2 (i := 138) rfl rfl
set_option maxRecDepth 20000 in
theorem qw_421 : (Cond.methodLink RX7 84 yJ9_min_7cf53) ∈ lb_tbl := lb_mem2 (i := 139) rfl rfl
set_option maxRecDepth 20000 in
theorem qw_422 : (Cond.methodLink RX7 106 yX7_gained) ∈ lb_tbl := lb_mem2 (i := 140) rfl rfl
set_option maxRecDepth 20000 in
theorem qw_423 : (Cond.instanceMethod yX7_gained) ∈ lb_tbl := lb_mem2 (i := 141) rfl rfl
set_option maxRecDepth 20000 in
theorem qw_424 : (Cond.selects RX7 yX7_gained yX7_gained) ∈ lb_tbl := lb_mem2 (i := 142) rfl rfl
set_option maxRecDepth 20000 in
theorem qw_425 : (Cond.code yX7_gained cX7_gained 5 (some .int)) ∈ lb_tbl := lb_mem2 (i := 143) rfl rfl
set_option maxRecDepth 20000 in
theorem qw_426 : (Cond.methodLink RX7 91 yX3_spoon) ∈ lb_tbl := lb_mem2 (i := 144) rfl rfl
set_option maxRecDepth 20000 in
theorem qw_427 : (Cond.instanceMethod yX3_spoon) ∈ lb_tbl := lb_mem2 (i := 145) rfl rfl
set_option maxRecDepth 20000 in
theorem qw_428 : (Cond.selects RX3 yX3_spoon yX3_spoon) ∈ lb_tbl := lb_mem2 (i := 146) rfl rfl
set_option maxRecDepth 20000 in
theorem qw_429 : (Cond.sameMethod RX3 RX3 "spoon" "(III)I") ∈ lb_tbl := lb_mem2 (i := 147) rfl rfl
set_option maxRecDepth 20000 in
theorem qw_430 : (Cond.selects RX0 yX3_spoon yX0_spoon) ∈ lb_tbl := lb_mem2 (i := 148) rfl rfl
set_option maxRecDepth 20000 in
theorem qw_431 : (Cond.instanceMethod yX0_spoon) ∈ lb_tbl := lb_mem2 (i := 149) rfl rfl
set_option maxRecDepth 20000 in
theorem qw_432 : (Cond.code yX0_spoon cX0_spoon 5 (some .int)) ∈ lb_tbl := lb_mem2 (i := 150) rfl rfl
set_option maxRecDepth 20000 in
theorem qw_433 : (Cond.methodLink RX0 7 yX6_spoon) ∈ lb_tbl := lb_mem2 (i := 151) rfl rfl
set_option maxRecDepth 20000 in
theorem qw_434 : (Cond.instanceMethod yX6_spoon) ∈ lb_tbl := lb_mem2 (i := 152) rfl rfl
set_option maxRecDepth 20000 in
theorem qw_435 : (Cond.code yX6_spoon cX6_spoon 4 (some .int)) ∈ lb_tbl := lb_mem2 (i := 153) rfl rfl
set_option maxRecDepth 20000 in
theorem qw_436 : (Cond.methodLink RX6 7 yX3_spoon) ∈ lb_tbl := lb_mem2 (i := 154) rfl rfl
set_option maxRecDepth 20000 in
theorem qw_437 : (Cond.selects RX1 yX3_spoon yX1_spoon) ∈ lb_tbl := lb_mem2 (i := 155) rfl rfl
set_option maxRecDepth 20000 in
theorem qw_438 : (Cond.instanceMethod yX1_spoon) ∈ lb_tbl := lb_mem2 (i := 156) rfl rfl
set_option maxRecDepth 20000 in
theorem qw_439 : (Cond.code yX1_spoon cX1_spoon 4 (some .int)) ∈ lb_tbl := lb_mem2 (i := 157) rfl rfl
set_option maxRecDepth 20000 in
theorem qw_440 : (Cond.methodLink RX1 7 yX3_spoon) ∈ lb_tbl := lb_mem2 (i := 158) rfl rfl
set_option maxRecDepth 20000 in
theorem qw_441 : (Cond.selects RX2 yX3_spoon yX2_spoon) ∈ lb_tbl := lb_mem2 (i := 159) rfl rfl
set_option maxRecDepth 20000 in
theorem qw_442 : (Cond.instanceMethod yX2_spoon) ∈ lb_tbl := lb_mem2 (i := 160) rfl rfl
set_option maxRecDepth 20000 in
theorem qw_443 : (Cond.code yX2_spoon cX2_spoon 4 (some .int)) ∈ lb_tbl := lb_mem2 (i := 161) rfl rfl
set_option maxRecDepth 20000 in
theorem qw_444 : (Cond.methodLink RX2 7 yX5_spoon) ∈ lb_tbl := lb_mem2 (i := 162) rfl rfl
set_option maxRecDepth 20000 in
theorem qw_445 : (Cond.instanceMethod yX5_spoon) ∈ lb_tbl := lb_mem2 (i := 163) rfl rfl
set_option maxRecDepth 20000 in
theorem qw_446 : (Cond.code yX5_spoon cX5_spoon 4 (some .int)) ∈ lb_tbl := lb_mem2 (i := 164) rfl rfl
set_option maxRecDepth 20000 in
theorem qw_447 : (Cond.methodLink RX5 7 yX3_spoon) ∈ lb_tbl := lb_mem2 (i := 165) rfl rfl
set_option maxRecDepth 20000 in
theorem qw_448 : (Cond.methodLink RX2 11 yJ9_max_7cf53) ∈ lb_tbl := lb_mem2 (i := 166) rfl rfl
set_option maxRecDepth 20000 in
theorem qw_449 : (Cond.selects RX5 yX3_spoon yX5_spoon) ∈ lb_tbl := lb_mem2 (i := 167) rfl rfl
set_option maxRecDepth 20000 in
theorem qw_450 : (Cond.selects RX6 yX3_spoon yX6_spoon) ∈ lb_tbl := lb_mem2 (i := 168) rfl rfl
set_option maxRecDepth 20000 in
theorem qw_451 : (Cond.code yX3_spoon cX3_spoon 4 (some .int)) ∈ lb_tbl := lb_mem2 (i := 169) rfl rfl
set_option maxRecDepth 20000 in
theorem qw_452 : (Cond.methodLink RX7 109 yJ9_max_7cf53) ∈ lb_tbl := lb_mem2 (i := 170) rfl rfl
set_option maxRecDepth 20000 in
theorem qw_453 : (Cond.methodLink RX8 75 yX4_lengthAt) ∈ lb_tbl := lb_mem2 (i := 171) rfl rfl
set_option maxRecDepth 20000 in
theorem qw_454 : (Cond.methodLink RX8 78 yJ9_max_7cf53) ∈ lb_tbl := lb_mem2 (i := 172) rfl rfl
set_option maxRecDepth 20000 in
theorem qw_455 : (Cond.arrayClass Jvm.ClassFile.FieldType.byte) ∈ lb_tbl := lb_mem2 (i := 173) rfl rfl
set_option maxRecDepth 20000 in
theorem qw_456 : (Cond.methodLink RL 23 yX8_pot) ∈ lb_tbl := lb_mem2 (i := 174) rfl rfl
set_option maxRecDepth 20000 in
theorem qw_457 : (Cond.instanceMethod yX8_pot) ∈ lb_tbl := lb_mem2 (i := 175) rfl rfl
set_option maxRecDepth 20000 in
theorem qw_458 : (Cond.selects RX8 yX8_pot yX8_pot) ∈ lb_tbl := lb_mem2 (i := 176) rfl rfl
set_option maxRecDepth 20000 in
theorem qw_459 : (Cond.code yX8_pot cX8_pot 4 (some .int)) ∈ lb_tbl := lb_mem2 (i := 177) rfl rfl
set_option maxRecDepth 20000 in
theorem qw_460 : (Cond.methodLink RX8 83 yX8_potThere) ∈ lb_tbl := lb_mem2 (i := 178) rfl rfl
set_option maxRecDepth 20000 in
theorem qw_462 : (Cond.instanceMethod yX8_potThere) ∈ lb_tbl := lb_mem2 (i := 180) rfl rfl
set_option maxRecDepth 20000 in
theorem qw_463 : (Cond.code yX8_potThere cX8_potThere 2 (some .int)) ∈ lb_tbl := lb_mem2 (i := 181) rfl rfl
set_option maxRecDepth 20000 in
theorem qw_464 : (Cond.methodLink RX8 232 yX7_hasPot) ∈ lb_tbl := lb_mem2 (i := 182) rfl rfl
set_option maxRecDepth 20000 in
theorem qw_465 : (Cond.methodLink RX8 86 yX8_known) ∈ lb_tbl := lb_mem2 (i := 183) rfl rfl
set_option maxRecDepth 20000 in
theorem qw_466 : (Cond.static yX8_known) ∈ lb_tbl := lb_mem2 (i := 184) rfl rfl
set_option maxRecDepth 20000 in
theorem qw_467 : (Cond.code yX8_known cX8_known 2 (some .int)) ∈ lb_tbl := lb_mem2 (i := 185) rfl rfl
set_option maxRecDepth 20000 in
theorem qw_468 : (Cond.methodLink RL 28 yX8_person) ∈ lb_tbl := lb_mem2 (i := 186) rfl rfl
set_option maxRecDepth 20000 in
theorem qw_469 : (Cond.instanceMethod yX8_person) ∈ lb_tbl := lb_mem2 (i := 187) rfl rfl
set_option maxRecDepth 20000 in
theorem qw_470 : (Cond.selects RX8 yX8_person yX8_person) ∈ lb_tbl := lb_mem2 (i := 188) rfl rfl
set_option maxRecDepth 20000 in
theorem qw_471 : (Cond.code yX8_person cX8_person 4 (some .int)) ∈ lb_tbl := lb_mem2 (i := 189) rfl rfl
set_option maxRecDepth 20000 in
theorem qw_472 : (Cond.methodLink RX8 107 yX8_personThere) ∈ lb_tbl := lb_mem2 (i := 190) rfl rfl
set_option maxRecDepth 20000 in
theorem qw_474 : (Cond.instanceMethod yX8_personThere) ∈ lb_tbl := lb_mem2 (i := 192) rfl rfl
set_option maxRecDepth 20000 in
theorem qw_475 : (Cond.code yX8_personThere cX8_personThere 2 (some .int)) ∈ lb_tbl := lb_mem2 (i := 193) rfl rfl
set_option maxRecDepth 20000 in
theorem qw_476 : (Cond.methodLink RX8 250 yX7_hasPerson) ∈ lb_tbl := lb_mem2 (i := 194) rfl rfl
set_option maxRecDepth 20000 in
theorem qw_477 : (Cond.methodLink RX8 116 yX7_opened) ∈ lb_tbl := lb_mem2 (i := 195) rfl rfl
set_option maxRecDepth 20000 in
theorem qw_478 : (Cond.methodLink RX8 119 yX7_potsOf) ∈ lb_tbl := lb_mem2 (i := 196) rfl rfl
set_option maxRecDepth 20000 in
theorem qw_479 : (Cond.instanceMethod yX7_potsOf) ∈ lb_tbl := lb_mem2 (i := 197) rfl rfl
set_option maxRecDepth 20000 in
theorem qw_480 : (Cond.selects RX7 yX7_potsOf yX7_potsOf) ∈ lb_tbl := lb_mem2 (i := 198) rfl rfl
set_option maxRecDepth 20000 in
theorem qw_481 : (Cond.code yX7_potsOf cX7_potsOf 4 (some .int)) ∈ lb_tbl := lb_mem2 (i := 199) rfl rfl
set_option maxRecDepth 20000 in
theorem qw_482 : (Cond.methodLink RL 32 yX8_gains) ∈ lb_tbl := lb_mem2 (i := 200) rfl rfl
set_option maxRecDepth 20000 in
theorem qw_483 : (Cond.instanceMethod yX8_gains) ∈ lb_tbl := lb_mem2 (i := 201) rfl rfl
set_option maxRecDepth 20000 in
theorem qw_484 : (Cond.selects RX8 yX8_gains yX8_gains) ∈ lb_tbl := lb_mem2 (i := 202) rfl rfl
set_option maxRecDepth 20000 in
theorem qw_485 : (Cond.code yX8_gains cX8_gains 4 (some .int)) ∈ lb_tbl := lb_mem2 (i := 203) rfl rfl
set_option maxRecDepth 20000 in
theorem qw_486 : (Cond.methodLink RX8 122 yX8_refuseFar) ∈ lb_tbl := lb_mem2 (i := 204) rfl rfl
set_option maxRecDepth 20000 in
theorem qw_488 : (Cond.instanceMethod yX8_refuseFar) ∈ lb_tbl := lb_mem2 (i := 206) rfl rfl
set_option maxRecDepth 20000 in
theorem qw_489 : (Cond.code yX8_refuseFar cX8_refuseFar 2 (some .int)) ∈ lb_tbl := lb_mem2 (i := 207) rfl rfl
set_option maxRecDepth 20000 in
theorem qw_490 : (Cond.constant RX8 247 (1000000000)) ∈ lb_tbl := lb_mem2 (i := 208) rfl rfl
set_option maxRecDepth 20000 in
theorem qw_491 : (Cond.methodLink RX8 125 yX7_gained) ∈ lb_tbl := lb_mem2 (i := 209) rfl rfl
set_option maxRecDepth 20000 in
theorem qw_492 : (Cond.methodLink RL 36 yX8_labels) ∈ lb_tbl := lb_mem2 (i := 210) rfl rfl
set_option maxRecDepth 20000 in
theorem qw_493 : (Cond.instanceMethod yX8_labels) ∈ lb_tbl := lb_mem2 (i := 211) rfl rfl
set_option maxRecDepth 20000 in
theorem qw_494 : (Cond.selects RX8 yX8_labels yX8_labels) ∈ lb_tbl := lb_mem2 (i := 212) rfl rfl
set_option maxRecDepth 20000 in
theorem qw_495 : (Cond.code yX8_labels cX8_labels 5 (some .int)) ∈ lb_tbl := lb_mem2 (i := 213) rfl rfl
set_option maxRecDepth 20000 in
theorem qw_496 : (Cond.methodLink RX8 128 yX7_isLabel) ∈ lb_tbl := lb_mem2 (i := 214) rfl rfl
set_option maxRecDepth 20000 in
theorem qw_497 : (Cond.methodLink RL 40 yX8_gives) ∈ lb_tbl := lb_mem2 (i := 215) rfl rfl
set_option maxRecDepth 20000 in
theorem qw_498 : (Cond.instanceMethod yX8_gives) ∈ lb_tbl := lb_mem2 (i := 216) rfl rfl
set_option maxRecDepth 20000 in
theorem qw_499 : (Cond.selects RX8 yX8_gives yX8_gives) ∈ lb_tbl := lb_mem2 (i := 217) rfl rfl
set_option maxRecDepth 20000 in
theorem qw_500 : (Cond.code yX8_gives cX8_gives 5 (some .int)) ∈ lb_tbl := lb_mem2 (i := 218) rfl rfl
set_option maxRecDepth 20000 in
theorem qw_501 : (Cond.methodLink RL 44 yX8_likes) ∈ lb_tbl := lb_mem2 (i := 219) rfl rfl
set_option maxRecDepth 20000 in
theorem qw_502 : (Cond.instanceMethod yX8_likes) ∈ lb_tbl := lb_mem2 (i := 220) rfl rfl
set_option maxRecDepth 20000 in
theorem qw_503 : (Cond.selects RX8 yX8_likes yX8_likes) ∈ lb_tbl := lb_mem2 (i := 221) rfl rfl
set_option maxRecDepth 20000 in
theorem qw_504 : (Cond.code yX8_likes cX8_likes 5 (some .int)) ∈ lb_tbl := lb_mem2 (i := 222) rfl rfl
set_option maxRecDepth 20000 in
theorem qw_505 : (Cond.methodLink RX8 132 yX7_isSort) ∈ lb_tbl := lb_mem2 (i := 223) rfl rfl
set_option maxRecDepth 20000 in
theorem qw_506 : (Cond.methodLink RL 48 yX8_fills) ∈ lb_tbl := lb_mem2 (i := 224) rfl rfl
set_option maxRecDepth 20000 in
theorem qw_507 : (Cond.instanceMethod yX8_fills) ∈ lb_tbl := lb_mem2 (i := 225) rfl rfl
set_option maxRecDepth 20000 in
theorem qw_508 : (Cond.selects RX8 yX8_fills yX8_fills) ∈ lb_tbl := lb_mem2 (i := 226) rfl rfl
set_option maxRecDepth 20000 in
theorem qw_509 : (Cond.code yX8_fills cX8_fills 5 (some .int)) ∈ lb_tbl := lb_mem2 (i := 227) rfl rfl
set_option maxRecDepth 20000 in
theorem qw_510 : (Cond.methodLink RL 52 yX8_turn) ∈ lb_tbl := lb_mem2 (i := 228) rfl rfl
set_option maxRecDepth 20000 in
theorem qw_511 : (Cond.instanceMethod yX8_turn) ∈ lb_tbl := lb_mem2 (i := 229) rfl rfl
set_option maxRecDepth 20000 in
theorem qw_512 : (Cond.selects RX8 yX8_turn yX8_turn) ∈ lb_tbl := lb_mem2 (i := 230) rfl rfl
set_option maxRecDepth 20000 in
theorem qw_513 : (Cond.code yX8_turn cX8_turn 6 (some .int)) ∈ lb_tbl := lb_mem2 (i := 231) rfl rfl
set_option maxRecDepth 20000 in
theorem qw_514 : (Cond.methodLink RX8 135 yX8_first_) ∈ lb_tbl := lb_mem2 (i := 232) rfl rfl
set_option maxRecDepth 20000 in
theorem qw_515 : (Cond.static yX8_first_) ∈ lb_tbl := lb_mem2 (i := 233) rfl rfl
set_option maxRecDepth 20000 in
theorem qw_516 : (Cond.code yX8_first_ cX8_first_ 3 (some .int)) ∈ lb_tbl := lb_mem2 (i := 234) rfl rfl
set_option maxRecDepth 20000 in
theorem qw_517 : (Cond.methodLink RL 57 yX8_years) ∈ lb_tbl := lb_mem2 (i := 235) rfl rfl
set_option maxRecDepth 20000 in
theorem qw_518 : (Cond.instanceMethod yX8_years) ∈ lb_tbl := lb_mem2 (i := 236) rfl rfl
set_option maxRecDepth 20000 in
theorem qw_519 : (Cond.selects RX8 yX8_years yX8_years) ∈ lb_tbl := lb_mem2 (i := 237) rfl rfl
set_option maxRecDepth 20000 in
theorem qw_520 : (Cond.code yX8_years cX8_years 3 (some .int)) ∈ lb_tbl := lb_mem2 (i := 238) rfl rfl
set_option maxRecDepth 20000 in
theorem qw_521 : (Cond.methodLink RX8 140 yX7_pass) ∈ lb_tbl := lb_mem2 (i := 239) rfl rfl
set_option maxRecDepth 20000 in
theorem qw_522 : (Cond.methodLink RX8 143 yX7_allGrace) ∈ lb_tbl := lb_mem3 (i := 0) rfl rfl
set_option maxRecDepth 20000 in
theorem qw_523 : (Cond.instanceMethod yX7_allGrace) ∈ lb_tbl := lb_mem3 (i := 1) rfl rfl
set_option maxRecDepth 20000 in
theorem qw_524 : (Cond.selects RX7 yX7_allGrace yX7_allGrace) ∈ lb_tbl := lb_mem3 (i := 2) rfl rfl
set_option maxRecDepth 20000 in
theorem qw_525 : (Cond.code yX7_allGrace cX7_allGrace 3 (some .int)) ∈ lb_tbl := lb_mem3 (i := 3) rfl rfl
set_option maxRecDepth 20000 in
theorem qw_526 : (Cond.methodLink RL 61 yX8_personThen) ∈ lb_tbl := lb_mem3 (i := 4) rfl rfl
set_option maxRecDepth 20000 in
theorem qw_527 : (Cond.instanceMethod yX8_personThen) ∈ lb_tbl := lb_mem3 (i := 5) rfl rfl
set_option maxRecDepth 20000 in
theorem qw_528 : (Cond.selects RX8 yX8_personThen yX8_personThen) ∈ lb_tbl := lb_mem3 (i := 6) rfl rfl
set_option maxRecDepth 20000 in
theorem qw_529 : (Cond.code yX8_personThen cX8_personThen 5 (some .int)) ∈ lb_tbl := lb_mem3 (i := 7) rfl rfl
set_option maxRecDepth 20000 in
theorem qw_530 : (Cond.methodLink RX8 146 yX7_passFor) ∈ lb_tbl := lb_mem3 (i := 8) rfl rfl
set_option maxRecDepth 20000 in
theorem qw_531 : (Cond.methodLink RL 65 yX8_fullThen) ∈ lb_tbl := lb_mem3 (i := 9) rfl rfl
set_option maxRecDepth 20000 in
theorem qw_532 : (Cond.instanceMethod yX8_fullThen) ∈ lb_tbl := lb_mem3 (i := 10) rfl rfl
set_option maxRecDepth 20000 in
theorem qw_533 : (Cond.selects RX8 yX8_fullThen yX8_fullThen) ∈ lb_tbl := lb_mem3 (i := 11) rfl rfl
set_option maxRecDepth 20000 in
theorem qw_534 : (Cond.code yX8_fullThen cX8_fullThen 4 (some .int)) ∈ lb_tbl := lb_mem3 (i := 12) rfl rfl
set_option maxRecDepth 20000 in
theorem qw_535 : (Cond.methodLink RL 69 yX8_graceThen) ∈ lb_tbl := lb_mem3 (i := 13) rfl rfl
set_option maxRecDepth 20000 in
theorem qw_536 : (Cond.instanceMethod yX8_graceThen) ∈ lb_tbl := lb_mem3 (i := 14) rfl rfl
set_option maxRecDepth 20000 in
theorem qw_537 : (Cond.selects RX8 yX8_graceThen yX8_graceThen) ∈ lb_tbl := lb_mem3 (i := 15) rfl rfl
set_option maxRecDepth 20000 in
theorem qw_538 : (Cond.code yX8_graceThen cX8_graceThen 3 (some .int)) ∈ lb_tbl := lb_mem3 (i := 16) rfl rfl
set_option maxRecDepth 20000 in
theorem qw_539 : (Cond.methodLink RX8 150 yX8_allGraceBehind) ∈ lb_tbl := lb_mem3 (i := 17) rfl rfl
set_option maxRecDepth 20000 in
theorem qw_541 : (Cond.instanceMethod yX8_allGraceBehind) ∈ lb_tbl := lb_mem3 (i := 19) rfl rfl
set_option maxRecDepth 20000 in
theorem qw_542 : (Cond.code yX8_allGraceBehind cX8_allGraceBehind 2 (some .int)) ∈ lb_tbl := lb_mem3 (i := 20) rfl rfl
set_option maxRecDepth 20000 in
theorem qw_543 : (Cond.methodLink RL 73 yX8_graceless) ∈ lb_tbl := lb_mem3 (i := 21) rfl rfl
set_option maxRecDepth 20000 in
theorem qw_544 : (Cond.instanceMethod yX8_graceless) ∈ lb_tbl := lb_mem3 (i := 22) rfl rfl
set_option maxRecDepth 20000 in
theorem qw_545 : (Cond.selects RX8 yX8_graceless yX8_graceless) ∈ lb_tbl := lb_mem3 (i := 23) rfl rfl
set_option maxRecDepth 20000 in
theorem qw_546 : (Cond.code yX8_graceless cX8_graceless 4 (some .int)) ∈ lb_tbl := lb_mem3 (i := 24) rfl rfl
set_option maxRecDepth 20000 in
theorem qw_547 : (Cond.methodLink RX8 153 yX8_firstGraceless) ∈ lb_tbl := lb_mem3 (i := 25) rfl rfl
set_option maxRecDepth 20000 in
theorem qw_549 : (Cond.instanceMethod yX8_firstGraceless) ∈ lb_tbl := lb_mem3 (i := 27) rfl rfl
set_option maxRecDepth 20000 in
theorem qw_550 : (Cond.code yX8_firstGraceless cX8_firstGraceless 3 (some .int)) ∈ lb_tbl := lb_mem3 (i := 28) rfl rfl
set_option maxRecDepth 20000 in
theorem qw_551 : (Cond.methodLink RL 77 yX8_empties) ∈ lb_tbl := lb_mem3 (i := 29) rfl rfl
set_option maxRecDepth 20000 in
theorem qw_552 : (Cond.instanceMethod yX8_empties) ∈ lb_tbl := lb_mem3 (i := 30) rfl rfl
set_option maxRecDepth 20000 in
theorem qw_553 : (Cond.selects RX8 yX8_empties yX8_empties) ∈ lb_tbl := lb_mem3 (i := 31) rfl rfl
set_option maxRecDepth 20000 in
theorem qw_554 : (Cond.code yX8_empties cX8_empties 4 (some .int)) ∈ lb_tbl := lb_mem3 (i := 32) rfl rfl
set_option maxRecDepth 20000 in
theorem qw_555 : (Cond.methodLink RL 81 yX8_label) ∈ lb_tbl := lb_mem3 (i := 33) rfl rfl
set_option maxRecDepth 20000 in
theorem qw_556 : (Cond.instanceMethod yX8_label) ∈ lb_tbl := lb_mem3 (i := 34) rfl rfl
set_option maxRecDepth 20000 in
theorem qw_557 : (Cond.selects RX8 yX8_label yX8_label) ∈ lb_tbl := lb_mem3 (i := 35) rfl rfl
set_option maxRecDepth 20000 in
theorem qw_558 : (Cond.code yX8_label cX8_label 8 (some .int)) ∈ lb_tbl := lb_mem3 (i := 36) rfl rfl
set_option maxRecDepth 20000 in
theorem qw_559 : (Cond.methodLink RL 85 yX8_honest) ∈ lb_tbl := lb_mem3 (i := 37) rfl rfl
set_option maxRecDepth 20000 in
theorem qw_560 : (Cond.instanceMethod yX8_honest) ∈ lb_tbl := lb_mem3 (i := 38) rfl rfl
set_option maxRecDepth 20000 in
theorem qw_561 : (Cond.selects RX8 yX8_honest yX8_honest) ∈ lb_tbl := lb_mem3 (i := 39) rfl rfl
set_option maxRecDepth 20000 in
theorem qw_562 : (Cond.code yX8_honest cX8_honest 3 (some .int)) ∈ lb_tbl := lb_mem3 (i := 40) rfl rfl
set_option maxRecDepth 20000 in
theorem qw_563 : (Cond.methodLink RX8 159 yX7_honestPots) ∈ lb_tbl := lb_mem3 (i := 41) rfl rfl
set_option maxRecDepth 20000 in
theorem qw_564 : (Cond.instanceMethod yX7_honestPots) ∈ lb_tbl := lb_mem3 (i := 42) rfl rfl
set_option maxRecDepth 20000 in
theorem qw_565 : (Cond.selects RX7 yX7_honestPots yX7_honestPots) ∈ lb_tbl := lb_mem3 (i := 43) rfl rfl
set_option maxRecDepth 20000 in
theorem qw_566 : (Cond.code yX7_honestPots cX7_honestPots 3 (some .int)) ∈ lb_tbl := lb_mem3 (i := 44) rfl rfl
set_option maxRecDepth 20000 in
theorem qw_567 : (Cond.methodLink RX8 162 yX7_hopefulPots) ∈ lb_tbl := lb_mem3 (i := 45) rfl rfl
set_option maxRecDepth 20000 in
theorem qw_568 : (Cond.instanceMethod yX7_hopefulPots) ∈ lb_tbl := lb_mem3 (i := 46) rfl rfl
set_option maxRecDepth 20000 in
theorem qw_569 : (Cond.selects RX7 yX7_hopefulPots yX7_hopefulPots) ∈ lb_tbl := lb_mem3 (i := 47) rfl rfl
set_option maxRecDepth 20000 in
theorem qw_570 : (Cond.code yX7_hopefulPots cX7_hopefulPots 3 (some .int)) ∈ lb_tbl := lb_mem3 (i := 48) rfl rfl
set_option maxRecDepth 20000 in
theorem qw_571 : (Cond.methodLink RL 89 yX8_audit) ∈ lb_tbl := lb_mem3 (i := 49) rfl rfl
set_option maxRecDepth 20000 in
theorem qw_572 : (Cond.instanceMethod yX8_audit) ∈ lb_tbl := lb_mem3 (i := 50) rfl rfl
set_option maxRecDepth 20000 in
theorem qw_573 : (Cond.selects RX8 yX8_audit yX8_audit) ∈ lb_tbl := lb_mem3 (i := 51) rfl rfl
set_option maxRecDepth 20000 in
theorem qw_574 : (Cond.code yX8_audit cX8_audit 6 (some .int)) ∈ lb_tbl := lb_mem3 (i := 52) rfl rfl
set_option maxRecDepth 20000 in
theorem qw_575 : (Cond.methodLink RL 93 yX8_change) ∈ lb_tbl := lb_mem3 (i := 53) rfl rfl
set_option maxRecDepth 20000 in
theorem qw_576 : (Cond.instanceMethod yX8_change) ∈ lb_tbl := lb_mem3 (i := 54) rfl rfl
set_option maxRecDepth 20000 in
theorem qw_577 : (Cond.selects RX8 yX8_change yX8_change) ∈ lb_tbl := lb_mem3 (i := 55) rfl rfl
set_option maxRecDepth 20000 in
theorem qw_578 : (Cond.code yX8_change cX8_change 8 (some .int)) ∈ lb_tbl := lb_mem3 (i := 56) rfl rfl
set_option maxRecDepth 20000 in
theorem qw_579 : (Cond.methodLink RX8 168 yX8_allGraceChanged) ∈ lb_tbl := lb_mem3 (i := 57) rfl rfl
set_option maxRecDepth 20000 in
theorem qw_581 : (Cond.instanceMethod yX8_allGraceChanged) ∈ lb_tbl := lb_mem3 (i := 59) rfl rfl
set_option maxRecDepth 20000 in
theorem qw_582 : (Cond.code yX8_allGraceChanged cX8_allGraceChanged 4 (some .int)) ∈ lb_tbl := lb_mem3 (i := 60) rfl rfl
set_option maxRecDepth 20000 in
theorem qw_583 : (Cond.methodLink RL 97 yX8_gift) ∈ lb_tbl := lb_mem3 (i := 61) rfl rfl
set_option maxRecDepth 20000 in
theorem qw_584 : (Cond.instanceMethod yX8_gift) ∈ lb_tbl := lb_mem3 (i := 62) rfl rfl
set_option maxRecDepth 20000 in
theorem qw_585 : (Cond.selects RX8 yX8_gift yX8_gift) ∈ lb_tbl := lb_mem3 (i := 63) rfl rfl
set_option maxRecDepth 20000 in
theorem qw_586 : (Cond.code yX8_gift cX8_gift 8 (some .int)) ∈ lb_tbl := lb_mem3 (i := 64) rfl rfl
set_option maxRecDepth 20000 in
theorem qw_587 : (Cond.methodLink RX8 171 yX8_allGraceGiven) ∈ lb_tbl := lb_mem3 (i := 65) rfl rfl
set_option maxRecDepth 20000 in
theorem qw_589 : (Cond.instanceMethod yX8_allGraceGiven) ∈ lb_tbl := lb_mem3 (i := 67) rfl rfl
set_option maxRecDepth 20000 in
theorem qw_590 : (Cond.code yX8_allGraceGiven cX8_allGraceGiven 4 (some .int)) ∈ lb_tbl := lb_mem3 (i := 68) rfl rfl
set_option maxRecDepth 20000 in
theorem qw_591 : (Cond.methodLink RL 101 yX8_deal) ∈ lb_tbl := lb_mem3 (i := 69) rfl rfl
set_option maxRecDepth 20000 in
theorem qw_592 : (Cond.instanceMethod yX8_deal) ∈ lb_tbl := lb_mem3 (i := 70) rfl rfl
set_option maxRecDepth 20000 in
theorem qw_593 : (Cond.selects RX8 yX8_deal yX8_deal) ∈ lb_tbl := lb_mem3 (i := 71) rfl rfl
set_option maxRecDepth 20000 in
theorem qw_594 : (Cond.code yX8_deal cX8_deal 6 (some .int)) ∈ lb_tbl := lb_mem3 (i := 72) rfl rfl
set_option maxRecDepth 20000 in
theorem qw_595 : (Cond.methodLink RX8 174 yX8_whoGainsMost) ∈ lb_tbl := lb_mem3 (i := 73) rfl rfl
set_option maxRecDepth 20000 in
theorem qw_597 : (Cond.instanceMethod yX8_whoGainsMost) ∈ lb_tbl := lb_mem3 (i := 75) rfl rfl
set_option maxRecDepth 20000 in
theorem qw_598 : (Cond.code yX8_whoGainsMost cX8_whoGainsMost 4 (some .int)) ∈ lb_tbl := lb_mem3 (i := 76) rfl rfl
set_option maxRecDepth 20000 in
theorem qw_599 : (Cond.methodLink RL 105 yX8_worst) ∈ lb_tbl := lb_mem3 (i := 77) rfl rfl
set_option maxRecDepth 20000 in
theorem qw_600 : (Cond.instanceMethod yX8_worst) ∈ lb_tbl := lb_mem3 (i := 78) rfl rfl
set_option maxRecDepth 20000 in
theorem qw_601 : (Cond.selects RX8 yX8_worst yX8_worst) ∈ lb_tbl := lb_mem3 (i := 79) rfl rfl
set_option maxRecDepth 20000 in
theorem qw_602 : (Cond.code yX8_worst cX8_worst 7 (some .int)) ∈ lb_tbl := lb_mem3 (i := 80) rfl rfl
set_option maxRecDepth 20000 in
theorem qw_603 : (Cond.methodLink RL 109 yX8_trust) ∈ lb_tbl := lb_mem3 (i := 81) rfl rfl
set_option maxRecDepth 20000 in
theorem qw_604 : (Cond.instanceMethod yX8_trust) ∈ lb_tbl := lb_mem3 (i := 82) rfl rfl
set_option maxRecDepth 20000 in
theorem qw_605 : (Cond.selects RX8 yX8_trust yX8_trust) ∈ lb_tbl := lb_mem3 (i := 83) rfl rfl
set_option maxRecDepth 20000 in
theorem qw_606 : (Cond.code yX8_trust cX8_trust 5 (some .int)) ∈ lb_tbl := lb_mem3 (i := 84) rfl rfl
set_option maxRecDepth 20000 in
theorem qw_607 : (Cond.methodLink RX8 177 yX7_canOpen) ∈ lb_tbl := lb_mem3 (i := 85) rfl rfl
set_option maxRecDepth 20000 in
theorem qw_608 : (Cond.methodLink RL 113 yX8_shelf) ∈ lb_tbl := lb_mem3 (i := 86) rfl rfl
set_option maxRecDepth 20000 in
theorem qw_609 : (Cond.instanceMethod yX8_shelf) ∈ lb_tbl := lb_mem3 (i := 87) rfl rfl
set_option maxRecDepth 20000 in
theorem qw_610 : (Cond.selects RX8 yX8_shelf yX8_shelf) ∈ lb_tbl := lb_mem3 (i := 88) rfl rfl
set_option maxRecDepth 20000 in
theorem qw_611 : (Cond.code yX8_shelf cX8_shelf 7 (some .int)) ∈ lb_tbl := lb_mem3 (i := 89) rfl rfl
set_option maxRecDepth 20000 in
theorem qw_612 : (Cond.methodLink RL 117 yX8_sorts) ∈ lb_tbl := lb_mem3 (i := 90) rfl rfl
set_option maxRecDepth 20000 in
theorem qw_613 : (Cond.instanceMethod yX8_sorts) ∈ lb_tbl := lb_mem3 (i := 91) rfl rfl
set_option maxRecDepth 20000 in
theorem qw_614 : (Cond.selects RX8 yX8_sorts yX8_sorts) ∈ lb_tbl := lb_mem3 (i := 92) rfl rfl
set_option maxRecDepth 20000 in
theorem qw_615 : (Cond.code yX8_sorts cX8_sorts 3 (some .int)) ∈ lb_tbl := lb_mem3 (i := 93) rfl rfl
set_option maxRecDepth 20000 in
theorem qw_616 : (Cond.methodLink RX8 181 yX7_sortsHeld) ∈ lb_tbl := lb_mem3 (i := 94) rfl rfl
set_option maxRecDepth 20000 in
theorem qw_617 : (Cond.instanceMethod yX7_sortsHeld) ∈ lb_tbl := lb_mem3 (i := 95) rfl rfl
set_option maxRecDepth 20000 in
theorem qw_618 : (Cond.selects RX7 yX7_sortsHeld yX7_sortsHeld) ∈ lb_tbl := lb_mem3 (i := 96) rfl rfl
set_option maxRecDepth 20000 in
theorem qw_619 : (Cond.code yX7_sortsHeld cX7_sortsHeld 3 (some .int)) ∈ lb_tbl := lb_mem3 (i := 97) rfl rfl
set_option maxRecDepth 20000 in
theorem qw_620 : (Cond.methodLink RX8 184 yX7_mostHeld) ∈ lb_tbl := lb_mem3 (i := 98) rfl rfl
set_option maxRecDepth 20000 in
theorem qw_621 : (Cond.instanceMethod yX7_mostHeld) ∈ lb_tbl := lb_mem3 (i := 99) rfl rfl
set_option maxRecDepth 20000 in
theorem qw_622 : (Cond.selects RX7 yX7_mostHeld yX7_mostHeld) ∈ lb_tbl := lb_mem3 (i := 100) rfl rfl
set_option maxRecDepth 20000 in
theorem qw_623 : (Cond.code yX7_mostHeld cX7_mostHeld 3 (some .int)) ∈ lb_tbl := lb_mem3 (i := 101) rfl rfl
set_option maxRecDepth 20000 in
theorem qw_624 : (Cond.methodLink RX7 112 yX7_spoonsOf) ∈ lb_tbl := lb_mem3 (i := 102) rfl rfl
set_option maxRecDepth 20000 in
theorem qw_625 : (Cond.instanceMethod yX7_spoonsOf) ∈ lb_tbl := lb_mem3 (i := 103) rfl rfl
set_option maxRecDepth 20000 in
theorem qw_626 : (Cond.selects RX7 yX7_spoonsOf yX7_spoonsOf) ∈ lb_tbl := lb_mem3 (i := 104) rfl rfl
set_option maxRecDepth 20000 in
theorem qw_627 : (Cond.code yX7_spoonsOf cX7_spoonsOf 4 (some .int)) ∈ lb_tbl := lb_mem3 (i := 105) rfl rfl
set_option maxRecDepth 20000 in
theorem qw_628 : (Cond.methodLink RX8 187 yX7_sortsOnLabels) ∈ lb_tbl := lb_mem3 (i := 106) rfl rfl
set_option maxRecDepth 20000 in
theorem qw_629 : (Cond.instanceMethod yX7_sortsOnLabels) ∈ lb_tbl := lb_mem3 (i := 107) rfl rfl
set_option maxRecDepth 20000 in
theorem qw_630 : (Cond.selects RX7 yX7_sortsOnLabels yX7_sortsOnLabels) ∈ lb_tbl := lb_mem3 (i := 108) rfl rfl
set_option maxRecDepth 20000 in
theorem qw_631 : (Cond.code yX7_sortsOnLabels cX7_sortsOnLabels 3 (some .int)) ∈ lb_tbl := lb_mem3 (i := 109) rfl rfl
set_option maxRecDepth 20000 in
theorem qw_632 : (Cond.methodLink RL 121 yX8_fewest) ∈ lb_tbl := lb_mem3 (i := 110) rfl rfl
set_option maxRecDepth 20000 in
theorem qw_633 : (Cond.instanceMethod yX8_fewest) ∈ lb_tbl := lb_mem3 (i := 111) rfl rfl
set_option maxRecDepth 20000 in
theorem qw_634 : (Cond.selects RX8 yX8_fewest yX8_fewest) ∈ lb_tbl := lb_mem3 (i := 112) rfl rfl
set_option maxRecDepth 20000 in
theorem qw_635 : (Cond.code yX8_fewest cX8_fewest 6 (some .int)) ∈ lb_tbl := lb_mem3 (i := 113) rfl rfl
set_option maxRecDepth 20000 in
theorem qw_636 : (Cond.methodLink RX8 190 yX8_fewestOf) ∈ lb_tbl := lb_mem3 (i := 114) rfl rfl
set_option maxRecDepth 20000 in
theorem qw_638 : (Cond.instanceMethod yX8_fewestOf) ∈ lb_tbl := lb_mem3 (i := 116) rfl rfl
set_option maxRecDepth 20000 in
theorem qw_639 : (Cond.code yX8_fewestOf cX8_fewestOf 7 (some .int)) ∈ lb_tbl := lb_mem3 (i := 117) rfl rfl
set_option maxRecDepth 20000 in
theorem qw_640 : (Cond.methodLink RX8 193 yJ6_bitCount_0f7a4) ∈ lb_tbl := lb_mem3 (i := 118) rfl rfl
set_option maxRecDepth 20000 in
theorem qw_641 : (Cond.static yJ6_bitCount_0f7a4) ∈ lb_tbl := lb_mem3 (i := 119) rfl rfl
set_option maxRecDepth 20000 in
theorem qw_642 : (Cond.code yJ6_bitCount_0f7a4 cJ6_bitCount_0f7a4 1 (some .int)) ∈ lb_tbl := lb_mem3 (i := 120) rfl rfl
set_option maxRecDepth 20000 in
theorem qw_643 : (Cond.constant RJ6 265 (1431655765)) ∈ lb_tbl := lb_mem3 (i := 121) rfl rfl
set_option maxRecDepth 20000 in
theorem qw_644 : (Cond.constant RJ6 266 (858993459)) ∈ lb_tbl := lb_mem3 (i := 122) rfl rfl
set_option maxRecDepth 20000 in
theorem qw_645 : (Cond.constant RJ6 267 (252645135)) ∈ lb_tbl := lb_mem3 (i := 123) rfl rfl
set_option maxRecDepth 20000 in
theorem qw_646 : (Cond.methodLink RX8 198 yX8_keepsGrace) ∈ lb_tbl := lb_mem3 (i := 124) rfl rfl
set_option maxRecDepth 20000 in
theorem qw_648 : (Cond.instanceMethod yX8_keepsGrace) ∈ lb_tbl := lb_mem3 (i := 126) rfl rfl
set_option maxRecDepth 20000 in
theorem qw_649 : (Cond.code yX8_keepsGrace cX8_keepsGrace 5 (some .boolean)) ∈ lb_tbl := lb_mem3 (i := 127) rfl rfl
set_option maxRecDepth 20000 in
theorem qw_650 : (Cond.methodLink RL 125 yX8_warn) ∈ lb_tbl := lb_mem3 (i := 128) rfl rfl
set_option maxRecDepth 20000 in
theorem qw_651 : (Cond.instanceMethod yX8_warn) ∈ lb_tbl := lb_mem3 (i := 129) rfl rfl
set_option maxRecDepth 20000 in
theorem qw_652 : (Cond.selects RX8 yX8_warn yX8_warn) ∈ lb_tbl := lb_mem3 (i := 130) rfl rfl
set_option maxRecDepth 20000 in
theorem qw_653 : (Cond.code yX8_warn cX8_warn 8 (some .int)) ∈ lb_tbl := lb_mem3 (i := 131) rfl rfl
set_option maxRecDepth 20000 in
theorem qw_654 : (Cond.methodLink RX8 202 yX8_graceBehind) ∈ lb_tbl := lb_mem3 (i := 132) rfl rfl
set_option maxRecDepth 20000 in
theorem qw_656 : (Cond.instanceMethod yX8_graceBehind) ∈ lb_tbl := lb_mem3 (i := 134) rfl rfl
set_option maxRecDepth 20000 in
theorem qw_657 : (Cond.code yX8_graceBehind cX8_graceBehind 3 (some .int)) ∈ lb_tbl := lb_mem3 (i := 135) rfl rfl
set_option maxRecDepth 20000 in
theorem qw_658 : (Cond.methodLink RX8 205 yX8_ownersGraceWithout) ∈ lb_tbl := lb_mem3 (i := 136) rfl rfl
set_option maxRecDepth 20000 in
theorem qw_660 : (Cond.instanceMethod yX8_ownersGraceWithout) ∈ lb_tbl := lb_mem3 (i := 138) rfl rfl
set_option maxRecDepth 20000 in
theorem qw_661 : (Cond.code yX8_ownersGraceWithout cX8_ownersGraceWithout 4 (some .int)) ∈ lb_tbl := lb_mem3 (i := 139) rfl rfl
set_option maxRecDepth 20000 in
theorem qw_662 : (Cond.methodLink RL 129 yX8_heir) ∈ lb_tbl := lb_mem3 (i := 140) rfl rfl
set_option maxRecDepth 20000 in
theorem qw_663 : (Cond.instanceMethod yX8_heir) ∈ lb_tbl := lb_mem3 (i := 141) rfl rfl
set_option maxRecDepth 20000 in
theorem qw_664 : (Cond.selects RX8 yX8_heir yX8_heir) ∈ lb_tbl := lb_mem3 (i := 142) rfl rfl
set_option maxRecDepth 20000 in
theorem qw_665 : (Cond.code yX8_heir cX8_heir 8 (some .int)) ∈ lb_tbl := lb_mem3 (i := 143) rfl rfl
set_option maxRecDepth 20000 in
theorem qw_666 : (Cond.methodLink RL 133 yX8_two) ∈ lb_tbl := lb_mem3 (i := 144) rfl rfl
set_option maxRecDepth 20000 in
theorem qw_667 : (Cond.instanceMethod yX8_two) ∈ lb_tbl := lb_mem3 (i := 145) rfl rfl
set_option maxRecDepth 20000 in
theorem qw_668 : (Cond.selects RX8 yX8_two yX8_two) ∈ lb_tbl := lb_mem3 (i := 146) rfl rfl
set_option maxRecDepth 20000 in
theorem qw_669 : (Cond.code yX8_two cX8_two 5 (some .int)) ∈ lb_tbl := lb_mem3 (i := 147) rfl rfl
set_option maxRecDepth 20000 in
theorem qw_670 : (Cond.methodLink RX8 208 yX8_isBetterWithout) ∈ lb_tbl := lb_mem3 (i := 148) rfl rfl
set_option maxRecDepth 20000 in
theorem qw_672 : (Cond.instanceMethod yX8_isBetterWithout) ∈ lb_tbl := lb_mem3 (i := 150) rfl rfl
set_option maxRecDepth 20000 in
theorem qw_673 : (Cond.code yX8_isBetterWithout cX8_isBetterWithout 3 (some .boolean)) ∈ lb_tbl := lb_mem3 (i := 151) rfl rfl
set_option maxRecDepth 20000 in
theorem qw_674 : (Cond.methodLink RL 137 yX8_errs) ∈ lb_tbl := lb_mem3 (i := 152) rfl rfl
set_option maxRecDepth 20000 in
theorem qw_675 : (Cond.instanceMethod yX8_errs) ∈ lb_tbl := lb_mem3 (i := 153) rfl rfl
set_option maxRecDepth 20000 in
theorem qw_676 : (Cond.selects RX8 yX8_errs yX8_errs) ∈ lb_tbl := lb_mem3 (i := 154) rfl rfl
set_option maxRecDepth 20000 in
theorem qw_677 : (Cond.code yX8_errs cX8_errs 10 (some .long)) ∈ lb_tbl := lb_mem3 (i := 155) rfl rfl
set_option maxRecDepth 20000 in
theorem qw_678 : (Cond.methodLink RX8 211 yX8_refuseFarthest) ∈ lb_tbl := lb_mem3 (i := 156) rfl rfl
set_option maxRecDepth 20000 in
theorem qw_680 : (Cond.instanceMethod yX8_refuseFarthest) ∈ lb_tbl := lb_mem3 (i := 158) rfl rfl
set_option maxRecDepth 20000 in
theorem qw_681 : (Cond.code yX8_refuseFarthest cX8_refuseFarthest 2 (some .long)) ∈ lb_tbl := lb_mem3 (i := 159) rfl rfl
set_option maxRecDepth 20000 in
theorem qw_682 : (Cond.constantLong RX8 248 (4000000000000000000)) ∈ lb_tbl := lb_mem3 (i := 160) rfl rfl
set_option maxRecDepth 20000 in
theorem qw_683 : (Cond.methodLink RX8 215 yX8_graceIfErring) ∈ lb_tbl := lb_mem3 (i := 161) rfl rfl
set_option maxRecDepth 20000 in
theorem qw_685 : (Cond.instanceMethod yX8_graceIfErring) ∈ lb_tbl := lb_mem3 (i := 163) rfl rfl
set_option maxRecDepth 20000 in
theorem qw_686 : (Cond.code yX8_graceIfErring cX8_graceIfErring 5 (some .int)) ∈ lb_tbl := lb_mem3 (i := 164) rfl rfl
set_option maxRecDepth 20000 in
theorem qw_687 : (Cond.methodLink RX8 226 yX7_labelsOneOn) ∈ lb_tbl := lb_mem3 (i := 165) rfl rfl
set_option maxRecDepth 20000 in
theorem qw_688 : (Cond.instanceMethod yX7_labelsOneOn) ∈ lb_tbl := lb_mem3 (i := 166) rfl rfl
set_option maxRecDepth 20000 in
theorem qw_689 : (Cond.selects RX7 yX7_labelsOneOn yX7_labelsOneOn) ∈ lb_tbl := lb_mem3 (i := 167) rfl rfl
set_option maxRecDepth 20000 in
theorem qw_690 : (Cond.code yX7_labelsOneOn cX7_labelsOneOn 2 none) ∈ lb_tbl := lb_mem3 (i := 168) rfl rfl
set_option maxRecDepth 20000 in
theorem qw_691 : (Cond.methodLink RX8 218 yX8_power) ∈ lb_tbl := lb_mem3 (i := 169) rfl rfl
set_option maxRecDepth 20000 in
theorem qw_692 : (Cond.static yX8_power) ∈ lb_tbl := lb_mem3 (i := 170) rfl rfl
set_option maxRecDepth 20000 in
theorem qw_693 : (Cond.code yX8_power cX8_power 5 (some .long)) ∈ lb_tbl := lb_mem3 (i := 171) rfl rfl
set_option maxRecDepth 20000 in
theorem qw_694 : (Cond.methodLink RX8 222 yX8_ofFraction) ∈ lb_tbl := lb_mem3 (i := 172) rfl rfl
set_option maxRecDepth 20000 in
theorem qw_695 : (Cond.static yX8_ofFraction) ∈ lb_tbl := lb_mem3 (i := 173) rfl rfl
set_option maxRecDepth 20000 in
theorem qw_696 : (Cond.code yX8_ofFraction cX8_ofFraction 7 (some .long)) ∈ lb_tbl := lb_mem3 (i := 174) rfl rfl
set_option maxRecDepth 20000 in
theorem qw_697 : (Cond.methodLink RX8 256 yX8_commonDivisor) ∈ lb_tbl := lb_mem3 (i := 175) rfl rfl
set_option maxRecDepth 20000 in
theorem qw_698 : (Cond.static yX8_commonDivisor) ∈ lb_tbl := lb_mem3 (i := 176) rfl rfl
set_option maxRecDepth 20000 in
theorem qw_699 : (Cond.code yX8_commonDivisor cX8_commonDivisor 11 (some .long)) ∈ lb_tbl := lb_mem3 (i := 177) rfl rfl
set_option maxRecDepth 20000 in
theorem qw_700 : (Cond.methodLink RX8 260 yJ9_max_f86c9) ∈ lb_tbl := lb_mem3 (i := 178) rfl rfl
set_option maxRecDepth 20000 in
theorem qw_701 : (Cond.static yJ9_max_f86c9) ∈ lb_tbl := lb_mem3 (i := 179) rfl rfl
set_option maxRecDepth 20000 in
theorem qw_702 : (Cond.code yJ9_max_f86c9 cJ9_max_f86c9 4 (some .long)) ∈ lb_tbl := lb_mem3 (i := 180) rfl rfl
set_option maxRecDepth 20000 in
theorem qw_703 : (Cond.methodLink RL 142 yX8_mean) ∈ lb_tbl := lb_mem3 (i := 181) rfl rfl
set_option maxRecDepth 20000 in
theorem qw_704 : (Cond.instanceMethod yX8_mean) ∈ lb_tbl := lb_mem3 (i := 182) rfl rfl
set_option maxRecDepth 20000 in
theorem qw_705 : (Cond.selects RX8 yX8_mean yX8_mean) ∈ lb_tbl := lb_mem3 (i := 183) rfl rfl
set_option maxRecDepth 20000 in
theorem qw_706 : (Cond.code yX8_mean cX8_mean 3 (some .long)) ∈ lb_tbl := lb_mem3 (i := 184) rfl rfl
set_option maxRecDepth 20000 in
theorem qw_707 : (Cond.methodLink RL 147 yX8_whatIn) ∈ lb_tbl := lb_mem3 (i := 185) rfl rfl
set_option maxRecDepth 20000 in
theorem qw_708 : (Cond.instanceMethod yX8_whatIn) ∈ lb_tbl := lb_mem3 (i := 186) rfl rfl
set_option maxRecDepth 20000 in
theorem qw_709 : (Cond.selects RX8 yX8_whatIn yX8_whatIn) ∈ lb_tbl := lb_mem3 (i := 187) rfl rfl
set_option maxRecDepth 20000 in
theorem qw_710 : (Cond.code yX8_whatIn cX8_whatIn 7 (some .int)) ∈ lb_tbl := lb_mem3 (i := 188) rfl rfl
set_option maxRecDepth 20000 in
theorem qw_711 : (Cond.methodLink RX8 229 yX8_goesAsRow) ∈ lb_tbl := lb_mem3 (i := 189) rfl rfl
set_option maxRecDepth 20000 in
theorem qw_713 : (Cond.instanceMethod yX8_goesAsRow) ∈ lb_tbl := lb_mem3 (i := 191) rfl rfl
set_option maxRecDepth 20000 in
theorem qw_714 : (Cond.code yX8_goesAsRow cX8_goesAsRow 3 (some .boolean)) ∈ lb_tbl := lb_mem3 (i := 192) rfl rfl
set_option maxRecDepth 20000 in
theorem qw_715 : (Cond.methodLink RL 151 yX8_row) ∈ lb_tbl := lb_mem3 (i := 193) rfl rfl
set_option maxRecDepth 20000 in
theorem qw_716 : (Cond.instanceMethod yX8_row) ∈ lb_tbl := lb_mem3 (i := 194) rfl rfl
set_option maxRecDepth 20000 in
theorem qw_717 : (Cond.selects RX8 yX8_row yX8_row) ∈ lb_tbl := lb_mem3 (i := 195) rfl rfl
set_option maxRecDepth 20000 in
theorem qw_718 : (Cond.code yX8_row cX8_row 3 (some .int)) ∈ lb_tbl := lb_mem3 (i := 196) rfl rfl
set_option maxRecDepth 20000 in
theorem qw_719 : (Cond.methodLink RL 155 yX8_judge) ∈ lb_tbl := lb_mem3 (i := 197) rfl rfl
set_option maxRecDepth 20000 in
theorem qw_720 : (Cond.instanceMethod yX8_judge) ∈ lb_tbl := lb_mem3 (i := 198) rfl rfl
set_option maxRecDepth 20000 in
theorem qw_721 : (Cond.selects RX8 yX8_judge yX8_judge) ∈ lb_tbl := lb_mem3 (i := 199) rfl rfl
set_option maxRecDepth 20000 in
theorem qw_722 : (Cond.code yX8_judge cX8_judge 3 (some .int)) ∈ lb_tbl := lb_mem3 (i := 200) rfl rfl
set_option maxRecDepth 20000 in
theorem qw_723 : (Cond.methodLink RL 159 yX8_clear) ∈ lb_tbl := lb_mem3 (i := 201) rfl rfl
set_option maxRecDepth 20000 in
theorem qw_724 : (Cond.instanceMethod yX8_clear) ∈ lb_tbl := lb_mem3 (i := 202) rfl rfl
set_option maxRecDepth 20000 in
theorem qw_725 : (Cond.selects RX8 yX8_clear yX8_clear) ∈ lb_tbl := lb_mem3 (i := 203) rfl rfl
set_option maxRecDepth 20000 in
theorem qw_726 : (Cond.code yX8_clear cX8_clear 2 (some .int)) ∈ lb_tbl := lb_mem3 (i := 204) rfl rfl
set_option maxRecDepth 20000 in
theorem qw_727 : (Cond.methodLink RL 163 yX8_lots) ∈ lb_tbl := lb_mem3 (i := 205) rfl rfl
set_option maxRecDepth 20000 in
theorem qw_728 : (Cond.instanceMethod yX8_lots) ∈ lb_tbl := lb_mem3 (i := 206) rfl rfl
set_option maxRecDepth 20000 in
theorem qw_729 : (Cond.selects RX8 yX8_lots yX8_lots) ∈ lb_tbl := lb_mem3 (i := 207) rfl rfl
set_option maxRecDepth 20000 in
theorem qw_730 : (Cond.code yX8_lots cX8_lots 10 (some .int)) ∈ lb_tbl := lb_mem3 (i := 208) rfl rfl
set_option maxRecDepth 20000 in
theorem qw_731 : (Cond.methodLink RX8 235 yX8_nextSeed) ∈ lb_tbl := lb_mem3 (i := 209) rfl rfl
set_option maxRecDepth 20000 in
theorem qw_732 : (Cond.static yX8_nextSeed) ∈ lb_tbl := lb_mem3 (i := 210) rfl rfl
set_option maxRecDepth 20000 in
theorem qw_733 : (Cond.code yX8_nextSeed cX8_nextSeed 1 (some .int)) ∈ lb_tbl := lb_mem3 (i := 211) rfl rfl
set_option maxRecDepth 20000 in
theorem qw_734 : (Cond.constant RX8 253 (1664525)) ∈ lb_tbl := lb_mem3 (i := 212) rfl rfl
set_option maxRecDepth 20000 in
theorem qw_735 : (Cond.constant RX8 254 (1013904223)) ∈ lb_tbl := lb_mem3 (i := 213) rfl rfl
set_option maxRecDepth 20000 in
theorem qw_736 : (Cond.methodLink RX8 238 yX8_drawn) ∈ lb_tbl := lb_mem3 (i := 214) rfl rfl
set_option maxRecDepth 20000 in
theorem qw_737 : (Cond.static yX8_drawn) ∈ lb_tbl := lb_mem3 (i := 215) rfl rfl
set_option maxRecDepth 20000 in
theorem qw_738 : (Cond.code yX8_drawn cX8_drawn 2 (some .int)) ∈ lb_tbl := lb_mem3 (i := 216) rfl rfl
set_option maxRecDepth 20000 in
theorem qw_739 : (Cond.constant RX8 255 (2147483647)) ∈ lb_tbl := lb_mem3 (i := 217) rfl rfl
set_option maxRecDepth 20000 in
theorem qw_740 : (Cond.methodLink RX8 241 yX7_withoutGrace) ∈ lb_tbl := lb_mem3 (i := 218) rfl rfl
set_option maxRecDepth 20000 in
theorem qw_741 : (Cond.instanceMethod yX7_withoutGrace) ∈ lb_tbl := lb_mem3 (i := 219) rfl rfl
set_option maxRecDepth 20000 in
theorem qw_742 : (Cond.selects RX7 yX7_withoutGrace yX7_withoutGrace) ∈ lb_tbl := lb_mem3 (i := 220) rfl rfl
set_option maxRecDepth 20000 in
theorem qw_743 : (Cond.code yX7_withoutGrace cX7_withoutGrace 3 (some .int)) ∈ lb_tbl := lb_mem3 (i := 221) rfl rfl
set_option maxRecDepth 20000 in
theorem qw_744 : (Cond.methodLink RL 167 yX8_image) ∈ lb_tbl := lb_mem3 (i := 222) rfl rfl
set_option maxRecDepth 20000 in
theorem qw_745 : (Cond.instanceMethod yX8_image) ∈ lb_tbl := lb_mem3 (i := 223) rfl rfl
set_option maxRecDepth 20000 in
theorem qw_746 : (Cond.selects RX8 yX8_image yX8_image) ∈ lb_tbl := lb_mem3 (i := 224) rfl rfl
set_option maxRecDepth 20000 in
theorem qw_747 : (Cond.code yX8_image cX8_image 1 (some .int)) ∈ lb_tbl := lb_mem3 (i := 225) rfl rfl
set_option maxRecDepth 20000 in
theorem qw_748 : (Cond.methodLink RL 171 yX8_on) ∈ lb_tbl := lb_mem3 (i := 226) rfl rfl
set_option maxRecDepth 20000 in
theorem qw_749 : (Cond.instanceMethod yX8_on) ∈ lb_tbl := lb_mem3 (i := 227) rfl rfl
set_option maxRecDepth 20000 in
theorem qw_750 : (Cond.selects RX8 yX8_on yX8_on) ∈ lb_tbl := lb_mem3 (i := 228) rfl rfl
set_option maxRecDepth 20000 in
theorem qw_751 : (Cond.code yX8_on cX8_on 1 (some .int)) ∈ lb_tbl := lb_mem3 (i := 229) rfl rfl
set_option maxRecDepth 20000 in
theorem qw_752 : (Cond.methodLink RL 175 yX8_count) ∈ lb_tbl := lb_mem3 (i := 230) rfl rfl
set_option maxRecDepth 20000 in
theorem qw_753 : (Cond.instanceMethod yX8_count) ∈ lb_tbl := lb_mem3 (i := 231) rfl rfl
set_option maxRecDepth 20000 in
theorem qw_754 : (Cond.selects RX8 yX8_count yX8_count) ∈ lb_tbl := lb_mem3 (i := 232) rfl rfl
set_option maxRecDepth 20000 in
theorem qw_755 : (Cond.code yX8_count cX8_count 2 (some .int)) ∈ lb_tbl := lb_mem3 (i := 233) rfl rfl
set_option maxRecDepth 20000 in
theorem qw_756 : (Cond.methodLink RX8 244 yX7_spoons) ∈ lb_tbl := lb_mem3 (i := 234) rfl rfl
set_option maxRecDepth 20000 in
theorem qw_757 : (Cond.instanceMethod yX7_spoons) ∈ lb_tbl := lb_mem3 (i := 235) rfl rfl
set_option maxRecDepth 20000 in
theorem qw_758 : (Cond.selects RX7 yX7_spoons yX7_spoons) ∈ lb_tbl := lb_mem3 (i := 236) rfl rfl
set_option maxRecDepth 20000 in
theorem qw_759 : (Cond.code yX7_spoons cX7_spoons 3 (some .int)) ∈ lb_tbl := lb_mem3 (i := 237) rfl rfl
set_option maxRecDepth 20000 in
theorem qw_760 : (Cond.classLink RL 10 RX9) ∈ lb_tbl := lb_mem3 (i := 238) rfl rfl
set_option maxRecDepth 20000 in
theorem qw_761 : (Cond.instantiable RX9 13) ∈ lb_tbl := lb_mem3 (i := 239) rfl rfl
set_option maxRecDepth 20000 in
theorem qw_762 : (Cond.methodLink RL 12 yX9_init) ∈ lb_tbl := lb_mem4 (i := 0) rfl rfl
set_option maxRecDepth 20000 in
theorem qw_763 : (Cond.instanceMethod yX9_init) ∈ lb_tbl := lb_mem4 (i := 1) rfl rfl
set_option maxRecDepth 20000 in
theorem qw_764 : (Cond.code yX9_init cX9_init 1 none) ∈ lb_tbl := lb_mem4 (i := 2) rfl rfl
set_option maxRecDepth 20000 in
theorem qw_765 : (Cond.methodLink RX9 1 ⟨"java/lang/Object", "<init>", "()V"⟩) ∈ lb_tbl := lb_mem4 (i := 3) rfl rfl
set_option maxRecDepth 20000 in
theorem qw_766 : (Cond.fieldLink RX9 9 "LabelsByAnotherHandModel" "s" "[I") ∈ lb_tbl := lb_mem4 (i := 4) rfl rfl
set_option maxRecDepth 20000 in
theorem qw_767 : (Cond.fieldLink RX9 13 "LabelsByAnotherHandModel" "m" "[I") ∈ lb_tbl := lb_mem4 (i := 5) rfl rfl
set_option maxRecDepth 20000 in
theorem qw_768 : (Cond.fieldLink RX9 16 "LabelsByAnotherHandModel" "image" "[I") ∈ lb_tbl := lb_mem4 (i := 6) rfl rfl
set_option maxRecDepth 20000 in
theorem qw_769 : (Cond.fieldLink RX9 19 "LabelsByAnotherHandModel" "was" "[I") ∈ lb_tbl := lb_mem4 (i := 7) rfl rfl
set_option maxRecDepth 20000 in
theorem qw_770 : (Cond.fieldLink RX9 204 "LabelsByAnotherHandModel" "hasImage" "Z") ∈ lb_tbl := lb_mem4 (i := 8) rfl rfl
set_option maxRecDepth 20000 in
theorem qw_771 : (Cond.fieldLink RX9 22 "LabelsByAnotherHandModel" "letters" "[I") ∈ lb_tbl := lb_mem4 (i := 9) rfl rfl
set_option maxRecDepth 20000 in
theorem qw_772 : (Cond.fieldLink RX9 25 "LabelsByAnotherHandModel" "row" "[I") ∈ lb_tbl := lb_mem4 (i := 10) rfl rfl
set_option maxRecDepth 20000 in
theorem qw_773 : (Cond.fieldLink RX9 28 "LabelsByAnotherHandModel" "refused" "[I") ∈ lb_tbl := lb_mem4 (i := 11) rfl rfl
set_option maxRecDepth 20000 in
theorem qw_774 : (Cond.fieldLink RX9 73 "LabelsByAnotherHandModel" "letterMany" "I") ∈ lb_tbl := lb_mem4 (i := 12) rfl rfl
set_option maxRecDepth 20000 in
theorem qw_775 : (Cond.fieldLink RX9 192 "LabelsByAnotherHandModel" "rowMany" "I") ∈ lb_tbl := lb_mem4 (i := 13) rfl rfl
set_option maxRecDepth 20000 in
theorem qw_776 : (Cond.fieldLink RX9 77 "LabelsByAnotherHandModel" "place" "I") ∈ lb_tbl := lb_mem4 (i := 14) rfl rfl
set_option maxRecDepth 20000 in
theorem qw_777 : (Cond.fieldLink RX9 31 "LabelsByAnotherHandModel" "numbers" "[I") ∈ lb_tbl := lb_mem4 (i := 15) rfl rfl
set_option maxRecDepth 20000 in
theorem qw_778 : (Cond.fieldLink RX9 195 "LabelsByAnotherHandModel" "seed" "I") ∈ lb_tbl := lb_mem4 (i := 16) rfl rfl
set_option maxRecDepth 20000 in
theorem qw_779 : (Cond.laysFinal "LabelsByAnotherHandModel" "LabelsByAnotherHandModel" "s" "[I") ∈ lb_tbl := lb_mem4 (i := 17) rfl rfl
set_option maxRecDepth 20000 in
theorem qw_781 : (Cond.laysFinal "LabelsByAnotherHandModel" "LabelsByAnotherHandModel" "m" "[I") ∈ lb_tbl := lb_mem4 (i := 19) rfl rfl
set_option maxRecDepth 20000 in
theorem qw_783 : (Cond.laysFinal "LabelsByAnotherHandModel" "LabelsByAnotherHandModel" "image" "[I") ∈ lb_tbl := lb_mem4 (i := 21) rfl rfl
set_option maxRecDepth 20000 in
theorem qw_785 : (Cond.laysFinal "LabelsByAnotherHandModel" "LabelsByAnotherHandModel" "was" "[I") ∈ lb_tbl := lb_mem4 (i := 23) rfl rfl
set_option maxRecDepth 20000 in
theorem qw_787 : (Cond.lays "LabelsByAnotherHandModel" "LabelsByAnotherHandModel" "hasImage" "Z") ∈ lb_tbl := lb_mem4 (i := 25) rfl rfl
set_option maxRecDepth 20000 in
theorem qw_789 : (Cond.laysFinal "LabelsByAnotherHandModel" "LabelsByAnotherHandModel" "letters" "[I") ∈ lb_tbl := lb_mem4 (i := 27) rfl rfl
set_option maxRecDepth 20000 in
theorem qw_791 : (Cond.laysFinal "LabelsByAnotherHandModel" "LabelsByAnotherHandModel" "row" "[I") ∈ lb_tbl := lb_mem4 (i := 29) rfl rfl
set_option maxRecDepth 20000 in
theorem qw_793 : (Cond.laysFinal "LabelsByAnotherHandModel" "LabelsByAnotherHandModel" "refused" "[I") ∈ lb_tbl := lb_mem4 (i := 31) rfl rfl
set_option maxRecDepth 20000 in
theorem qw_795 : (Cond.lays "LabelsByAnotherHandModel" "LabelsByAnotherHandModel" "letterMany" "I") ∈ lb_tbl := lb_mem4 (i := 33) rfl rfl
set_option maxRecDepth 20000 in
theorem qw_797 : (Cond.lays "LabelsByAnotherHandModel" "LabelsByAnotherHandModel" "rowMany" "I") ∈ lb_tbl := lb_mem4 (i := 35) rfl rfl
set_option maxRecDepth 20000 in
theorem qw_799 : (Cond.lays "LabelsByAnotherHandModel" "LabelsByAnotherHandModel" "place" "I") ∈ lb_tbl := lb_mem4 (i := 37) rfl rfl
set_option maxRecDepth 20000 in
theorem qw_801 : (Cond.laysFinal "LabelsByAnotherHandModel" "LabelsByAnotherHandModel" "numbers" "[I") ∈ lb_tbl := lb_mem4 (i := 39) rfl rfl
set_option maxRecDepth 20000 in
theorem qw_803 : (Cond.lays "LabelsByAnotherHandModel" "LabelsByAnotherHandModel" "seed" "I") ∈ lb_tbl := lb_mem4 (i := 41) rfl rfl
set_option maxRecDepth 20000 in
theorem qw_805 : (Cond.superclass RX9 "java/lang/Object") ∈ lb_tbl := lb_mem4 (i := 43) rfl rfl
set_option maxRecDepth 20000 in
theorem qw_806 : (Cond.methodLink RL 17 yX9_letter) ∈ lb_tbl := lb_mem4 (i := 44) rfl rfl
set_option maxRecDepth 20000 in
theorem qw_807 : (Cond.instanceMethod yX9_letter) ∈ lb_tbl := lb_mem4 (i := 45) rfl rfl
set_option maxRecDepth 20000 in
theorem qw_808 : (Cond.selects RX9 yX9_letter yX9_letter) ∈ lb_tbl := lb_mem4 (i := 46) rfl rfl
set_option maxRecDepth 20000 in
theorem qw_809 : (Cond.code yX9_letter cX9_letter 2 (some .int)) ∈ lb_tbl := lb_mem4 (i := 47) rfl rfl
set_option maxRecDepth 20000 in
theorem qw_810 : (Cond.methodLink RX9 35 yX9_no) ∈ lb_tbl := lb_mem4 (i := 48) rfl rfl
set_option maxRecDepth 20000 in
theorem qw_812 : (Cond.instanceMethod yX9_no) ∈ lb_tbl := lb_mem4 (i := 50) rfl rfl
set_option maxRecDepth 20000 in
theorem qw_813 : (Cond.code yX9_no cX9_no 2 (some .int)) ∈ lb_tbl := lb_mem4 (i := 51) rfl rfl
set_option maxRecDepth 20000 in
theorem qw_814 : (Cond.methodLink RL 22 yX9_village) ∈ lb_tbl := lb_mem4 (i := 52) rfl rfl
set_option maxRecDepth 20000 in
theorem qw_815 : (Cond.instanceMethod yX9_village) ∈ lb_tbl := lb_mem4 (i := 53) rfl rfl
set_option maxRecDepth 20000 in
theorem qw_816 : (Cond.selects RX9 yX9_village yX9_village) ∈ lb_tbl := lb_mem4 (i := 54) rfl rfl
set_option maxRecDepth 20000 in
theorem qw_817 : (Cond.code yX9_village cX9_village 6 (some .int)) ∈ lb_tbl := lb_mem4 (i := 55) rfl rfl
set_option maxRecDepth 20000 in
theorem qw_818 : (Cond.methodLink RX9 109 yX9_readsStatement) ∈ lb_tbl := lb_mem4 (i := 56) rfl rfl
set_option maxRecDepth 20000 in
theorem qw_820 : (Cond.instanceMethod yX9_readsStatement) ∈ lb_tbl := lb_mem4 (i := 58) rfl rfl
set_option maxRecDepth 20000 in
theorem qw_821 : (Cond.code yX9_readsStatement cX9_readsStatement 3 (some .boolean)) ∈ lb_tbl := lb_mem4 (i := 59) rfl rfl
set_option maxRecDepth 20000 in
theorem qw_822 : (Cond.methodLink RX9 80 yX9_here) ∈ lb_tbl := lb_mem4 (i := 60) rfl rfl
set_option maxRecDepth 20000 in
theorem qw_824 : (Cond.instanceMethod yX9_here) ∈ lb_tbl := lb_mem4 (i := 62) rfl rfl
set_option maxRecDepth 20000 in
theorem qw_825 : (Cond.code yX9_here cX9_here 1 (some .int)) ∈ lb_tbl := lb_mem4 (i := 63) rfl rfl
set_option maxRecDepth 20000 in
theorem qw_826 : (Cond.methodLink RX9 87 yX9_readsNumber) ∈ lb_tbl := lb_mem4 (i := 64) rfl rfl
set_option maxRecDepth 20000 in
theorem qw_828 : (Cond.instanceMethod yX9_readsNumber) ∈ lb_tbl := lb_mem4 (i := 66) rfl rfl
set_option maxRecDepth 20000 in
theorem qw_829 : (Cond.code yX9_readsNumber cX9_readsNumber 4 (some .boolean)) ∈ lb_tbl := lb_mem4 (i := 67) rfl rfl
set_option maxRecDepth 20000 in
theorem qw_830 : (Cond.methodLink RX9 41 yX9_isIn) ∈ lb_tbl := lb_mem4 (i := 68) rfl rfl
set_option maxRecDepth 20000 in
theorem qw_831 : (Cond.static yX9_isIn) ∈ lb_tbl := lb_mem4 (i := 69) rfl rfl
set_option maxRecDepth 20000 in
theorem qw_832 : (Cond.code yX9_isIn cX9_isIn 3 (some .boolean)) ∈ lb_tbl := lb_mem4 (i := 70) rfl rfl
set_option maxRecDepth 20000 in
theorem qw_833 : (Cond.methodLink RX9 91 yX9_readsKind) ∈ lb_tbl := lb_mem4 (i := 71) rfl rfl
set_option maxRecDepth 20000 in
theorem qw_835 : (Cond.instanceMethod yX9_readsKind) ∈ lb_tbl := lb_mem4 (i := 73) rfl rfl
set_option maxRecDepth 20000 in
theorem qw_836 : (Cond.code yX9_readsKind cX9_readsKind 1 (some .boolean)) ∈ lb_tbl := lb_mem4 (i := 74) rfl rfl
set_option maxRecDepth 20000 in
theorem qw_837 : (Cond.methodLink RX9 84 yX9_kindBy) ∈ lb_tbl := lb_mem4 (i := 75) rfl rfl
set_option maxRecDepth 20000 in
theorem qw_838 : (Cond.static yX9_kindBy) ∈ lb_tbl := lb_mem4 (i := 76) rfl rfl
set_option maxRecDepth 20000 in
theorem qw_839 : (Cond.code yX9_kindBy cX9_kindBy 1 (some .int)) ∈ lb_tbl := lb_mem4 (i := 77) rfl rfl
set_option maxRecDepth 20000 in
theorem qw_840 : (Cond.methodLink RX9 112 yX9_copies) ∈ lb_tbl := lb_mem4 (i := 78) rfl rfl
set_option maxRecDepth 20000 in
theorem qw_841 : (Cond.static yX9_copies) ∈ lb_tbl := lb_mem4 (i := 79) rfl rfl
set_option maxRecDepth 20000 in
theorem qw_842 : (Cond.code yX9_copies cX9_copies 3 none) ∈ lb_tbl := lb_mem4 (i := 80) rfl rfl
set_option maxRecDepth 20000 in
theorem qw_843 : (Cond.methodLink RX9 116 yX9_isDone) ∈ lb_tbl := lb_mem4 (i := 81) rfl rfl
set_option maxRecDepth 20000 in
theorem qw_845 : (Cond.instanceMethod yX9_isDone) ∈ lb_tbl := lb_mem4 (i := 83) rfl rfl
set_option maxRecDepth 20000 in
theorem qw_846 : (Cond.code yX9_isDone cX9_isDone 4 (some .boolean)) ∈ lb_tbl := lb_mem4 (i := 84) rfl rfl
set_option maxRecDepth 20000 in
theorem qw_847 : (Cond.methodLink RX9 52 yX9_ofP) ∈ lb_tbl := lb_mem4 (i := 85) rfl rfl
set_option maxRecDepth 20000 in
theorem qw_848 : (Cond.static yX9_ofP) ∈ lb_tbl := lb_mem4 (i := 86) rfl rfl
set_option maxRecDepth 20000 in
theorem qw_849 : (Cond.code yX9_ofP cX9_ofP 2 (some .int)) ∈ lb_tbl := lb_mem4 (i := 87) rfl rfl
set_option maxRecDepth 20000 in
theorem qw_850 : (Cond.methodLink RX9 99 yX9_addsPot) ∈ lb_tbl := lb_mem4 (i := 88) rfl rfl
set_option maxRecDepth 20000 in
theorem qw_852 : (Cond.instanceMethod yX9_addsPot) ∈ lb_tbl := lb_mem4 (i := 90) rfl rfl
set_option maxRecDepth 20000 in
theorem qw_853 : (Cond.code yX9_addsPot cX9_addsPot 2 (some .boolean)) ∈ lb_tbl := lb_mem4 (i := 91) rfl rfl
set_option maxRecDepth 20000 in
theorem qw_854 : (Cond.methodLink RX9 95 yX9_isPerson) ∈ lb_tbl := lb_mem4 (i := 92) rfl rfl
set_option maxRecDepth 20000 in
theorem qw_856 : (Cond.instanceMethod yX9_isPerson) ∈ lb_tbl := lb_mem4 (i := 94) rfl rfl
set_option maxRecDepth 20000 in
theorem qw_857 : (Cond.code yX9_isPerson cX9_isPerson 2 (some .boolean)) ∈ lb_tbl := lb_mem4 (i := 95) rfl rfl
set_option maxRecDepth 20000 in
theorem qw_858 : (Cond.methodLink RX9 45 yX9_ofT) ∈ lb_tbl := lb_mem4 (i := 96) rfl rfl
set_option maxRecDepth 20000 in
theorem qw_859 : (Cond.static yX9_ofT) ∈ lb_tbl := lb_mem4 (i := 97) rfl rfl
set_option maxRecDepth 20000 in
theorem qw_860 : (Cond.code yX9_ofT cX9_ofT 2 (some .int)) ∈ lb_tbl := lb_mem4 (i := 98) rfl rfl
set_option maxRecDepth 20000 in
theorem qw_861 : (Cond.methodLink RX9 102 yX9_isPot) ∈ lb_tbl := lb_mem4 (i := 99) rfl rfl
set_option maxRecDepth 20000 in
theorem qw_863 : (Cond.instanceMethod yX9_isPot) ∈ lb_tbl := lb_mem4 (i := 101) rfl rfl
set_option maxRecDepth 20000 in
theorem qw_864 : (Cond.code yX9_isPot cX9_isPot 2 (some .boolean)) ∈ lb_tbl := lb_mem4 (i := 102) rfl rfl
set_option maxRecDepth 20000 in
theorem qw_865 : (Cond.methodLink RX9 105 yX9_yearsOn) ∈ lb_tbl := lb_mem4 (i := 103) rfl rfl
set_option maxRecDepth 20000 in
theorem qw_866 : (Cond.static yX9_yearsOn) ∈ lb_tbl := lb_mem4 (i := 104) rfl rfl
set_option maxRecDepth 20000 in
theorem qw_867 : (Cond.code yX9_yearsOn cX9_yearsOn 3 none) ∈ lb_tbl := lb_mem4 (i := 105) rfl rfl
set_option maxRecDepth 20000 in
theorem qw_868 : (Cond.methodLink RX9 69 yX9_year) ∈ lb_tbl := lb_mem4 (i := 106) rfl rfl
set_option maxRecDepth 20000 in
theorem qw_869 : (Cond.static yX9_year) ∈ lb_tbl := lb_mem4 (i := 107) rfl rfl
set_option maxRecDepth 20000 in
theorem qw_870 : (Cond.code yX9_year cX9_year 3 none) ∈ lb_tbl := lb_mem4 (i := 108) rfl rfl
set_option maxRecDepth 20000 in
theorem qw_871 : (Cond.methodLink RX9 59 yX9_opensIn) ∈ lb_tbl := lb_mem4 (i := 109) rfl rfl
set_option maxRecDepth 20000 in
theorem qw_872 : (Cond.static yX9_opensIn) ∈ lb_tbl := lb_mem4 (i := 110) rfl rfl
set_option maxRecDepth 20000 in
theorem qw_873 : (Cond.code yX9_opensIn cX9_opensIn 4 (some .int)) ∈ lb_tbl := lb_mem4 (i := 111) rfl rfl
set_option maxRecDepth 20000 in
theorem qw_874 : (Cond.methodLink RX9 55 yX9_wishedOff) ∈ lb_tbl := lb_mem4 (i := 112) rfl rfl
set_option maxRecDepth 20000 in
theorem qw_875 : (Cond.static yX9_wishedOff) ∈ lb_tbl := lb_mem4 (i := 113) rfl rfl
set_option maxRecDepth 20000 in
theorem qw_876 : (Cond.code yX9_wishedOff cX9_wishedOff 3 (some .int)) ∈ lb_tbl := lb_mem4 (i := 114) rfl rfl
set_option maxRecDepth 20000 in
theorem qw_877 : (Cond.methodLink RX9 49 yX9_off) ∈ lb_tbl := lb_mem4 (i := 115) rfl rfl
set_option maxRecDepth 20000 in
theorem qw_878 : (Cond.static yX9_off) ∈ lb_tbl := lb_mem4 (i := 116) rfl rfl
set_option maxRecDepth 20000 in
theorem qw_879 : (Cond.code yX9_off cX9_off 3 (some .int)) ∈ lb_tbl := lb_mem4 (i := 117) rfl rfl
set_option maxRecDepth 20000 in
theorem qw_880 : (Cond.methodLink RX9 63 yX9_gainsIn) ∈ lb_tbl := lb_mem4 (i := 118) rfl rfl
set_option maxRecDepth 20000 in
theorem qw_881 : (Cond.static yX9_gainsIn) ∈ lb_tbl := lb_mem4 (i := 119) rfl rfl
set_option maxRecDepth 20000 in
theorem qw_882 : (Cond.code yX9_gainsIn cX9_gainsIn 7 (some .int)) ∈ lb_tbl := lb_mem4 (i := 120) rfl rfl
set_option maxRecDepth 20000 in
theorem qw_883 : (Cond.methodLink RX9 66 yX9_held) ∈ lb_tbl := lb_mem4 (i := 121) rfl rfl
set_option maxRecDepth 20000 in
theorem qw_884 : (Cond.static yX9_held) ∈ lb_tbl := lb_mem4 (i := 122) rfl rfl
set_option maxRecDepth 20000 in
theorem qw_885 : (Cond.code yX9_held cX9_held 1 (some .int)) ∈ lb_tbl := lb_mem4 (i := 123) rfl rfl
set_option maxRecDepth 20000 in
theorem qw_886 : (Cond.methodLink RL 27 yX9_pot) ∈ lb_tbl := lb_mem4 (i := 124) rfl rfl
set_option maxRecDepth 20000 in
theorem qw_887 : (Cond.instanceMethod yX9_pot) ∈ lb_tbl := lb_mem4 (i := 125) rfl rfl
set_option maxRecDepth 20000 in
theorem qw_888 : (Cond.selects RX9 yX9_pot yX9_pot) ∈ lb_tbl := lb_mem4 (i := 126) rfl rfl
set_option maxRecDepth 20000 in
theorem qw_889 : (Cond.code yX9_pot cX9_pot 3 (some .int)) ∈ lb_tbl := lb_mem4 (i := 127) rfl rfl
set_option maxRecDepth 20000 in
theorem qw_890 : (Cond.methodLink RL 31 yX9_person) ∈ lb_tbl := lb_mem4 (i := 128) rfl rfl
set_option maxRecDepth 20000 in
theorem qw_891 : (Cond.instanceMethod yX9_person) ∈ lb_tbl := lb_mem4 (i := 129) rfl rfl
set_option maxRecDepth 20000 in
theorem qw_892 : (Cond.selects RX9 yX9_person yX9_person) ∈ lb_tbl := lb_mem4 (i := 130) rfl rfl
set_option maxRecDepth 20000 in
theorem qw_893 : (Cond.code yX9_person cX9_person 3 (some .int)) ∈ lb_tbl := lb_mem4 (i := 131) rfl rfl
set_option maxRecDepth 20000 in
theorem qw_894 : (Cond.methodLink RX9 119 yX9_potsOf) ∈ lb_tbl := lb_mem4 (i := 132) rfl rfl
set_option maxRecDepth 20000 in
theorem qw_896 : (Cond.instanceMethod yX9_potsOf) ∈ lb_tbl := lb_mem4 (i := 134) rfl rfl
set_option maxRecDepth 20000 in
theorem qw_897 : (Cond.code yX9_potsOf cX9_potsOf 4 (some .int)) ∈ lb_tbl := lb_mem4 (i := 135) rfl rfl
set_option maxRecDepth 20000 in
theorem qw_898 : (Cond.methodLink RL 35 yX9_gains) ∈ lb_tbl := lb_mem4 (i := 136) rfl rfl
set_option maxRecDepth 20000 in
theorem qw_899 : (Cond.instanceMethod yX9_gains) ∈ lb_tbl := lb_mem4 (i := 137) rfl rfl
set_option maxRecDepth 20000 in
theorem qw_900 : (Cond.selects RX9 yX9_gains yX9_gains) ∈ lb_tbl := lb_mem4 (i := 138) rfl rfl
set_option maxRecDepth 20000 in
theorem qw_901 : (Cond.code yX9_gains cX9_gains 3 (some .int)) ∈ lb_tbl := lb_mem4 (i := 139) rfl rfl
set_option maxRecDepth 20000 in
theorem qw_902 : (Cond.methodLink RX9 122 yX9_noFar) ∈ lb_tbl := lb_mem4 (i := 140) rfl rfl
set_option maxRecDepth 20000 in
theorem qw_904 : (Cond.instanceMethod yX9_noFar) ∈ lb_tbl := lb_mem4 (i := 142) rfl rfl
set_option maxRecDepth 20000 in
theorem qw_905 : (Cond.code yX9_noFar cX9_noFar 2 (some .int)) ∈ lb_tbl := lb_mem4 (i := 143) rfl rfl
set_option maxRecDepth 20000 in
theorem qw_906 : (Cond.constant RX9 34 (1000000000)) ∈ lb_tbl := lb_mem4 (i := 144) rfl rfl
set_option maxRecDepth 20000 in
theorem qw_907 : (Cond.methodLink RL 39 yX9_labels) ∈ lb_tbl := lb_mem4 (i := 145) rfl rfl
set_option maxRecDepth 20000 in
theorem qw_908 : (Cond.instanceMethod yX9_labels) ∈ lb_tbl := lb_mem4 (i := 146) rfl rfl
set_option maxRecDepth 20000 in
theorem qw_909 : (Cond.selects RX9 yX9_labels yX9_labels) ∈ lb_tbl := lb_mem4 (i := 147) rfl rfl
set_option maxRecDepth 20000 in
theorem qw_910 : (Cond.code yX9_labels cX9_labels 4 (some .int)) ∈ lb_tbl := lb_mem4 (i := 148) rfl rfl
set_option maxRecDepth 20000 in
theorem qw_911 : (Cond.methodLink RL 43 yX9_gives) ∈ lb_tbl := lb_mem4 (i := 149) rfl rfl
set_option maxRecDepth 20000 in
theorem qw_912 : (Cond.instanceMethod yX9_gives) ∈ lb_tbl := lb_mem4 (i := 150) rfl rfl
set_option maxRecDepth 20000 in
theorem qw_913 : (Cond.selects RX9 yX9_gives yX9_gives) ∈ lb_tbl := lb_mem4 (i := 151) rfl rfl
set_option maxRecDepth 20000 in
theorem qw_914 : (Cond.code yX9_gives cX9_gives 4 (some .int)) ∈ lb_tbl := lb_mem4 (i := 152) rfl rfl
set_option maxRecDepth 20000 in
theorem qw_915 : (Cond.methodLink RL 47 yX9_likes) ∈ lb_tbl := lb_mem4 (i := 153) rfl rfl
set_option maxRecDepth 20000 in
theorem qw_916 : (Cond.instanceMethod yX9_likes) ∈ lb_tbl := lb_mem4 (i := 154) rfl rfl
set_option maxRecDepth 20000 in
theorem qw_917 : (Cond.selects RX9 yX9_likes yX9_likes) ∈ lb_tbl := lb_mem4 (i := 155) rfl rfl
set_option maxRecDepth 20000 in
theorem qw_918 : (Cond.code yX9_likes cX9_likes 4 (some .int)) ∈ lb_tbl := lb_mem4 (i := 156) rfl rfl
set_option maxRecDepth 20000 in
theorem qw_919 : (Cond.methodLink RL 51 yX9_fills) ∈ lb_tbl := lb_mem4 (i := 157) rfl rfl
set_option maxRecDepth 20000 in
theorem qw_920 : (Cond.instanceMethod yX9_fills) ∈ lb_tbl := lb_mem4 (i := 158) rfl rfl
set_option maxRecDepth 20000 in
theorem qw_921 : (Cond.selects RX9 yX9_fills yX9_fills) ∈ lb_tbl := lb_mem4 (i := 159) rfl rfl
set_option maxRecDepth 20000 in
theorem qw_922 : (Cond.code yX9_fills cX9_fills 5 (some .int)) ∈ lb_tbl := lb_mem4 (i := 160) rfl rfl
set_option maxRecDepth 20000 in
theorem qw_923 : (Cond.methodLink RX9 125 yX9_wrongBy) ∈ lb_tbl := lb_mem4 (i := 161) rfl rfl
set_option maxRecDepth 20000 in
theorem qw_924 : (Cond.static yX9_wrongBy) ∈ lb_tbl := lb_mem4 (i := 162) rfl rfl
set_option maxRecDepth 20000 in
theorem qw_925 : (Cond.code yX9_wrongBy cX9_wrongBy 3 (some .int)) ∈ lb_tbl := lb_mem4 (i := 163) rfl rfl
set_option maxRecDepth 20000 in
theorem qw_926 : (Cond.methodLink RL 56 yX9_turn) ∈ lb_tbl := lb_mem4 (i := 164) rfl rfl
set_option maxRecDepth 20000 in
theorem qw_927 : (Cond.instanceMethod yX9_turn) ∈ lb_tbl := lb_mem4 (i := 165) rfl rfl
set_option maxRecDepth 20000 in
theorem qw_928 : (Cond.selects RX9 yX9_turn yX9_turn) ∈ lb_tbl := lb_mem4 (i := 166) rfl rfl
set_option maxRecDepth 20000 in
theorem qw_929 : (Cond.code yX9_turn cX9_turn 6 (some .int)) ∈ lb_tbl := lb_mem4 (i := 167) rfl rfl
set_option maxRecDepth 20000 in
theorem qw_930 : (Cond.methodLink RL 60 yX9_years) ∈ lb_tbl := lb_mem4 (i := 168) rfl rfl
set_option maxRecDepth 20000 in
theorem qw_931 : (Cond.instanceMethod yX9_years) ∈ lb_tbl := lb_mem4 (i := 169) rfl rfl
set_option maxRecDepth 20000 in
theorem qw_932 : (Cond.selects RX9 yX9_years yX9_years) ∈ lb_tbl := lb_mem4 (i := 170) rfl rfl
set_option maxRecDepth 20000 in
theorem qw_933 : (Cond.code yX9_years cX9_years 2 (some .int)) ∈ lb_tbl := lb_mem4 (i := 171) rfl rfl
set_option maxRecDepth 20000 in
theorem qw_934 : (Cond.methodLink RX9 129 yX9_allGrace) ∈ lb_tbl := lb_mem4 (i := 172) rfl rfl
set_option maxRecDepth 20000 in
theorem qw_935 : (Cond.static yX9_allGrace) ∈ lb_tbl := lb_mem4 (i := 173) rfl rfl
set_option maxRecDepth 20000 in
theorem qw_936 : (Cond.code yX9_allGrace cX9_allGrace 3 (some .int)) ∈ lb_tbl := lb_mem4 (i := 174) rfl rfl
set_option maxRecDepth 20000 in
theorem qw_937 : (Cond.methodLink RL 64 yX9_personThen) ∈ lb_tbl := lb_mem4 (i := 175) rfl rfl
set_option maxRecDepth 20000 in
theorem qw_938 : (Cond.instanceMethod yX9_personThen) ∈ lb_tbl := lb_mem4 (i := 176) rfl rfl
set_option maxRecDepth 20000 in
theorem qw_939 : (Cond.selects RX9 yX9_personThen yX9_personThen) ∈ lb_tbl := lb_mem4 (i := 177) rfl rfl
set_option maxRecDepth 20000 in
theorem qw_940 : (Cond.code yX9_personThen cX9_personThen 5 (some .int)) ∈ lb_tbl := lb_mem4 (i := 178) rfl rfl
set_option maxRecDepth 20000 in
theorem qw_941 : (Cond.methodLink RX9 133 yX9_takes) ∈ lb_tbl := lb_mem4 (i := 179) rfl rfl
set_option maxRecDepth 20000 in
theorem qw_943 : (Cond.instanceMethod yX9_takes) ∈ lb_tbl := lb_mem4 (i := 181) rfl rfl
set_option maxRecDepth 20000 in
theorem qw_944 : (Cond.code yX9_takes cX9_takes 2 none) ∈ lb_tbl := lb_mem4 (i := 182) rfl rfl
set_option maxRecDepth 20000 in
theorem qw_945 : (Cond.methodLink RL 68 yX9_fullThen) ∈ lb_tbl := lb_mem4 (i := 183) rfl rfl
set_option maxRecDepth 20000 in
theorem qw_946 : (Cond.instanceMethod yX9_fullThen) ∈ lb_tbl := lb_mem4 (i := 184) rfl rfl
set_option maxRecDepth 20000 in
theorem qw_947 : (Cond.selects RX9 yX9_fullThen yX9_fullThen) ∈ lb_tbl := lb_mem4 (i := 185) rfl rfl
set_option maxRecDepth 20000 in
theorem qw_948 : (Cond.code yX9_fullThen cX9_fullThen 4 (some .int)) ∈ lb_tbl := lb_mem4 (i := 186) rfl rfl
set_option maxRecDepth 20000 in
theorem qw_949 : (Cond.methodLink RL 72 yX9_graceThen) ∈ lb_tbl := lb_mem4 (i := 187) rfl rfl
set_option maxRecDepth 20000 in
theorem qw_950 : (Cond.instanceMethod yX9_graceThen) ∈ lb_tbl := lb_mem4 (i := 188) rfl rfl
set_option maxRecDepth 20000 in
theorem qw_951 : (Cond.selects RX9 yX9_graceThen yX9_graceThen) ∈ lb_tbl := lb_mem4 (i := 189) rfl rfl
set_option maxRecDepth 20000 in
theorem qw_952 : (Cond.code yX9_graceThen cX9_graceThen 3 (some .int)) ∈ lb_tbl := lb_mem4 (i := 190) rfl rfl
set_option maxRecDepth 20000 in
theorem qw_953 : (Cond.methodLink RL 76 yX9_graceless) ∈ lb_tbl := lb_mem4 (i := 191) rfl rfl
set_option maxRecDepth 20000 in
theorem qw_954 : (Cond.instanceMethod yX9_graceless) ∈ lb_tbl := lb_mem4 (i := 192) rfl rfl
set_option maxRecDepth 20000 in
theorem qw_955 : (Cond.selects RX9 yX9_graceless yX9_graceless) ∈ lb_tbl := lb_mem4 (i := 193) rfl rfl
set_option maxRecDepth 20000 in
theorem qw_956 : (Cond.code yX9_graceless cX9_graceless 2 (some .int)) ∈ lb_tbl := lb_mem4 (i := 194) rfl rfl
set_option maxRecDepth 20000 in
theorem qw_957 : (Cond.methodLink RX9 140 yX9_firstGone) ∈ lb_tbl := lb_mem4 (i := 195) rfl rfl
set_option maxRecDepth 20000 in
theorem qw_959 : (Cond.instanceMethod yX9_firstGone) ∈ lb_tbl := lb_mem4 (i := 197) rfl rfl
set_option maxRecDepth 20000 in
theorem qw_960 : (Cond.code yX9_firstGone cX9_firstGone 5 (some .int)) ∈ lb_tbl := lb_mem4 (i := 198) rfl rfl
set_option maxRecDepth 20000 in
theorem qw_961 : (Cond.methodLink RX9 137 yX9_whenGone) ∈ lb_tbl := lb_mem4 (i := 199) rfl rfl
set_option maxRecDepth 20000 in
theorem qw_963 : (Cond.instanceMethod yX9_whenGone) ∈ lb_tbl := lb_mem4 (i := 201) rfl rfl
set_option maxRecDepth 20000 in
theorem qw_964 : (Cond.code yX9_whenGone cX9_whenGone 3 (some .int)) ∈ lb_tbl := lb_mem4 (i := 202) rfl rfl
set_option maxRecDepth 20000 in
theorem qw_965 : (Cond.methodLink RL 80 yX9_empties) ∈ lb_tbl := lb_mem4 (i := 203) rfl rfl
set_option maxRecDepth 20000 in
theorem qw_966 : (Cond.instanceMethod yX9_empties) ∈ lb_tbl := lb_mem4 (i := 204) rfl rfl
set_option maxRecDepth 20000 in
theorem qw_967 : (Cond.selects RX9 yX9_empties yX9_empties) ∈ lb_tbl := lb_mem4 (i := 205) rfl rfl
set_option maxRecDepth 20000 in
theorem qw_968 : (Cond.code yX9_empties cX9_empties 2 (some .int)) ∈ lb_tbl := lb_mem4 (i := 206) rfl rfl
set_option maxRecDepth 20000 in
theorem qw_969 : (Cond.methodLink RL 84 yX9_label) ∈ lb_tbl := lb_mem4 (i := 207) rfl rfl
set_option maxRecDepth 20000 in
theorem qw_970 : (Cond.instanceMethod yX9_label) ∈ lb_tbl := lb_mem4 (i := 208) rfl rfl
set_option maxRecDepth 20000 in
theorem qw_971 : (Cond.selects RX9 yX9_label yX9_label) ∈ lb_tbl := lb_mem4 (i := 209) rfl rfl
set_option maxRecDepth 20000 in
theorem qw_972 : (Cond.code yX9_label cX9_label 8 (some .int)) ∈ lb_tbl := lb_mem4 (i := 210) rfl rfl
set_option maxRecDepth 20000 in
theorem qw_973 : (Cond.methodLink RL 88 yX9_honest) ∈ lb_tbl := lb_mem4 (i := 211) rfl rfl
set_option maxRecDepth 20000 in
theorem qw_974 : (Cond.instanceMethod yX9_honest) ∈ lb_tbl := lb_mem4 (i := 212) rfl rfl
set_option maxRecDepth 20000 in
theorem qw_975 : (Cond.selects RX9 yX9_honest yX9_honest) ∈ lb_tbl := lb_mem4 (i := 213) rfl rfl
set_option maxRecDepth 20000 in
theorem qw_976 : (Cond.code yX9_honest cX9_honest 2 (some .int)) ∈ lb_tbl := lb_mem4 (i := 214) rfl rfl
set_option maxRecDepth 20000 in
theorem qw_977 : (Cond.methodLink RX9 143 yX9_honestOnes) ∈ lb_tbl := lb_mem4 (i := 215) rfl rfl
set_option maxRecDepth 20000 in
theorem qw_979 : (Cond.instanceMethod yX9_honestOnes) ∈ lb_tbl := lb_mem4 (i := 217) rfl rfl
set_option maxRecDepth 20000 in
theorem qw_980 : (Cond.code yX9_honestOnes cX9_honestOnes 3 (some .int)) ∈ lb_tbl := lb_mem4 (i := 218) rfl rfl
set_option maxRecDepth 20000 in
theorem qw_981 : (Cond.methodLink RX9 146 yX9_hopefulOnes) ∈ lb_tbl := lb_mem4 (i := 219) rfl rfl
set_option maxRecDepth 20000 in
theorem qw_983 : (Cond.instanceMethod yX9_hopefulOnes) ∈ lb_tbl := lb_mem4 (i := 221) rfl rfl
set_option maxRecDepth 20000 in
theorem qw_984 : (Cond.code yX9_hopefulOnes cX9_hopefulOnes 3 (some .int)) ∈ lb_tbl := lb_mem4 (i := 222) rfl rfl
set_option maxRecDepth 20000 in
theorem qw_985 : (Cond.methodLink RL 92 yX9_audit) ∈ lb_tbl := lb_mem4 (i := 223) rfl rfl
set_option maxRecDepth 20000 in
theorem qw_986 : (Cond.instanceMethod yX9_audit) ∈ lb_tbl := lb_mem4 (i := 224) rfl rfl
set_option maxRecDepth 20000 in
theorem qw_987 : (Cond.selects RX9 yX9_audit yX9_audit) ∈ lb_tbl := lb_mem4 (i := 225) rfl rfl
set_option maxRecDepth 20000 in
theorem qw_988 : (Cond.code yX9_audit cX9_audit 6 (some .int)) ∈ lb_tbl := lb_mem4 (i := 226) rfl rfl
set_option maxRecDepth 20000 in
theorem qw_989 : (Cond.methodLink RX9 149 yX9_graceNow) ∈ lb_tbl := lb_mem4 (i := 227) rfl rfl
set_option maxRecDepth 20000 in
theorem qw_991 : (Cond.instanceMethod yX9_graceNow) ∈ lb_tbl := lb_mem4 (i := 229) rfl rfl
set_option maxRecDepth 20000 in
theorem qw_992 : (Cond.code yX9_graceNow cX9_graceNow 2 (some .int)) ∈ lb_tbl := lb_mem4 (i := 230) rfl rfl
set_option maxRecDepth 20000 in
theorem qw_993 : (Cond.methodLink RL 96 yX9_change) ∈ lb_tbl := lb_mem4 (i := 231) rfl rfl
set_option maxRecDepth 20000 in
theorem qw_994 : (Cond.instanceMethod yX9_change) ∈ lb_tbl := lb_mem4 (i := 232) rfl rfl
set_option maxRecDepth 20000 in
theorem qw_995 : (Cond.selects RX9 yX9_change yX9_change) ∈ lb_tbl := lb_mem4 (i := 233) rfl rfl
set_option maxRecDepth 20000 in
theorem qw_996 : (Cond.code yX9_change cX9_change 7 (some .int)) ∈ lb_tbl := lb_mem4 (i := 234) rfl rfl
set_option maxRecDepth 20000 in
theorem qw_997 : (Cond.methodLink RL 100 yX9_gift) ∈ lb_tbl := lb_mem4 (i := 235) rfl rfl
set_option maxRecDepth 20000 in
theorem qw_998 : (Cond.instanceMethod yX9_gift) ∈ lb_tbl := lb_mem4 (i := 236) rfl rfl
set_option maxRecDepth 20000 in
theorem qw_999 : (Cond.selects RX9 yX9_gift yX9_gift) ∈ lb_tbl := lb_mem4 (i := 237) rfl rfl
set_option maxRecDepth 20000 in
theorem qw_1000 : (Cond.code yX9_gift cX9_gift 8 (some .int)) ∈ lb_tbl := lb_mem4 (i := 238) rfl rfl
set_option maxRecDepth 20000 in
theorem qw_1001 : (Cond.methodLink RX9 152 yX9_graceGiven) ∈ lb_tbl := lb_mem4 (i := 239) rfl rfl
set_option maxRecDepth 20000 in
theorem qw_1003 : (Cond.instanceMethod yX9_graceGiven) ∈ lb_tbl := lb_mem5 (i := 1) rfl rfl
set_option maxRecDepth 20000 in
theorem qw_1004 : (Cond.code yX9_graceGiven cX9_graceGiven 4 (some .int)) ∈ lb_tbl := lb_mem5 (i := 2) rfl rfl
set_option maxRecDepth 20000 in
theorem qw_1005 : (Cond.methodLink RL 104 yX9_deal) ∈ lb_tbl := lb_mem5 (i := 3) rfl rfl
set_option maxRecDepth 20000 in
theorem qw_1006 : (Cond.instanceMethod yX9_deal) ∈ lb_tbl := lb_mem5 (i := 4) rfl rfl
set_option maxRecDepth 20000 in
theorem qw_1007 : (Cond.selects RX9 yX9_deal yX9_deal) ∈ lb_tbl := lb_mem5 (i := 5) rfl rfl
set_option maxRecDepth 20000 in
theorem qw_1008 : (Cond.code yX9_deal cX9_deal 6 (some .int)) ∈ lb_tbl := lb_mem5 (i := 6) rfl rfl
set_option maxRecDepth 20000 in
theorem qw_1009 : (Cond.methodLink RX9 155 yX9_dealtTo) ∈ lb_tbl := lb_mem5 (i := 7) rfl rfl
set_option maxRecDepth 20000 in
theorem qw_1011 : (Cond.instanceMethod yX9_dealtTo) ∈ lb_tbl := lb_mem5 (i := 9) rfl rfl
set_option maxRecDepth 20000 in
theorem qw_1012 : (Cond.code yX9_dealtTo cX9_dealtTo 4 (some .int)) ∈ lb_tbl := lb_mem5 (i := 10) rfl rfl
set_option maxRecDepth 20000 in
theorem qw_1013 : (Cond.methodLink RL 108 yX9_worst) ∈ lb_tbl := lb_mem5 (i := 11) rfl rfl
set_option maxRecDepth 20000 in
theorem qw_1014 : (Cond.instanceMethod yX9_worst) ∈ lb_tbl := lb_mem5 (i := 12) rfl rfl
set_option maxRecDepth 20000 in
theorem qw_1015 : (Cond.selects RX9 yX9_worst yX9_worst) ∈ lb_tbl := lb_mem5 (i := 13) rfl rfl
set_option maxRecDepth 20000 in
theorem qw_1016 : (Cond.code yX9_worst cX9_worst 4 (some .int)) ∈ lb_tbl := lb_mem5 (i := 14) rfl rfl
set_option maxRecDepth 20000 in
theorem qw_1017 : (Cond.methodLink RX9 158 yX9_gainsOwner) ∈ lb_tbl := lb_mem5 (i := 15) rfl rfl
set_option maxRecDepth 20000 in
theorem qw_1019 : (Cond.instanceMethod yX9_gainsOwner) ∈ lb_tbl := lb_mem5 (i := 17) rfl rfl
set_option maxRecDepth 20000 in
theorem qw_1020 : (Cond.code yX9_gainsOwner cX9_gainsOwner 2 (some .int)) ∈ lb_tbl := lb_mem5 (i := 18) rfl rfl
set_option maxRecDepth 20000 in
theorem qw_1021 : (Cond.methodLink RL 112 yX9_trust) ∈ lb_tbl := lb_mem5 (i := 19) rfl rfl
set_option maxRecDepth 20000 in
theorem qw_1022 : (Cond.instanceMethod yX9_trust) ∈ lb_tbl := lb_mem5 (i := 20) rfl rfl
set_option maxRecDepth 20000 in
theorem qw_1023 : (Cond.selects RX9 yX9_trust yX9_trust) ∈ lb_tbl := lb_mem5 (i := 21) rfl rfl
set_option maxRecDepth 20000 in
theorem qw_1024 : (Cond.code yX9_trust cX9_trust 4 (some .int)) ∈ lb_tbl := lb_mem5 (i := 22) rfl rfl
set_option maxRecDepth 20000 in
theorem qw_1025 : (Cond.methodLink RL 116 yX9_shelf) ∈ lb_tbl := lb_mem5 (i := 23) rfl rfl
set_option maxRecDepth 20000 in
theorem qw_1026 : (Cond.instanceMethod yX9_shelf) ∈ lb_tbl := lb_mem5 (i := 24) rfl rfl
set_option maxRecDepth 20000 in
theorem qw_1027 : (Cond.selects RX9 yX9_shelf yX9_shelf) ∈ lb_tbl := lb_mem5 (i := 25) rfl rfl
set_option maxRecDepth 20000 in
theorem qw_1028 : (Cond.code yX9_shelf cX9_shelf 6 (some .int)) ∈ lb_tbl := lb_mem5 (i := 26) rfl rfl
set_option maxRecDepth 20000 in
theorem qw_1029 : (Cond.methodLink RL 120 yX9_sorts) ∈ lb_tbl := lb_mem5 (i := 27) rfl rfl
set_option maxRecDepth 20000 in
theorem qw_1030 : (Cond.instanceMethod yX9_sorts) ∈ lb_tbl := lb_mem5 (i := 28) rfl rfl
set_option maxRecDepth 20000 in
theorem qw_1031 : (Cond.selects RX9 yX9_sorts yX9_sorts) ∈ lb_tbl := lb_mem5 (i := 29) rfl rfl
set_option maxRecDepth 20000 in
theorem qw_1032 : (Cond.code yX9_sorts cX9_sorts 6 (some .int)) ∈ lb_tbl := lb_mem5 (i := 30) rfl rfl
set_option maxRecDepth 20000 in
theorem qw_1033 : (Cond.methodLink RX9 161 yX9_spoonsOf) ∈ lb_tbl := lb_mem5 (i := 31) rfl rfl
set_option maxRecDepth 20000 in
theorem qw_1035 : (Cond.instanceMethod yX9_spoonsOf) ∈ lb_tbl := lb_mem5 (i := 33) rfl rfl
set_option maxRecDepth 20000 in
theorem qw_1036 : (Cond.code yX9_spoonsOf cX9_spoonsOf 4 (some .int)) ∈ lb_tbl := lb_mem5 (i := 34) rfl rfl
set_option maxRecDepth 20000 in
theorem qw_1037 : (Cond.methodLink RL 124 yX9_fewest) ∈ lb_tbl := lb_mem5 (i := 35) rfl rfl
set_option maxRecDepth 20000 in
theorem qw_1038 : (Cond.instanceMethod yX9_fewest) ∈ lb_tbl := lb_mem5 (i := 36) rfl rfl
set_option maxRecDepth 20000 in
theorem qw_1039 : (Cond.selects RX9 yX9_fewest yX9_fewest) ∈ lb_tbl := lb_mem5 (i := 37) rfl rfl
set_option maxRecDepth 20000 in
theorem qw_1040 : (Cond.code yX9_fewest cX9_fewest 6 (some .int)) ∈ lb_tbl := lb_mem5 (i := 38) rfl rfl
set_option maxRecDepth 20000 in
theorem qw_1041 : (Cond.methodLink RX9 164 yX9_bits) ∈ lb_tbl := lb_mem5 (i := 39) rfl rfl
set_option maxRecDepth 20000 in
theorem qw_1042 : (Cond.static yX9_bits) ∈ lb_tbl := lb_mem5 (i := 40) rfl rfl
set_option maxRecDepth 20000 in
theorem qw_1043 : (Cond.code yX9_bits cX9_bits 3 (some .int)) ∈ lb_tbl := lb_mem5 (i := 41) rfl rfl
set_option maxRecDepth 20000 in
theorem qw_1044 : (Cond.methodLink RX9 167 yX9_has) ∈ lb_tbl := lb_mem5 (i := 42) rfl rfl
set_option maxRecDepth 20000 in
theorem qw_1045 : (Cond.static yX9_has) ∈ lb_tbl := lb_mem5 (i := 43) rfl rfl
set_option maxRecDepth 20000 in
theorem qw_1046 : (Cond.code yX9_has cX9_has 2 (some .boolean)) ∈ lb_tbl := lb_mem5 (i := 44) rfl rfl
set_option maxRecDepth 20000 in
theorem qw_1047 : (Cond.methodLink RX9 170 yX9_isNobodyGraceless) ∈ lb_tbl := lb_mem5 (i := 45) rfl rfl
set_option maxRecDepth 20000 in
theorem qw_1049 : (Cond.instanceMethod yX9_isNobodyGraceless) ∈ lb_tbl := lb_mem5 (i := 47) rfl rfl
set_option maxRecDepth 20000 in
theorem qw_1050 : (Cond.code yX9_isNobodyGraceless cX9_isNobodyGraceless 4 (some .boolean)) ∈ lb_tbl := lb_mem5 (i := 48) rfl rfl
set_option maxRecDepth 20000 in
theorem qw_1051 : (Cond.methodLink RL 128 yX9_warn) ∈ lb_tbl := lb_mem5 (i := 49) rfl rfl
set_option maxRecDepth 20000 in
theorem qw_1052 : (Cond.instanceMethod yX9_warn) ∈ lb_tbl := lb_mem5 (i := 50) rfl rfl
set_option maxRecDepth 20000 in
theorem qw_1053 : (Cond.selects RX9 yX9_warn yX9_warn) ∈ lb_tbl := lb_mem5 (i := 51) rfl rfl
set_option maxRecDepth 20000 in
theorem qw_1054 : (Cond.code yX9_warn cX9_warn 7 (some .int)) ∈ lb_tbl := lb_mem5 (i := 52) rfl rfl
set_option maxRecDepth 20000 in
theorem qw_1055 : (Cond.methodLink RL 132 yX9_heir) ∈ lb_tbl := lb_mem5 (i := 53) rfl rfl
set_option maxRecDepth 20000 in
theorem qw_1056 : (Cond.instanceMethod yX9_heir) ∈ lb_tbl := lb_mem5 (i := 54) rfl rfl
set_option maxRecDepth 20000 in
theorem qw_1057 : (Cond.selects RX9 yX9_heir yX9_heir) ∈ lb_tbl := lb_mem5 (i := 55) rfl rfl
set_option maxRecDepth 20000 in
theorem qw_1058 : (Cond.code yX9_heir cX9_heir 8 (some .int)) ∈ lb_tbl := lb_mem5 (i := 56) rfl rfl
set_option maxRecDepth 20000 in
theorem qw_1059 : (Cond.methodLink RL 136 yX9_two) ∈ lb_tbl := lb_mem5 (i := 57) rfl rfl
set_option maxRecDepth 20000 in
theorem qw_1060 : (Cond.instanceMethod yX9_two) ∈ lb_tbl := lb_mem5 (i := 58) rfl rfl
set_option maxRecDepth 20000 in
theorem qw_1061 : (Cond.selects RX9 yX9_two yX9_two) ∈ lb_tbl := lb_mem5 (i := 59) rfl rfl
set_option maxRecDepth 20000 in
theorem qw_1062 : (Cond.code yX9_two cX9_two 10 (some .int)) ∈ lb_tbl := lb_mem5 (i := 60) rfl rfl
set_option maxRecDepth 20000 in
theorem qw_1063 : (Cond.methodLink RX9 173 yX9_leadBy) ∈ lb_tbl := lb_mem5 (i := 61) rfl rfl
set_option maxRecDepth 20000 in
theorem qw_1065 : (Cond.instanceMethod yX9_leadBy) ∈ lb_tbl := lb_mem5 (i := 63) rfl rfl
set_option maxRecDepth 20000 in
theorem qw_1066 : (Cond.code yX9_leadBy cX9_leadBy 8 (some .int)) ∈ lb_tbl := lb_mem5 (i := 64) rfl rfl
set_option maxRecDepth 20000 in
theorem qw_1067 : (Cond.methodLink RL 141 yX9_errs) ∈ lb_tbl := lb_mem5 (i := 65) rfl rfl
set_option maxRecDepth 20000 in
theorem qw_1068 : (Cond.instanceMethod yX9_errs) ∈ lb_tbl := lb_mem5 (i := 66) rfl rfl
set_option maxRecDepth 20000 in
theorem qw_1069 : (Cond.selects RX9 yX9_errs yX9_errs) ∈ lb_tbl := lb_mem5 (i := 67) rfl rfl
set_option maxRecDepth 20000 in
theorem qw_1070 : (Cond.code yX9_errs cX9_errs 14 (some .long)) ∈ lb_tbl := lb_mem5 (i := 68) rfl rfl
set_option maxRecDepth 20000 in
theorem qw_1071 : (Cond.methodLink RX9 181 yX9_noWide) ∈ lb_tbl := lb_mem5 (i := 69) rfl rfl
set_option maxRecDepth 20000 in
theorem qw_1073 : (Cond.instanceMethod yX9_noWide) ∈ lb_tbl := lb_mem5 (i := 71) rfl rfl
set_option maxRecDepth 20000 in
theorem qw_1074 : (Cond.code yX9_noWide cX9_noWide 2 (some .long)) ∈ lb_tbl := lb_mem5 (i := 72) rfl rfl
set_option maxRecDepth 20000 in
theorem qw_1075 : (Cond.constantLong RX9 39 (4000000000000000000)) ∈ lb_tbl := lb_mem5 (i := 73) rfl rfl
set_option maxRecDepth 20000 in
theorem qw_1076 : (Cond.methodLink RX9 185 yX9_errsIn) ∈ lb_tbl := lb_mem5 (i := 74) rfl rfl
set_option maxRecDepth 20000 in
theorem qw_1077 : (Cond.static yX9_errsIn) ∈ lb_tbl := lb_mem5 (i := 75) rfl rfl
set_option maxRecDepth 20000 in
theorem qw_1078 : (Cond.code yX9_errsIn cX9_errsIn 2 none) ∈ lb_tbl := lb_mem5 (i := 76) rfl rfl
set_option maxRecDepth 20000 in
theorem qw_1079 : (Cond.methodLink RX9 188 yX9_partOf) ∈ lb_tbl := lb_mem5 (i := 77) rfl rfl
set_option maxRecDepth 20000 in
theorem qw_1080 : (Cond.static yX9_partOf) ∈ lb_tbl := lb_mem5 (i := 78) rfl rfl
set_option maxRecDepth 20000 in
theorem qw_1081 : (Cond.code yX9_partOf cX9_partOf 5 (some .long)) ∈ lb_tbl := lb_mem5 (i := 79) rfl rfl
set_option maxRecDepth 20000 in
theorem qw_1082 : (Cond.methodLink RX9 177 yX9_gcd) ∈ lb_tbl := lb_mem5 (i := 80) rfl rfl
set_option maxRecDepth 20000 in
theorem qw_1083 : (Cond.static yX9_gcd) ∈ lb_tbl := lb_mem5 (i := 81) rfl rfl
set_option maxRecDepth 20000 in
theorem qw_1084 : (Cond.code yX9_gcd cX9_gcd 10 (some .long)) ∈ lb_tbl := lb_mem5 (i := 82) rfl rfl
set_option maxRecDepth 20000 in
theorem qw_1085 : (Cond.methodLink RL 146 yX9_mean) ∈ lb_tbl := lb_mem5 (i := 83) rfl rfl
set_option maxRecDepth 20000 in
theorem qw_1086 : (Cond.instanceMethod yX9_mean) ∈ lb_tbl := lb_mem5 (i := 84) rfl rfl
set_option maxRecDepth 20000 in
theorem qw_1087 : (Cond.selects RX9 yX9_mean yX9_mean) ∈ lb_tbl := lb_mem5 (i := 85) rfl rfl
set_option maxRecDepth 20000 in
theorem qw_1088 : (Cond.code yX9_mean cX9_mean 2 (some .long)) ∈ lb_tbl := lb_mem5 (i := 86) rfl rfl
set_option maxRecDepth 20000 in
theorem qw_1089 : (Cond.methodLink RL 150 yX9_whatIn) ∈ lb_tbl := lb_mem5 (i := 87) rfl rfl
set_option maxRecDepth 20000 in
theorem qw_1090 : (Cond.instanceMethod yX9_whatIn) ∈ lb_tbl := lb_mem5 (i := 88) rfl rfl
set_option maxRecDepth 20000 in
theorem qw_1091 : (Cond.selects RX9 yX9_whatIn yX9_whatIn) ∈ lb_tbl := lb_mem5 (i := 89) rfl rfl
set_option maxRecDepth 20000 in
theorem qw_1092 : (Cond.code yX9_whatIn cX9_whatIn 8 (some .int)) ∈ lb_tbl := lb_mem5 (i := 90) rfl rfl
set_option maxRecDepth 20000 in
theorem qw_1093 : (Cond.methodLink RL 154 yX9_row) ∈ lb_tbl := lb_mem5 (i := 91) rfl rfl
set_option maxRecDepth 20000 in
theorem qw_1094 : (Cond.instanceMethod yX9_row) ∈ lb_tbl := lb_mem5 (i := 92) rfl rfl
set_option maxRecDepth 20000 in
theorem qw_1095 : (Cond.selects RX9 yX9_row yX9_row) ∈ lb_tbl := lb_mem5 (i := 93) rfl rfl
set_option maxRecDepth 20000 in
theorem qw_1096 : (Cond.code yX9_row cX9_row 3 (some .int)) ∈ lb_tbl := lb_mem5 (i := 94) rfl rfl
set_option maxRecDepth 20000 in
theorem qw_1097 : (Cond.methodLink RL 158 yX9_judge) ∈ lb_tbl := lb_mem5 (i := 95) rfl rfl
set_option maxRecDepth 20000 in
theorem qw_1098 : (Cond.instanceMethod yX9_judge) ∈ lb_tbl := lb_mem5 (i := 96) rfl rfl
set_option maxRecDepth 20000 in
theorem qw_1099 : (Cond.selects RX9 yX9_judge yX9_judge) ∈ lb_tbl := lb_mem5 (i := 97) rfl rfl
set_option maxRecDepth 20000 in
theorem qw_1100 : (Cond.code yX9_judge cX9_judge 3 (some .int)) ∈ lb_tbl := lb_mem5 (i := 98) rfl rfl
set_option maxRecDepth 20000 in
theorem qw_1101 : (Cond.methodLink RL 162 yX9_clear) ∈ lb_tbl := lb_mem5 (i := 99) rfl rfl
set_option maxRecDepth 20000 in
theorem qw_1102 : (Cond.instanceMethod yX9_clear) ∈ lb_tbl := lb_mem5 (i := 100) rfl rfl
set_option maxRecDepth 20000 in
theorem qw_1103 : (Cond.selects RX9 yX9_clear yX9_clear) ∈ lb_tbl := lb_mem5 (i := 101) rfl rfl
set_option maxRecDepth 20000 in
theorem qw_1104 : (Cond.code yX9_clear cX9_clear 2 (some .int)) ∈ lb_tbl := lb_mem5 (i := 102) rfl rfl
set_option maxRecDepth 20000 in
theorem qw_1105 : (Cond.methodLink RL 166 yX9_lots) ∈ lb_tbl := lb_mem5 (i := 103) rfl rfl
set_option maxRecDepth 20000 in
theorem qw_1106 : (Cond.instanceMethod yX9_lots) ∈ lb_tbl := lb_mem5 (i := 104) rfl rfl
set_option maxRecDepth 20000 in
theorem qw_1107 : (Cond.selects RX9 yX9_lots yX9_lots) ∈ lb_tbl := lb_mem5 (i := 105) rfl rfl
set_option maxRecDepth 20000 in
theorem qw_1108 : (Cond.code yX9_lots cX9_lots 7 (some .int)) ∈ lb_tbl := lb_mem5 (i := 106) rfl rfl
set_option maxRecDepth 20000 in
theorem qw_1109 : (Cond.methodLink RX9 201 yX9_drawn) ∈ lb_tbl := lb_mem5 (i := 107) rfl rfl
set_option maxRecDepth 20000 in
theorem qw_1111 : (Cond.instanceMethod yX9_drawn) ∈ lb_tbl := lb_mem5 (i := 109) rfl rfl
set_option maxRecDepth 20000 in
theorem qw_1112 : (Cond.code yX9_drawn cX9_drawn 2 (some .int)) ∈ lb_tbl := lb_mem5 (i := 110) rfl rfl
set_option maxRecDepth 20000 in
theorem qw_1113 : (Cond.constant RX9 198 (1664525)) ∈ lb_tbl := lb_mem5 (i := 111) rfl rfl
set_option maxRecDepth 20000 in
theorem qw_1114 : (Cond.constant RX9 199 (1013904223)) ∈ lb_tbl := lb_mem5 (i := 112) rfl rfl
set_option maxRecDepth 20000 in
theorem qw_1115 : (Cond.constant RX9 200 (2147483647)) ∈ lb_tbl := lb_mem5 (i := 113) rfl rfl
set_option maxRecDepth 20000 in
theorem qw_1116 : (Cond.methodLink RL 170 yX9_image) ∈ lb_tbl := lb_mem5 (i := 114) rfl rfl
set_option maxRecDepth 20000 in
theorem qw_1117 : (Cond.instanceMethod yX9_image) ∈ lb_tbl := lb_mem5 (i := 115) rfl rfl
set_option maxRecDepth 20000 in
theorem qw_1118 : (Cond.selects RX9 yX9_image yX9_image) ∈ lb_tbl := lb_mem5 (i := 116) rfl rfl
set_option maxRecDepth 20000 in
theorem qw_1119 : (Cond.code yX9_image cX9_image 1 (some .int)) ∈ lb_tbl := lb_mem5 (i := 117) rfl rfl
set_option maxRecDepth 20000 in
theorem qw_1120 : (Cond.methodLink RL 174 yX9_on) ∈ lb_tbl := lb_mem5 (i := 118) rfl rfl
set_option maxRecDepth 20000 in
theorem qw_1121 : (Cond.instanceMethod yX9_on) ∈ lb_tbl := lb_mem5 (i := 119) rfl rfl
set_option maxRecDepth 20000 in
theorem qw_1122 : (Cond.selects RX9 yX9_on yX9_on) ∈ lb_tbl := lb_mem5 (i := 120) rfl rfl
set_option maxRecDepth 20000 in
theorem qw_1123 : (Cond.code yX9_on cX9_on 1 (some .int)) ∈ lb_tbl := lb_mem5 (i := 121) rfl rfl
set_option maxRecDepth 20000 in
theorem qw_1124 : (Cond.methodLink RL 178 yX9_count) ∈ lb_tbl := lb_mem5 (i := 122) rfl rfl
set_option maxRecDepth 20000 in
theorem qw_1125 : (Cond.instanceMethod yX9_count) ∈ lb_tbl := lb_mem5 (i := 123) rfl rfl
set_option maxRecDepth 20000 in
theorem qw_1126 : (Cond.selects RX9 yX9_count yX9_count) ∈ lb_tbl := lb_mem5 (i := 124) rfl rfl
set_option maxRecDepth 20000 in
theorem qw_1127 : (Cond.code yX9_count cX9_count 4 (some .int)) ∈ lb_tbl := lb_mem5 (i := 125) rfl rfl
set_option maxRecDepth 20000 in
theorem qw_1128 : (Cond.sameMethod RX6 RX6 "spoon" "(III)I") ∈ lb_tbl := lb_mem5 (i := 126) rfl rfl
set_option maxRecDepth 20000 in
theorem qw_1129 : (Cond.sameMethod RX5 RX5 "spoon" "(III)I") ∈ lb_tbl := lb_mem5 (i := 127) rfl rfl
set_option maxRecDepth 20000 in
theorem qw_1135 : (Cond.fieldLink RJ0 15 "java/lang/String" "coder" "B") ∈ lb_tbl := lb_mem5 (i := 133) rfl rfl
set_option maxRecDepth 20000 in
theorem qw_1136 : (Cond.fieldLink RJ0 9 "java/lang/String" "value" "[B") ∈ lb_tbl := lb_mem5 (i := 134) rfl rfl
theorem lb_in0 : ∀ w ∈ u_ws RX0 TX0 0, w ∈ lb_tbl := fun w h => List.mem_filter.mpr ⟨lb_inl0 w h, (List.all_eq_true.mp (show (u_ws RX0 TX0 0).all goodWord = true from rfl)) w h⟩
theorem lb_in1 : ∀ w ∈ u_ws RX1 TX1 0, w ∈ lb_tbl := fun w h => List.mem_filter.mpr ⟨lb_inl1 w h, (List.all_eq_true.mp (show (u_ws RX1 TX1 0).all goodWord = true from rfl)) w h⟩
theorem lb_in2 : ∀ w ∈ u_ws RX2 TX2 0, w ∈ lb_tbl := fun w h => List.mem_filter.mpr ⟨lb_inl2 w h, (List.all_eq_true.mp (show (u_ws RX2 TX2 0).all goodWord = true from rfl)) w h⟩
theorem lb_in3 : ∀ w ∈ u_ws RX3 TX3 0, w ∈ lb_tbl := fun w h => List.mem_filter.mpr ⟨lb_inl3 w h, (List.all_eq_true.mp (show (u_ws RX3 TX3 0).all goodWord = true from rfl)) w h⟩
theorem lb_in4 : ∀ w ∈ u_ws RX4 TX4 2, w ∈ lb_tbl := fun w h => List.mem_filter.mpr ⟨lb_inl4 w h, (List.all_eq_true.mp (show (u_ws RX4 TX4 2).all goodWord = true from rfl)) w h⟩
theorem lb_in5 : ∀ w ∈ u_ws RX5 TX5 0, w ∈ lb_tbl := fun w h => List.mem_filter.mpr ⟨lb_inl5 w h, (List.all_eq_true.mp (show (u_ws RX5 TX5 0).all goodWord = true from rfl)) w h⟩
theorem lb_in6 : ∀ w ∈ u_ws RX6 TX6 0, w ∈ lb_tbl := fun w h => List.mem_filter.mpr ⟨lb_inl6 w h, (List.all_eq_true.mp (show (u_ws RX6 TX6 0).all goodWord = true from rfl)) w h⟩
theorem lb_in7 : ∀ w ∈ u_ws RX7 TX7 12, w ∈ lb_tbl := fun w h => List.mem_filter.mpr ⟨lb_inl7 w h, (List.all_eq_true.mp (show (u_ws RX7 TX7 12).all goodWord = true from rfl)) w h⟩
theorem lb_in8 : ∀ w ∈ u_ws RX8 TX8 8, w ∈ lb_tbl := fun w h => List.mem_filter.mpr ⟨lb_inl8 w h, (List.all_eq_true.mp (show (u_ws RX8 TX8 8).all goodWord = true from rfl)) w h⟩
theorem lb_in9 : ∀ w ∈ u_ws RX9 TX9 13, w ∈ lb_tbl := fun w h => List.mem_filter.mpr ⟨lb_inl9 w h, (List.all_eq_true.mp (show (u_ws RX9 TX9 13).all goodWord = true from rfl)) w h⟩
end
section
/-! the world: 62 cells in fixed order; what they hold is a function of two places -/
abbrev lb_Mem : Type := Nat → Nat → Int32
abbrev lb_G : Type := va_G × ClassId × ClassId × (Nat → Nat) × (Nat → Nat) × (Nat → Nat)
def lb_cI (G : lb_G) : ClassId := G.2.1
def lb_cJ (G : lb_G) : ClassId := G.2.2.1
def lb_ad (G : lb_G) : Nat → Nat := G.2.2.2.1
def lb_sK (G : lb_G) : Nat → Nat := G.2.2.2.2.1
def lb_sV (G : lb_G) : Nat → Nat := G.2.2.2.2.2
def lb_arL : List Nat := [0, 0, 0, 0, 0, 0, 0, 0, 0, 8, 8, 8, 8, 8, 8, 5, 5, 0, 0, 0, 0, 0, 0, 0, 0, 8, 8, 8, 8, 8, 8, 5, 5, 0, 0, 0, 0, 0, 0, 0, 0, 8, 8, 8, 8, 8, 8, 5, 5, 0, 96, 16, 7, 0, 61, 61, 61, 61, 96, 16, 7, 6]
def lb_ar (k : Nat) : Nat := lb_arL.getD k 0
def lb_cell (G : lb_G) (k : Nat) (f : Nat → Int32) : va_E :=
  if 0 < lb_ar k then .inl (lb_cI G, lb_ar k, .inl f)
  else if k = 0 then .inr (8, [.ref (lb_ad G 1), .ref (lb_ad G 17), .ref (lb_ad G 33), .int (f 3), .ref (lb_ad G 49), .ref (lb_ad G 51), .int (f 6), .ref (lb_ad G 52)])
  else if k = 49 then .inr (4, [.ref (lb_ad G 50), .int (f 1)])
  else if k = 53 then .inr (9, [.ref (lb_ad G 54), .ref (lb_ad G 55), .ref (lb_ad G 56), .ref (lb_ad G 57), .int (f 4), .ref (lb_ad G 58), .ref (lb_ad G 59), .ref (lb_ad G 60), .int (f 8), .int (f 9), .int (f 10), .ref (lb_ad G 61), .int (f 12)])
  else if k % 16 = 1 then .inr (7, [.ref (lb_ad G (k + 1)), .ref (lb_ad G (k + 8)), .ref (lb_ad G (k + 9)), .ref (lb_ad G (k + 10)), .ref (lb_ad G (k + 11)), .ref (lb_ad G (k + 12)), .ref (lb_ad G (k + 13)), .ref (lb_ad G (k + 14)), .ref (lb_ad G (k + 15)), .int (f 9), .int (f 10), .int (f 11)])
  else if k % 16 = 2 then .inl (lb_cJ G, 6, .inr (.inr (.inr (.inr (fun j => some (lb_ad G (k + 1 + j)))))))
  else .inr (([3, 6, 5, 0, 2, 1] : List Nat).getD ((k - 3) % 16) 0, [])
def lb_V (b : Nat) : Prop := b = 1 ∨ b = 17 ∨ b = 33
theorem lb_V1 : lb_V 1 := Or.inl rfl
theorem lb_V17 : lb_V 17 := Or.inr (Or.inl rfl)
theorem lb_V33 : lb_V 33 := Or.inr (Or.inr rfl)
theorem lb_Vlt {b : Nat} (h : lb_V b) : b < 62 := by rcases h with rfl | rfl | rfl <;> decide
theorem lb_arlt {k n : Nat} (h : lb_ar k = n + 1) : k < 62 := by
  rcases Nat.lt_or_ge k 62 with h1 | h1
  · exact h1
  · rw [lb_ar, List.getD_eq_getElem?_getD, List.getElem?_eq_none (by simpa [lb_arL] using h1)] at h
    cases h
theorem lb_cell_ar {G : lb_G} {k n : Nat} {f : Nat → Int32} (h : lb_ar k = n + 1) : lb_cell G k f = .inl (lb_cI G, n + 1, .inl f) := by
  simp [lb_cell, h]
theorem lb_cell_V {G : lb_G} {b : Nat} {f : Nat → Int32} (h : lb_V b) : lb_cell G b f = .inr (7, [.ref (lb_ad G (b + 1)), .ref (lb_ad G (b + 8)), .ref (lb_ad G (b + 9)), .ref (lb_ad G (b + 10)), .ref (lb_ad G (b + 11)), .ref (lb_ad G (b + 12)), .ref (lb_ad G (b + 13)), .ref (lb_ad G (b + 14)), .ref (lb_ad G (b + 15)), .int (f 9), .int (f 10), .int (f 11)]) := by
  rcases h with rfl | rfl | rfl <;> rfl
theorem lb_cell_Q {G : lb_G} {b : Nat} {f : Nat → Int32} (h : lb_V b) : lb_cell G (b + 1) f = .inl (lb_cJ G, 6, .inr (.inr (.inr (.inr (fun j => some (lb_ad G (b + 1 + 1 + j))))))) := by
  rcases h with rfl | rfl | rfl <;> rfl
theorem lb_cell_0 {G : lb_G} {f : Nat → Int32} : lb_cell G 0 f = .inr (8, [.ref (lb_ad G 1), .ref (lb_ad G 17), .ref (lb_ad G 33), .int (f 3), .ref (lb_ad G 49), .ref (lb_ad G 51), .int (f 6), .ref (lb_ad G 52)]) := rfl
theorem lb_cell_49 {G : lb_G} {f : Nat → Int32} : lb_cell G 49 f = .inr (4, [.ref (lb_ad G 50), .int (f 1)]) := rfl
theorem lb_cell_53 {G : lb_G} {f : Nat → Int32} : lb_cell G 53 f = .inr (9, [.ref (lb_ad G 54), .ref (lb_ad G 55), .ref (lb_ad G 56), .ref (lb_ad G 57), .int (f 4), .ref (lb_ad G 58), .ref (lb_ad G 59), .ref (lb_ad G 60), .int (f 8), .int (f 9), .int (f 10), .ref (lb_ad G 61), .int (f 12)]) := rfl
def lb_wl (G : lb_G) (σ : lb_Mem) : va_W := (List.range 62).map (fun k => (lb_ad G k, lb_cell G k (σ k)))
theorem lb_wl_get {G : lb_G} {σ : lb_Mem} {k : Nat} (h : k < 62) : (lb_wl G σ)[k]? = some (lb_ad G k, lb_cell G k (σ k)) := by
  rw [lb_wl, List.getElem?_map, List.getElem?_range h]
  rfl
theorem lb_wl_len (G : lb_G) (σ : lb_Mem) : (lb_wl G σ).length = 62 := by rw [lb_wl, List.length_map, List.length_range]
def lb_setc (σ : lb_Mem) (k : Nat) (f : Nat → Int32) : lb_Mem := fun a => if a = k then f else σ a
def lb_sto (σ : lb_Mem) (k i : Nat) (v : Int32) : lb_Mem := lb_setc σ k (upd (σ k) i v)
theorem lb_wl_set {G : lb_G} {σ : lb_Mem} {k : Nat} (h : k < 62) (f : Nat → Int32) : (lb_wl G σ).set k (lb_ad G k, lb_cell G k f) = lb_wl G (lb_setc σ k f) := by
  apply List.ext_getElem?
  intro i
  rw [List.getElem?_set]
  by_cases hi : k = i
  · subst hi
    rw [if_pos rfl, if_pos (by rw [lb_wl_len]; exact h), lb_wl_get h, lb_setc, if_pos rfl]
  · rw [if_neg hi]
    rcases Nat.lt_or_ge i 62 with h1 | h1
    · rw [lb_wl_get h1, lb_wl_get h1, lb_setc, if_neg (Ne.symm hi)]
    · rw [List.getElem?_eq_none (by rw [lb_wl_len]; exact h1), List.getElem?_eq_none (by rw [lb_wl_len]; exact h1)]
def lb_A (G : lb_G) : Nat → Prop := fun q => ∃ k, k < 62 ∧ q = lb_ad G k
theorem lb_wl_of {G : lb_G} {σ : lb_Mem} {k : Nat} {q : Nat × va_E} (h : (lb_wl G σ)[k]? = some q) : k < 62 ∧ q = (lb_ad G k, lb_cell G k (σ k)) := by
  rcases Nat.lt_or_ge k 62 with h1 | h1
  · rw [lb_wl_get h1] at h
    exact ⟨h1, (Option.some.inj h).symm⟩
  · rw [List.getElem?_eq_none (by rw [lb_wl_len]; exact h1)] at h
    cases h
def lb_inj (G : lb_G) : Prop := ∀ i j : Nat, i < 62 → j < 62 → lb_ad G i = lb_ad G j → i = j
theorem lb_D {G : lb_G} (hi : lb_inj G) (σ : lb_Mem) : va_D (lb_A G) (lb_wl G σ) := by
  refine ⟨fun i j x y h1 h2 h3 => ?_, fun k q h => ?_⟩
  · obtain ⟨g1, rfl⟩ := lb_wl_of h1
    obtain ⟨g2, rfl⟩ := lb_wl_of h2
    exact hi i j g1 g2 h3
  · obtain ⟨g1, rfl⟩ := lb_wl_of h
    exact ⟨k, g1, rfl⟩
abbrev lb_tys (G : lb_G) : List (ClassId × FieldType) := [(lb_cI G, .int), (lb_cJ G, .object RX3)]
def lb_K (G : lb_G) (U : State) : Prop := va_K G.1 vwCl (lb_tys G) U ∧ lb_inj G ∧ vk_R RX4 23 "jtsahb" (lb_sK G 0) U ∧ vk_S 1 [6] [[106, 116, 115, 97, 104, 98]] (lb_sK G) (lb_sV G) (lb_A G) U U.heap ∧ va_Z "java/lang/String" "COMPACT_STRINGS" "Z" (.int 1) (lb_A G) U U.heap
def lb_W (G : lb_G) (s : State) (σ : lb_Mem) (H : Heap) (locs : List Loc) : Prop := va_P G.1 vwCl (lb_wl G σ) H ∧ va_S (lb_A G) s.heap H locs
def lb_C (G : lb_G) (p : Program) (s : State) (m : MethodId) (args : Array Value) (meth : Method) (c : Code) (cc : ByteArray) (nL : Nat) (own : String) (ret : Option FieldType) : Prop :=
  p.tables.exec = Jvm.exec ∧ c.code = cc ∧ c.maxLocals = nL ∧ s.vm.findClass own = some m.cls ∧ (∀ w ∈ lb_tbl, w.before args s = true) ∧ lb_K G s ∧ meth.locks = false ∧ meth.sig.returnType = ret
def lb_ws (y : MethodName) (cc : ByteArray) (nL : Nat) (ret : Option FieldType) : List Cond := Cond.code y cc nL ret :: lb_tbl
def lb_P (G : lb_G) (σ : lb_Mem) : State → Prop := fun U => va_P G.1 vwCl (lb_wl G σ) U.heap ∧ lb_K G U
def lb_B (G : lb_G) : lb_Mem → State → Prop := fun u t => va_P G.1 vwCl (lb_wl G u) t.heap
def lb_QI (G : lb_G) (r : Int32) (σ' : lb_Mem) : Array Value → State → Outcome → State → Prop := va_Qi (fun (r' : Int32) (u : lb_Mem) => r' = r ∧ u = σ') (lb_B G) (lb_A G)
def lb_QL (G : lb_G) (r : Int64) (σ' : lb_Mem) : Array Value → State → Outcome → State → Prop := va_Ql (fun (r' : Int64) (u : lb_Mem) => r' = r ∧ u = σ') (lb_B G) (lb_A G)
def lb_QV (G : lb_G) (σ' : lb_Mem) : Array Value → State → Outcome → State → Prop := va_Qv (fun (u : lb_Mem) => u = σ') (lb_B G) (lb_A G)
def lb_M (l : Launch) (y : MethodName) (cc : ByteArray) (nL : Nat) (ret : Option FieldType) (rm : Room) (av : List Value) (G : lb_G) (σ : lb_Mem) (Qc : Array Value → State → Outcome → State → Prop) : Prop := Met l y (lb_ws y cc nL ret) rm (va_Pc av (lb_P G σ)) Qc 0 0 (lb_A G)
theorem lb_goodTbl {ws : List Cond} (h : ∀ w ∈ ws, w ∈ lb_tbl) : GoodIn lb_tbl ws := fun w hw => ⟨h w hw, good_of_word (lb_all w (h w hw))⟩
theorem lb_goodWs {y : MethodName} {cc : ByteArray} {nL : Nat} {ret : Option FieldType} (h : Cond.code y cc nL ret ∈ lb_tbl) : GoodIn lb_tbl (lb_ws y cc nL ret) := lb_goodTbl (fun w hw => by
  rcases List.mem_cons.mp hw with rfl | h1
  · exact h
  · exact h1)
theorem lb_K.next {G : lb_G} {s U : State} {H : Heap} {locs : List Loc} (h : lb_K G s) (hW : s.WarmedH U.vm) (hS : va_S (lb_A G) s.heap H locs) (hU : U.heap = H) : lb_K G U := by
  obtain ⟨h1, h2, h3, h4, h5⟩ := h
  subst hU
  exact ⟨va_K.moved hW.alike h1, h2, vk_R.warm hW h3, vk_S.moved hW.alike (h4.kept hS.2.1), va_Z.moved hW.alike (h5.kept hS.2.1)⟩
theorem lb_P.blind {G : lb_G} {σ : lb_Mem} {av : List Value} : FrameBlind (va_Pc av (lb_P G σ)) := by
  intro a U g mk q
  obtain ⟨q0, qP, q1, q2, q3, q4, q5⟩ := q
  exact ⟨q0, qP, va_K.moved (u := U) (U := U.calling g mk a) (Vm.Alike.refl U.vm) q1, q2, vk_R.same (u := U) (U := U.calling g mk a) rfl q3, vk_S.moved (u := U) (U := U.calling g mk a) (Vm.Alike.refl U.vm) q4, va_Z.moved (u := U) (U := U.calling g mk a) (Vm.Alike.refl U.vm) q5⟩
theorem lb_start {l : Launch} {y : MethodName} {cc : ByteArray} {nL : Nat} {ret : Option FieldType} {rm : Room} {av : List Value} {G : lb_G} {σ : lb_Mem} {Qc : Array Value → State → Outcome → State → Prop} (own : String) (hy : plainName y.cls = true) (ho : y.cls = own) (hn : (lg_sl av).length ≤ nL)
    (body : ∀ (p : Program) (e : Env) (s : State) (m : MethodId) (below : List Frame) (meth : Method) (c : Code), lb_C G p s m av.toArray meth c cc nL own ret → lb_W G s σ s.heap [] → ∀ ls : Array Slot, lv_has ls nL (lv_args 0 av) → W p l e rm s m av.toArray below meth c s.heap [] 0 0 (MQ below Qc av.toArray s 0 0 (lb_A G)) (F0 m 0 ls [])) :
    lb_M l y cc nL ret rm av G σ Qc := by
  refine Met.ofW (cc := cc) (maxL := nL) (ret := ret) hy rfl ?_
  intro p e s m args below meth c s₁ B hml hv
  obtain ⟨rfl, hP, hK⟩ := hv
  have hts := atoms_spec (ws := lb_ws y cc nL ret) B.pre
  have hown : s.vm.findClass y.cls = some m.cls := findClass_of_methodNamed B.named
  have hl := lv_entry av (n := nL) hn
  rw [lg_entry_eq]
  exact body p e s m below meth c ⟨B.exec, B.bytes, hml, by rw [← ho]; exact hown, fun w hw => hts w (List.mem_cons_of_mem _ hw), hK, B.notSynchronized, B.returns⟩ ⟨hP, va_S.rf⟩ _ hl
end
section
theorem lb_w_nat : (Cond.native arraycopyName) ∈ lb_tbl := qw_348
theorem lb_w_stat : (Cond.static arraycopyName) ∈ lb_tbl := qw_347
theorem lb_w_sys : (Cond.initialized "java/lang/System") ∈ lb_tbl := qw_59
section LBR
variable {p : Program} {l : Launch} {e : Env} {R : Room} {s : State} {m : MethodId} {args : Array Value} {below : List Frame} {meth : Method} {c : Code} {H : Heap} {locs : List Loc} {cells slots : Nat} {Q : State → Prop}
variable {cc : ByteArray} {pc nL : Nat} {ls : Array Slot} {rest : List Value} {G : lb_G} {σ : lb_Mem} {own : String} {ret : Option FieldType}
theorem lb_get (X : lb_C G p s m args meth c cc nL own ret) (hW : lb_W G s σ H locs) {k ci N idx : Nat} {fs : List Value} {C : String} {T : u_T} (hk : k < 62) (he : lb_cell G k (σ k) = .inr (ci, fs)) (hc : vwCl[ci]? = some (C, T, N)) (hin : ∀ w ∈ u_ws C T N, w ∈ lb_tbl) (j : Nat) (hj : j < N) (hl : Cond.fieldLink own idx (T j).1 (T j).2.1 (T j).2.2.1 ∈ lb_tbl) {v : Value} (hv : fs[j]? = some v) (d : decode cc pc = .ok (.getfield idx, 3))
    (kk : W p l e R s m args below meth c H locs cells slots Q (F0 m (pc + 3) ls (v :: rest))) : W p l e R s m args below meth c H locs cells slots Q (F0 m pc ls (.ref (lb_ad G k) :: rest)) :=
  va_get (D := G.1) (ci := ci) X.1 X.2.1 X.2.2.2.2.1 hin X.2.2.2.1 X.2.2.2.2.2.1.1 hW.1 k (by rw [lb_wl_get hk, he]) hc j hj (X.2.2.2.2.1 _ hl) (fun _ h => h) hv d kk
theorem lb_put (X : lb_C G p s m args meth c cc nL own ret) (hW : lb_W G s σ H locs) {k ci N idx : Nat} {fs : List Value} {C : String} {T : u_T} (hk : k < 62) (he : lb_cell G k (σ k) = .inr (ci, fs)) (hc : vwCl[ci]? = some (C, T, N)) (hin : ∀ w ∈ u_ws C T N, w ∈ lb_tbl) (ty : Nat → FieldType) (hty : ∀ k, k < N → parseFieldDescriptor (T k).2.2.1 = some (ty k)) (hnm : ∀ a, a < N → ∀ b, b < N → a ≠ b → (T a).2.1 ≠ (T b).2.1) (j : Nat) (hj : j < N) (hl : Cond.fieldLink own idx (T j).1 (T j).2.1 (T j).2.2.1 ∈ lb_tbl) (hfin : (T j).2.2.2 = false) {v : Int32} (hn : narrow (ty j) (.int v) = .int v) (hfit : fits (ty j) (.int v) = true) (hlen : j < fs.length)
    (hset : lb_cell G k (upd (σ k) j v) = .inr (ci, fs.set j (.int v))) (d : decode cc pc = .ok (.putfield idx, 3))
    (kk : ∀ (H1 : Heap) (locs1 : List Loc), lb_W G s (lb_sto σ k j v) H1 locs1 → W p l e R s m args below meth c H1 locs1 cells slots Q (F0 m (pc + 3) ls rest)) : W p l e R s m args below meth c H locs cells slots Q (F0 m pc ls (.int v :: .ref (lb_ad G k) :: rest)) :=
  va_put (D := G.1) (ci := ci) (ty := ty j) X.1 X.2.1 X.2.2.2.2.1 hin ty hty hnm X.2.2.2.1 X.2.2.2.2.2.1.1 hW.1 (lb_D X.2.2.2.2.2.1.2.1 σ) hW.2 k (by rw [lb_wl_get hk, he]) hc j hj (X.2.2.2.2.1 _ hl) (fun _ h => h) hfin (hty j hj) hn hfit hlen d
    (fun H1 locs1 h1 _ h3 => kk H1 locs1 ⟨by rw [← hset, lb_wl_set hk] at h1; exact h1, h3⟩)
theorem lb_ild (X : lb_C G p s m args meth c cc nL own ret) (hW : lb_W G s σ H locs) {k n : Nat} (ha : lb_ar k = n + 1) {i : Int32} (hi : vp_in i (n + 1)) (d : decode cc pc = .ok (.iaload, 1))
    (kk : W p l e R s m args below meth c H locs cells slots Q (F0 m (pc + 1) ls (.int (σ k i.toNatClampNeg) :: rest))) : W p l e R s m args below meth c H locs cells slots Q (F0 m pc ls (.int i :: .ref (lb_ad G k) :: rest)) :=
  va_iald (D := G.1) (cl := vwCl) X.1 X.2.1 X.2.2.2.2.2.1.1 hW.1 k 0 (by rw [lb_wl_get (lb_arlt ha), lb_cell_ar ha]) rfl hi d kk
theorem lb_ist (X : lb_C G p s m args meth c cc nL own ret) (hW : lb_W G s σ H locs) {k n : Nat} (ha : lb_ar k = n + 1) {i x : Int32} (hi : vp_in i (n + 1)) (d : decode cc pc = .ok (.iastore, 1))
    (kk : ∀ (H1 : Heap) (locs1 : List Loc), lb_W G s (lb_sto σ k i.toNatClampNeg x) H1 locs1 → W p l e R s m args below meth c H1 locs1 cells slots Q (F0 m (pc + 1) ls rest)) : W p l e R s m args below meth c H locs cells slots Q (F0 m pc ls (.int x :: .int i :: .ref (lb_ad G k) :: rest)) :=
  va_iast (D := G.1) (cl := vwCl) X.1 X.2.1 X.2.2.2.2.2.1.1 hW.1 (lb_D X.2.2.2.2.2.1.2.1 σ) hW.2 k 0 (by rw [lb_wl_get (lb_arlt ha), lb_cell_ar ha]) rfl hi d
    (fun H1 locs1 h1 _ h3 => kk H1 locs1 ⟨by rw [← lb_cell_ar (G := G) ha, lb_wl_set (lb_arlt ha)] at h1; exact h1, h3⟩)
def lb_cpy (σ : lb_Mem) (k0 k1 n : Nat) : lb_Mem := lb_setc σ k1 (va_cpy (σ k0) (σ k1) 0 0 n)
theorem lb_copy (X : lb_C G p s m args meth c cc nL own ret) (hW : lb_W G s σ H locs) (hls : ls.size = nL) {k0 k1 n idx : Nat} (ha : lb_ar k0 = n + 1) (hb : lb_ar k1 = n + 1) {x : Int32} (hx : x.toNatClampNeg = n + 1) (hx0 : ¬ x < 0) (hl : Cond.methodLink own idx arraycopyName ∈ lb_tbl)
    (hframes : 1 ≤ R.frames) (hlocals : (rest.map fun v => v.category).sum + (nativeFrameWords "java/lang/System" "arraycopy" 5 + 11) ≤ R.locals) (d : decode cc pc = .ok (.invokestatic idx, 3))
    (kk : ∀ (H1 : Heap) (locs1 : List Loc), lb_W G s (lb_cpy σ k0 k1 (n + 1)) H1 locs1 → W p l e R s m args below meth c H1 locs1 cells slots Q (F0 m (pc + 3) ls rest)) : W p l e R s m args below meth c H locs cells slots Q (F0 m pc ls (.int x :: .int 0 :: .ref (lb_ad G k1) :: .int 0 :: .ref (lb_ad G k0) :: rest)) :=
  va_copyi (D := G.1) (cl := vwCl) (ty := .int) X.1 X.2.1 (by rw [X.2.2.1, hls]) X.2.2.2.1 (X.2.2.2.2.1 _ hl) (X.2.2.2.2.1 _ lb_w_nat) (X.2.2.2.2.1 _ lb_w_stat) (X.2.2.2.2.1 _ lb_w_sys) X.2.2.2.2.2.1.1 hW.1 (lb_D X.2.2.2.2.2.1.2.1 σ) hW.2 k0 k1 0 0 (by rw [lb_wl_get (lb_arlt ha), lb_cell_ar ha]) (by rw [lb_wl_get (lb_arlt hb), lb_cell_ar hb]) rfl rfl rfl
    (by decide) (by decide) hx0 (by rw [hx]; exact Nat.le_of_eq (Nat.zero_add _)) (by rw [hx]; exact Nat.le_of_eq (Nat.zero_add _)) (fun i _ => rfl) hframes hlocals d
    (fun H1 locs1 h1 _ h3 => kk H1 locs1 ⟨by rw [hx, ← lb_cell_ar (G := G) hb, lb_wl_set (lb_arlt hb)] at h1; exact h1, h3⟩)
theorem lb_iret {r : Int32} (X : lb_C G p s m args meth c cc nL own (some .int)) (hW : lb_W G s σ H locs) (d : decode cc pc = .ok (.ireturn, 1)) : W p l e R s m args below meth c H locs cells slots (MQ below (lb_QI G r σ) args s cells slots (lb_A G)) (F0 m pc ls [.int r]) :=
  W.iret X.1 X.2.1 X.2.2.2.2.2.2.2 (fun t ht _ => ⟨⟨r, σ, rfl, ⟨rfl, rfl⟩, by rw [lb_B, ht]; exact hW.1⟩, hW.2.F ht⟩) hW.2.2.2 d X.2.2.2.2.2.2.1
theorem lb_zret {r : Int32} (X : lb_C G p s m args meth c cc nL own (some .boolean)) (hW : lb_W G s σ H locs) (hr : r = 0 ∨ r = 1) (d : decode cc pc = .ok (.ireturn, 1)) : W p l e R s m args below meth c H locs cells slots (MQ below (lb_QI G r σ) args s cells slots (lb_A G)) (F0 m pc ls [.int r]) :=
  W.zret X.1 X.2.1 X.2.2.2.2.2.2.2 (by rcases hr with rfl | rfl <;> rfl) (fun t ht _ => ⟨⟨r, σ, rfl, ⟨rfl, rfl⟩, by rw [lb_B, ht]; exact hW.1⟩, hW.2.F ht⟩) hW.2.2.2 d X.2.2.2.2.2.2.1
theorem lb_lret {r : Int64} (X : lb_C G p s m args meth c cc nL own (some .long)) (hW : lb_W G s σ H locs) (d : decode cc pc = .ok (.lreturn, 1)) : W p l e R s m args below meth c H locs cells slots (MQ below (lb_QL G r σ) args s cells slots (lb_A G)) (F0 m pc ls [.long r]) :=
  W.lret X.1 X.2.1 X.2.2.2.2.2.2.2 (fun t ht _ => ⟨⟨r, σ, rfl, ⟨rfl, rfl⟩, by rw [lb_B, ht]; exact hW.1⟩, hW.2.F ht⟩) hW.2.2.2 d X.2.2.2.2.2.2.1
theorem lb_vret (X : lb_C G p s m args meth c cc nL own none) (hW : lb_W G s σ H locs) (d : decode cc pc = .ok (.return_, 1)) : W p l e R s m args below meth c H locs cells slots (MQ below (lb_QV G σ) args s cells slots (lb_A G)) (F0 m pc ls []) :=
  W.vret X.1 X.2.1 X.2.2.2.2.2.2.2 (fun t ht _ => ⟨⟨σ, rfl, rfl, by rw [lb_B, ht]; exact hW.1⟩, hW.2.F ht⟩) hW.2.2.2 d X.2.2.2.2.2.2.1
/-- what a call of y needs: words and room -/
def lb_call (own : String) (idx : Nat) (y : MethodName) (yc : ByteArray) (yL : Nat) (yr : Option FieldType) (n : Nat) : Prop :=
  Cond.methodLink own idx y ∈ lb_tbl ∧ Cond.initialized y.cls ∈ lb_tbl ∧ Cond.code y yc yL yr ∈ lb_tbl ∧ (y.cls ≠ "java/lang/invoke/MethodHandle" ∧ y.cls ≠ "java/lang/invoke/VarHandle" ∧ (parseMethodDescriptor y.desc).map (fun d => d.parameters.length) = some n)
def lb_room (rm R : Room) (yL : Nat) : Prop := (rm.cells = 0 ∧ rm.slots = 0) ∧ rm.frames + 1 ≤ R.frames ∧ 8 + (yL + 11) + rm.locals ≤ R.locals
variable {y : MethodName} {yc : ByteArray} {yL n idx : Nat} {yr : Option FieldType} {rm : Room} {As : List Value} {σ' : lb_Mem}
theorem lb_cb (X : lb_C G p s m args meth c cc nL own ret) (hc : lb_call own idx y yc yL yr n) (hR : lb_room rm R yL) : CallB R s args own idx y yc yL yr (lb_ws y yc yL yr) rm 0 0 n :=
  callB_of n X.2.2.2.2.1 (lb_goodWs hc.2.2.1) rfl hR.1.1 hR.1.2 (X.2.2.2.2.1 _ hc.2.1) (X.2.2.2.2.1 _ hc.1) hc.2.2.2 hR.2
theorem lb_pre {av : List Value} (X : lb_C G p s m args meth c cc nL own ret) (hW : lb_W G s σ H locs) (U : State) (hU : U.heap = H) (hWm : s.WarmedH U.vm) : va_Pc av (lb_P G σ) av.toArray U :=
  ⟨rfl, by rw [hU]; exact hW.1, X.2.2.2.2.2.1.next hWm hW.2 hU⟩
/-- the object at place b has the class of that name -/
def lb_is (G : lb_G) (σ : lb_Mem) (b : Nat) (C : String) : Prop := b < 62 ∧ ∃ (ci : Nat) (fs : List Value) (q : vw_C), vwCl[ci]? = some q ∧ q.1 = C ∧ lb_cell G b (σ b) = .inr (ci, fs)
theorem lb_recv {b : Nat} {C : String} (X : lb_C G p s m args meth c cc nL own ret) (hW : lb_W G s σ H locs) (h : lb_is G σ b C) : ∃ cell : Cell, H[lb_ad G b]? = some cell ∧ cell.vm.isStatics = false ∧ s.vm.findClass C = some cell.cls := by
  obtain ⟨hb, ci, fs, q, h1, h2, h3⟩ := h
  subst h2
  exact va_recv X.2.2.2.2.2.1.1 hW.1 h1 (by rw [lb_wl_get hb, h3])
theorem lb_runV {Qc : Array Value → State → Outcome → State → Prop} {b : Nat} (X : lb_C G p s m args meth c cc nL own ret) (hW : lb_W G s σ H locs) (hM : lb_M l y yc yL yr rm (.ref (lb_ad G b) :: As) G σ Qc) (hc : lb_call own idx y yc yL yr n) (hR : lb_room rm R yL) (hin : Cond.instanceMethod y ∈ lb_tbl) (hse : Cond.selects y.cls y y ∈ lb_tbl) (hb : lb_is G σ b y.cls) (hn : As.length = n) (hls : ls.size = nL) (hrest : (rest.map fun v => v.category).sum ≤ 8) (d : decode cc pc = .ok (.invokevirtual idx, 3)) (hcap : cells ≤ R.cells ∧ slots ≤ R.slots) :
    va_Run p l e R s m args below meth c H locs cells slots 0 0 (F0 m pc ls (As.reverse ++ .ref (lb_ad G b) :: rest)) rest (Qc (Value.ref (lb_ad G b) :: As).toArray) (lb_A G) :=
  va_runV (Ts := lb_tbl) (own := own) (C := y.cls) ⟨X.1, X.2.1, X.2.2.1, X.2.2.2.1, X.2.2.2.2.1⟩ hM ⟨lb_cb X hc hR, X.2.2.2.2.1 _ hin, X.2.2.2.2.1 _ hse⟩ ⟨lb_P.blind, lb_recv X hW hb, fun U hU hWm => lb_pre X hW U hU hWm⟩ rfl hn hls rfl (lv_room hrest) d ⟨hcap.1, hcap.2⟩
theorem lb_runS {Qc : Array Value → State → Outcome → State → Prop} (X : lb_C G p s m args meth c cc nL own ret) (hW : lb_W G s σ H locs) (hM : lb_M l y yc yL yr rm As G σ Qc) (hc : lb_call own idx y yc yL yr n) (hR : lb_room rm R yL) (hst : Cond.static y ∈ lb_tbl) (hn : As.length = n) (hls : ls.size = nL) (hrest : (rest.map fun v => v.category).sum ≤ 8) (d : decode cc pc = .ok (.invokestatic idx, 3)) (hcap : cells ≤ R.cells ∧ slots ≤ R.slots) :
    va_Run p l e R s m args below meth c H locs cells slots 0 0 (F0 m pc ls (As.reverse ++ rest)) rest (Qc As.toArray) (lb_A G) :=
  va_runS (Ts := lb_tbl) (own := own) ⟨X.1, X.2.1, X.2.2.1, X.2.2.2.1, X.2.2.2.2.1⟩ hM ⟨lb_cb X hc hR, X.2.2.2.2.1 _ hst⟩ ⟨lb_P.blind, fun U hU hWm => lb_pre X hW U hU hWm⟩ rfl hn hls rfl (lv_room hrest) d ⟨hcap.1, hcap.2⟩
theorem lb_goI {st : List Value} {a : Array Value} {r : Int32} (hW : lb_W G s σ H locs) (hr : va_Run p l e R s m args below meth c H locs cells slots 0 0 (F0 m pc ls st) rest (lb_QI G r σ' a) (lb_A G))
    (kk : ∀ (H1 : Heap) (locs1 : List Loc), lb_W G s σ' H1 locs1 → W p l e R s m args below meth c H1 locs1 cells slots Q (F0 m (pc + 3) ls (.int r :: rest))) : W p l e R s m args below meth c H locs cells slots Q (F0 m pc ls st) :=
  va_calli hr hW.2 (fun _ _ h => h) (fun _ h => h) (fun r' u t H1 locs1 ht _ hw hB _ _ hS => by
    obtain ⟨rfl, rfl⟩ := hw
    exact kk H1 locs1 ⟨by rw [lb_B, ht] at hB; exact hB, hS⟩)
theorem lb_goL {st : List Value} {a : Array Value} {r : Int64} (hW : lb_W G s σ H locs) (hr : va_Run p l e R s m args below meth c H locs cells slots 0 0 (F0 m pc ls st) rest (lb_QL G r σ' a) (lb_A G))
    (kk : ∀ (H1 : Heap) (locs1 : List Loc), lb_W G s σ' H1 locs1 → W p l e R s m args below meth c H1 locs1 cells slots Q (F0 m (pc + 3) ls (.long r :: rest))) : W p l e R s m args below meth c H locs cells slots Q (F0 m pc ls st) :=
  va_calll hr hW.2 (fun _ _ h => h) (fun _ h => h) (fun r' u t H1 locs1 ht _ hw hB _ _ hS => by
    obtain ⟨rfl, rfl⟩ := hw
    exact kk H1 locs1 ⟨by rw [lb_B, ht] at hB; exact hB, hS⟩)
theorem lb_goV {st : List Value} {a : Array Value} (hW : lb_W G s σ H locs) (hr : va_Run p l e R s m args below meth c H locs cells slots 0 0 (F0 m pc ls st) rest (lb_QV G σ' a) (lb_A G))
    (kk : ∀ (H1 : Heap) (locs1 : List Loc), lb_W G s σ' H1 locs1 → W p l e R s m args below meth c H1 locs1 cells slots Q (F0 m (pc + 3) ls rest)) : W p l e R s m args below meth c H locs cells slots Q (F0 m pc ls st) :=
  va_callv hr hW.2 (fun _ _ h => h) (fun _ h => h) (fun u t H1 locs1 ht _ hw hB _ _ hS => by
    subst hw
    exact kk H1 locs1 ⟨by rw [lb_B, ht] at hB; exact hB, hS⟩)
end LBR
end
section
theorem dX0_init_0 : decode cX0_init 0 = .ok (.aload_n 0, 1) := by decide +kernel
theorem dX0_init_1 : decode cX0_init 1 = .ok (.invokespecial 1, 3) := by decide +kernel
theorem dX0_init_4 : decode cX0_init 4 = .ok (.return_, 1) := by decide +kernel
theorem dX0_spoon_0 : decode cX0_spoon 0 = .ok (.aload_n 0, 1) := by decide +kernel
theorem dX0_spoon_1 : decode cX0_spoon 1 = .ok (.iload_n 1, 1) := by decide +kernel
theorem dX0_spoon_2 : decode cX0_spoon 2 = .ok (.iload_n 2, 1) := by decide +kernel
theorem dX0_spoon_3 : decode cX0_spoon 3 = .ok (.iload_n 3, 1) := by decide +kernel
theorem dX0_spoon_4 : decode cX0_spoon 4 = .ok (.invokespecial 7, 3) := by decide +kernel
theorem dX0_spoon_7 : decode cX0_spoon 7 = .ok (.istore 4, 2) := by decide +kernel
theorem dX0_spoon_9 : decode cX0_spoon 9 = .ok (.iload_n 2, 1) := by decide +kernel
theorem dX0_spoon_10 : decode cX0_spoon 10 = .ok (.iconst 1, 1) := by decide +kernel
theorem dX0_spoon_11 : decode cX0_spoon 11 = .ok (.if_icmp .le 12, 3) := by decide +kernel
theorem dX0_spoon_14 : decode cX0_spoon 14 = .ok (.iload 4, 2) := by decide +kernel
theorem dX0_spoon_16 : decode cX0_spoon 16 = .ok (.iload_n 1, 1) := by decide +kernel
theorem dX0_spoon_17 : decode cX0_spoon 17 = .ok (.iconst 2, 1) := by decide +kernel
theorem dX0_spoon_18 : decode cX0_spoon 18 = .ok (.idiv, 1) := by decide +kernel
theorem dX0_spoon_19 : decode cX0_spoon 19 = .ok (.isub, 1) := by decide +kernel
theorem dX0_spoon_20 : decode cX0_spoon 20 = .ok (.goto 5, 3) := by decide +kernel
theorem dX0_spoon_23 : decode cX0_spoon 23 = .ok (.iload 4, 2) := by decide +kernel
theorem dX0_spoon_25 : decode cX0_spoon 25 = .ok (.ireturn, 1) := by decide +kernel
theorem dX1_init_0 : decode cX1_init 0 = .ok (.aload_n 0, 1) := by decide +kernel
theorem dX1_init_1 : decode cX1_init 1 = .ok (.invokespecial 1, 3) := by decide +kernel
theorem dX1_init_4 : decode cX1_init 4 = .ok (.return_, 1) := by decide +kernel
theorem dX1_spoon_0 : decode cX1_spoon 0 = .ok (.aload_n 0, 1) := by decide +kernel
theorem dX1_spoon_1 : decode cX1_spoon 1 = .ok (.iload_n 1, 1) := by decide +kernel
theorem dX1_spoon_2 : decode cX1_spoon 2 = .ok (.iload_n 2, 1) := by decide +kernel
theorem dX1_spoon_3 : decode cX1_spoon 3 = .ok (.iload_n 3, 1) := by decide +kernel
theorem dX1_spoon_4 : decode cX1_spoon 4 = .ok (.invokespecial 7, 3) := by decide +kernel
theorem dX1_spoon_7 : decode cX1_spoon 7 = .ok (.iload_n 3, 1) := by decide +kernel
theorem dX1_spoon_8 : decode cX1_spoon 8 = .ok (.isub, 1) := by decide +kernel
theorem dX1_spoon_9 : decode cX1_spoon 9 = .ok (.ireturn, 1) := by decide +kernel
theorem dX2_init_0 : decode cX2_init 0 = .ok (.aload_n 0, 1) := by decide +kernel
theorem dX2_init_1 : decode cX2_init 1 = .ok (.invokespecial 1, 3) := by decide +kernel
theorem dX2_init_4 : decode cX2_init 4 = .ok (.return_, 1) := by decide +kernel
theorem dX2_spoon_0 : decode cX2_spoon 0 = .ok (.iconst 0, 1) := by decide +kernel
theorem dX2_spoon_1 : decode cX2_spoon 1 = .ok (.aload_n 0, 1) := by decide +kernel
theorem dX2_spoon_2 : decode cX2_spoon 2 = .ok (.iload_n 1, 1) := by decide +kernel
theorem dX2_spoon_3 : decode cX2_spoon 3 = .ok (.iload_n 2, 1) := by decide +kernel
theorem dX2_spoon_4 : decode cX2_spoon 4 = .ok (.iload_n 3, 1) := by decide +kernel
theorem dX2_spoon_5 : decode cX2_spoon 5 = .ok (.invokespecial 7, 3) := by decide +kernel
theorem dX2_spoon_8 : decode cX2_spoon 8 = .ok (.invokestatic 11, 3) := by decide +kernel
theorem dX2_spoon_11 : decode cX2_spoon 11 = .ok (.ireturn, 1) := by decide +kernel
theorem dX3_init_0 : decode cX3_init 0 = .ok (.aload_n 0, 1) := by decide +kernel
theorem dX3_init_1 : decode cX3_init 1 = .ok (.invokespecial 1, 3) := by decide +kernel
theorem dX3_init_4 : decode cX3_init 4 = .ok (.return_, 1) := by decide +kernel
theorem dX3_spoon_0 : decode cX3_spoon 0 = .ok (.iload_n 2, 1) := by decide +kernel
theorem dX3_spoon_1 : decode cX3_spoon 1 = .ok (.ifCond .ne 7, 3) := by decide +kernel
theorem dX3_spoon_4 : decode cX3_spoon 4 = .ok (.iconst 2, 1) := by decide +kernel
theorem dX3_spoon_5 : decode cX3_spoon 5 = .ok (.goto 5, 3) := by decide +kernel
theorem dX3_spoon_8 : decode cX3_spoon 8 = .ok (.iload_n 2, 1) := by decide +kernel
theorem dX3_spoon_9 : decode cX3_spoon 9 = .ok (.ineg, 1) := by decide +kernel
theorem dX3_spoon_10 : decode cX3_spoon 10 = .ok (.ireturn, 1) := by decide +kernel
theorem dX4_init_0 : decode cX4_init 0 = .ok (.aload_n 0, 1) := by decide +kernel
theorem dX4_init_1 : decode cX4_init 1 = .ok (.invokespecial 3, 3) := by decide +kernel
theorem dX4_init_4 : decode cX4_init 4 = .ok (.aload_n 0, 1) := by decide +kernel
theorem dX4_init_5 : decode cX4_init 5 = .ok (.bipush 96, 2) := by decide +kernel
theorem dX4_init_7 : decode cX4_init 7 = .ok (.newarray .int, 2) := by decide +kernel
theorem dX4_init_9 : decode cX4_init 9 = .ok (.putfield 9, 3) := by decide +kernel
theorem dX4_init_12 : decode cX4_init 12 = .ok (.aload_n 0, 1) := by decide +kernel
theorem dX4_init_13 : decode cX4_init 13 = .ok (.iconst 0, 1) := by decide +kernel
theorem dX4_init_14 : decode cX4_init 14 = .ok (.putfield 15, 3) := by decide +kernel
theorem dX4_init_17 : decode cX4_init 17 = .ok (.return_, 1) := by decide +kernel
theorem dX4_add_0 : decode cX4_add 0 = .ok (.aload_n 0, 1) := by decide +kernel
theorem dX4_add_1 : decode cX4_add 1 = .ok (.getfield 15, 3) := by decide +kernel
theorem dX4_add_4 : decode cX4_add 4 = .ok (.bipush 96, 2) := by decide +kernel
theorem dX4_add_6 : decode cX4_add 6 = .ok (.if_icmp .ge 23, 3) := by decide +kernel
theorem dX4_add_9 : decode cX4_add 9 = .ok (.aload_n 0, 1) := by decide +kernel
theorem dX4_add_10 : decode cX4_add 10 = .ok (.getfield 9, 3) := by decide +kernel
theorem dX4_add_13 : decode cX4_add 13 = .ok (.aload_n 0, 1) := by decide +kernel
theorem dX4_add_14 : decode cX4_add 14 = .ok (.getfield 15, 3) := by decide +kernel
theorem dX4_add_17 : decode cX4_add 17 = .ok (.iload_n 1, 1) := by decide +kernel
theorem dX4_add_18 : decode cX4_add 18 = .ok (.iastore, 1) := by decide +kernel
theorem dX4_add_19 : decode cX4_add 19 = .ok (.aload_n 0, 1) := by decide +kernel
theorem dX4_add_20 : decode cX4_add 20 = .ok (.dup, 1) := by decide +kernel
theorem dX4_add_21 : decode cX4_add 21 = .ok (.getfield 15, 3) := by decide +kernel
theorem dX4_add_24 : decode cX4_add 24 = .ok (.iconst 1, 1) := by decide +kernel
theorem dX4_add_25 : decode cX4_add 25 = .ok (.iadd, 1) := by decide +kernel
theorem dX4_add_26 : decode cX4_add 26 = .ok (.putfield 15, 3) := by decide +kernel
theorem dX4_add_29 : decode cX4_add 29 = .ok (.return_, 1) := by decide +kernel
theorem dX4_letterAt_0 : decode cX4_letterAt 0 = .ok (.iload_n 1, 1) := by decide +kernel
theorem dX4_letterAt_1 : decode cX4_letterAt 1 = .ok (.ifCond .lt 20, 3) := by decide +kernel
theorem dX4_letterAt_4 : decode cX4_letterAt 4 = .ok (.iload_n 1, 1) := by decide +kernel
theorem dX4_letterAt_5 : decode cX4_letterAt 5 = .ok (.aload_n 0, 1) := by decide +kernel
theorem dX4_letterAt_6 : decode cX4_letterAt 6 = .ok (.getfield 15, 3) := by decide +kernel
theorem dX4_letterAt_9 : decode cX4_letterAt 9 = .ok (.if_icmp .ge 12, 3) := by decide +kernel
theorem dX4_letterAt_12 : decode cX4_letterAt 12 = .ok (.aload_n 0, 1) := by decide +kernel
theorem dX4_letterAt_13 : decode cX4_letterAt 13 = .ok (.getfield 9, 3) := by decide +kernel
theorem dX4_letterAt_16 : decode cX4_letterAt 16 = .ok (.iload_n 1, 1) := by decide +kernel
theorem dX4_letterAt_17 : decode cX4_letterAt 17 = .ok (.iaload, 1) := by decide +kernel
theorem dX4_letterAt_18 : decode cX4_letterAt 18 = .ok (.goto 4, 3) := by decide +kernel
theorem dX4_letterAt_21 : decode cX4_letterAt 21 = .ok (.iconst 0, 1) := by decide +kernel
theorem dX4_letterAt_22 : decode cX4_letterAt 22 = .ok (.ireturn, 1) := by decide +kernel
theorem dX4_digitAt_0 : decode cX4_digitAt 0 = .ok (.aload_n 0, 1) := by decide +kernel
theorem dX4_digitAt_1 : decode cX4_digitAt 1 = .ok (.iload_n 1, 1) := by decide +kernel
theorem dX4_digitAt_2 : decode cX4_digitAt 2 = .ok (.invokevirtual 19, 3) := by decide +kernel
theorem dX4_digitAt_5 : decode cX4_digitAt 5 = .ok (.bipush 48, 2) := by decide +kernel
theorem dX4_digitAt_7 : decode cX4_digitAt 7 = .ok (.isub, 1) := by decide +kernel
theorem dX4_digitAt_8 : decode cX4_digitAt 8 = .ok (.ireturn, 1) := by decide +kernel
theorem dX4_kindAt_0 : decode cX4_kindAt 0 = .ok (.ldc 23, 2) := by decide +kernel
theorem dX4_kindAt_2 : decode cX4_kindAt 2 = .ok (.aload_n 0, 1) := by decide +kernel
theorem dX4_kindAt_3 : decode cX4_kindAt 3 = .ok (.iload_n 1, 1) := by decide +kernel
theorem dX4_kindAt_4 : decode cX4_kindAt 4 = .ok (.invokevirtual 19, 3) := by decide +kernel
theorem dX4_kindAt_7 : decode cX4_kindAt 7 = .ok (.i2c, 1) := by decide +kernel
theorem dX4_kindAt_8 : decode cX4_kindAt 8 = .ok (.invokevirtual 25, 3) := by decide +kernel
theorem dX4_kindAt_11 : decode cX4_kindAt 11 = .ok (.ireturn, 1) := by decide +kernel
theorem dX4_lengthAt_0 : decode cX4_lengthAt 0 = .ok (.aload_n 0, 1) := by decide +kernel
theorem dX4_lengthAt_1 : decode cX4_lengthAt 1 = .ok (.iload_n 1, 1) := by decide +kernel
theorem dX4_lengthAt_2 : decode cX4_lengthAt 2 = .ok (.invokevirtual 19, 3) := by decide +kernel
theorem dX4_lengthAt_5 : decode cX4_lengthAt 5 = .ok (.tableswitch 102 102 121 #[100, 100, 102, 102, 97, 100, 100, 102, 102, 102, 95, 102, 102, 102, 102, 102, 102, 102, 102, 100], 95) := by decide +kernel
theorem dX4_lengthAt_100 : decode cX4_lengthAt 100 = .ok (.iconst 3, 1) := by decide +kernel
theorem dX4_lengthAt_101 : decode cX4_lengthAt 101 = .ok (.ireturn, 1) := by decide +kernel
theorem dX4_lengthAt_102 : decode cX4_lengthAt 102 = .ok (.bipush 8, 2) := by decide +kernel
theorem dX4_lengthAt_104 : decode cX4_lengthAt 104 = .ok (.ireturn, 1) := by decide +kernel
theorem dX4_lengthAt_105 : decode cX4_lengthAt 105 = .ok (.iconst 4, 1) := by decide +kernel
theorem dX4_lengthAt_106 : decode cX4_lengthAt 106 = .ok (.ireturn, 1) := by decide +kernel
theorem dX4_lengthAt_107 : decode cX4_lengthAt 107 = .ok (.iconst 0, 1) := by decide +kernel
theorem dX4_lengthAt_108 : decode cX4_lengthAt 108 = .ok (.ireturn, 1) := by decide +kernel
theorem dX4_wrongPlace_0 : decode cX4_wrongPlace 0 = .ok (.iconst 0, 1) := by decide +kernel
theorem dX4_wrongPlace_1 : decode cX4_wrongPlace 1 = .ok (.istore_n 1, 1) := by decide +kernel
theorem dX4_wrongPlace_2 : decode cX4_wrongPlace 2 = .ok (.aload_n 0, 1) := by decide +kernel
theorem dX4_wrongPlace_3 : decode cX4_wrongPlace 3 = .ok (.iload_n 1, 1) := by decide +kernel
theorem dX4_wrongPlace_4 : decode cX4_wrongPlace 4 = .ok (.invokevirtual 30, 3) := by decide +kernel
theorem dX4_wrongPlace_7 : decode cX4_wrongPlace 7 = .ok (.istore_n 2, 1) := by decide +kernel
theorem dX4_wrongPlace_8 : decode cX4_wrongPlace 8 = .ok (.iload_n 2, 1) := by decide +kernel
theorem dX4_wrongPlace_9 : decode cX4_wrongPlace 9 = .ok (.ifCond .ne 5, 3) := by decide +kernel
theorem dX4_wrongPlace_12 : decode cX4_wrongPlace 12 = .ok (.iload_n 1, 1) := by decide +kernel
theorem dX4_wrongPlace_13 : decode cX4_wrongPlace 13 = .ok (.ireturn, 1) := by decide +kernel
theorem dX4_wrongPlace_14 : decode cX4_wrongPlace 14 = .ok (.iconst 1, 1) := by decide +kernel
theorem dX4_wrongPlace_15 : decode cX4_wrongPlace 15 = .ok (.istore_n 3, 1) := by decide +kernel
theorem dX4_wrongPlace_16 : decode cX4_wrongPlace 16 = .ok (.iload_n 3, 1) := by decide +kernel
theorem dX4_wrongPlace_17 : decode cX4_wrongPlace 17 = .ok (.iload_n 2, 1) := by decide +kernel
theorem dX4_wrongPlace_18 : decode cX4_wrongPlace 18 = .ok (.if_icmp .ge 23, 3) := by decide +kernel
theorem dX4_wrongPlace_21 : decode cX4_wrongPlace 21 = .ok (.aload_n 0, 1) := by decide +kernel
theorem dX4_wrongPlace_22 : decode cX4_wrongPlace 22 = .ok (.iload_n 1, 1) := by decide +kernel
theorem dX4_wrongPlace_23 : decode cX4_wrongPlace 23 = .ok (.iload_n 3, 1) := by decide +kernel
theorem dX4_wrongPlace_24 : decode cX4_wrongPlace 24 = .ok (.iload_n 2, 1) := by decide +kernel
theorem dX4_wrongPlace_25 : decode cX4_wrongPlace 25 = .ok (.invokevirtual 33, 3) := by decide +kernel
theorem dX4_wrongPlace_28 : decode cX4_wrongPlace 28 = .ok (.ifCond .ne 7, 3) := by decide +kernel
theorem dX4_wrongPlace_31 : decode cX4_wrongPlace 31 = .ok (.iload_n 1, 1) := by decide +kernel
theorem dX4_wrongPlace_32 : decode cX4_wrongPlace 32 = .ok (.iload_n 3, 1) := by decide +kernel
theorem dX4_wrongPlace_33 : decode cX4_wrongPlace 33 = .ok (.iadd, 1) := by decide +kernel
theorem dX4_wrongPlace_34 : decode cX4_wrongPlace 34 = .ok (.ireturn, 1) := by decide +kernel
theorem dX4_wrongPlace_35 : decode cX4_wrongPlace 35 = .ok (.iinc 3 1, 3) := by decide +kernel
theorem dX4_wrongPlace_38 : decode cX4_wrongPlace 38 = .ok (.goto (-22), 3) := by decide +kernel
theorem dX4_wrongPlace_41 : decode cX4_wrongPlace 41 = .ok (.iload_n 1, 1) := by decide +kernel
theorem dX4_wrongPlace_42 : decode cX4_wrongPlace 42 = .ok (.iload_n 2, 1) := by decide +kernel
theorem dX4_wrongPlace_43 : decode cX4_wrongPlace 43 = .ok (.iadd, 1) := by decide +kernel
theorem dX4_wrongPlace_44 : decode cX4_wrongPlace 44 = .ok (.istore_n 1, 1) := by decide +kernel
theorem dX4_wrongPlace_45 : decode cX4_wrongPlace 45 = .ok (.iload_n 1, 1) := by decide +kernel
theorem dX4_wrongPlace_46 : decode cX4_wrongPlace 46 = .ok (.aload_n 0, 1) := by decide +kernel
theorem dX4_wrongPlace_47 : decode cX4_wrongPlace 47 = .ok (.getfield 15, 3) := by decide +kernel
theorem dX4_wrongPlace_50 : decode cX4_wrongPlace 50 = .ok (.if_icmp .lt (-48), 3) := by decide +kernel
theorem dX4_wrongPlace_53 : decode cX4_wrongPlace 53 = .ok (.iconst (-1), 1) := by decide +kernel
theorem dX4_wrongPlace_54 : decode cX4_wrongPlace 54 = .ok (.ireturn, 1) := by decide +kernel
theorem dX4_fits_0 : decode cX4_fits 0 = .ok (.iload_n 2, 1) := by decide +kernel
theorem dX4_fits_1 : decode cX4_fits 1 = .ok (.iload_n 3, 1) := by decide +kernel
theorem dX4_fits_2 : decode cX4_fits 2 = .ok (.iconst 1, 1) := by decide +kernel
theorem dX4_fits_3 : decode cX4_fits 3 = .ok (.isub, 1) := by decide +kernel
theorem dX4_fits_4 : decode cX4_fits 4 = .ok (.if_icmp .ne 21, 3) := by decide +kernel
theorem dX4_fits_7 : decode cX4_fits 7 = .ok (.aload_n 0, 1) := by decide +kernel
theorem dX4_fits_8 : decode cX4_fits 8 = .ok (.iload_n 1, 1) := by decide +kernel
theorem dX4_fits_9 : decode cX4_fits 9 = .ok (.iload_n 2, 1) := by decide +kernel
theorem dX4_fits_10 : decode cX4_fits 10 = .ok (.iadd, 1) := by decide +kernel
theorem dX4_fits_11 : decode cX4_fits 11 = .ok (.invokevirtual 19, 3) := by decide +kernel
theorem dX4_fits_14 : decode cX4_fits 14 = .ok (.bipush 59, 2) := by decide +kernel
theorem dX4_fits_16 : decode cX4_fits 16 = .ok (.if_icmp .ne 7, 3) := by decide +kernel
theorem dX4_fits_19 : decode cX4_fits 19 = .ok (.iconst 1, 1) := by decide +kernel
theorem dX4_fits_20 : decode cX4_fits 20 = .ok (.goto 4, 3) := by decide +kernel
theorem dX4_fits_23 : decode cX4_fits 23 = .ok (.iconst 0, 1) := by decide +kernel
theorem dX4_fits_24 : decode cX4_fits 24 = .ok (.ireturn, 1) := by decide +kernel
theorem dX4_fits_25 : decode cX4_fits 25 = .ok (.iload_n 2, 1) := by decide +kernel
theorem dX4_fits_26 : decode cX4_fits 26 = .ok (.iconst 1, 1) := by decide +kernel
theorem dX4_fits_27 : decode cX4_fits 27 = .ok (.if_icmp .ne 29, 3) := by decide +kernel
theorem dX4_fits_30 : decode cX4_fits 30 = .ok (.aload_n 0, 1) := by decide +kernel
theorem dX4_fits_31 : decode cX4_fits 31 = .ok (.iload_n 1, 1) := by decide +kernel
theorem dX4_fits_32 : decode cX4_fits 32 = .ok (.invokevirtual 19, 3) := by decide +kernel
theorem dX4_fits_35 : decode cX4_fits 35 = .ok (.bipush 106, 2) := by decide +kernel
theorem dX4_fits_37 : decode cX4_fits 37 = .ok (.if_icmp .ne 19, 3) := by decide +kernel
theorem dX4_fits_40 : decode cX4_fits 40 = .ok (.aload_n 0, 1) := by decide +kernel
theorem dX4_fits_41 : decode cX4_fits 41 = .ok (.iload_n 1, 1) := by decide +kernel
theorem dX4_fits_42 : decode cX4_fits 42 = .ok (.iload_n 2, 1) := by decide +kernel
theorem dX4_fits_43 : decode cX4_fits 43 = .ok (.iadd, 1) := by decide +kernel
theorem dX4_fits_44 : decode cX4_fits 44 = .ok (.invokevirtual 37, 3) := by decide +kernel
theorem dX4_fits_47 : decode cX4_fits 47 = .ok (.ifCond .lt 7, 3) := by decide +kernel
theorem dX4_fits_50 : decode cX4_fits 50 = .ok (.iconst 1, 1) := by decide +kernel
theorem dX4_fits_51 : decode cX4_fits 51 = .ok (.goto 4, 3) := by decide +kernel
theorem dX4_fits_54 : decode cX4_fits 54 = .ok (.iconst 0, 1) := by decide +kernel
theorem dX4_fits_55 : decode cX4_fits 55 = .ok (.ireturn, 1) := by decide +kernel
theorem dX4_fits_56 : decode cX4_fits 56 = .ok (.aload_n 0, 1) := by decide +kernel
theorem dX4_fits_57 : decode cX4_fits 57 = .ok (.iload_n 1, 1) := by decide +kernel
theorem dX4_fits_58 : decode cX4_fits 58 = .ok (.iload_n 2, 1) := by decide +kernel
theorem dX4_fits_59 : decode cX4_fits 59 = .ok (.iadd, 1) := by decide +kernel
theorem dX4_fits_60 : decode cX4_fits 60 = .ok (.invokevirtual 40, 3) := by decide +kernel
theorem dX4_fits_63 : decode cX4_fits 63 = .ok (.invokestatic 43, 3) := by decide +kernel
theorem dX4_fits_66 : decode cX4_fits 66 = .ok (.ireturn, 1) := by decide +kernel
theorem dX4_isObeyed_0 : decode cX4_isObeyed 0 = .ok (.aload_n 0, 1) := by decide +kernel
theorem dX4_isObeyed_1 : decode cX4_isObeyed 1 = .ok (.iload_n 1, 1) := by decide +kernel
theorem dX4_isObeyed_2 : decode cX4_isObeyed 2 = .ok (.iconst 1, 1) := by decide +kernel
theorem dX4_isObeyed_3 : decode cX4_isObeyed 3 = .ok (.iadd, 1) := by decide +kernel
theorem dX4_isObeyed_4 : decode cX4_isObeyed 4 = .ok (.invokevirtual 40, 3) := by decide +kernel
end
