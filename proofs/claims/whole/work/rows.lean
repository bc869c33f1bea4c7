section
-- ===== PART A: goes FIRST, ahead of the names: the tables' words, and 'selects' of the private methods out of them =====
/-- a private method of a class that the tables say can be made, by its rows of tables_1 -/
def lw_okq (q : MethodName × Nat) : Prop := (q.1.cls ≠ "java/lang/invoke/MethodHandle" ∧ q.1.cls ≠ "java/lang/invoke/VarHandle") ∧ Cond.instantiable q.1.cls q.2 ∈ tables_1 ∧ Cond.privateMethod q.1 ∈ tables_1 ∧ Cond.instanceMethod q.1 ∈ tables_1
theorem lw_p0 : lw_okq (⟨"SharedStates", "startTrial", "()LSharedStates$World;"⟩, 4) := ⟨⟨by decide +kernel, by decide +kernel⟩, List.mem_of_getElem? (i := 10) (by decide +kernel), List.mem_of_getElem? (i := 171) (by decide +kernel), List.mem_of_getElem? (i := 172) (by decide +kernel)⟩
theorem lw_p1 : lw_okq (⟨"SharedStates", "keepTrial", "(I)I"⟩, 4) := ⟨⟨by decide +kernel, by decide +kernel⟩, List.mem_of_getElem? (i := 10) (by decide +kernel), List.mem_of_getElem? (i := 263) (by decide +kernel), List.mem_of_getElem? (i := 264) (by decide +kernel)⟩
theorem lw_p2 : lw_okq (⟨"SharedStatesModel", "isBranch", "(I)Z"⟩, 16) := ⟨⟨by decide +kernel, by decide +kernel⟩, List.mem_of_getElem? (i := 596) (by decide +kernel), List.mem_of_getElem? (i := 659) (by decide +kernel), List.mem_of_getElem? (i := 660) (by decide +kernel)⟩
theorem lw_p3 : lw_okq (⟨"SharedStatesModel", "slot", "(I)I"⟩, 16) := ⟨⟨by decide +kernel, by decide +kernel⟩, List.mem_of_getElem? (i := 596) (by decide +kernel), List.mem_of_getElem? (i := 670) (by decide +kernel), List.mem_of_getElem? (i := 671) (by decide +kernel)⟩
theorem lw_p4 : lw_okq (⟨"SharedStatesModel", "of", "(II)I"⟩, 16) := ⟨⟨by decide +kernel, by decide +kernel⟩, List.mem_of_getElem? (i := 596) (by decide +kernel), List.mem_of_getElem? (i := 674) (by decide +kernel), List.mem_of_getElem? (i := 675) (by decide +kernel)⟩
theorem lw_p5 : lw_okq (⟨"SharedStatesModel", "loads", "(I)V"⟩, 16) := ⟨⟨by decide +kernel, by decide +kernel⟩, List.mem_of_getElem? (i := 596) (by decide +kernel), List.mem_of_getElem? (i := 679) (by decide +kernel), List.mem_of_getElem? (i := 680) (by decide +kernel)⟩
theorem lw_p6 : lw_okq (⟨"SharedStatesModel", "cellOf", "(II)I"⟩, 16) := ⟨⟨by decide +kernel, by decide +kernel⟩, List.mem_of_getElem? (i := 596) (by decide +kernel), List.mem_of_getElem? (i := 683) (by decide +kernel), List.mem_of_getElem? (i := 684) (by decide +kernel)⟩
theorem lw_p7 : lw_okq (⟨"SharedStatesModel", "inBlock", "(II)I"⟩, 16) := ⟨⟨by decide +kernel, by decide +kernel⟩, List.mem_of_getElem? (i := 596) (by decide +kernel), List.mem_of_getElem? (i := 687) (by decide +kernel), List.mem_of_getElem? (i := 688) (by decide +kernel)⟩
theorem lw_p8 : lw_okq (⟨"SharedStatesModel", "tries", "(I)I"⟩, 16) := ⟨⟨by decide +kernel, by decide +kernel⟩, List.mem_of_getElem? (i := 596) (by decide +kernel), List.mem_of_getElem? (i := 691) (by decide +kernel), List.mem_of_getElem? (i := 692) (by decide +kernel)⟩
theorem lw_p9 : lw_okq (⟨"SharedStatesModel", "fits", "(I)Z"⟩, 16) := ⟨⟨by decide +kernel, by decide +kernel⟩, List.mem_of_getElem? (i := 596) (by decide +kernel), List.mem_of_getElem? (i := 695) (by decide +kernel), List.mem_of_getElem? (i := 696) (by decide +kernel)⟩
theorem lw_p10 : lw_okq (⟨"SharedStatesModel", "blocks", "()I"⟩, 16) := ⟨⟨by decide +kernel, by decide +kernel⟩, List.mem_of_getElem? (i := 596) (by decide +kernel), List.mem_of_getElem? (i := 699) (by decide +kernel), List.mem_of_getElem? (i := 700) (by decide +kernel)⟩
theorem lw_p11 : lw_okq (⟨"SharedStatesModel", "needs", "(I)I"⟩, 16) := ⟨⟨by decide +kernel, by decide +kernel⟩, List.mem_of_getElem? (i := 596) (by decide +kernel), List.mem_of_getElem? (i := 703) (by decide +kernel), List.mem_of_getElem? (i := 704) (by decide +kernel)⟩
theorem lw_p12 : lw_okq (⟨"SharedStatesModel", "found", "(I)I"⟩, 16) := ⟨⟨by decide +kernel, by decide +kernel⟩, List.mem_of_getElem? (i := 596) (by decide +kernel), List.mem_of_getElem? (i := 707) (by decide +kernel), List.mem_of_getElem? (i := 708) (by decide +kernel)⟩
theorem lw_p13 : lw_okq (⟨"SharedStatesModel", "isBlock", "(I)Z"⟩, 16) := ⟨⟨by decide +kernel, by decide +kernel⟩, List.mem_of_getElem? (i := 596) (by decide +kernel), List.mem_of_getElem? (i := 711) (by decide +kernel), List.mem_of_getElem? (i := 712) (by decide +kernel)⟩
theorem lw_p14 : lw_okq (⟨"SharedStatesModel", "differs", "(II)Z"⟩, 16) := ⟨⟨by decide +kernel, by decide +kernel⟩, List.mem_of_getElem? (i := 596) (by decide +kernel), List.mem_of_getElem? (i := 715) (by decide +kernel), List.mem_of_getElem? (i := 716) (by decide +kernel)⟩
theorem lw_p15 : lw_okq (⟨"SharedStatesModel", "areSame", "(II)Z"⟩, 16) := ⟨⟨by decide +kernel, by decide +kernel⟩, List.mem_of_getElem? (i := 596) (by decide +kernel), List.mem_of_getElem? (i := 719) (by decide +kernel), List.mem_of_getElem? (i := 720) (by decide +kernel)⟩
def lw_privs_1 : List (MethodName × Nat) := [(⟨"SharedStates", "startTrial", "()LSharedStates$World;"⟩, 4), (⟨"SharedStates", "keepTrial", "(I)I"⟩, 4), (⟨"SharedStatesModel", "isBranch", "(I)Z"⟩, 16), (⟨"SharedStatesModel", "slot", "(I)I"⟩, 16), (⟨"SharedStatesModel", "of", "(II)I"⟩, 16), (⟨"SharedStatesModel", "loads", "(I)V"⟩, 16), (⟨"SharedStatesModel", "cellOf", "(II)I"⟩, 16), (⟨"SharedStatesModel", "inBlock", "(II)I"⟩, 16), (⟨"SharedStatesModel", "tries", "(I)I"⟩, 16), (⟨"SharedStatesModel", "fits", "(I)Z"⟩, 16), (⟨"SharedStatesModel", "blocks", "()I"⟩, 16), (⟨"SharedStatesModel", "needs", "(I)I"⟩, 16), (⟨"SharedStatesModel", "found", "(I)I"⟩, 16), (⟨"SharedStatesModel", "isBlock", "(I)Z"⟩, 16), (⟨"SharedStatesModel", "differs", "(II)Z"⟩, 16), (⟨"SharedStatesModel", "areSame", "(II)Z"⟩, 16)]
theorem lw_r1 : ∀ q ∈ lw_privs_1, lw_okq q := List.forall_mem_cons.mpr ⟨lw_p0, List.forall_mem_cons.mpr ⟨lw_p1, List.forall_mem_cons.mpr ⟨lw_p2, List.forall_mem_cons.mpr ⟨lw_p3, List.forall_mem_cons.mpr ⟨lw_p4, List.forall_mem_cons.mpr ⟨lw_p5, List.forall_mem_cons.mpr ⟨lw_p6, List.forall_mem_cons.mpr ⟨lw_p7, List.forall_mem_cons.mpr ⟨lw_p8, List.forall_mem_cons.mpr ⟨lw_p9, List.forall_mem_cons.mpr ⟨lw_p10, List.forall_mem_cons.mpr ⟨lw_p11, List.forall_mem_cons.mpr ⟨lw_p12, List.forall_mem_cons.mpr ⟨lw_p13, List.forall_mem_cons.mpr ⟨lw_p14, List.forall_mem_cons.mpr ⟨lw_p15, fun _ h => absurd h List.not_mem_nil⟩⟩⟩⟩⟩⟩⟩⟩⟩⟩⟩⟩⟩⟩⟩⟩
theorem lw_p16 : lw_okq (⟨"SharedStatesModel", "changes", "()V"⟩, 16) := ⟨⟨by decide +kernel, by decide +kernel⟩, List.mem_of_getElem? (i := 596) (by decide +kernel), List.mem_of_getElem? (i := 724) (by decide +kernel), List.mem_of_getElem? (i := 725) (by decide +kernel)⟩
theorem lw_p17 : lw_okq (⟨"SharedStatesModel", "writes", "(I)I"⟩, 16) := ⟨⟨by decide +kernel, by decide +kernel⟩, List.mem_of_getElem? (i := 596) (by decide +kernel), List.mem_of_getElem? (i := 728) (by decide +kernel), List.mem_of_getElem? (i := 729) (by decide +kernel)⟩
theorem lw_p18 : lw_okq (⟨"SharedStatesModel", "blockFor", "(I)I"⟩, 16) := ⟨⟨by decide +kernel, by decide +kernel⟩, List.mem_of_getElem? (i := 596) (by decide +kernel), List.mem_of_getElem? (i := 732) (by decide +kernel), List.mem_of_getElem? (i := 733) (by decide +kernel)⟩
theorem lw_p19 : lw_okq (⟨"SharedStatesModel", "makesBlock", "(I)I"⟩, 16) := ⟨⟨by decide +kernel, by decide +kernel⟩, List.mem_of_getElem? (i := 596) (by decide +kernel), List.mem_of_getElem? (i := 736) (by decide +kernel), List.mem_of_getElem? (i := 737) (by decide +kernel)⟩
theorem lw_p20 : lw_okq (⟨"SharedStatesModel", "isState", "(I)Z"⟩, 16) := ⟨⟨by decide +kernel, by decide +kernel⟩, List.mem_of_getElem? (i := 596) (by decide +kernel), List.mem_of_getElem? (i := 745) (by decide +kernel), List.mem_of_getElem? (i := 746) (by decide +kernel)⟩
theorem lw_p21 : lw_okq (⟨"SharedStatesModel", "merges", "(II)I"⟩, 16) := ⟨⟨by decide +kernel, by decide +kernel⟩, List.mem_of_getElem? (i := 596) (by decide +kernel), List.mem_of_getElem? (i := 753) (by decide +kernel), List.mem_of_getElem? (i := 754) (by decide +kernel)⟩
theorem lw_p22 : lw_okq (⟨"SharedStatesModel", "common", "(II)I"⟩, 16) := ⟨⟨by decide +kernel, by decide +kernel⟩, List.mem_of_getElem? (i := 596) (by decide +kernel), List.mem_of_getElem? (i := 757) (by decide +kernel), List.mem_of_getElem? (i := 758) (by decide +kernel)⟩
theorem lw_p23 : lw_okq (⟨"SharedStatesModel", "isFrom", "(II)Z"⟩, 16) := ⟨⟨by decide +kernel, by decide +kernel⟩, List.mem_of_getElem? (i := 596) (by decide +kernel), List.mem_of_getElem? (i := 761) (by decide +kernel), List.mem_of_getElem? (i := 762) (by decide +kernel)⟩
theorem lw_p24 : lw_okq (⟨"SharedStatesModel", "branches", "()I"⟩, 16) := ⟨⟨by decide +kernel, by decide +kernel⟩, List.mem_of_getElem? (i := 596) (by decide +kernel), List.mem_of_getElem? (i := 773) (by decide +kernel), List.mem_of_getElem? (i := 774) (by decide +kernel)⟩
theorem lw_p25 : lw_okq (⟨"SharedStatesModel", "canForget", "(I)Z"⟩, 16) := ⟨⟨by decide +kernel, by decide +kernel⟩, List.mem_of_getElem? (i := 596) (by decide +kernel), List.mem_of_getElem? (i := 786) (by decide +kernel), List.mem_of_getElem? (i := 787) (by decide +kernel)⟩
theorem lw_p26 : lw_okq (⟨"SharedStatesModel", "forgets", "(I)I"⟩, 16) := ⟨⟨by decide +kernel, by decide +kernel⟩, List.mem_of_getElem? (i := 596) (by decide +kernel), List.mem_of_getElem? (i := 790) (by decide +kernel), List.mem_of_getElem? (i := 791) (by decide +kernel)⟩
theorem lw_p27 : lw_okq (⟨"SharedStatesModel", "sweeps", "()I"⟩, 16) := ⟨⟨by decide +kernel, by decide +kernel⟩, List.mem_of_getElem? (i := 596) (by decide +kernel), List.mem_of_getElem? (i := 794) (by decide +kernel), List.mem_of_getElem? (i := 795) (by decide +kernel)⟩
theorem lw_p28 : lw_okq (⟨"SharedStatesModel", "placesWith", "(I)I"⟩, 16) := ⟨⟨by decide +kernel, by decide +kernel⟩, List.mem_of_getElem? (i := 596) (by decide +kernel), List.mem_of_getElem? (i := 798) (by decide +kernel), List.mem_of_getElem? (i := 799) (by decide +kernel)⟩
theorem lw_p29 : lw_okq (⟨"SharedStatesModel", "sharesAll", "()I"⟩, 16) := ⟨⟨by decide +kernel, by decide +kernel⟩, List.mem_of_getElem? (i := 596) (by decide +kernel), List.mem_of_getElem? (i := 806) (by decide +kernel), List.mem_of_getElem? (i := 807) (by decide +kernel)⟩
theorem lw_p30 : lw_okq (⟨"SharedStatesModel", "lowestLike", "(I)I"⟩, 16) := ⟨⟨by decide +kernel, by decide +kernel⟩, List.mem_of_getElem? (i := 596) (by decide +kernel), List.mem_of_getElem? (i := 810) (by decide +kernel), List.mem_of_getElem? (i := 811) (by decide +kernel)⟩
theorem lw_p31 : lw_okq (⟨"SharedStatesModel", "areLike", "(II)Z"⟩, 16) := ⟨⟨by decide +kernel, by decide +kernel⟩, List.mem_of_getElem? (i := 596) (by decide +kernel), List.mem_of_getElem? (i := 814) (by decide +kernel), List.mem_of_getElem? (i := 815) (by decide +kernel)⟩
def lw_privs_2 : List (MethodName × Nat) := [(⟨"SharedStatesModel", "changes", "()V"⟩, 16), (⟨"SharedStatesModel", "writes", "(I)I"⟩, 16), (⟨"SharedStatesModel", "blockFor", "(I)I"⟩, 16), (⟨"SharedStatesModel", "makesBlock", "(I)I"⟩, 16), (⟨"SharedStatesModel", "isState", "(I)Z"⟩, 16), (⟨"SharedStatesModel", "merges", "(II)I"⟩, 16), (⟨"SharedStatesModel", "common", "(II)I"⟩, 16), (⟨"SharedStatesModel", "isFrom", "(II)Z"⟩, 16), (⟨"SharedStatesModel", "branches", "()I"⟩, 16), (⟨"SharedStatesModel", "canForget", "(I)Z"⟩, 16), (⟨"SharedStatesModel", "forgets", "(I)I"⟩, 16), (⟨"SharedStatesModel", "sweeps", "()I"⟩, 16), (⟨"SharedStatesModel", "placesWith", "(I)I"⟩, 16), (⟨"SharedStatesModel", "sharesAll", "()I"⟩, 16), (⟨"SharedStatesModel", "lowestLike", "(I)I"⟩, 16), (⟨"SharedStatesModel", "areLike", "(II)Z"⟩, 16)]
theorem lw_r2 : ∀ q ∈ lw_privs_2, lw_okq q := List.forall_mem_cons.mpr ⟨lw_p16, List.forall_mem_cons.mpr ⟨lw_p17, List.forall_mem_cons.mpr ⟨lw_p18, List.forall_mem_cons.mpr ⟨lw_p19, List.forall_mem_cons.mpr ⟨lw_p20, List.forall_mem_cons.mpr ⟨lw_p21, List.forall_mem_cons.mpr ⟨lw_p22, List.forall_mem_cons.mpr ⟨lw_p23, List.forall_mem_cons.mpr ⟨lw_p24, List.forall_mem_cons.mpr ⟨lw_p25, List.forall_mem_cons.mpr ⟨lw_p26, List.forall_mem_cons.mpr ⟨lw_p27, List.forall_mem_cons.mpr ⟨lw_p28, List.forall_mem_cons.mpr ⟨lw_p29, List.forall_mem_cons.mpr ⟨lw_p30, List.forall_mem_cons.mpr ⟨lw_p31, fun _ h => absurd h List.not_mem_nil⟩⟩⟩⟩⟩⟩⟩⟩⟩⟩⟩⟩⟩⟩⟩⟩
theorem lw_p32 : lw_okq (⟨"SharedStatesModel", "children", "(I)I"⟩, 16) := ⟨⟨by decide +kernel, by decide +kernel⟩, List.mem_of_getElem? (i := 596) (by decide +kernel), List.mem_of_getElem? (i := 830) (by decide +kernel), List.mem_of_getElem? (i := 831) (by decide +kernel)⟩
theorem lw_p33 : lw_okq (⟨"SharedStatesModel", "steps", "(I)I"⟩, 16) := ⟨⟨by decide +kernel, by decide +kernel⟩, List.mem_of_getElem? (i := 596) (by decide +kernel), List.mem_of_getElem? (i := 834) (by decide +kernel), List.mem_of_getElem? (i := 835) (by decide +kernel)⟩
theorem lw_p34 : lw_okq (⟨"SharedStatesModel", "sum", "(I)I"⟩, 16) := ⟨⟨by decide +kernel, by decide +kernel⟩, List.mem_of_getElem? (i := 596) (by decide +kernel), List.mem_of_getElem? (i := 838) (by decide +kernel), List.mem_of_getElem? (i := 839) (by decide +kernel)⟩
theorem lw_p35 : lw_okq (⟨"SharedStatesModel", "otherPlaces", "(II)I"⟩, 16) := ⟨⟨by decide +kernel, by decide +kernel⟩, List.mem_of_getElem? (i := 596) (by decide +kernel), List.mem_of_getElem? (i := 842) (by decide +kernel), List.mem_of_getElem? (i := 843) (by decide +kernel)⟩
theorem lw_p36 : lw_okq (⟨"SharedStatesModel", "ownPlaces", "(I)I"⟩, 16) := ⟨⟨by decide +kernel, by decide +kernel⟩, List.mem_of_getElem? (i := 596) (by decide +kernel), List.mem_of_getElem? (i := 846) (by decide +kernel), List.mem_of_getElem? (i := 847) (by decide +kernel)⟩
theorem lw_p37 : lw_okq (⟨"SharedStatesModel", "statesWith", "(I)I"⟩, 16) := ⟨⟨by decide +kernel, by decide +kernel⟩, List.mem_of_getElem? (i := 596) (by decide +kernel), List.mem_of_getElem? (i := 850) (by decide +kernel), List.mem_of_getElem? (i := 851) (by decide +kernel)⟩
theorem lw_p38 : lw_okq (⟨"SharedStatesModel", "has", "(II)Z"⟩, 16) := ⟨⟨by decide +kernel, by decide +kernel⟩, List.mem_of_getElem? (i := 596) (by decide +kernel), List.mem_of_getElem? (i := 854) (by decide +kernel), List.mem_of_getElem? (i := 855) (by decide +kernel)⟩
theorem lw_p39 : lw_okq (⟨"SharedStatesModel", "unlikeBlocks", "(I)I"⟩, 16) := ⟨⟨by decide +kernel, by decide +kernel⟩, List.mem_of_getElem? (i := 596) (by decide +kernel), List.mem_of_getElem? (i := 858) (by decide +kernel), List.mem_of_getElem? (i := 859) (by decide +kernel)⟩
theorem lw_p40 : lw_okq (⟨"SharedStatesModel", "standing", "(I)I"⟩, 16) := ⟨⟨by decide +kernel, by decide +kernel⟩, List.mem_of_getElem? (i := 596) (by decide +kernel), List.mem_of_getElem? (i := 862) (by decide +kernel), List.mem_of_getElem? (i := 863) (by decide +kernel)⟩
theorem lw_p41 : lw_okq (⟨"SharedStatesModel", "inAll", "(IZ)I"⟩, 16) := ⟨⟨by decide +kernel, by decide +kernel⟩, List.mem_of_getElem? (i := 596) (by decide +kernel), List.mem_of_getElem? (i := 878) (by decide +kernel), List.mem_of_getElem? (i := 879) (by decide +kernel)⟩
theorem lw_p42 : lw_okq (⟨"SharedStatesModel", "otherLike", "(I)I"⟩, 16) := ⟨⟨by decide +kernel, by decide +kernel⟩, List.mem_of_getElem? (i := 596) (by decide +kernel), List.mem_of_getElem? (i := 882) (by decide +kernel), List.mem_of_getElem? (i := 883) (by decide +kernel)⟩
theorem lw_p43 : lw_okq (⟨"SharedStatesModel", "unlikeCells", "(IIZ)I"⟩, 16) := ⟨⟨by decide +kernel, by decide +kernel⟩, List.mem_of_getElem? (i := 596) (by decide +kernel), List.mem_of_getElem? (i := 894) (by decide +kernel), List.mem_of_getElem? (i := 895) (by decide +kernel)⟩
theorem lw_p44 : lw_okq (⟨"SharedStatesModel", "freed", "(I)I"⟩, 16) := ⟨⟨by decide +kernel, by decide +kernel⟩, List.mem_of_getElem? (i := 596) (by decide +kernel), List.mem_of_getElem? (i := 914) (by decide +kernel), List.mem_of_getElem? (i := 915) (by decide +kernel)⟩
theorem lw_p45 : lw_okq (⟨"SharedStatesModel", "shareable", "()I"⟩, 16) := ⟨⟨by decide +kernel, by decide +kernel⟩, List.mem_of_getElem? (i := 596) (by decide +kernel), List.mem_of_getElem? (i := 929) (by decide +kernel), List.mem_of_getElem? (i := 930) (by decide +kernel)⟩
theorem lw_p46 : lw_okq (⟨"SharedStatesModel", "plays", "()Z"⟩, 16) := ⟨⟨by decide +kernel, by decide +kernel⟩, List.mem_of_getElem? (i := 596) (by decide +kernel), List.mem_of_getElem? (i := 949) (by decide +kernel), List.mem_of_getElem? (i := 950) (by decide +kernel)⟩
theorem lw_p47 : lw_okq (⟨"SharedStatesModel", "reads", "()Z"⟩, 16) := ⟨⟨by decide +kernel, by decide +kernel⟩, List.mem_of_getElem? (i := 596) (by decide +kernel), List.mem_of_getElem? (i := 953) (by decide +kernel), List.mem_of_getElem? (i := 954) (by decide +kernel)⟩
def lw_privs_3 : List (MethodName × Nat) := [(⟨"SharedStatesModel", "children", "(I)I"⟩, 16), (⟨"SharedStatesModel", "steps", "(I)I"⟩, 16), (⟨"SharedStatesModel", "sum", "(I)I"⟩, 16), (⟨"SharedStatesModel", "otherPlaces", "(II)I"⟩, 16), (⟨"SharedStatesModel", "ownPlaces", "(I)I"⟩, 16), (⟨"SharedStatesModel", "statesWith", "(I)I"⟩, 16), (⟨"SharedStatesModel", "has", "(II)Z"⟩, 16), (⟨"SharedStatesModel", "unlikeBlocks", "(I)I"⟩, 16), (⟨"SharedStatesModel", "standing", "(I)I"⟩, 16), (⟨"SharedStatesModel", "inAll", "(IZ)I"⟩, 16), (⟨"SharedStatesModel", "otherLike", "(I)I"⟩, 16), (⟨"SharedStatesModel", "unlikeCells", "(IIZ)I"⟩, 16), (⟨"SharedStatesModel", "freed", "(I)I"⟩, 16), (⟨"SharedStatesModel", "shareable", "()I"⟩, 16), (⟨"SharedStatesModel", "plays", "()Z"⟩, 16), (⟨"SharedStatesModel", "reads", "()Z"⟩, 16)]
theorem lw_r3 : ∀ q ∈ lw_privs_3, lw_okq q := List.forall_mem_cons.mpr ⟨lw_p32, List.forall_mem_cons.mpr ⟨lw_p33, List.forall_mem_cons.mpr ⟨lw_p34, List.forall_mem_cons.mpr ⟨lw_p35, List.forall_mem_cons.mpr ⟨lw_p36, List.forall_mem_cons.mpr ⟨lw_p37, List.forall_mem_cons.mpr ⟨lw_p38, List.forall_mem_cons.mpr ⟨lw_p39, List.forall_mem_cons.mpr ⟨lw_p40, List.forall_mem_cons.mpr ⟨lw_p41, List.forall_mem_cons.mpr ⟨lw_p42, List.forall_mem_cons.mpr ⟨lw_p43, List.forall_mem_cons.mpr ⟨lw_p44, List.forall_mem_cons.mpr ⟨lw_p45, List.forall_mem_cons.mpr ⟨lw_p46, List.forall_mem_cons.mpr ⟨lw_p47, fun _ h => absurd h List.not_mem_nil⟩⟩⟩⟩⟩⟩⟩⟩⟩⟩⟩⟩⟩⟩⟩⟩
theorem lw_p48 : lw_okq (⟨"SharedStatesModel", "isAt", "(II)Z"⟩, 16) := ⟨⟨by decide +kernel, by decide +kernel⟩, List.mem_of_getElem? (i := 596) (by decide +kernel), List.mem_of_getElem? (i := 957) (by decide +kernel), List.mem_of_getElem? (i := 958) (by decide +kernel)⟩
theorem lw_p49 : lw_okq (⟨"SharedStatesModel", "numbered", "(I)Z"⟩, 16) := ⟨⟨by decide +kernel, by decide +kernel⟩, List.mem_of_getElem? (i := 596) (by decide +kernel), List.mem_of_getElem? (i := 964) (by decide +kernel), List.mem_of_getElem? (i := 965) (by decide +kernel)⟩
theorem lw_p50 : lw_okq (⟨"SharedStatesModel", "sign", "(I)Z"⟩, 16) := ⟨⟨by decide +kernel, by decide +kernel⟩, List.mem_of_getElem? (i := 596) (by decide +kernel), List.mem_of_getElem? (i := 968) (by decide +kernel), List.mem_of_getElem? (i := 969) (by decide +kernel)⟩
theorem lw_p51 : lw_okq (⟨"SharedStatesModel", "calls", "()I"⟩, 16) := ⟨⟨by decide +kernel, by decide +kernel⟩, List.mem_of_getElem? (i := 596) (by decide +kernel), List.mem_of_getElem? (i := 972) (by decide +kernel), List.mem_of_getElem? (i := 973) (by decide +kernel)⟩
def lw_privs_4 : List (MethodName × Nat) := [(⟨"SharedStatesModel", "isAt", "(II)Z"⟩, 16), (⟨"SharedStatesModel", "numbered", "(I)Z"⟩, 16), (⟨"SharedStatesModel", "sign", "(I)Z"⟩, 16), (⟨"SharedStatesModel", "calls", "()I"⟩, 16)]
theorem lw_r4 : ∀ q ∈ lw_privs_4, lw_okq q := List.forall_mem_cons.mpr ⟨lw_p48, List.forall_mem_cons.mpr ⟨lw_p49, List.forall_mem_cons.mpr ⟨lw_p50, List.forall_mem_cons.mpr ⟨lw_p51, fun _ h => absurd h List.not_mem_nil⟩⟩⟩⟩
def lw_privs : List (MethodName × Nat) := lw_privs_1 ++ (lw_privs_2 ++ (lw_privs_3 ++ (lw_privs_4)))
def lw_tbl : List Cond := k2_sels lw_privs ++ tables_1
theorem lw_privs_ok : ∀ q ∈ lw_privs, lw_okq q := by
  show ∀ q ∈ lw_privs_1 ++ (lw_privs_2 ++ (lw_privs_3 ++ (lw_privs_4))), lw_okq q
  exact List.forall_mem_append.mpr ⟨lw_r1, List.forall_mem_append.mpr ⟨lw_r2, List.forall_mem_append.mpr ⟨lw_r3, lw_r4⟩⟩⟩
-- ===== end of PART A; then your names; then what follows =====
end
section
/-! ===== BEGIN words of one list among another's, by their places ===== -/
theorem goodIn_r {big : List Cond} (ws : List Cond) (ps : List Nat) (hp : ws = ps.filterMap (fun i => big[i]?)) (h : ws.all goodWord = true) : GoodIn big ws := by
  intro w hw
  have h1 := List.all_eq_true.mp h w hw
  rw [hp] at hw
  obtain ⟨i, -, hi⟩ := List.mem_filterMap.mp hw
  have hm : w ∈ big := by first | exact List.mem_of_getElem? hi | exact List.getElem?_mem hi
  exact ⟨hm, good_of_word h1⟩
theorem goodIn_app {big a b : List Cond} (ha : GoodIn big a) (hb : GoodIn big b) : GoodIn big (a ++ b) := fun w h => (List.mem_append.mp h).elim (ha w) (hb w)
theorem goodIn_ca {big a b : List Cond} {c : Cond} (ha : GoodIn big (c :: a)) (hb : GoodIn big b) : GoodIn big (c :: (a ++ b)) := fun w h => (List.mem_cons.mp h).elim (fun e => ha w (List.mem_cons.mpr (Or.inl e))) (fun h => (List.mem_append.mp h).elim (fun h => ha w (List.mem_cons.mpr (Or.inr h))) (hb w))
theorem goodIn_sub {big ws : List Cond} (hm : ∀ w ∈ ws, w ∈ big) (h : ws.all goodWord = true) : GoodIn big ws := fun w hw => ⟨hm w hw, good_of_word (List.all_eq_true.mp h w hw)⟩
/-! ===== END ===== -/

/-! ===== BEGIN printed: names, fields, word lists, decode rows ===== -/
def RX0 : String := "SharedStates$Blocks"
def TX0 : u_T := fun k => match k with
  | 0 => ("SharedStates$Blocks", "cells", "[I", true)
  | 1 => ("SharedStates$Blocks", "uses", "[I", true)
  | 2 => ("SharedStates$Blocks", "made", "I", false)
  | _ => ("SharedStates$Blocks", "taken", "I", false)
def tyX0 : Nat → FieldType := fun k => match k with
  | 0 => .array .int
  | 1 => .array .int
  | 2 => .int
  | _ => .int
abbrev wsX00 : List Cond := u_ws RX0 TX0 4
theorem nmX0 : ∀ a, a < 4 → ∀ b, b < 4 → a ≠ b → (TX0 a).2.1 ≠ (TX0 b).2.1 := by decide +kernel
theorem tyX0_ok : ∀ k, k < 4 → parseFieldDescriptor (TX0 k).2.2.1 = some (tyX0 k) := by decide +kernel
abbrev cX0_init : ByteArray := prog_2_method_1_code
def yX0_init : MethodName := ⟨RX0, "<init>", "()V"⟩
abbrev cX0_becomeLike : ByteArray := prog_2_method_2_code
def yX0_becomeLike : MethodName := ⟨RX0, "becomeLike", "(LSharedStates$Blocks;)V"⟩
abbrev cX0_usesOf : ByteArray := prog_2_method_3_code
def yX0_usesOf : MethodName := ⟨RX0, "usesOf", "(I)I"⟩
abbrev cX0_addUses : ByteArray := prog_2_method_4_code
def yX0_addUses : MethodName := ⟨RX0, "addUses", "(II)V"⟩
abbrev cX0_isThere : ByteArray := prog_2_method_5_code
def yX0_isThere : MethodName := ⟨RX0, "isThere", "(I)Z"⟩
abbrev cX0_cellOf : ByteArray := prog_2_method_6_code
def yX0_cellOf : MethodName := ⟨RX0, "cellOf", "(II)I"⟩
abbrev cX0_there : ByteArray := prog_2_method_7_code
def yX0_there : MethodName := ⟨RX0, "there", "()I"⟩
abbrev cX0_holds : ByteArray := prog_2_method_8_code
def yX0_holds : MethodName := ⟨RX0, "holds", "(I[II)Z"⟩
abbrev cX0_lowestHolding : ByteArray := prog_2_method_9_code
def yX0_lowestHolding : MethodName := ⟨RX0, "lowestHolding", "([II)I"⟩
abbrev cX0_lowestOtherLike : ByteArray := prog_2_method_10_code
def yX0_lowestOtherLike : MethodName := ⟨RX0, "lowestOtherLike", "(I)I"⟩
abbrev cX0_make : ByteArray := prog_2_method_11_code
def yX0_make : MethodName := ⟨RX0, "make", "([II)I"⟩
abbrev cX0_sumOf : ByteArray := prog_2_method_12_code
def yX0_sumOf : MethodName := ⟨RX0, "sumOf", "(I)I"⟩
abbrev cX0_nonZeroCells : ByteArray := prog_2_method_13_code
def yX0_nonZeroCells : MethodName := ⟨RX0, "nonZeroCells", "(I)I"⟩
abbrev cX0_doubles : ByteArray := prog_2_method_14_code
def yX0_doubles : MethodName := ⟨RX0, "doubles", "()I"⟩
def RX1 : String := "SharedStates$History"
def TX1 : u_T := fun k => match k with
  | 0 => ("SharedStates$History", "records", "[LSharedStates$World;", true)
  | 1 => ("SharedStates$History", "oldest", "I", false)
  | _ => ("SharedStates$History", "size", "I", false)
def tyX1 : Nat → FieldType := fun k => match k with
  | 0 => .array (.object "SharedStates$World")
  | 1 => .int
  | _ => .int
abbrev wsX10 : List Cond := u_ws RX1 TX1 3
theorem nmX1 : ∀ a, a < 3 → ∀ b, b < 3 → a ≠ b → (TX1 a).2.1 ≠ (TX1 b).2.1 := by decide +kernel
theorem tyX1_ok : ∀ k, k < 3 → parseFieldDescriptor (TX1 k).2.2.1 = some (tyX1 k) := by decide +kernel
abbrev cX1_init : ByteArray := prog_3_method_1_code
def yX1_init : MethodName := ⟨RX1, "<init>", "()V"⟩
abbrev cX1_add : ByteArray := prog_3_method_2_code
def yX1_add : MethodName := ⟨RX1, "add", "(LSharedStates$World;)LSharedStates$World;"⟩
abbrev cX1_exchangeLatest : ByteArray := prog_3_method_3_code
def yX1_exchangeLatest : MethodName := ⟨RX1, "exchangeLatest", "(LSharedStates$World;)LSharedStates$World;"⟩
def RX2 : String := "SharedStates$Orders"
def TX2 : u_T := fun k => match k with
  | 0 => ("SharedStates$Orders", "signs", "[I", true)
  | 1 => ("SharedStates$Orders", "numbers", "[I", true)
  | 2 => ("SharedStates$Orders", "length", "I", false)
  | 3 => ("SharedStates$Orders", "position", "I", false)
  | 4 => ("SharedStates$Orders", "done", "I", false)
  | 5 => ("SharedStates$Orders", "faultPosition", "I", false)
  | 6 => ("SharedStates$Orders", "faultReason", "I", false)
  | _ => ("SharedStates$Orders", "faultCause", "I", false)
def tyX2 : Nat → FieldType := fun k => match k with
  | 0 => .array .int
  | 1 => .array .int
  | 2 => .int
  | 3 => .int
  | 4 => .int
  | 5 => .int
  | 6 => .int
  | _ => .int
abbrev wsX20 : List Cond := u_ws RX2 TX2 8
theorem nmX2 : ∀ a, a < 8 → ∀ b, b < 8 → a ≠ b → (TX2 a).2.1 ≠ (TX2 b).2.1 := by decide +kernel
theorem tyX2_ok : ∀ k, k < 8 → parseFieldDescriptor (TX2 k).2.2.1 = some (tyX2 k) := by decide +kernel
abbrev cX2_init : ByteArray := prog_4_method_1_code
def yX2_init : MethodName := ⟨RX2, "<init>", "()V"⟩
abbrev cX2_append : ByteArray := prog_4_method_2_code
def yX2_append : MethodName := ⟨RX2, "append", "(I)Z"⟩
abbrev cX2_doAll : ByteArray := prog_4_method_3_code
def yX2_doAll : MethodName := ⟨RX2, "doAll", "(LSharedStates$World;)Z"⟩
abbrev cX2_keepFault : ByteArray := prog_4_method_4_code
def yX2_keepFault : MethodName := ⟨RX2, "keepFault", "(III)Z"⟩
abbrev cX2_readOrder : ByteArray := prog_4_method_5_code
def yX2_readOrder : MethodName := ⟨RX2, "readOrder", "()Z"⟩
abbrev cX2_signHere : ByteArray := prog_4_method_6_code
def yX2_signHere : MethodName := ⟨RX2, "signHere", "()I"⟩
abbrev cX2_readNumber : ByteArray := prog_4_method_7_code
def yX2_readNumber : MethodName := ⟨RX2, "readNumber", "(I)Z"⟩
abbrev cX2_numbersOf : ByteArray := prog_4_method_8_code
def yX2_numbersOf : MethodName := ⟨RX2, "numbersOf", "(I)I"⟩
abbrev cX2_doOrder : ByteArray := prog_4_method_9_code
def yX2_doOrder : MethodName := ⟨RX2, "doOrder", "(LSharedStates$World;I)I"⟩
def RX3 : String := "SharedStates$States"
def TX3 : u_T := fun k => match k with
  | 0 => ("SharedStates$States", "numbers", "[I", true)
  | 1 => ("SharedStates$States", "parents", "[I", true)
  | 2 => ("SharedStates$States", "places", "[I", true)
  | 3 => ("SharedStates$States", "size", "I", false)
  | _ => ("SharedStates$States", "made", "I", false)
def tyX3 : Nat → FieldType := fun k => match k with
  | 0 => .array .int
  | 1 => .array .int
  | 2 => .array .int
  | 3 => .int
  | _ => .int
abbrev wsX30 : List Cond := u_ws RX3 TX3 5
theorem nmX3 : ∀ a, a < 5 → ∀ b, b < 5 → a ≠ b → (TX3 a).2.1 ≠ (TX3 b).2.1 := by decide +kernel
theorem tyX3_ok : ∀ k, k < 5 → parseFieldDescriptor (TX3 k).2.2.1 = some (tyX3 k) := by decide +kernel
abbrev cX3_init : ByteArray := prog_5_method_1_code
def yX3_init : MethodName := ⟨RX3, "<init>", "()V"⟩
abbrev cX3_becomeLike : ByteArray := prog_5_method_2_code
def yX3_becomeLike : MethodName := ⟨RX3, "becomeLike", "(LSharedStates$States;)V"⟩
abbrev cX3_slotOf : ByteArray := prog_5_method_3_code
def yX3_slotOf : MethodName := ⟨RX3, "slotOf", "(I)I"⟩
abbrev cX3_numberOf : ByteArray := prog_5_method_4_code
def yX3_numberOf : MethodName := ⟨RX3, "numberOf", "(I)I"⟩
abbrev cX3_parentOf : ByteArray := prog_5_method_5_code
def yX3_parentOf : MethodName := ⟨RX3, "parentOf", "(I)I"⟩
abbrev cX3_parentSlot : ByteArray := prog_5_method_6_code
def yX3_parentSlot : MethodName := ⟨RX3, "parentSlot", "(I)I"⟩
abbrev cX3_block : ByteArray := prog_5_method_7_code
def yX3_block : MethodName := ⟨RX3, "block", "(II)I"⟩
abbrev cX3_add : ByteArray := prog_5_method_8_code
def yX3_add : MethodName := ⟨RX3, "add", "(I)I"⟩
abbrev cX3_remove : ByteArray := prog_5_method_9_code
def yX3_remove : MethodName := ⟨RX3, "remove", "(I)V"⟩
abbrev cX3_childrenOf : ByteArray := prog_5_method_10_code
def yX3_childrenOf : MethodName := ⟨RX3, "childrenOf", "(I)I"⟩
abbrev cX3_stepsFrom : ByteArray := prog_5_method_11_code
def yX3_stepsFrom : MethodName := ⟨RX3, "stepsFrom", "(I)I"⟩
abbrev cX3_commonSlot : ByteArray := prog_5_method_12_code
def yX3_commonSlot : MethodName := ⟨RX3, "commonSlot", "(II)I"⟩
abbrev cX3_unlikePlaces : ByteArray := prog_5_method_13_code
def yX3_unlikePlaces : MethodName := ⟨RX3, "unlikePlaces", "(II)I"⟩
abbrev cX3_placesWith : ByteArray := prog_5_method_14_code
def yX3_placesWith : MethodName := ⟨RX3, "placesWith", "(II)I"⟩
abbrev cX3_statesWith : ByteArray := prog_5_method_15_code
def yX3_statesWith : MethodName := ⟨RX3, "statesWith", "(I)I"⟩
abbrev cX3_isFirstPlace : ByteArray := prog_5_method_16_code
def yX3_isFirstPlace : MethodName := ⟨RX3, "isFirstPlace", "(II)Z"⟩
abbrev cX3_blocksIn : ByteArray := prog_5_method_17_code
def yX3_blocksIn : MethodName := ⟨RX3, "blocksIn", "(I)I"⟩
def RX4 : String := "SharedStates$World"
def TX4 : u_T := fun k => match k with
  | 0 => ("SharedStates$World", "blocks", "LSharedStates$Blocks;", true)
  | 1 => ("SharedStates$World", "states", "LSharedStates$States;", true)
  | 2 => ("SharedStates$World", "heads", "[I", true)
  | 3 => ("SharedStates$World", "draft", "[I", true)
  | 4 => ("SharedStates$World", "sharing", "I", false)
  | _ => ("SharedStates$World", "conflictsSoFar", "I", false)
def tyX4 : Nat → FieldType := fun k => match k with
  | 0 => .object "SharedStates$Blocks"
  | 1 => .object "SharedStates$States"
  | 2 => .array .int
  | 3 => .array .int
  | 4 => .int
  | _ => .int
abbrev wsX40 : List Cond := u_ws RX4 TX4 6
theorem nmX4 : ∀ a, a < 6 → ∀ b, b < 6 → a ≠ b → (TX4 a).2.1 ≠ (TX4 b).2.1 := by decide +kernel
theorem tyX4_ok : ∀ k, k < 6 → parseFieldDescriptor (TX4 k).2.2.1 = some (tyX4 k) := by decide +kernel
abbrev cX4_init : ByteArray := prog_6_method_1_code
def yX4_init : MethodName := ⟨RX4, "<init>", "()V"⟩
abbrev cX4_becomeLike : ByteArray := prog_6_method_2_code
def yX4_becomeLike : MethodName := ⟨RX4, "becomeLike", "(LSharedStates$World;)V"⟩
abbrev cX4_isBranch : ByteArray := prog_6_method_3_code
def yX4_isBranch : MethodName := ⟨RX4, "isBranch", "(I)Z"⟩
abbrev cX4_headSlot : ByteArray := prog_6_method_4_code
def yX4_headSlot : MethodName := ⟨RX4, "headSlot", "(I)I"⟩
abbrev cX4_branchesThere : ByteArray := prog_6_method_5_code
def yX4_branchesThere : MethodName := ⟨RX4, "branchesThere", "()I"⟩
abbrev cX4_branchesAt : ByteArray := prog_6_method_6_code
def yX4_branchesAt : MethodName := ⟨RX4, "branchesAt", "(I)I"⟩
abbrev cX4_cellAt : ByteArray := prog_6_method_7_code
def yX4_cellAt : MethodName := ⟨RX4, "cellAt", "(II)I"⟩
abbrev cX4_sumOfState : ByteArray := prog_6_method_8_code
def yX4_sumOfState : MethodName := ⟨RX4, "sumOfState", "(I)I"⟩
abbrev cX4_unlikeCells : ByteArray := prog_6_method_9_code
def yX4_unlikeCells : MethodName := ⟨RX4, "unlikeCells", "(II)I"⟩
abbrev cX4_firstUnlikeCell : ByteArray := prog_6_method_10_code
def yX4_firstUnlikeCell : MethodName := ⟨RX4, "firstUnlikeCell", "(II)I"⟩
abbrev cX4_isItsOwn : ByteArray := prog_6_method_11_code
def yX4_isItsOwn : MethodName := ⟨RX4, "isItsOwn", "(II)Z"⟩
abbrev cX4_placesOfItsOwn : ByteArray := prog_6_method_12_code
def yX4_placesOfItsOwn : MethodName := ⟨RX4, "placesOfItsOwn", "(I)I"⟩
abbrev cX4_blocksOfItsOwn : ByteArray := prog_6_method_13_code
def yX4_blocksOfItsOwn : MethodName := ⟨RX4, "blocksOfItsOwn", "(I)I"⟩
abbrev cX4_canForget : ByteArray := prog_6_method_14_code
def yX4_canForget : MethodName := ⟨RX4, "canForget", "(I)Z"⟩
abbrev cX4_draftState : ByteArray := prog_6_method_15_code
def yX4_draftState : MethodName := ⟨RX4, "draftState", "(I)V"⟩
abbrev cX4_fillCells : ByteArray := prog_6_method_16_code
def yX4_fillCells : MethodName := ⟨RX4, "fillCells", "(IIII)I"⟩
abbrev cX4_copyCells : ByteArray := prog_6_method_17_code
def yX4_copyCells : MethodName := ⟨RX4, "copyCells", "(IIIII)I"⟩
abbrev cX4_mergeState : ByteArray := prog_6_method_18_code
def yX4_mergeState : MethodName := ⟨RX4, "mergeState", "(II)I"⟩
abbrev cX4_draftMerge : ByteArray := prog_6_method_19_code
def yX4_draftMerge : MethodName := ⟨RX4, "draftMerge", "(III)I"⟩
abbrev cX4_addDraft : ByteArray := prog_6_method_20_code
def yX4_addDraft : MethodName := ⟨RX4, "addDraft", "(II)I"⟩
abbrev cX4_addBranch : ByteArray := prog_6_method_21_code
def yX4_addBranch : MethodName := ⟨RX4, "addBranch", "(I)I"⟩
abbrev cX4_dropBranch : ByteArray := prog_6_method_22_code
def yX4_dropBranch : MethodName := ⟨RX4, "dropBranch", "(I)I"⟩
abbrev cX4_stepBack : ByteArray := prog_6_method_23_code
def yX4_stepBack : MethodName := ⟨RX4, "stepBack", "(I)I"⟩
abbrev cX4_forgetState : ByteArray := prog_6_method_24_code
def yX4_forgetState : MethodName := ⟨RX4, "forgetState", "(I)I"⟩
abbrev cX4_shareBlocks : ByteArray := prog_6_method_25_code
def yX4_shareBlocks : MethodName := ⟨RX4, "shareBlocks", "()I"⟩
abbrev cX4_changeSetting : ByteArray := prog_6_method_26_code
def yX4_changeSetting : MethodName := ⟨RX4, "changeSetting", "(II)I"⟩
def RX5 : String := "SharedStates"
def TX5 : u_T := fun k => match k with
  | 0 => ("SharedStates", "world", "LSharedStates$World;", false)
  | 1 => ("SharedStates", "trial", "LSharedStates$World;", false)
  | 2 => ("SharedStates", "history", "LSharedStates$History;", true)
  | _ => ("SharedStates", "orders", "LSharedStates$Orders;", true)
def tyX5 : Nat → FieldType := fun k => match k with
  | 0 => .object "SharedStates$World"
  | 1 => .object "SharedStates$World"
  | 2 => .object "SharedStates$History"
  | _ => .object "SharedStates$Orders"
abbrev wsX50 : List Cond := u_ws RX5 TX5 4
theorem nmX5 : ∀ a, a < 4 → ∀ b, b < 4 → a ≠ b → (TX5 a).2.1 ≠ (TX5 b).2.1 := by decide +kernel
theorem tyX5_ok : ∀ k, k < 4 → parseFieldDescriptor (TX5 k).2.2.1 = some (tyX5 k) := by decide +kernel
abbrev cX5_init : ByteArray := prog_1_method_1_code
def yX5_init : MethodName := ⟨RX5, "<init>", "()V"⟩
abbrev cX5_write : ByteArray := prog_1_method_2_code
def yX5_write : MethodName := ⟨RX5, "write", "(III)I"⟩
abbrev cX5_fill : ByteArray := prog_1_method_3_code
def yX5_fill : MethodName := ⟨RX5, "fill", "(IIII)I"⟩
abbrev cX5_copy : ByteArray := prog_1_method_4_code
def yX5_copy : MethodName := ⟨RX5, "copy", "(IIIII)I"⟩
abbrev cX5_merge : ByteArray := prog_1_method_5_code
def yX5_merge : MethodName := ⟨RX5, "merge", "(II)I"⟩
abbrev cX5_branch : ByteArray := prog_1_method_6_code
def yX5_branch : MethodName := ⟨RX5, "branch", "(I)I"⟩
abbrev cX5_leave : ByteArray := prog_1_method_7_code
def yX5_leave : MethodName := ⟨RX5, "leave", "(I)I"⟩
abbrev cX5_back : ByteArray := prog_1_method_8_code
def yX5_back : MethodName := ⟨RX5, "back", "(I)I"⟩
abbrev cX5_forget : ByteArray := prog_1_method_9_code
def yX5_forget : MethodName := ⟨RX5, "forget", "(I)I"⟩
abbrev cX5_share : ByteArray := prog_1_method_10_code
def yX5_share : MethodName := ⟨RX5, "share", "()I"⟩
abbrev cX5_set : ByteArray := prog_1_method_11_code
def yX5_set : MethodName := ⟨RX5, "set", "(II)I"⟩
abbrev cX5_read : ByteArray := prog_1_method_12_code
def yX5_read : MethodName := ⟨RX5, "read", "(II)I"⟩
abbrev cX5_stateOf : ByteArray := prog_1_method_13_code
def yX5_stateOf : MethodName := ⟨RX5, "stateOf", "(II)I"⟩
abbrev cX5_number : ByteArray := prog_1_method_14_code
def yX5_number : MethodName := ⟨RX5, "number", "(I)I"⟩
abbrev cX5_blockAt : ByteArray := prog_1_method_15_code
def yX5_blockAt : MethodName := ⟨RX5, "blockAt", "(II)I"⟩
abbrev cX5_blockOf : ByteArray := prog_1_method_16_code
def yX5_blockOf : MethodName := ⟨RX5, "blockOf", "(II)I"⟩
abbrev cX5_head : ByteArray := prog_1_method_17_code
def yX5_head : MethodName := ⟨RX5, "head", "(I)I"⟩
abbrev cX5_unlike : ByteArray := prog_1_method_18_code
def yX5_unlike : MethodName := ⟨RX5, "unlike", "(III)I"⟩
abbrev cX5_like : ByteArray := prog_1_method_19_code
def yX5_like : MethodName := ⟨RX5, "like", "(I)I"⟩
abbrev cX5_before : ByteArray := prog_1_method_20_code
def yX5_before : MethodName := ⟨RX5, "before", "(II)I"⟩
abbrev cX5_conflicts : ByteArray := prog_1_method_21_code
def yX5_conflicts : MethodName := ⟨RX5, "conflicts", "(II)I"⟩
abbrev cX5_frees : ByteArray := prog_1_method_22_code
def yX5_frees : MethodName := ⟨RX5, "frees", "(I)I"⟩
abbrev cX5_heaviest : ByteArray := prog_1_method_23_code
def yX5_heaviest : MethodName := ⟨RX5, "heaviest", "(I)I"⟩
abbrev cX5_count : ByteArray := prog_1_method_24_code
def yX5_count : MethodName := ⟨RX5, "count", "(I)I"⟩
abbrev cX5_undo : ByteArray := prog_1_method_25_code
def yX5_undo : MethodName := ⟨RX5, "undo", "()I"⟩
abbrev cX5_type : ByteArray := prog_1_method_26_code
def yX5_type : MethodName := ⟨RX5, "type", "(I)I"⟩
abbrev cX5_clearText : ByteArray := prog_1_method_27_code
def yX5_clearText : MethodName := ⟨RX5, "clearText", "()I"⟩
abbrev cX5_fault : ByteArray := prog_1_method_28_code
def yX5_fault : MethodName := ⟨RX5, "fault", "(I)I"⟩
abbrev cX5_play : ByteArray := prog_1_method_29_code
def yX5_play : MethodName := ⟨RX5, "play", "()I"⟩
abbrev cX5_startTrial : ByteArray := prog_1_method_30_code
def yX5_startTrial : MethodName := ⟨RX5, "startTrial", "()LSharedStates$World;"⟩
abbrev cX5_keepTrial : ByteArray := prog_1_method_31_code
def yX5_keepTrial : MethodName := ⟨RX5, "keepTrial", "(I)I"⟩
abbrev cX5_isIndex : ByteArray := prog_1_method_32_code
def yX5_isIndex : MethodName := ⟨RX5, "isIndex", "(II)Z"⟩
abbrev cX5_isRange : ByteArray := prog_1_method_33_code
def yX5_isRange : MethodName := ⟨RX5, "isRange", "(II)Z"⟩
abbrev cX5_foundOr : ByteArray := prog_1_method_34_code
def yX5_foundOr : MethodName := ⟨RX5, "foundOr", "(I)I"⟩
def RX6 : String := "SharedStatesModel"
def TX6 : u_T := fun k => match k with
  | 0 => ("SharedStatesModel", "s", "[I", true)
  | 1 => ("SharedStatesModel", "past", "[I", true)
  | 2 => ("SharedStatesModel", "held", "[I", true)
  | 3 => ("SharedStatesModel", "pasts", "I", false)
  | 4 => ("SharedStatesModel", "runs", "Z", false)
  | 5 => ("SharedStatesModel", "text", "[I", true)
  | 6 => ("SharedStatesModel", "typed", "I", false)
  | 7 => ("SharedStatesModel", "cells", "[I", true)
  | 8 => ("SharedStatesModel", "spot", "I", false)
  | 9 => ("SharedStatesModel", "from", "I", false)
  | 10 => ("SharedStatesModel", "reason", "I", false)
  | 11 => ("SharedStatesModel", "cause", "I", false)
  | 12 => ("SharedStatesModel", "orders", "I", false)
  | 13 => ("SharedStatesModel", "order", "I", false)
  | 14 => ("SharedStatesModel", "told", "[I", true)
  | _ => ("SharedStatesModel", "ahead", "[I", true)
def tyX6 : Nat → FieldType := fun k => match k with
  | 0 => .array .int
  | 1 => .array .int
  | 2 => .array .int
  | 3 => .int
  | 4 => .boolean
  | 5 => .array .int
  | 6 => .int
  | 7 => .array .int
  | 8 => .int
  | 9 => .int
  | 10 => .int
  | 11 => .int
  | 12 => .int
  | 13 => .int
  | 14 => .array .int
  | _ => .array .int
abbrev wsX60 : List Cond := u_ws RX6 TX6 16
theorem nmX6 : ∀ a, a < 16 → ∀ b, b < 16 → a ≠ b → (TX6 a).2.1 ≠ (TX6 b).2.1 := by decide +kernel
theorem tyX6_ok : ∀ k, k < 16 → parseFieldDescriptor (TX6 k).2.2.1 = some (tyX6 k) := by decide +kernel
abbrev cX6_init : ByteArray := prog_8_method_1_code
def yX6_init : MethodName := ⟨RX6, "<init>", "()V"⟩
abbrev cX6_in : ByteArray := prog_8_method_3_code
def yX6_in : MethodName := ⟨RX6, "in", "(III)Z"⟩
abbrev cX6_copies : ByteArray := prog_8_method_4_code
def yX6_copies : MethodName := ⟨RX6, "copies", "([I[I)V"⟩
abbrev cX6_changes : ByteArray := prog_8_method_5_code
def yX6_changes : MethodName := ⟨RX6, "changes", "()V"⟩
abbrev cX6_of : ByteArray := prog_8_method_6_code
def yX6_of : MethodName := ⟨RX6, "of", "(II)I"⟩
abbrev cX6_slot : ByteArray := prog_8_method_7_code
def yX6_slot : MethodName := ⟨RX6, "slot", "(I)I"⟩
abbrev cX6_isState : ByteArray := prog_8_method_8_code
def yX6_isState : MethodName := ⟨RX6, "isState", "(I)Z"⟩
abbrev cX6_isBranch : ByteArray := prog_8_method_9_code
def yX6_isBranch : MethodName := ⟨RX6, "isBranch", "(I)Z"⟩
abbrev cX6_isBlock : ByteArray := prog_8_method_10_code
def yX6_isBlock : MethodName := ⟨RX6, "isBlock", "(I)Z"⟩
abbrev cX6_inBlock : ByteArray := prog_8_method_11_code
def yX6_inBlock : MethodName := ⟨RX6, "inBlock", "(II)I"⟩
abbrev cX6_cellOf : ByteArray := prog_8_method_12_code
def yX6_cellOf : MethodName := ⟨RX6, "cellOf", "(II)I"⟩
abbrev cX6_blocks : ByteArray := prog_8_method_13_code
def yX6_blocks : MethodName := ⟨RX6, "blocks", "()I"⟩
abbrev cX6_branches : ByteArray := prog_8_method_14_code
def yX6_branches : MethodName := ⟨RX6, "branches", "()I"⟩
abbrev cX6_areLike : ByteArray := prog_8_method_15_code
def yX6_areLike : MethodName := ⟨RX6, "areLike", "(II)Z"⟩
abbrev cX6_sweeps : ByteArray := prog_8_method_16_code
def yX6_sweeps : MethodName := ⟨RX6, "sweeps", "()I"⟩
abbrev cX6_placesWith : ByteArray := prog_8_method_17_code
def yX6_placesWith : MethodName := ⟨RX6, "placesWith", "(I)I"⟩
abbrev cX6_has : ByteArray := prog_8_method_18_code
def yX6_has : MethodName := ⟨RX6, "has", "(II)Z"⟩
abbrev cX6_statesWith : ByteArray := prog_8_method_19_code
def yX6_statesWith : MethodName := ⟨RX6, "statesWith", "(I)I"⟩
abbrev cX6_loads : ByteArray := prog_8_method_20_code
def yX6_loads : MethodName := ⟨RX6, "loads", "(I)V"⟩
abbrev cX6_differs : ByteArray := prog_8_method_21_code
def yX6_differs : MethodName := ⟨RX6, "differs", "(II)Z"⟩
abbrev cX6_found : ByteArray := prog_8_method_22_code
def yX6_found : MethodName := ⟨RX6, "found", "(I)I"⟩
abbrev cX6_areSame : ByteArray := prog_8_method_23_code
def yX6_areSame : MethodName := ⟨RX6, "areSame", "(II)Z"⟩
abbrev cX6_needs : ByteArray := prog_8_method_24_code
def yX6_needs : MethodName := ⟨RX6, "needs", "(I)I"⟩
abbrev cX6_fits : ByteArray := prog_8_method_25_code
def yX6_fits : MethodName := ⟨RX6, "fits", "(I)Z"⟩
abbrev cX6_makesBlock : ByteArray := prog_8_method_26_code
def yX6_makesBlock : MethodName := ⟨RX6, "makesBlock", "(I)I"⟩
abbrev cX6_blockFor : ByteArray := prog_8_method_27_code
def yX6_blockFor : MethodName := ⟨RX6, "blockFor", "(I)I"⟩
abbrev cX6_writes : ByteArray := prog_8_method_28_code
def yX6_writes : MethodName := ⟨RX6, "writes", "(I)I"⟩
abbrev cX6_tries : ByteArray := prog_8_method_29_code
def yX6_tries : MethodName := ⟨RX6, "tries", "(I)I"⟩
abbrev cX6_isRow : ByteArray := prog_8_method_30_code
def yX6_isRow : MethodName := ⟨RX6, "isRow", "(II)Z"⟩
abbrev cX6_write : ByteArray := prog_8_method_31_code
def yX6_write : MethodName := ⟨RX6, "write", "(III)I"⟩
abbrev cX6_fill : ByteArray := prog_8_method_32_code
def yX6_fill : MethodName := ⟨RX6, "fill", "(IIII)I"⟩
abbrev cX6_copy : ByteArray := prog_8_method_33_code
def yX6_copy : MethodName := ⟨RX6, "copy", "(IIIII)I"⟩
abbrev cX6_isFrom : ByteArray := prog_8_method_34_code
def yX6_isFrom : MethodName := ⟨RX6, "isFrom", "(II)Z"⟩
abbrev cX6_common : ByteArray := prog_8_method_35_code
def yX6_common : MethodName := ⟨RX6, "common", "(II)I"⟩
abbrev cX6_merges : ByteArray := prog_8_method_36_code
def yX6_merges : MethodName := ⟨RX6, "merges", "(II)I"⟩
abbrev cX6_merge : ByteArray := prog_8_method_37_code
def yX6_merge : MethodName := ⟨RX6, "merge", "(II)I"⟩
abbrev cX6_branch : ByteArray := prog_8_method_38_code
def yX6_branch : MethodName := ⟨RX6, "branch", "(I)I"⟩
abbrev cX6_leave : ByteArray := prog_8_method_39_code
def yX6_leave : MethodName := ⟨RX6, "leave", "(I)I"⟩
abbrev cX6_back : ByteArray := prog_8_method_40_code
def yX6_back : MethodName := ⟨RX6, "back", "(I)I"⟩
abbrev cX6_canForget : ByteArray := prog_8_method_41_code
def yX6_canForget : MethodName := ⟨RX6, "canForget", "(I)Z"⟩
abbrev cX6_forgets : ByteArray := prog_8_method_42_code
def yX6_forgets : MethodName := ⟨RX6, "forgets", "(I)I"⟩
abbrev cX6_forget : ByteArray := prog_8_method_43_code
def yX6_forget : MethodName := ⟨RX6, "forget", "(I)I"⟩
abbrev cX6_lowestLike : ByteArray := prog_8_method_44_code
def yX6_lowestLike : MethodName := ⟨RX6, "lowestLike", "(I)I"⟩
abbrev cX6_sharesAll : ByteArray := prog_8_method_45_code
def yX6_sharesAll : MethodName := ⟨RX6, "sharesAll", "()I"⟩
abbrev cX6_share : ByteArray := prog_8_method_46_code
def yX6_share : MethodName := ⟨RX6, "share", "()I"⟩
abbrev cX6_set : ByteArray := prog_8_method_47_code
def yX6_set : MethodName := ⟨RX6, "set", "(II)I"⟩
abbrev cX6_read : ByteArray := prog_8_method_48_code
def yX6_read : MethodName := ⟨RX6, "read", "(II)I"⟩
abbrev cX6_children : ByteArray := prog_8_method_49_code
def yX6_children : MethodName := ⟨RX6, "children", "(I)I"⟩
abbrev cX6_steps : ByteArray := prog_8_method_50_code
def yX6_steps : MethodName := ⟨RX6, "steps", "(I)I"⟩
abbrev cX6_sum : ByteArray := prog_8_method_51_code
def yX6_sum : MethodName := ⟨RX6, "sum", "(I)I"⟩
abbrev cX6_otherPlaces : ByteArray := prog_8_method_52_code
def yX6_otherPlaces : MethodName := ⟨RX6, "otherPlaces", "(II)I"⟩
abbrev cX6_ownPlaces : ByteArray := prog_8_method_53_code
def yX6_ownPlaces : MethodName := ⟨RX6, "ownPlaces", "(I)I"⟩
abbrev cX6_unlikeBlocks : ByteArray := prog_8_method_54_code
def yX6_unlikeBlocks : MethodName := ⟨RX6, "unlikeBlocks", "(I)I"⟩
abbrev cX6_standing : ByteArray := prog_8_method_55_code
def yX6_standing : MethodName := ⟨RX6, "standing", "(I)I"⟩
abbrev cX6_stateOf : ByteArray := prog_8_method_56_code
def yX6_stateOf : MethodName := ⟨RX6, "stateOf", "(II)I"⟩
abbrev cX6_number : ByteArray := prog_8_method_57_code
def yX6_number : MethodName := ⟨RX6, "number", "(I)I"⟩
abbrev cX6_blockAt : ByteArray := prog_8_method_58_code
def yX6_blockAt : MethodName := ⟨RX6, "blockAt", "(II)I"⟩
abbrev cX6_inAll : ByteArray := prog_8_method_59_code
def yX6_inAll : MethodName := ⟨RX6, "inAll", "(IZ)I"⟩
abbrev cX6_otherLike : ByteArray := prog_8_method_60_code
def yX6_otherLike : MethodName := ⟨RX6, "otherLike", "(I)I"⟩
abbrev cX6_blockOf : ByteArray := prog_8_method_61_code
def yX6_blockOf : MethodName := ⟨RX6, "blockOf", "(II)I"⟩
abbrev cX6_head : ByteArray := prog_8_method_62_code
def yX6_head : MethodName := ⟨RX6, "head", "(I)I"⟩
abbrev cX6_unlikeCells : ByteArray := prog_8_method_63_code
def yX6_unlikeCells : MethodName := ⟨RX6, "unlikeCells", "(IIZ)I"⟩
abbrev cX6_unlike : ByteArray := prog_8_method_64_code
def yX6_unlike : MethodName := ⟨RX6, "unlike", "(III)I"⟩
abbrev cX6_like : ByteArray := prog_8_method_65_code
def yX6_like : MethodName := ⟨RX6, "like", "(I)I"⟩
abbrev cX6_before : ByteArray := prog_8_method_66_code
def yX6_before : MethodName := ⟨RX6, "before", "(II)I"⟩
abbrev cX6_conflicts : ByteArray := prog_8_method_67_code
def yX6_conflicts : MethodName := ⟨RX6, "conflicts", "(II)I"⟩
abbrev cX6_freed : ByteArray := prog_8_method_68_code
def yX6_freed : MethodName := ⟨RX6, "freed", "(I)I"⟩
abbrev cX6_frees : ByteArray := prog_8_method_69_code
def yX6_frees : MethodName := ⟨RX6, "frees", "(I)I"⟩
abbrev cX6_heaviest : ByteArray := prog_8_method_70_code
def yX6_heaviest : MethodName := ⟨RX6, "heaviest", "(I)I"⟩
abbrev cX6_shareable : ByteArray := prog_8_method_71_code
def yX6_shareable : MethodName := ⟨RX6, "shareable", "()I"⟩
abbrev cX6_count : ByteArray := prog_8_method_72_code
def yX6_count : MethodName := ⟨RX6, "count", "(I)I"⟩
abbrev cX6_undo : ByteArray := prog_8_method_73_code
def yX6_undo : MethodName := ⟨RX6, "undo", "()I"⟩
abbrev cX6_type : ByteArray := prog_8_method_74_code
def yX6_type : MethodName := ⟨RX6, "type", "(I)I"⟩
abbrev cX6_clearText : ByteArray := prog_8_method_75_code
def yX6_clearText : MethodName := ⟨RX6, "clearText", "()I"⟩
abbrev cX6_isAt : ByteArray := prog_8_method_76_code
def yX6_isAt : MethodName := ⟨RX6, "isAt", "(II)Z"⟩
abbrev cX6_sign : ByteArray := prog_8_method_77_code
def yX6_sign : MethodName := ⟨RX6, "sign", "(I)Z"⟩
abbrev cX6_numbered : ByteArray := prog_8_method_78_code
def yX6_numbered : MethodName := ⟨RX6, "numbered", "(I)Z"⟩
abbrev cX6_numbersOf : ByteArray := prog_8_method_79_code
def yX6_numbersOf : MethodName := ⟨RX6, "numbersOf", "(I)I"⟩
abbrev cX6_reads : ByteArray := prog_8_method_80_code
def yX6_reads : MethodName := ⟨RX6, "reads", "()Z"⟩
abbrev cX6_calls : ByteArray := prog_8_method_81_code
def yX6_calls : MethodName := ⟨RX6, "calls", "()I"⟩
abbrev cX6_plays : ByteArray := prog_8_method_82_code
def yX6_plays : MethodName := ⟨RX6, "plays", "()Z"⟩
abbrev cX6_fault : ByteArray := prog_8_method_83_code
def yX6_fault : MethodName := ⟨RX6, "fault", "(I)I"⟩
abbrev cX6_play : ByteArray := prog_8_method_84_code
def yX6_play : MethodName := ⟨RX6, "play", "()I"⟩
def RJ10 : String := "java/lang/System"
def TJ10 : u_T := fun k => match k with
  | _ => ("", "", "", false)
def tyJ10 : Nat → FieldType := fun k => match k with
  | _ => .int
abbrev wsJ100 : List Cond := u_ws RJ10 TJ10 0
theorem nmJ10 : ∀ a, a < 0 → ∀ b, b < 0 → a ≠ b → (TJ10 a).2.1 ≠ (TJ10 b).2.1 := by decide +kernel
theorem tyJ10_ok : ∀ k, k < 0 → parseFieldDescriptor (TJ10 k).2.2.1 = some (tyJ10 k) := by decide +kernel
def RL : String := "SharedStatesLaw"
abbrev cL_law : ByteArray := code
def yL_law : MethodName := ⟨RL, "law", "([I)Z"⟩
abbrev vwCl : List vw_C := [(RX0, TX0, 4), (RX1, TX1, 3), (RX2, TX2, 8), (RX3, TX3, 5), (RX4, TX4, 6), (RX5, TX5, 4), (RX6, TX6, 16)]
end
section
/-! ===== the whole heap as one picture: objects by role and number, contents as whole numbers ===== -/
abbrev Gl : Type := va_G × (Nat → Nat → Nat) × ClassId × ClassId
abbrev Vt : Type := Nat → Nat → Int → Int
abbrev ad (G : Gl) (r w : Nat) : Nat := G.2.1 r w
abbrev gI (G : Gl) : ClassId := G.2.2.1
abbrev gW (G : Gl) : ClassId := G.2.2.2
def iI (x : Int) : Int32 := Int32.ofInt x
abbrev inR (x : Int) : Prop := -2147483648 ≤ x ∧ x ≤ 2147483647
theorem iI_toInt {x : Int} (h : inR x) : (iI x).toInt = x := Int32.toInt_ofInt_of_le (by omega) (by omega)
theorem iI_self (x : Int32) : iI x.toInt = x := Int32.ofInt_toInt x
theorem inR_toInt (x : Int32) : inR x.toInt := ⟨by have := Int32.le_toInt x; omega, by have := Int32.toInt_lt x; omega⟩
theorem iI_add (x y : Int) : iI x + iI y = iI (x + y) := (Int32.ofInt_add x y).symm
theorem iI_sub (x y : Int) : iI x - iI y = iI (x - y) := (Int32.ofInt_sub x y).symm
theorem iI_mul (x y : Int) : iI x * iI y = iI (x * y) := (Int32.ofInt_mul x y).symm
theorem iI_inj {x y : Int} (hx : inR x) (hy : inR y) : iI x = iI y ↔ x = y := ⟨fun h => by rw [← iI_toInt hx, ← iI_toInt hy, h], fun h => by rw [h]⟩
theorem iI_lt {x y : Int} (hx : inR x) (hy : inR y) : iI x < iI y ↔ x < y := by rw [Int32.lt_iff_toInt_lt, iI_toInt hx, iI_toInt hy]
theorem iI_le {x y : Int} (hx : inR x) (hy : inR y) : iI x ≤ iI y ↔ x ≤ y := by rw [Int32.le_iff_toInt_le, iI_toInt hx, iI_toInt hy]
theorem iI_0 : (0 : Int32) = iI 0 := rfl
theorem iI_nat (n : Nat) : iI (n : Int) = nI n := Int32.ofInt_eq_ofNat
theorem iI_clamp {x : Int} (h0 : 0 ≤ x) (h1 : x ≤ 2147483647) : (iI x).toNatClampNeg = x.toNat := Int32.toNatClampNeg_ofInt_of_le (by omega) (by omega)
theorem iI_in {x : Int} {n : Nat} (h0 : 0 ≤ x) (h1 : x < n) (hn : n ≤ 100000) : vp_in (iI x) n := by
  rw [vp_in_iff, iI_toInt (by omega)]; exact ⟨h0, h1⟩
/-- an int array of n places with the contents f -/
def aE (G : Gl) (n : Nat) (f : Int → Int) : va_E := .inl (gI G, n, .inl (fun j : Nat => iI (f (j : Int))))
/-- what stands at an object: role, number of the world; f: its numbers; P: which worlds the fields and the history's row name -/
def cE (G : Gl) (P : Nat → Nat) (f : Int → Int) (r w : Nat) : va_E := match r with
  | 0 => .inr (4, [.ref (ad G 1 w), .ref (ad G 4 w), .ref (ad G 8 w), .ref (ad G 9 w), .int (iI (f 4)), .int (iI (f 5))])
  | 1 => .inr (0, [.ref (ad G 2 w), .ref (ad G 3 w), .int (iI (f 2)), .int (iI (f 3))])
  | 2 => aE G 320 f
  | 3 => aE G 40 f
  | 4 => .inr (3, [.ref (ad G 5 w), .ref (ad G 6 w), .ref (ad G 7 w), .int (iI (f 3)), .int (iI (f 4))])
  | 5 => aE G 16 f
  | 6 => aE G 16 f
  | 7 => aE G 96 f
  | 8 => aE G 4 f
  | 9 => aE G 48 f
  | 10 => .inr (5, [.ref (ad G 0 (P 0)), .ref (ad G 0 (P 1)), .ref (ad G 11 0), .ref (ad G 13 0)])
  | 11 => .inr (1, [.ref (ad G 12 0), .int (iI (f 1)), .int (iI (f 2))])
  | 12 => .inl (gW G, 4, .inr (.inr (.inr (.inr (fun j => some (ad G 0 (P (2 + j))))))))
  | 13 => .inr (2, [.ref (ad G 14 0), .ref (ad G 15 0), .int (iI (f 2)), .int (iI (f 3)), .int (iI (f 4)), .int (iI (f 5)), .int (iI (f 6)), .int (iI (f 7))])
  | 14 => aE G 60 f
  | 15 => aE G 4 f
  | 16 => .inr (6, [.ref (ad G 17 0), .ref (ad G 18 0), .ref (ad G 19 0), .int (iI (f 3)), .int (iI (f 4)), .ref (ad G 20 0), .int (iI (f 6)), .ref (ad G 21 0), .int (iI (f 8)), .int (iI (f 9)), .int (iI (f 10)), .int (iI (f 11)), .int (iI (f 12)), .int (iI (f 13)), .ref (ad G 22 0), .ref (ad G 23 0)])
  | 17 => aE G 498 f
  | 18 => aE G 1992 f
  | 19 => aE G 498 f
  | 20 => aE G 60 f
  | 21 => aE G 48 f
  | 22 => aE G 4 f
  | _ => aE G 498 f
def prs : List (Nat × Nat) := (List.range 60).map (fun n => (n / 6, n % 6)) ++ (List.range 14).map (fun n => (10 + n, 0))
def vl (r w : Nat) : Bool := (Nat.blt r 10 && Nat.blt w 6) || (Nat.ble 10 r && Nat.blt r 24 && Nat.beq w 0)
def psn (r w : Nat) : Nat := if r < 10 then 6 * r + w else 50 + r
theorem vl_lt {r w : Nat} (h : vl r w = true) : r < 24 ∧ w < 6 := by
  simp only [vl, Bool.or_eq_true, Bool.and_eq_true, Nat.blt_eq, Nat.ble_eq, Nat.beq_eq] at h
  omega
theorem vl_w {r w : Nat} (hr : r < 10) (hw : w < 6) : vl r w = true := by
  simp only [vl, Bool.or_eq_true, Bool.and_eq_true, Nat.blt_eq]
  exact Or.inl ⟨hr, hw⟩
theorem prs_dec : ∀ r, r < 24 → ∀ w, w < 6 → vl r w = true → prs[psn r w]? = some (r, w) := by decide +kernel
theorem prs_at {r w : Nat} (h : vl r w = true) : prs[psn r w]? = some (r, w) := prs_dec r (vl_lt h).1 w (vl_lt h).2 h
theorem prs_inv_dec : ∀ k, k < 74 → (prs[k]?).all (fun q => vl q.1 q.2 && Nat.beq (psn q.1 q.2) k) = true := by decide +kernel
theorem prs_len : prs.length = 74 := by decide +kernel
theorem prs_inv {k r w : Nat} (h : prs[k]? = some (r, w)) : vl r w = true ∧ psn r w = k := by
  have hk : k < 74 := by rw [← prs_len]; exact (List.getElem?_eq_some_iff.mp h).1
  have hq := prs_inv_dec k hk
  rw [h] at hq
  simp only [Option.all_some, Bool.and_eq_true, Nat.beq_eq] at hq
  exact hq
def WL (G : Gl) (P : Nat → Nat) (V : Vt) : va_W := prs.map (fun q => (ad G q.1 q.2, cE G P (V q.1 q.2) q.1 q.2))
theorem WL_at {G : Gl} {P : Nat → Nat} {V : Vt} {r w : Nat} (h : vl r w = true) : (WL G P V)[psn r w]? = some (ad G r w, cE G P (V r w) r w) := by
  simp [WL, List.getElem?_map, prs_at h]
theorem WL_set {G : Gl} {P P' : Nat → Nat} {V V' : Vt} {r w : Nat} {e : va_E} (h : vl r w = true) (he : cE G P' (V' r w) r w = e)
    (ho : ∀ r' w', vl r' w' = true → ¬ (r' = r ∧ w' = w) → cE G P' (V' r' w') r' w' = cE G P (V r' w') r' w') : (WL G P V).set (psn r w) (ad G r w, e) = WL G P' V' := by
  apply List.ext_getElem?
  intro k
  rw [List.getElem?_set]
  by_cases hk : psn r w = k
  · subst hk
    have hl : psn r w < (WL G P V).length := (List.getElem?_eq_some_iff.mp (WL_at (P := P) (V := V) h)).1
    rw [if_pos rfl, if_pos hl, WL_at h, he]
  · rw [if_neg hk]
    simp only [WL, List.getElem?_map]
    cases hq : prs[k]? with
    | none => rfl
    | some q =>
      obtain ⟨r', w'⟩ := q
      have hi := prs_inv hq
      simp only [Option.map_some]
      rw [ho r' w' hi.1 (fun z => hk (by rw [← z.1, ← z.2]; exact hi.2))]
def updI (f : Int → Int) (i x : Int) : Int → Int := fun j => if j = i then x else f j
theorem updI_s {f : Int → Int} {i x : Int} : updI f i x i = x := by simp [updI]
theorem updI_n {f : Int → Int} {i x j : Int} (h : j ≠ i) : updI f i x j = f j := by simp [updI, h]
/-- the row of numbers of one object is put -/
def up (V : Vt) (r w : Nat) (g : Int → Int) : Vt := fun r' => if r' = r then (fun w' => if w' = w then g else V r w') else V r'
theorem up_s {V : Vt} {r w : Nat} {g : Int → Int} : up V r w g r w = g := by simp [up]
theorem up_r {V : Vt} {r w r' : Nat} {g : Int → Int} (h : r' ≠ r) : up V r w g r' = V r' := by simp [up, h]
theorem up_w {V : Vt} {r w w' : Nat} {g : Int → Int} (h : w' ≠ w) : up V r w g r w' = V r w' := by simp [up, h]
theorem up_o {V : Vt} {r w r' w' : Nat} {g : Int → Int} (h : ¬ (r' = r ∧ w' = w)) : up V r w g r' w' = V r' w' := by
  by_cases hr : r' = r
  · subst hr
    exact up_w (fun z => h ⟨rfl, z⟩)
  · rw [up_r hr]
/-- the tables' words that no word list carries -/
def Nst (U : State) : Prop := va_Nw (.methodLinkNest RX0 31 yX5_isIndex "SharedStates") U ∧ va_Nw (.methodLinkNest RX3 41 yX5_isIndex "SharedStates") U ∧ va_Nw (.methodLinkNest RX4 52 yX5_isIndex "SharedStates") U ∧ va_Nw (.methodLinkNest RX4 98 yX5_isRange "SharedStates") U
theorem Nst.warm {s U : State} (hW : s.WarmedH U.vm) (h : Nst s) : Nst U := ⟨va_Nw.warmM hW h.1, va_Nw.warmM hW h.2.1, va_Nw.warmM hW h.2.2.1, va_Nw.warmM hW h.2.2.2⟩
theorem Nst.same {s U : State} (hW : s.vm = U.vm) (h : Nst s) : Nst U := ⟨va_Nw.same rfl hW h.1, va_Nw.same rfl hW h.2.1, va_Nw.same rfl hW h.2.2.1, va_Nw.same rfl hW h.2.2.2⟩
def Kx (G : Gl) (U : State) : Prop := va_K G.1 vwCl [(gI G, .int), (gW G, .object RX4)] U ∧ Nst U
theorem Kx.warm {G : Gl} {s U : State} (hW : s.WarmedH U.vm) (h : Kx G s) : Kx G U := ⟨va_K.moved hW.alike h.1, h.2.warm hW⟩
def mem (G : Gl) (q : Nat) : Prop := ∃ r w, vl r w = true ∧ q = ad G r w
def Gok (G : Gl) : Prop := ∀ r w r' w', vl r w = true → vl r' w' = true → ad G r w = ad G r' w' → r = r' ∧ w = w'
theorem WL_D {G : Gl} (h : Gok G) {P : Nat → Nat} {V : Vt} : va_D (mem G) (WL G P V) := by
  have key : ∀ (k : Nat) (q : Nat × va_E), (WL G P V)[k]? = some q → ∃ r w, vl r w = true ∧ psn r w = k ∧ q.1 = ad G r w := by
    intro k q hq
    simp only [WL, List.getElem?_map] at hq
    cases hp : prs[k]? with
    | none => rw [hp] at hq; cases hq
    | some z =>
      obtain ⟨r, w⟩ := z
      rw [hp] at hq
      have hi := prs_inv hp
      cases hq
      exact ⟨r, w, hi.1, hi.2, rfl⟩
  refine ⟨fun i j p q hp hq hpq => ?_, fun k q hq => ?_⟩
  · obtain ⟨r, w, h1, h2, h3⟩ := key i p hp
    obtain ⟨r', w', g1, g2, g3⟩ := key j q hq
    obtain ⟨e1, e2⟩ := h r w r' w' h1 g1 (by rw [← h3, ← g3]; exact hpq)
    rw [← h2, ← g2, e1, e2]
  · obtain ⟨r, w, h1, h2, h3⟩ := key k q hq
    exact ⟨r, w, h1, h3⟩
/-- a method's start, and its end -/
def Sg (G : Gl) (P : Nat → Nat) (V : Vt) (U : State) : Prop := va_P G.1 vwCl (WL G P V) U.heap ∧ Kx G U ∧ Gok G
def Qk (G : Gl) (mk : Int → Option Value) (post : Int → (Nat → Nat) → Vt → Prop) : Array Value → State → Outcome → State → Prop := fun _ st o t =>
  (∃ (r : Int) (P : Nat → Nat) (V : Vt), o = .returned (mk r) ∧ post r P V ∧ va_P G.1 vwCl (WL G P V) t.heap) ∧ va_F (mem G) st t
abbrev mkI (r : Int) : Option Value := some (.int (iI r))
abbrev mkV (_ : Int) : Option Value := none
abbrev mkR (G : Gl) (r : Int) : Option Value := some (.ref (ad G 0 r.toNat))
/-- one end: this answer, this state -/
def dt (F : Int) (P : Nat → Nat) (V : Vt) : Int → (Nat → Nat) → Vt → Prop := fun r P' V' => r = F ∧ P' = P ∧ V' = V
def Lh (ls : Array Slot) (L : List (Option Value)) : Prop := ls.size = L.length ∧ lv_wf ls ∧ ∀ (i : Nat) (v : Value), L[i]? = some (some v) → ls[i]? = some (.val v) ∧ v.category = 1
/-- the walk's goal: program, launch, environment, room, start, method, arguments, frames below, method, code; what is wanted at the end -/
abbrev Cx : Type := Program × Launch × Env × Room × State × MethodId × Array Value × List Frame × Method × Code × (State → Prop)
def Kz (X : Cx) (G : Gl) (P : Nat → Nat) (V : Vt) (L : List (Option Value)) (pc : Nat) (st : List Value) : Prop :=
  match X with
  | (p, l, e, R, s, m, args, below, meth, c, Q) => ∀ (H : Heap) (locs : List Loc) (ls : Array Slot), va_P G.1 vwCl (WL G P V) H → va_S (mem G) s.heap H locs → Lh ls L → W p l e R s m args below meth c H locs 0 0 Q (F0 m pc ls st)
def Ev (X : Cx) (l0 : Launch) (G : Gl) (R0 : Room) (cc : ByteArray) (nL : Nat) (Ts : List Cond) (own : String) (ret : Option FieldType) (mk : Int → Option Value) (post : Int → (Nat → Nat) → Vt → Prop) : Prop :=
  match X with
  | (p, l, _, R, s, m, args, below, meth, c, Q) => CallFix p m c cc nL s args Ts own ∧ Kx G s ∧ Gok G ∧ meth.sig.returnType = ret ∧ meth.locks = false ∧ R = R0 ∧ l = l0 ∧ Q = MQ below (Qk G mk post) args s 0 0 (mem G)
theorem Lh.sub {ls : Array Slot} {L L' : List (Option Value)} (h : Lh ls L) (hl : L'.length = L.length) (hs : ∀ (i : Nat) (v : Value), L'[i]? = some (some v) → L[i]? = some (some v)) : Lh ls L' := ⟨h.1.trans hl.symm, h.2.1, fun i v hv => h.2.2 i v (hs i v hv)⟩
theorem Kz.sub {X : Cx} {G : Gl} {P : Nat → Nat} {V : Vt} {L L' : List (Option Value)} {pc : Nat} {st : List Value} (hl : L'.length = L.length) (hs : ∀ (i : Nat) (v : Value), L'[i]? = some (some v) → L[i]? = some (some v)) (k : Kz X G P V L' pc st) : Kz X G P V L pc st := by
  obtain ⟨p, l, e, R, s, m, args, below, meth, c, Q⟩ := X
  intro H locs ls hP hS hL
  exact k H locs ls hP hS (hL.sub hl hs)
theorem lv_args_map : ∀ (vs : List Value) (i : Nat), (∀ v ∈ vs, v.category = 1) → ∀ (k : Nat) (v : Value), vs[k]? = some v → (i + k, v) ∈ lv_args i vs
  | [], _, _, _, _, h => by simp at h
  | a :: vs, i, hc, 0, v, h => by
    simp at h; subst h
    exact List.mem_cons_self
  | a :: vs, i, hc, k + 1, v, h => by
    have ha : a.category = 1 := hc a List.mem_cons_self
    simp only [List.getElem?_cons_succ] at h
    have := lv_args_map vs (i + 1) (fun v hv => hc v (List.mem_cons_of_mem _ hv)) k v h
    simp only [lv_args, ha]
    refine List.mem_cons_of_mem _ ?_
    rw [show i + (k + 1) = i + 1 + k by omega]
    exact this
theorem lg_sl_len : ∀ (vs : List Value), (∀ v ∈ vs, v.category = 1) → (lg_sl vs).length = vs.length
  | [], _ => rfl
  | a :: vs, hc => by
    have ha : ¬ a.category = 2 := by have := hc a List.mem_cons_self; omega
    have := lg_sl_len vs (fun v hv => hc v (List.mem_cons_of_mem _ hv))
    simp only [lg_sl, List.flatMap_cons, if_neg ha, List.length_append, List.length_cons, List.length_nil]
    simp only [lg_sl] at this
    omega
theorem Lh_of_has {ls : Array Slot} {nL : Nat} {L : List (Option Value)} {lv : List (Nat × Value)} (h : lv_has ls nL lv) (hL : L.length = nL) (hs : ∀ i v, L[i]? = some (some v) → (i, v) ∈ lv ∧ v.category = 1) : Lh ls L :=
  ⟨h.1.trans hL.symm, h.2.1, fun i v hv => ⟨h.2.2 (i, v) (hs i v hv).1, (hs i v hv).2⟩⟩
theorem z_met {l : Launch} {G : Gl} {P : Nat → Nat} {V : Vt} {y : MethodName} {ws ws' : List Cond} {rm : Room} {av : List Value} {L : List (Option Value)} {cc : ByteArray} {nL : Nat} {ret : Option FieldType} {mk : Int → Option Value} {post : Int → (Nat → Nat) → Vt → Prop} {own : String}
    (hy : plainName y.cls = true) (hw : ws = Cond.code y cc nL ret :: ws') (ho : y.cls = own) (hn : av.length ≤ nL) (hc : ∀ v ∈ av, v.category = 1) (hL : av.map some ++ List.replicate (nL - av.length) none = L)
    (body : ∀ X : Cx, Ev X l G (headSpec ws rm).room cc nL ws own ret mk post → Kz X G P V L 0 []) : Met l y ws rm (va_Pc av (Sg G P V)) (Qk G mk post) 0 0 (mem G) := by
  refine Met.ofW (cc := cc) (maxL := nL) (ret := ret) hy hw ?_
  intro p e s m args below meth c s₁ B hml hv
  obtain ⟨rfl, hP, hK, hG⟩ := hv
  have hown : s.vm.findClass own = some m.cls := ho ▸ findClass_of_methodNamed B.named
  have hsl := lg_sl_len av hc
  have hl := lv_entry av (n := nL) (by rw [hsl]; exact hn)
  rw [lg_entry_eq]
  have hb := body (p, l, e, (headSpec ws rm).room, s, m, av.toArray, below, meth, c, MQ below (Qk G mk post) av.toArray s 0 0 (mem G)) ⟨⟨B.exec, B.bytes, hml, hown, atoms_spec (ws := ws) B.pre⟩, hK, hG, B.returns, B.notSynchronized, rfl, rfl, rfl⟩
  refine hb s.heap [] _ hP va_S.rf (Lh_of_has hl ?_ ?_)
  · rw [← hL, List.length_append, List.length_map, List.length_replicate]; omega
  · intro i v hi
    rw [← hL] at hi
    by_cases h : i < av.length
    · rw [List.getElem?_append_left (by rw [List.length_map]; exact h), List.getElem?_map] at hi
      have hv : av[i]? = some v := by
        cases hq : av[i]? with
        | none => rw [hq] at hi; cases hi
        | some z => rw [hq] at hi; cases hi; rfl
      have := lv_args_map av 0 hc i v hv
      rw [Nat.zero_add] at this
      exact ⟨this, hc v (List.mem_of_getElem? hv)⟩
    · rw [List.getElem?_append_right (by rw [List.length_map]; omega), List.getElem?_replicate] at hi
      split at hi <;> cases hi
/-! ===== rows: an instruction each ===== -/
section ZR
variable {X : Cx} {l0 : Launch} {G : Gl} {R0 : Room} {cc : ByteArray} {nL : Nat} {Ts : List Cond} {own : String} {ret : Option FieldType} {mk : Int → Option Value} {post : Int → (Nat → Nat) → Vt → Prop} {P : Nat → Nat} {V : Vt} {L : List (Option Value)} {pc : Nat} {st : List Value}
theorem z_iconst (E : Ev X l0 G R0 cc nL Ts own ret mk post) {n : Int} (hdg : decode cc pc = .ok (.iconst n, 1)) (kk : Kz X G P V L (pc + 1) (.int (iI n) :: st)) : Kz X G P V L pc st := by
  obtain ⟨p, l, e, R, s, m, args, below, meth, c, Q⟩ := X
  intro H locs ls hP hS hL
  exact lv_iconst E.1.1 E.1.2.1 hdg rfl (kk H locs ls hP hS hL)
theorem z_bipush (E : Ev X l0 G R0 cc nL Ts own ret mk post) {n : Int} (hdg : decode cc pc = .ok (.bipush n, 2)) (hv : (Int8.ofInt n).toInt32 = iI n) (kk : Kz X G P V L (pc + 2) (.int (iI n) :: st)) : Kz X G P V L pc st := by
  obtain ⟨p, l, e, R, s, m, args, below, meth, c, Q⟩ := X
  intro H locs ls hP hS hL
  exact lv_bipush E.1.1 E.1.2.1 hdg hv (kk H locs ls hP hS hL)
theorem z_sipush (E : Ev X l0 G R0 cc nL Ts own ret mk post) {n : Int} (hdg : decode cc pc = .ok (.sipush n, 3)) (hv : (Int16.ofInt n).toInt32 = iI n) (kk : Kz X G P V L (pc + 3) (.int (iI n) :: st)) : Kz X G P V L pc st := by
  obtain ⟨p, l, e, R, s, m, args, below, meth, c, Q⟩ := X
  intro H locs ls hP hS hL
  exact lv_sipush E.1.1 E.1.2.1 hdg hv (kk H locs ls hP hS hL)
theorem z_ldc (E : Ev X l0 G R0 cc nL Ts own ret mk post) {index : Nat} {v : Int32} (n : Int) (hc : Cond.constant own index v ∈ Ts) (hv : v = iI n) (hdg : decode cc pc = .ok (.ldc index, 2)) (kk : Kz X G P V L (pc + 2) (.int (iI n) :: st)) : Kz X G P V L pc st := by
  obtain ⟨p, l, e, R, s, m, args, below, meth, c, Q⟩ := X
  intro H locs ls hP hS hL
  subst hv
  exact lv_ldc E.1.1 E.1.2.1 E.1.2.2.2.1 (E.1.2.2.2.2 _ hc) hdg (kk H locs ls hP hS hL)
theorem z_iload_n (E : Ev X l0 G R0 cc nL Ts own ret mk post) {k : Fin 4} {x : Int32} (hdg : decode cc pc = .ok (.iload_n k, 1)) (i : Nat) (hi : (k : Nat) = i) (hl : L[i]? = some (some (.int x))) (kk : Kz X G P V L (pc + 1) (.int x :: st)) : Kz X G P V L pc st := by
  obtain ⟨p, l, e, R, s, m, args, below, meth, c, Q⟩ := X
  intro H locs ls hP hS hL
  exact lv_iload_n E.1.1 E.1.2.1 hdg hi (hL.2.2 i _ hl).1 (kk H locs ls hP hS hL)
theorem z_iload (E : Ev X l0 G R0 cc nL Ts own ret mk post) {x : Int32} {i : Nat} (hdg : decode cc pc = .ok (.iload i, 2)) (hl : L[i]? = some (some (.int x))) (kk : Kz X G P V L (pc + 2) (.int x :: st)) : Kz X G P V L pc st := by
  obtain ⟨p, l, e, R, s, m, args, below, meth, c, Q⟩ := X
  intro H locs ls hP hS hL
  exact lv_iload E.1.1 E.1.2.1 hdg (hL.2.2 i _ hl).1 (kk H locs ls hP hS hL)
theorem z_aload_n (E : Ev X l0 G R0 cc nL Ts own ret mk post) {k : Fin 4} {x : Nat} (hdg : decode cc pc = .ok (.aload_n k, 1)) (i : Nat) (hi : (k : Nat) = i) (hl : L[i]? = some (some (.ref x))) (kk : Kz X G P V L (pc + 1) (.ref x :: st)) : Kz X G P V L pc st := by
  obtain ⟨p, l, e, R, s, m, args, below, meth, c, Q⟩ := X
  intro H locs ls hP hS hL
  exact lv_aload_n E.1.1 E.1.2.1 hdg hi (hL.2.2 i _ hl).1 (kk H locs ls hP hS hL)
theorem z_aload (E : Ev X l0 G R0 cc nL Ts own ret mk post) {x i : Nat} (hdg : decode cc pc = .ok (.aload i, 2)) (hl : L[i]? = some (some (.ref x))) (kk : Kz X G P V L (pc + 2) (.ref x :: st)) : Kz X G P V L pc st := by
  obtain ⟨p, l, e, R, s, m, args, below, meth, c, Q⟩ := X
  intro H locs ls hP hS hL
  exact lv_aload E.1.1 E.1.2.1 hdg (hL.2.2 i _ hl).1 (kk H locs ls hP hS hL)
theorem Lh.enum {ls : Array Slot} {L : List (Option Value)} (h : Lh ls L) : lv_has ls L.length (L.zipIdx.filterMap (fun q => q.1.map (fun v => (q.2, v)))) := by
  refine ⟨h.1, h.2.1, fun q hq => ?_⟩
  obtain ⟨z, hz, hz2⟩ := List.mem_filterMap.mp hq
  obtain ⟨o, i⟩ := z
  cases o with
  | none => cases hz2
  | some v =>
    cases hz2
    have := List.mem_zipIdx_iff_getElem?.mp hz
    exact (h.2.2 i v this).1
theorem Lh.store {ls ls' : Array Slot} {L : List (Option Value)} {i : Nat} {v : Value} (h : Lh ls L) (hv : v.category = 1)
    (h' : lv_has ls' L.length ((i, v) :: (L.zipIdx.filterMap (fun q => q.1.map (fun v => (q.2, v)))).filter (fun q => !(q.1 == i) && !(q.1 + 1 == i && q.2.category == 2)))) : Lh ls' (L.set i (some v)) := by
  refine ⟨by rw [List.length_set]; exact h'.1, h'.2.1, fun j u hu => ?_⟩
  rw [List.getElem?_set] at hu
  by_cases hj : i = j
  · subst hj
    rw [if_pos rfl] at hu
    split at hu
    · cases hu
      exact ⟨h'.2.2 (i, v) List.mem_cons_self, hv⟩
    · cases hu
  · rw [if_neg hj] at hu
    have hu2 := (h.2.2 j u hu).2
    refine ⟨h'.2.2 (j, u) (List.mem_cons_of_mem _ (List.mem_filter.mpr ⟨?_, ?_⟩)), hu2⟩
    · refine List.mem_filterMap.mpr ⟨(some u, j), List.mem_zipIdx_iff_getElem?.mpr hu, rfl⟩
    · have : ¬ j = i := fun z => hj z.symm
      simp [this, hu2]
theorem z_istore_n (E : Ev X l0 G R0 cc nL Ts own ret mk post) {k : Fin 4} {x : Int32} (hdg : decode cc pc = .ok (.istore_n k, 1)) (i : Nat) (hi : (k : Nat) = i) {L' : List (Option Value)} (hn : i < L.length) (hl : L.set i (some (.int x)) = L') (kk : Kz X G P V L' (pc + 1) st) : Kz X G P V L pc (.int x :: st) := by
  obtain ⟨p, l, e, R, s, m, args, below, meth, c, Q⟩ := X
  intro H locs ls hP hS hL
  subst hl
  exact lv_istore_n E.1.1 E.1.2.1 hdg hi hL.enum hn rfl (fun ls' hl' => kk H locs ls' hP hS (hL.store rfl hl'))
theorem z_istore (E : Ev X l0 G R0 cc nL Ts own ret mk post) {i : Nat} {x : Int32} (hdg : decode cc pc = .ok (.istore i, 2)) {L' : List (Option Value)} (hn : i < L.length) (hl : L.set i (some (.int x)) = L') (kk : Kz X G P V L' (pc + 2) st) : Kz X G P V L pc (.int x :: st) := by
  obtain ⟨p, l, e, R, s, m, args, below, meth, c, Q⟩ := X
  intro H locs ls hP hS hL
  subst hl
  exact lv_istore E.1.1 E.1.2.1 hdg hL.enum hn rfl (fun ls' hl' => kk H locs ls' hP hS (hL.store rfl hl'))
theorem z_astore_n (E : Ev X l0 G R0 cc nL Ts own ret mk post) {k : Fin 4} {x : Nat} (hdg : decode cc pc = .ok (.astore_n k, 1)) (i : Nat) (hi : (k : Nat) = i) {L' : List (Option Value)} (hn : i < L.length) (hl : L.set i (some (.ref x)) = L') (kk : Kz X G P V L' (pc + 1) st) : Kz X G P V L pc (.ref x :: st) := by
  obtain ⟨p, l, e, R, s, m, args, below, meth, c, Q⟩ := X
  intro H locs ls hP hS hL
  subst hl
  exact lv_astore_n E.1.1 E.1.2.1 hdg hi hL.enum hn rfl (fun ls' hl' => kk H locs ls' hP hS (hL.store rfl hl'))
theorem z_astore (E : Ev X l0 G R0 cc nL Ts own ret mk post) {i : Nat} {x : Nat} (hdg : decode cc pc = .ok (.astore i, 2)) {L' : List (Option Value)} (hn : i < L.length) (hl : L.set i (some (.ref x)) = L') (kk : Kz X G P V L' (pc + 2) st) : Kz X G P V L pc (.ref x :: st) := by
  obtain ⟨p, l, e, R, s, m, args, below, meth, c, Q⟩ := X
  intro H locs ls hP hS hL
  subst hl
  exact lv_astore E.1.1 E.1.2.1 hdg hL.enum hn rfl (fun ls' hl' => kk H locs ls' hP hS (hL.store rfl hl'))
theorem z_iinc (E : Ev X l0 G R0 cc nL Ts own ret mk post) {i : Nat} {n : Int} (x : Int) (hdg : decode cc pc = .ok (.iinc i n, 3)) {L' : List (Option Value)} (hn : i < L.length) (hx : L[i]? = some (some (.int (iI x)))) (hl : L.set i (some (.int (iI (x + n)))) = L') (kk : Kz X G P V L' (pc + 3) st) : Kz X G P V L pc st := by
  obtain ⟨p, l, e, R, s, m, args, below, meth, c, Q⟩ := X
  intro H locs ls hP hS hL
  subst hl
  obtain ⟨k, hk⟩ := List.getElem?_of_mem (l := L.zipIdx.filterMap (fun q => q.1.map (fun v => (q.2, v)))) (a := (i, .int (iI x))) (List.mem_filterMap.mpr ⟨(some (.int (iI x)), i), List.mem_zipIdx_iff_getElem?.mpr hx, rfl⟩)
  exact lv_iinc (v := iI (x + n)) E.1.1 E.1.2.1 hdg hL.enum hk (iI_add x n) hn rfl (fun ls' hl' => kk H locs ls' hP hS (hL.store rfl hl'))
theorem z_iadd (E : Ev X l0 G R0 cc nL Ts own ret mk post) {x y : Int} (hdg : decode cc pc = .ok (.iadd, 1)) (kk : Kz X G P V L (pc + 1) (.int (iI (x + y)) :: st)) : Kz X G P V L pc (.int (iI y) :: .int (iI x) :: st) := by
  obtain ⟨p, l, e, R, s, m, args, below, meth, c, Q⟩ := X
  intro H locs ls hP hS hL
  exact lv_iadd E.1.1 E.1.2.1 hdg (by rw [iI_add]; exact kk H locs ls hP hS hL)
theorem z_isub (E : Ev X l0 G R0 cc nL Ts own ret mk post) {x y : Int} (hdg : decode cc pc = .ok (.isub, 1)) (kk : Kz X G P V L (pc + 1) (.int (iI (x - y)) :: st)) : Kz X G P V L pc (.int (iI y) :: .int (iI x) :: st) := by
  obtain ⟨p, l, e, R, s, m, args, below, meth, c, Q⟩ := X
  intro H locs ls hP hS hL
  exact lv_isub E.1.1 E.1.2.1 hdg (by rw [iI_sub]; exact kk H locs ls hP hS hL)
theorem z_imul (E : Ev X l0 G R0 cc nL Ts own ret mk post) {x y : Int} (hdg : decode cc pc = .ok (.imul, 1)) (kk : Kz X G P V L (pc + 1) (.int (iI (x * y)) :: st)) : Kz X G P V L pc (.int (iI y) :: .int (iI x) :: st) := by
  obtain ⟨p, l, e, R, s, m, args, below, meth, c, Q⟩ := X
  intro H locs ls hP hS hL
  exact lv_imul E.1.1 E.1.2.1 hdg (by rw [iI_mul]; exact kk H locs ls hP hS hL)
theorem iI_of_nat {x : Int} (h0 : 0 ≤ x) : iI x = nI x.toNat := by
  rw [← iI_nat]; congr 1; omega
theorem iI_div {x y : Int} (h0 : 0 ≤ x) (h1 : x ≤ 2147483647) (h2 : 0 < y) (h3 : y ≤ 2147483647) : iI x / iI y = iI (x / y) := by
  rw [iI_of_nat h0, iI_of_nat (Int.le_of_lt h2), pk_div (by omega) (by omega) (by omega), ← iI_nat]
  congr 1
  rw [Int.natCast_ediv, Int.toNat_of_nonneg h0, Int.toNat_of_nonneg (Int.le_of_lt h2)]
theorem iI_rem {x y : Int} (h0 : 0 ≤ x) (h1 : x ≤ 2147483647) (h2 : 0 < y) (h3 : y ≤ 2147483647) : iI x - iI x / iI y * iI y = iI (x % y) := by
  rw [iI_div h0 h1 h2 h3, iI_mul, iI_sub]
  congr 1
  have := Int.emod_def x y
  rw [this, Int.mul_comm]
theorem z_idiv (E : Ev X l0 G R0 cc nL Ts own ret mk post) {x y : Int} (hdg : decode cc pc = .ok (.idiv, 1)) (h0 : 0 ≤ x) (h1 : x ≤ 2147483647) (h2 : 0 < y) (h3 : y ≤ 2147483647) (kk : Kz X G P V L (pc + 1) (.int (iI (x / y)) :: st)) : Kz X G P V L pc (.int (iI y) :: .int (iI x) :: st) := by
  obtain ⟨p, l, e, R, s, m, args, below, meth, c, Q⟩ := X
  intro H locs ls hP hS hL
  exact lv_idiv E.1.1 E.1.2.1 hdg (by rw [iI_0, iI_inj (by omega) (by omega)]; omega) (by rw [iI_div h0 h1 h2 h3]; exact kk H locs ls hP hS hL)
theorem z_irem (E : Ev X l0 G R0 cc nL Ts own ret mk post) {x y : Int} (hdg : decode cc pc = .ok (.irem, 1)) (h0 : 0 ≤ x) (h1 : x ≤ 2147483647) (h2 : 0 < y) (h3 : y ≤ 2147483647) (kk : Kz X G P V L (pc + 1) (.int (iI (x % y)) :: st)) : Kz X G P V L pc (.int (iI y) :: .int (iI x) :: st) := by
  obtain ⟨p, l, e, R, s, m, args, below, meth, c, Q⟩ := X
  intro H locs ls hP hS hL
  exact lv_irem E.1.1 E.1.2.1 hdg (by rw [iI_0, iI_inj (by omega) (by omega)]; omega) (by rw [iI_rem h0 h1 h2 h3]; exact kk H locs ls hP hS hL)
/-- 1 << k, for the sets of bits; and the or that puts a new bit in -/
theorem iI_shl1 : ∀ k : Nat, k < 30 → iI 1 <<< (nI k &&& 31) = iI (2 ^ k) := by decide +kernel
theorem z_ishl (E : Ev X l0 G R0 cc nL Ts own ret mk post) {k : Int} (hdg : decode cc pc = .ok (.ishl, 1)) (h0 : 0 ≤ k) (h1 : k < 30) (kk : Kz X G P V L (pc + 1) (.int (iI (2 ^ k.toNat)) :: st)) : Kz X G P V L pc (.int (iI k) :: .int (iI 1) :: st) := by
  obtain ⟨p, l, e, R, s, m, args, below, meth, c, Q⟩ := X
  intro H locs ls hP hS hL
  exact lv_ishl E.1.1 E.1.2.1 hdg (by rw [iI_of_nat h0, iI_shl1 k.toNat (by omega)]; exact kk H locs ls hP hS hL)
theorem iI_or_dec : ∀ k : Nat, k < 8 → ∀ x : Nat, x < 2 ^ k → nI x ||| iI (2 ^ k) = nI (x + 2 ^ k) := by decide +kernel
theorem z_iorS (E : Ev X l0 G R0 cc nL Ts own ret mk post) {x : Int} {k : Nat} (hdg : decode cc pc = .ok (.ior, 1)) (hk : k < 8) (h0 : 0 ≤ x) (h1 : x < 2 ^ k) (kk : Kz X G P V L (pc + 1) (.int (iI (x + 2 ^ k)) :: st)) : Kz X G P V L pc (.int (iI (2 ^ k)) :: .int (iI x) :: st) := by
  obtain ⟨p, l, e, R, s, m, args, below, meth, c, Q⟩ := X
  intro H locs ls hP hS hL
  have hx : x.toNat < 2 ^ k := by
    have : ((x.toNat : Int)) < ((2 ^ k : Nat) : Int) := by rw [Int.toNat_of_nonneg h0]; simpa using h1
    omega
  refine lv_ior E.1.1 E.1.2.1 hdg ?_
  rw [show iI x = nI x.toNat from iI_of_nat h0, iI_or_dec k hk x.toNat hx, ← iI_nat]
  have e : ((x.toNat + 2 ^ k : Nat) : Int) = x + 2 ^ k := by
    rw [Int.natCast_add, Int.toNat_of_nonneg h0]; simp
  rw [e]
  exact kk H locs ls hP hS hL
theorem z_ior0 (E : Ev X l0 G R0 cc nL Ts own ret mk post) {x : Int} (hdg : decode cc pc = .ok (.ior, 1)) (kk : Kz X G P V L (pc + 1) (.int (iI x) :: st)) : Kz X G P V L pc (.int (iI 0) :: .int (iI x) :: st) := by
  obtain ⟨p, l, e, R, s, m, args, below, meth, c, Q⟩ := X
  intro H locs ls hP hS hL
  refine lv_ior E.1.1 E.1.2.1 hdg ?_
  rw [show iI x ||| iI 0 = iI x from Int32.toBitVec_inj.mp (by rw [Int32.toBitVec_or]; simp [iI])]
  exact kk H locs ls hP hS hL
theorem z_dup (E : Ev X l0 G R0 cc nL Ts own ret mk post) {v : Value} (hdg : decode cc pc = .ok (.dup, 1)) (hv : v.category = 1) (kk : Kz X G P V L (pc + 1) (v :: v :: st)) : Kz X G P V L pc (v :: st) := by
  obtain ⟨p, l, e, R, s, m, args, below, meth, c, Q⟩ := X
  intro H locs ls hP hS hL
  exact lv_dup E.1.1 E.1.2.1 hdg hv (kk H locs ls hP hS hL)
theorem z_dup2 (E : Ev X l0 G R0 cc nL Ts own ret mk post) {v u : Value} (hdg : decode cc pc = .ok (.dup2, 1)) (hv : v.category = 1) (hu : u.category = 1) (kk : Kz X G P V L (pc + 1) (v :: u :: v :: u :: st)) : Kz X G P V L pc (v :: u :: st) := by
  obtain ⟨p, l, e, R, s, m, args, below, meth, c, Q⟩ := X
  intro H locs ls hP hS hL
  exact lv_dup2_11 E.1.1 E.1.2.1 hdg hv hu (kk H locs ls hP hS hL)
theorem z_goto (E : Ev X l0 G R0 cc nL Ts own ret mk post) {off : Int} (tgt : Nat) (hdg : decode cc pc = .ok (.goto off, 3)) (ht : (pc : Int) + off = (tgt : Int)) (kk : Kz X G P V L tgt st) : Kz X G P V L pc st := by
  obtain ⟨p, l, e, R, s, m, args, below, meth, c, Q⟩ := X
  intro H locs ls hP hS hL
  exact lv_goto E.1.1 E.1.2.1 hdg ht (kk H locs ls hP hS hL)
theorem z_if_eq (E : Ev X l0 G R0 cc nL Ts own ret mk post) {x : Int} {off : Int} (tgt : Nat) (hdg : decode cc pc = .ok (.ifCond .eq off, 3)) (ht : (pc : Int) + off = (tgt : Int)) (hx : inR x) (kt : x = 0 → Kz X G P V L tgt st) (kf : ¬ x = 0 → Kz X G P V L (pc + 3) st) : Kz X G P V L pc (.int (iI x) :: st) := by
  obtain ⟨p, l, e, R, s, m, args, below, meth, c, Q⟩ := X
  intro H locs ls hP hS hL
  have h1 := iI_inj hx (y := 0) (by omega)
  have h2 := iI_lt hx (y := 0) (by omega)
  have h3 := iI_le hx (y := 0) (by omega)
  have h4 := iI_lt (x := 0) (by omega) hx
  have h5 := iI_le (x := 0) (by omega) hx
  rw [← iI_0] at h1 h2 h3 h4 h5
  refine lv_if_eq E.1.1 E.1.2.1 hdg ht (fun q => kt ?_ H locs ls hP hS hL) (fun q => kf ?_ H locs ls hP hS hL)
  · exact h1.mp q
  · exact fun z => q (h1.mpr z)
theorem z_if_ne (E : Ev X l0 G R0 cc nL Ts own ret mk post) {x : Int} {off : Int} (tgt : Nat) (hdg : decode cc pc = .ok (.ifCond .ne off, 3)) (ht : (pc : Int) + off = (tgt : Int)) (hx : inR x) (kt : ¬ x = 0 → Kz X G P V L tgt st) (kf : x = 0 → Kz X G P V L (pc + 3) st) : Kz X G P V L pc (.int (iI x) :: st) := by
  obtain ⟨p, l, e, R, s, m, args, below, meth, c, Q⟩ := X
  intro H locs ls hP hS hL
  have h1 := iI_inj hx (y := 0) (by omega)
  have h2 := iI_lt hx (y := 0) (by omega)
  have h3 := iI_le hx (y := 0) (by omega)
  have h4 := iI_lt (x := 0) (by omega) hx
  have h5 := iI_le (x := 0) (by omega) hx
  rw [← iI_0] at h1 h2 h3 h4 h5
  refine lv_if_ne E.1.1 E.1.2.1 hdg ht (fun q => kt ?_ H locs ls hP hS hL) (fun q => kf ?_ H locs ls hP hS hL)
  · exact fun z => q (h1.mpr z)
  · exact h1.mp q
theorem z_if_lt (E : Ev X l0 G R0 cc nL Ts own ret mk post) {x : Int} {off : Int} (tgt : Nat) (hdg : decode cc pc = .ok (.ifCond .lt off, 3)) (ht : (pc : Int) + off = (tgt : Int)) (hx : inR x) (kt : x < 0 → Kz X G P V L tgt st) (kf : 0 ≤ x → Kz X G P V L (pc + 3) st) : Kz X G P V L pc (.int (iI x) :: st) := by
  obtain ⟨p, l, e, R, s, m, args, below, meth, c, Q⟩ := X
  intro H locs ls hP hS hL
  have h1 := iI_inj hx (y := 0) (by omega)
  have h2 := iI_lt hx (y := 0) (by omega)
  have h3 := iI_le hx (y := 0) (by omega)
  have h4 := iI_lt (x := 0) (by omega) hx
  have h5 := iI_le (x := 0) (by omega) hx
  rw [← iI_0] at h1 h2 h3 h4 h5
  refine lv_if_lt E.1.1 E.1.2.1 hdg ht (fun q => kt ?_ H locs ls hP hS hL) (fun q => kf ?_ H locs ls hP hS hL)
  · exact h2.mp q
  · exact Int.not_lt.mp (fun z => q (h2.mpr z))
theorem z_if_ge (E : Ev X l0 G R0 cc nL Ts own ret mk post) {x : Int} {off : Int} (tgt : Nat) (hdg : decode cc pc = .ok (.ifCond .ge off, 3)) (ht : (pc : Int) + off = (tgt : Int)) (hx : inR x) (kt : 0 ≤ x → Kz X G P V L tgt st) (kf : x < 0 → Kz X G P V L (pc + 3) st) : Kz X G P V L pc (.int (iI x) :: st) := by
  obtain ⟨p, l, e, R, s, m, args, below, meth, c, Q⟩ := X
  intro H locs ls hP hS hL
  have h1 := iI_inj hx (y := 0) (by omega)
  have h2 := iI_lt hx (y := 0) (by omega)
  have h3 := iI_le hx (y := 0) (by omega)
  have h4 := iI_lt (x := 0) (by omega) hx
  have h5 := iI_le (x := 0) (by omega) hx
  rw [← iI_0] at h1 h2 h3 h4 h5
  refine lv_if_ge E.1.1 E.1.2.1 hdg ht (fun q => kt ?_ H locs ls hP hS hL) (fun q => kf ?_ H locs ls hP hS hL)
  · exact h5.mp q
  · exact Int.not_le.mp (fun z => q (h5.mpr z))
theorem z_if_gt (E : Ev X l0 G R0 cc nL Ts own ret mk post) {x : Int} {off : Int} (tgt : Nat) (hdg : decode cc pc = .ok (.ifCond .gt off, 3)) (ht : (pc : Int) + off = (tgt : Int)) (hx : inR x) (kt : 0 < x → Kz X G P V L tgt st) (kf : x ≤ 0 → Kz X G P V L (pc + 3) st) : Kz X G P V L pc (.int (iI x) :: st) := by
  obtain ⟨p, l, e, R, s, m, args, below, meth, c, Q⟩ := X
  intro H locs ls hP hS hL
  have h1 := iI_inj hx (y := 0) (by omega)
  have h2 := iI_lt hx (y := 0) (by omega)
  have h3 := iI_le hx (y := 0) (by omega)
  have h4 := iI_lt (x := 0) (by omega) hx
  have h5 := iI_le (x := 0) (by omega) hx
  rw [← iI_0] at h1 h2 h3 h4 h5
  refine lv_if_gt E.1.1 E.1.2.1 hdg ht (fun q => kt ?_ H locs ls hP hS hL) (fun q => kf ?_ H locs ls hP hS hL)
  · exact h4.mp q
  · exact Int.not_lt.mp (fun z => q (h4.mpr z))
theorem z_if_le (E : Ev X l0 G R0 cc nL Ts own ret mk post) {x : Int} {off : Int} (tgt : Nat) (hdg : decode cc pc = .ok (.ifCond .le off, 3)) (ht : (pc : Int) + off = (tgt : Int)) (hx : inR x) (kt : x ≤ 0 → Kz X G P V L tgt st) (kf : 0 < x → Kz X G P V L (pc + 3) st) : Kz X G P V L pc (.int (iI x) :: st) := by
  obtain ⟨p, l, e, R, s, m, args, below, meth, c, Q⟩ := X
  intro H locs ls hP hS hL
  have h1 := iI_inj hx (y := 0) (by omega)
  have h2 := iI_lt hx (y := 0) (by omega)
  have h3 := iI_le hx (y := 0) (by omega)
  have h4 := iI_lt (x := 0) (by omega) hx
  have h5 := iI_le (x := 0) (by omega) hx
  rw [← iI_0] at h1 h2 h3 h4 h5
  refine lv_if_le E.1.1 E.1.2.1 hdg ht (fun q => kt ?_ H locs ls hP hS hL) (fun q => kf ?_ H locs ls hP hS hL)
  · exact h3.mp q
  · exact Int.not_le.mp (fun z => q (h3.mpr z))
theorem z_icmp_eq (E : Ev X l0 G R0 cc nL Ts own ret mk post) {x y : Int} {off : Int} (tgt : Nat) (hdg : decode cc pc = .ok (.if_icmp .eq off, 3)) (ht : (pc : Int) + off = (tgt : Int)) (hx : inR x) (hy : inR y) (kt : x = y → Kz X G P V L tgt st) (kf : ¬ x = y → Kz X G P V L (pc + 3) st) : Kz X G P V L pc (.int (iI y) :: .int (iI x) :: st) := by
  obtain ⟨p, l, e, R, s, m, args, below, meth, c, Q⟩ := X
  intro H locs ls hP hS hL
  have h1 := iI_inj hx hy
  have h2 := iI_lt hx hy
  have h3 := iI_le hx hy
  have h4 := iI_lt hy hx
  have h5 := iI_le hy hx
  refine lv_icmp_eq E.1.1 E.1.2.1 hdg ht (fun q => kt ?_ H locs ls hP hS hL) (fun q => kf ?_ H locs ls hP hS hL)
  · exact h1.mp q
  · exact fun z => q (h1.mpr z)
theorem z_icmp_ne (E : Ev X l0 G R0 cc nL Ts own ret mk post) {x y : Int} {off : Int} (tgt : Nat) (hdg : decode cc pc = .ok (.if_icmp .ne off, 3)) (ht : (pc : Int) + off = (tgt : Int)) (hx : inR x) (hy : inR y) (kt : ¬ x = y → Kz X G P V L tgt st) (kf : x = y → Kz X G P V L (pc + 3) st) : Kz X G P V L pc (.int (iI y) :: .int (iI x) :: st) := by
  obtain ⟨p, l, e, R, s, m, args, below, meth, c, Q⟩ := X
  intro H locs ls hP hS hL
  have h1 := iI_inj hx hy
  have h2 := iI_lt hx hy
  have h3 := iI_le hx hy
  have h4 := iI_lt hy hx
  have h5 := iI_le hy hx
  refine lv_icmp_ne E.1.1 E.1.2.1 hdg ht (fun q => kt ?_ H locs ls hP hS hL) (fun q => kf ?_ H locs ls hP hS hL)
  · exact fun z => q (h1.mpr z)
  · exact h1.mp q
theorem z_icmp_lt (E : Ev X l0 G R0 cc nL Ts own ret mk post) {x y : Int} {off : Int} (tgt : Nat) (hdg : decode cc pc = .ok (.if_icmp .lt off, 3)) (ht : (pc : Int) + off = (tgt : Int)) (hx : inR x) (hy : inR y) (kt : x < y → Kz X G P V L tgt st) (kf : y ≤ x → Kz X G P V L (pc + 3) st) : Kz X G P V L pc (.int (iI y) :: .int (iI x) :: st) := by
  obtain ⟨p, l, e, R, s, m, args, below, meth, c, Q⟩ := X
  intro H locs ls hP hS hL
  have h1 := iI_inj hx hy
  have h2 := iI_lt hx hy
  have h3 := iI_le hx hy
  have h4 := iI_lt hy hx
  have h5 := iI_le hy hx
  refine lv_icmp_lt E.1.1 E.1.2.1 hdg ht (fun q => kt ?_ H locs ls hP hS hL) (fun q => kf ?_ H locs ls hP hS hL)
  · exact h2.mp q
  · exact Int.not_lt.mp (fun z => q (h2.mpr z))
theorem z_icmp_ge (E : Ev X l0 G R0 cc nL Ts own ret mk post) {x y : Int} {off : Int} (tgt : Nat) (hdg : decode cc pc = .ok (.if_icmp .ge off, 3)) (ht : (pc : Int) + off = (tgt : Int)) (hx : inR x) (hy : inR y) (kt : y ≤ x → Kz X G P V L tgt st) (kf : x < y → Kz X G P V L (pc + 3) st) : Kz X G P V L pc (.int (iI y) :: .int (iI x) :: st) := by
  obtain ⟨p, l, e, R, s, m, args, below, meth, c, Q⟩ := X
  intro H locs ls hP hS hL
  have h1 := iI_inj hx hy
  have h2 := iI_lt hx hy
  have h3 := iI_le hx hy
  have h4 := iI_lt hy hx
  have h5 := iI_le hy hx
  refine lv_icmp_ge E.1.1 E.1.2.1 hdg ht (fun q => kt ?_ H locs ls hP hS hL) (fun q => kf ?_ H locs ls hP hS hL)
  · exact h5.mp q
  · exact Int.not_le.mp (fun z => q (h5.mpr z))
theorem z_icmp_gt (E : Ev X l0 G R0 cc nL Ts own ret mk post) {x y : Int} {off : Int} (tgt : Nat) (hdg : decode cc pc = .ok (.if_icmp .gt off, 3)) (ht : (pc : Int) + off = (tgt : Int)) (hx : inR x) (hy : inR y) (kt : y < x → Kz X G P V L tgt st) (kf : x ≤ y → Kz X G P V L (pc + 3) st) : Kz X G P V L pc (.int (iI y) :: .int (iI x) :: st) := by
  obtain ⟨p, l, e, R, s, m, args, below, meth, c, Q⟩ := X
  intro H locs ls hP hS hL
  have h1 := iI_inj hx hy
  have h2 := iI_lt hx hy
  have h3 := iI_le hx hy
  have h4 := iI_lt hy hx
  have h5 := iI_le hy hx
  refine lv_icmp_gt E.1.1 E.1.2.1 hdg ht (fun q => kt ?_ H locs ls hP hS hL) (fun q => kf ?_ H locs ls hP hS hL)
  · exact h4.mp q
  · exact Int.not_lt.mp (fun z => q (h4.mpr z))
theorem z_icmp_le (E : Ev X l0 G R0 cc nL Ts own ret mk post) {x y : Int} {off : Int} (tgt : Nat) (hdg : decode cc pc = .ok (.if_icmp .le off, 3)) (ht : (pc : Int) + off = (tgt : Int)) (hx : inR x) (hy : inR y) (kt : x ≤ y → Kz X G P V L tgt st) (kf : y < x → Kz X G P V L (pc + 3) st) : Kz X G P V L pc (.int (iI y) :: .int (iI x) :: st) := by
  obtain ⟨p, l, e, R, s, m, args, below, meth, c, Q⟩ := X
  intro H locs ls hP hS hL
  have h1 := iI_inj hx hy
  have h2 := iI_lt hx hy
  have h3 := iI_le hx hy
  have h4 := iI_lt hy hx
  have h5 := iI_le hy hx
  refine lv_icmp_le E.1.1 E.1.2.1 hdg ht (fun q => kt ?_ H locs ls hP hS hL) (fun q => kf ?_ H locs ls hP hS hL)
  · exact h3.mp q
  · exact Int.not_le.mp (fun z => q (h3.mpr z))
theorem z_get (E : Ev X l0 G R0 cc nL Ts own ret mk post) {r w : Nat} (hv : vl r w = true) {ci N index : Nat} {C ref : String} {T : u_T} {fs : List Value} {v : Value} (he : cE G P (V r w) r w = .inr (ci, fs)) (hc : vwCl[ci]? = some (C, T, N)) (hin : ∀ x ∈ u_ws C T N, x ∈ Ts) (k : Nat) (hk : k < N) (href : ref = (T k).1) (hlink : Cond.fieldLink own index ref (T k).2.1 (T k).2.2.1 ∈ Ts) (hf : fs[k]? = some v) (hdg : decode cc pc = .ok (.getfield index, 3))
    (kk : Kz X G P V L (pc + 3) (v :: st)) : Kz X G P V L pc (.ref (ad G r w) :: st) := by
  obtain ⟨p, l, e, R, s, m, args, below, meth, c, Q⟩ := X
  intro H locs ls hP hS hL
  subst href
  exact va_get E.1.1 E.1.2.1 E.1.2.2.2.2 hin E.1.2.2.2.1 E.2.1.1 hP (psn r w) (by rw [WL_at hv, he]) hc k hk (E.1.2.2.2.2 _ hlink) (fun _ h => h) hf hdg (kk H locs ls hP hS hL)
theorem z_put (E : Ev X l0 G R0 cc nL Ts own ret mk post) {r w : Nat} (hv : vl r w = true) {ci N index : Nat} {C ref : String} {T : u_T} {fs : List Value} {x : Int} {ty : FieldType} (g : Int → Int) (he : cE G P (V r w) r w = .inr (ci, fs)) (hc : vwCl[ci]? = some (C, T, N)) (hin : ∀ x ∈ u_ws C T N, x ∈ Ts) (ty0 : Nat → FieldType) (hty : ∀ k, k < N → parseFieldDescriptor (T k).2.2.1 = some (ty0 k)) (hnm : ∀ a, a < N → ∀ b, b < N → a ≠ b → (T a).2.1 ≠ (T b).2.1) (k : Nat) (hk : k < N) (href : ref = (T k).1) (hlink : Cond.fieldLink own index ref (T k).2.1 (T k).2.2.1 ∈ Ts) (hfin : (T k).2.2.2 = false) (hd : parseFieldDescriptor (T k).2.2.1 = some ty) (hn : narrow ty (.int (iI x)) = .int (iI x)) (hfit : fits ty (.int (iI x)) = true) (hl : k < fs.length)
    (he' : cE G P g r w = .inr (ci, fs.set k (.int (iI x)))) (hdg : decode cc pc = .ok (.putfield index, 3))
    (kk : Kz X G P (up V r w g) L (pc + 3) st) : Kz X G P V L pc (.int (iI x) :: .ref (ad G r w) :: st) := by
  obtain ⟨p, l, e, R, s, m, args, below, meth, c, Q⟩ := X
  intro H locs ls hP hS hL
  subst href
  refine va_put E.1.1 E.1.2.1 E.1.2.2.2.2 hin ty0 hty hnm E.1.2.2.2.1 E.2.1.1 hP (WL_D E.2.2.1) hS (psn r w) (by rw [WL_at hv, he]) hc k hk (E.1.2.2.2.2 _ hlink) (fun _ h => h) hfin hd hn hfit hl hdg (fun H1 locs1 hP1 _ hS1 => ?_)
  rw [WL_set (P' := P) (V' := up V r w g) hv (by rw [up_s]; exact he') (fun r' w' _ hne => by rw [up_o hne])] at hP1
  exact kk H1 locs1 ls hP1 hS1 hL
/-- the world that a field of the whole object names -/
theorem z_putP (E : Ev X l0 G R0 cc nL Ts own ret mk post) {index : Nat} {ref : String} {wn : Nat} (P' : Nat → Nat) (hin : ∀ x ∈ wsX50, x ∈ Ts) (k : Nat) (hk : k < 2) (href : ref = (TX5 k).1) (hlink : Cond.fieldLink own index ref (TX5 k).2.1 (TX5 k).2.2.1 ∈ Ts) (hP' : P' = fun j => if j = k then wn else P j) (hdg : decode cc pc = .ok (.putfield index, 3))
    (kk : Kz X G P' V L (pc + 3) st) : Kz X G P V L pc (.ref (ad G 0 wn) :: .ref (ad G 10 0) :: st) := by
  obtain ⟨p, l, e, R, s, m, args, below, meth, c, Q⟩ := X
  intro H locs ls hP hS hL
  subst href
  have hv : vl 10 0 = true := rfl
  have hd : parseFieldDescriptor (TX5 k).2.2.1 = some (.object "SharedStates$World") := by
    rcases (show k = 0 ∨ k = 1 by omega) with rfl | rfl <;> decide +kernel
  have hfin : (TX5 k).2.2.2 = false := by
    rcases (show k = 0 ∨ k = 1 by omega) with rfl | rfl <;> decide +kernel
  refine va_put (ci := 5) (fs := [.ref (ad G 0 (P 0)), .ref (ad G 0 (P 1)), .ref (ad G 11 0), .ref (ad G 13 0)]) E.1.1 E.1.2.1 E.1.2.2.2.2 hin tyX5 tyX5_ok nmX5 E.1.2.2.2.1 E.2.1.1 hP (WL_D E.2.2.1) hS (psn 10 0) (by rw [WL_at hv]; rfl) rfl k (by omega) (E.1.2.2.2.2 _ hlink) (fun _ h => h) hfin hd rfl rfl (by show k < 4; omega) hdg (fun H1 locs1 hP1 _ hS1 => ?_)
  have hset : cE G P' (V 10 0) 10 0 = .inr (5, ([.ref (ad G 0 (P 0)), .ref (ad G 0 (P 1)), .ref (ad G 11 0), .ref (ad G 13 0)] : List Value).set k (.ref (ad G 0 wn))) := by
    subst hP'
    rcases (show k = 0 ∨ k = 1 by omega) with rfl | rfl <;> rfl
  rw [WL_set (P' := P') (V' := V) hv hset ?_] at hP1
  · exact kk H1 locs1 ls hP1 hS1 hL
  · intro r' w' h1 h2
    have hb := vl_lt h1
    have h12 : ∀ j, P' (2 + j) = P (2 + j) := fun j => by subst hP'; exact if_neg (by omega)
    have hne : r' = 10 → w' ≠ 0 := fun q z => h2 ⟨q, z⟩
    have hw : r' = 10 → w' = 0 := fun q => by
      subst q
      simp only [vl, Bool.or_eq_true, Bool.and_eq_true, Nat.blt_eq, Nat.ble_eq, Nat.beq_eq] at h1
      omega
    rcases (show r' = 0 ∨ r' = 1 ∨ r' = 2 ∨ r' = 3 ∨ r' = 4 ∨ r' = 5 ∨ r' = 6 ∨ r' = 7 ∨ r' = 8 ∨ r' = 9 ∨ r' = 10 ∨ r' = 11 ∨ r' = 12 ∨ r' = 13 ∨ r' = 14 ∨ r' = 15 ∨ r' = 16 ∨ r' = 17 ∨ r' = 18 ∨ r' = 19 ∨ r' = 20 ∨ r' = 21 ∨ r' = 22 ∨ r' = 23 by omega) with rfl | rfl | rfl | rfl | rfl | rfl | rfl | rfl | rfl | rfl | rfl | rfl | rfl | rfl | rfl | rfl | rfl | rfl | rfl | rfl | rfl | rfl | rfl | rfl
    all_goals first
      | rfl
      | exact absurd (hw rfl) (hne rfl)
      | (simp only [cE, h12])
theorem z_iald (E : Ev X l0 G R0 cc nL Ts own ret mk post) {r w : Nat} (hv : vl r w = true) (n : Nat) {i : Int} (he : cE G P (V r w) r w = aE G n (V r w)) (h0 : 0 ≤ i) (h1 : i < n) (hn : n ≤ 100000) (hdg : decode cc pc = .ok (.iaload, 1)) (kk : Kz X G P V L (pc + 1) (.int (iI (V r w i)) :: st)) : Kz X G P V L pc (.int (iI i) :: .ref (ad G r w) :: st) := by
  obtain ⟨p, l, e, R, s, m, args, below, meth, c, Q⟩ := X
  intro H locs ls hP hS hL
  refine va_iald (f := fun j : Nat => iI (V r w (j : Int))) E.1.1 E.1.2.1 E.2.1.1 hP (psn r w) 0 (by rw [WL_at hv, he]; rfl) rfl (iI_in h0 h1 hn) hdg ?_
  rw [iI_clamp h0 (by omega), Int.toNat_of_nonneg h0]
  exact kk H locs ls hP hS hL
theorem aE_upd {G : Gl} {n : Nat} {f : Int → Int} {i x : Int} (h0 : 0 ≤ i) (h1 : i ≤ 2147483647) : (.inl (gI G, n, .inl (upd (fun j : Nat => iI (f (j : Int))) (iI i).toNatClampNeg (iI x))) : va_E) = aE G n (updI f i x) := by
  unfold aE
  congr 3
  congr 1
  funext j
  rw [iI_clamp h0 h1]
  by_cases hj : j = i.toNat
  · subst hj
    rw [pk_us, Int.toNat_of_nonneg h0, updI_s]
  · rw [pk_un hj, updI_n (by omega)]
theorem z_iast (E : Ev X l0 G R0 cc nL Ts own ret mk post) {r w : Nat} (hv : vl r w = true) (n : Nat) {i x : Int} (he : ∀ f : Int → Int, cE G P f r w = aE G n f) (h0 : 0 ≤ i) (h1 : i < n) (hn : n ≤ 100000) (hdg : decode cc pc = .ok (.iastore, 1)) (kk : Kz X G P (up V r w (updI (V r w) i x)) L (pc + 1) st) : Kz X G P V L pc (.int (iI x) :: .int (iI i) :: .ref (ad G r w) :: st) := by
  obtain ⟨p, l, e, R, s, m, args, below, meth, c, Q⟩ := X
  intro H locs ls hP hS hL
  refine va_iast (f := fun j : Nat => iI (V r w (j : Int))) E.1.1 E.1.2.1 E.2.1.1 hP (WL_D E.2.2.1) hS (psn r w) 0 (by rw [WL_at hv, he]; rfl) rfl (iI_in h0 h1 hn) hdg (fun H1 locs1 hP1 _ hS1 => ?_)
  rw [aE_upd h0 (by omega), WL_set (P' := P) (V' := up V r w (updI (V r w) i x)) hv (by rw [up_s]; exact he _) (fun r' w' _ hne => by rw [up_o hne])] at hP1
  exact kk H1 locs1 ls hP1 hS1 hL
theorem z_alen (E : Ev X l0 G R0 cc nL Ts own ret mk post) {r w : Nat} (hv : vl r w = true) (n : Nat) (he : cE G P (V r w) r w = aE G n (V r w)) (hdg : decode cc pc = .ok (.arraylength, 1)) (kk : Kz X G P V L (pc + 1) (.int (iI (n : Int)) :: st)) : Kz X G P V L pc (.ref (ad G r w) :: st) := by
  obtain ⟨p, l, e, R, s, m, args, below, meth, c, Q⟩ := X
  intro H locs ls hP hS hL
  refine va_alen (x := (n, .inl (fun j : Nat => iI (V r w (j : Int))))) E.1.1 E.1.2.1 E.2.1.1 hP (psn r w) 0 (by rw [WL_at hv, he]; rfl) rfl (v := iI (n : Int)) (Int32.ofInt_eq_ofNat).symm hdg ?_
  exact kk H locs ls hP hS hL
theorem z_aald (E : Ev X l0 G R0 cc nL Ts own ret mk post) {i : Int} (h0 : 0 ≤ i) (h1 : i < 4) (hdg : decode cc pc = .ok (.aaload, 1)) (kk : Kz X G P V L (pc + 1) (.ref (ad G 0 (P (2 + i.toNat))) :: st)) : Kz X G P V L pc (.int (iI i) :: .ref (ad G 12 0) :: st) := by
  obtain ⟨p, l, e, R, s, m, args, below, meth, c, Q⟩ := X
  intro H locs ls hP hS hL
  have hv : vl 12 0 = true := rfl
  refine va_aldq (C := RX4) (n := 4) (f := fun j => some (ad G 0 (P (2 + j)))) E.1.1 E.1.2.1 E.2.1.1 hP (psn 12 0) 1 (by rw [WL_at hv]; rfl) rfl (iI_in h0 h1 (by omega)) hdg ?_
  rw [iI_clamp h0 (by omega)]
  exact kk H locs ls hP hS hL
theorem z_aast (E : Ev X l0 G R0 cc nL Ts own ret mk post) {i : Int} {wn : Nat} (P' : Nat → Nat) (hw : wn < 6) (h0 : 0 ≤ i) (h1 : i < 4) (hP' : P' = fun j => if j = 2 + i.toNat then wn else P j) (hdg : decode cc pc = .ok (.aastore, 1)) (kk : Kz X G P' V L (pc + 1) st) : Kz X G P V L pc (.ref (ad G 0 wn) :: .int (iI i) :: .ref (ad G 12 0) :: st) := by
  obtain ⟨p, l, e, R, s, m, args, below, meth, c, Q⟩ := X
  intro H locs ls hP hS hL
  have hv : vl 12 0 = true := rfl
  refine va_astq (f := fun j => some (ad G 0 (P (2 + j)))) (n := 4) (r := (RX4, TX4, 6)) (vs := [.ref (ad G 1 wn), .ref (ad G 4 wn), .ref (ad G 8 wn), .ref (ad G 9 wn), .int (iI (V 0 wn 4)), .int (iI (V 0 wn 5))]) E.1.1 E.1.2.1 E.2.1.1 hP (WL_D E.2.2.1) hS (psn 12 0) 1 (psn 0 wn) 4 (by rw [WL_at hv]; rfl) rfl (by rw [WL_at (vl_w (by omega) hw)]; rfl) rfl (iI_in h0 h1 (by omega)) hdg (fun H1 locs1 hP1 _ hS1 => ?_)
  have hset : ∀ f, cE G P' f 12 0 = .inl (gW G, 4, .inr (.inr (.inr (.inr (va_up (fun j => some (ad G 0 (P (2 + j)))) (iI i).toNatClampNeg (some (ad G 0 wn))))))) := by
    intro f
    rw [iI_clamp h0 (by omega)]
    subst hP'
    show (Sum.inl _ : va_E) = _
    congr 7
    funext j
    by_cases hj : j = i.toNat
    · subst hj; rw [va_up_self]; dsimp only; rw [if_pos rfl]
    · rw [va_up_ne _ _ hj]; dsimp only; rw [if_neg (by omega)]
  rw [WL_set (P' := P') (V' := V) hv (hset _) ?_] at hP1
  · exact kk H1 locs1 ls hP1 hS1 hL
  · intro r' w' h1 h2
    have hb := vl_lt h1
    have h12 : P' 0 = P 0 ∧ P' 1 = P 1 := by subst hP'; exact ⟨if_neg (by omega), if_neg (by omega)⟩
    have hne : r' = 12 → w' ≠ 0 := fun q z => h2 ⟨q, z⟩
    have hw : r' = 12 → w' = 0 := fun q => by
      subst q
      simp only [vl, Bool.or_eq_true, Bool.and_eq_true, Nat.blt_eq, Nat.ble_eq, Nat.beq_eq] at h1
      omega
    rcases (show r' = 0 ∨ r' = 1 ∨ r' = 2 ∨ r' = 3 ∨ r' = 4 ∨ r' = 5 ∨ r' = 6 ∨ r' = 7 ∨ r' = 8 ∨ r' = 9 ∨ r' = 10 ∨ r' = 11 ∨ r' = 12 ∨ r' = 13 ∨ r' = 14 ∨ r' = 15 ∨ r' = 16 ∨ r' = 17 ∨ r' = 18 ∨ r' = 19 ∨ r' = 20 ∨ r' = 21 ∨ r' = 22 ∨ r' = 23 by omega) with rfl | rfl | rfl | rfl | rfl | rfl | rfl | rfl | rfl | rfl | rfl | rfl | rfl | rfl | rfl | rfl | rfl | rfl | rfl | rfl | rfl | rfl | rfl | rfl
    all_goals first
      | rfl
      | exact absurd (hw rfl) (hne rfl)
      | (simp only [cE, h12.1, h12.2])
/-! returns -/
theorem z_fin {s t : State} {H : Heap} {locs : List Loc} (hP : va_P G.1 vwCl (WL G P V) H) (hS : va_S (mem G) s.heap H locs) (ht : t.heap = H) (r : Int) (hp : post r P V) {a : Array Value} : Qk G mk post a s (.returned (mk r)) t :=
  ⟨⟨r, P, V, rfl, hp, by rw [ht]; exact hP⟩, hS.F ht⟩
theorem z_iret (E : Ev X l0 G R0 cc nL Ts own (some .int) mkI post) {r : Int} (hdg : decode cc pc = .ok (.ireturn, 1)) (hp : post r P V) : Kz X G P V L pc [.int (iI r)] := by
  obtain ⟨p, l, e, R, s, m, args, below, meth, c, Q⟩ := X
  intro H locs ls hP hS hL
  obtain ⟨E1, -, -, hr, hlk, -, -, rfl⟩ := E
  exact W.iret (v := iI r) E1.1 E1.2.1 hr (fun t ht _ => z_fin (mk := mkI) hP hS ht r hp) hS.2.2 hdg hlk
theorem z_zret (E : Ev X l0 G R0 cc nL Ts own (some .boolean) mkI post) {r : Int} (hdg : decode cc pc = .ok (.ireturn, 1)) (h01 : r = 0 ∨ r = 1) (hp : post r P V) : Kz X G P V L pc [.int (iI r)] := by
  obtain ⟨p, l, e, R, s, m, args, below, meth, c, Q⟩ := X
  intro H locs ls hP hS hL
  obtain ⟨E1, -, -, hr, hlk, -, -, rfl⟩ := E
  exact W.zret (v := iI r) E1.1 E1.2.1 hr (by rcases h01 with rfl | rfl <;> rfl) (fun t ht _ => z_fin (mk := mkI) hP hS ht r hp) hS.2.2 hdg hlk
theorem z_vret (E : Ev X l0 G R0 cc nL Ts own none mkV post) (hdg : decode cc pc = .ok (.return_, 1)) (hp : post 0 P V) : Kz X G P V L pc [] := by
  obtain ⟨p, l, e, R, s, m, args, below, meth, c, Q⟩ := X
  intro H locs ls hP hS hL
  obtain ⟨E1, -, -, hr, hlk, -, -, rfl⟩ := E
  exact W.vret E1.1 E1.2.1 hr (fun t ht _ => z_fin (mk := mkV) hP hS ht 0 hp) hS.2.2 hdg hlk
theorem z_aret {n : String} (E : Ev X l0 G R0 cc nL Ts own (some (.object n)) (mkR G) post) {wn : Nat} (hdg : decode cc pc = .ok (.areturn, 1)) (hp : post (wn : Int) P V) : Kz X G P V L pc [.ref (ad G 0 wn)] := by
  obtain ⟨p, l, e, R, s, m, args, below, meth, c, Q⟩ := X
  intro H locs ls hP hS hL
  obtain ⟨E1, -, -, hr, hlk, -, -, rfl⟩ := E
  exact W.aret E1.1 E1.2.1 hr (Or.inl ⟨n, rfl⟩) (Or.inr ⟨_, rfl⟩) (fun t ht _ => z_fin (mk := mkR G) hP hS ht (wn : Int) hp) hS.2.2 hdg hlk
/-! calls -/
theorem z_go {p : Program} {l : Launch} {e : Env} {R : Room} {s : State} {m : MethodId} {args : Array Value} {below : List Frame} {meth : Method} {c : Code} {H : Heap} {locs : List Loc} {Q : State → Prop} {ls : Array Slot} {st0 rest : List Value} {a : Array Value} {mk' : Int → Option Value} {post' : Int → (Nat → Nat) → Vt → Prop}
    (hr : va_Run p l e R s m args below meth c H locs 0 0 0 0 (F0 m pc ls st0) rest (Qk G mk' post' a) (mem G)) (hS : va_S (mem G) s.heap H locs) (hL : Lh ls L)
    (kk : ∀ (r : Int) (P' : Nat → Nat) (V' : Vt), post' r P' V' → ∀ (H1 : Heap) (locs1 : List Loc) (ls : Array Slot), va_P G.1 vwCl (WL G P' V') H1 → va_S (mem G) s.heap H1 locs1 → Lh ls L → W p l e R s m args below meth c H1 locs1 0 0 Q (F0 m (pc + 3) ls ((mk' r).toList ++ rest))) : W p l e R s m args below meth c H locs 0 0 Q (F0 m pc ls st0) := by
  intro T hT X'
  obtain ⟨v, st₀, t, T', L', h0, X2, hL', e1, e2, ⟨⟨r, P', V', hv, hp, hb⟩, hz, hk⟩, sg⟩ := hr T hT X'
  cases hv
  rw [h0] at hz hk
  obtain ⟨t2, a1, b1⟩ := kk r P' V' hp T'.heap (locs ++ L') ls (by rw [e1]; exact hb)
    ⟨Nat.le_trans hS.1 (by rw [e1]; exact hz), fun q h1 h2 => by rw [e1, hk q (Nat.lt_of_lt_of_le h1 hS.1) h2]; exact hS.2.1 q h1 h2, fun q hq => by
      rcases List.mem_append.mp hq with h | h
      · exact hS.2.2 q h
      · exact hL' q h⟩ hL T' rfl X2
  exact ⟨t2, sg t2 a1, b1⟩
theorem Sg_pre {G : Gl} {P : Nat → Nat} {V : Vt} {s : State} {H : Heap} (hK : Kx G s) (hG : Gok G) (hP : va_P G.1 vwCl (WL G P V) H) (av : List Value) : PreS s H (va_Pc av (Sg G P V)) av :=
  ⟨fun a U g mk q => ⟨q.1, q.2.1, ⟨va_K.moved (u := U) (U := U.calling g mk a) (Vm.Alike.refl U.vm) q.2.2.1.1, q.2.2.1.2.same rfl⟩, q.2.2.2⟩, fun U hU hW => ⟨rfl, by rw [hU]; exact hP, hK.warm hW, hG⟩⟩
theorem Sg_preV {G : Gl} {P : Nat → Nat} {V : Vt} {s : State} {H : Heap} (hK : Kx G s) (hG : Gok G) (hP : va_P G.1 vwCl (WL G P V) H) {r w ci : Nat} (hv : vl r w = true) {q : vw_C} {fs : List Value} (he : cE G P (V r w) r w = .inr (ci, fs)) (hc : vwCl[ci]? = some q) (As : List Value) : PreV s H q.1 (ad G r w) (va_Pc (.ref (ad G r w) :: As) (Sg G P V)) As :=
  ⟨(Sg_pre hK hG hP _).1, va_recv hK.1 hP hc (by rw [WL_at hv, he]), (Sg_pre hK hG hP (.ref (ad G r w) :: As)).2⟩
theorem z_callV (E : Ev X l0 G R0 cc nL Ts own ret mk post) {r w ci N index maxL n : Nat} (hv : vl r w = true) {C : String} {T : u_T} {fs : List Value} (he : cE G P (V r w) r w = .inr (ci, fs)) (hc : vwCl[ci]? = some (C, T, N)) {y : MethodName} {bytes : ByteArray} {ret' : Option FieldType} {ws ws' : List Cond} {rm : Room} {mk' : Int → Option Value} {post' : Int → (Nat → Nat) → Vt → Prop} (As : List Value) {st0 : List Value}
    (hM : Met l0 y ws rm (va_Pc (.ref (ad G r w) :: As) (Sg G P V)) (Qk G mk' post') 0 0 (mem G)) (hg : GoodIn Ts (wsV own index C y ws)) (hw : ws = Cond.code y bytes maxL ret' :: ws') (hrc : rm.cells = 0 ∧ rm.slots = 0) (hd : y.cls = C ∧ y.cls ≠ "java/lang/invoke/MethodHandle" ∧ y.cls ≠ "java/lang/invoke/VarHandle" ∧ (parseMethodDescriptor y.desc).map (fun d => d.parameters.length) = some n) (hR : rm.frames + 1 ≤ R0.frames ∧ 8 + (maxL + 11) + rm.locals ≤ R0.locals) (hn : As.length = n) (hnl : L.length = nL) (hst : (st.map fun v => v.category).sum ≤ 8) (hs : st0 = As.reverse ++ .ref (ad G r w) :: st) (hdg : decode cc pc = .ok (.invokevirtual index, 3))
    (kk : ∀ (r : Int) (P' : Nat → Nat) (V' : Vt), post' r P' V' → Kz X G P' V' L (pc + 3) ((mk' r).toList ++ st)) : Kz X G P V L pc st0 := by
  obtain ⟨p, l, e, R, s, m, args, below, meth, c, Q⟩ := X
  intro H locs ls hP hS hL
  obtain ⟨E1, hK, hG, -, -, rfl, rfl, -⟩ := E
  exact z_go (va_runV E1 hM (cwV n E1.2.2.2.2 hg hw hrc.1 hrc.2 hd hR) (Sg_preV hK hG hP hv he hc As) rfl hn (hL.1.trans hnl) hs (lv_room hst) hdg ⟨Nat.zero_le _, Nat.zero_le _⟩) hS hL kk
theorem z_callS (E : Ev X l0 G R0 cc nL Ts own ret mk post) {index maxL n : Nat} {y : MethodName} {bytes : ByteArray} {ret' : Option FieldType} {ws ws' : List Cond} {rm : Room} {mk' : Int → Option Value} {post' : Int → (Nat → Nat) → Vt → Prop} (As : List Value) {st0 : List Value}
    (hM : Met l0 y ws rm (va_Pc As (Sg G P V)) (Qk G mk' post') 0 0 (mem G)) (hg : GoodIn Ts (va_wsS own index y ws)) (hw : ws = Cond.code y bytes maxL ret' :: ws') (hrc : rm.cells = 0 ∧ rm.slots = 0) (hd : y.cls ≠ "java/lang/invoke/MethodHandle" ∧ y.cls ≠ "java/lang/invoke/VarHandle" ∧ (parseMethodDescriptor y.desc).map (fun d => d.parameters.length) = some n) (hR : rm.frames + 1 ≤ R0.frames ∧ 8 + (maxL + 11) + rm.locals ≤ R0.locals) (hn : As.length = n) (hnl : L.length = nL) (hst : (st.map fun v => v.category).sum ≤ 8) (hs : st0 = As.reverse ++ st) (hdg : decode cc pc = .ok (.invokestatic index, 3))
    (kk : ∀ (r : Int) (P' : Nat → Nat) (V' : Vt), post' r P' V' → Kz X G P' V' L (pc + 3) ((mk' r).toList ++ st)) : Kz X G P V L pc st0 := by
  obtain ⟨p, l, e, R, s, m, args, below, meth, c, Q⟩ := X
  intro H locs ls hP hS hL
  obtain ⟨E1, hK, hG, -, -, rfl, rfl, -⟩ := E
  exact z_go (va_runS E1 hM (va_cwS n E1.2.2.2.2 hg hw hrc.1 hrc.2 hd hR) (Sg_pre hK hG hP As) rfl hn (hL.1.trans hnl) hs (lv_room hst) hdg ⟨Nat.zero_le _, Nat.zero_le _⟩) hS hL kk
theorem z_callN (E : Ev X l0 G R0 cc nL Ts own ret mk post) {index maxL n : Nat} {y : MethodName} {host : String} {bytes : ByteArray} {ret' : Option FieldType} {ws ws' : List Cond} {rm : Room} {mk' : Int → Option Value} {post' : Int → (Nat → Nat) → Vt → Prop} (As : List Value) {st0 : List Value} (hl : ∀ U, Nst U → va_Nw (.methodLinkNest own index y host) U) (hst1 : Cond.static y ∈ Ts) (hini : Cond.initialized y.cls ∈ Ts)
    (hM : Met l0 y ws rm (va_Pc As (Sg G P V)) (Qk G mk' post') 0 0 (mem G)) (hg : GoodIn Ts ws) (hw : ws = Cond.code y bytes maxL ret' :: ws') (hrc : rm.cells = 0 ∧ rm.slots = 0) (hd : y.cls ≠ "java/lang/invoke/MethodHandle" ∧ y.cls ≠ "java/lang/invoke/VarHandle" ∧ (parseMethodDescriptor y.desc).map (fun d => d.parameters.length) = some n) (hR : rm.frames + 1 ≤ R0.frames ∧ 8 + (maxL + 11) + rm.locals ≤ R0.locals) (hn : As.length = n) (hnl : L.length = nL) (hst : (st.map fun v => v.category).sum ≤ 8) (hs : st0 = As.reverse ++ st) (hdg : decode cc pc = .ok (.invokestatic index, 3))
    (kk : ∀ (r : Int) (P' : Nat → Nat) (V' : Vt), post' r P' V' → Kz X G P' V' L (pc + 3) ((mk' r).toList ++ st)) : Kz X G P V L pc st0 := by
  obtain ⟨p, l, e, R, s, m, args, below, meth, c, Q⟩ := X
  intro H locs ls hP hS hL
  obtain ⟨E1, hK, hG, -, -, rfl, rfl, -⟩ := E
  exact z_go (va_runSN E1 hM ⟨va_cnB n E1.2.2.2.2 hg hw hrc.1 hrc.2 (hl s hK.2) (E1.2.2.2.2 _ hini) hd hR, E1.2.2.2.2 _ hst1, trivial⟩ (Sg_pre hK hG hP As) rfl hn (hL.1.trans hnl) hs (lv_room hst) hdg ⟨Nat.zero_le _, Nat.zero_le _⟩) hS hL kk
/-! switches -/
theorem z_tsI (E : Ev X l0 G R0 cc nL Ts own ret mk post) {dflt lo hi : Int} {offs : Array Int} {len : Nat} {x off : Int} (k : Int) (tgt : Nat) (hk : x = k) (hx : inR x) (hdg : decode cc pc = .ok (.tableswitch dflt lo hi offs, len)) (h1 : ¬ k < lo) (h2 : ¬ hi < k) (ho : offs[(k - lo).toNat]? = some off) (ht : (pc : Int) + off = (tgt : Int)) (kk : Kz X G P V L tgt st) : Kz X G P V L pc (.int (iI x) :: st) := by
  obtain ⟨p, l, e, R, s, m, args, below, meth, c, Q⟩ := X
  intro H locs ls hP hS hL
  subst hk
  exact lv_tableIn E.1.1 E.1.2.1 hdg (by rw [iI_toInt hx]; exact h1) (by rw [iI_toInt hx]; exact h2) (by rw [iI_toInt hx]; exact ho) ht (kk H locs ls hP hS hL)
theorem z_tsO (E : Ev X l0 G R0 cc nL Ts own ret mk post) {dflt lo hi : Int} {offs : Array Int} {len : Nat} {x : Int} (tgt : Nat) (hx : inR x) (hdg : decode cc pc = .ok (.tableswitch dflt lo hi offs, len)) (h : x < lo ∨ hi < x) (ht : (pc : Int) + dflt = (tgt : Int)) (kk : Kz X G P V L tgt st) : Kz X G P V L pc (.int (iI x) :: st) := by
  obtain ⟨p, l, e, R, s, m, args, below, meth, c, Q⟩ := X
  intro H locs ls hP hS hL
  exact lv_tableOut E.1.1 E.1.2.1 hdg (by rw [iI_toInt hx]; exact h) ht (kk H locs ls hP hS hL)
theorem z_ls (E : Ev X l0 G R0 cc nL Ts own ret mk post) {dflt : Int} {pr : Array (Int × Int)} {len : Nat} {x off : Int} (tgt : Nat) (hx : inR x) (hdg : decode cc pc = .ok (.lookupswitch dflt pr, len)) (hp : (pr.toList.zip (pr.toList.drop 1)).all (fun (a, next) => a.1 < next.1) = true) (ho : Op.lookupswitch.offset pr.toList dflt x = off) (ht : (pc : Int) + off = (tgt : Int)) (kk : Kz X G P V L tgt st) : Kz X G P V L pc (.int (iI x) :: st) := by
  obtain ⟨p, l, e, R, s, m, args, below, meth, c, Q⟩ := X
  intro H locs ls hP hS hL
  exact lv_lookup E.1.1 E.1.2.1 hdg hp (by rw [iI_toInt hx]; exact ho) ht (kk H locs ls hP hS hL)
end ZR
end
section
def wsX0_init : List Cond := .code yX0_init cX0_init 1 none :: ([.methodLink RX0 3 objectInit, .instanceMethod objectInit, .code objectInit ⟨#[0xb1]⟩ 1 none, .arrayClass .int, .fieldLink RX0 9 "SharedStates$Blocks" "cells" "[I", .fieldLink RX0 15 "SharedStates$Blocks" "uses" "[I", .fieldLink RX0 18 "SharedStates$Blocks" "made" "I", .fieldLink RX0 22 "SharedStates$Blocks" "taken" "I"] ++ wsX00)
def wsX0_becomeLike : List Cond := .code yX0_becomeLike cX0_becomeLike 2 none :: ([.fieldLink RX0 9 "SharedStates$Blocks" "cells" "[I", .methodLink RX0 25 arraycopyName, .native arraycopyName, .static arraycopyName, .initialized "java/lang/System", .fieldLink RX0 15 "SharedStates$Blocks" "uses" "[I", .fieldLink RX0 18 "SharedStates$Blocks" "made" "I", .fieldLink RX0 22 "SharedStates$Blocks" "taken" "I"] ++ wsX00)
def wsX5_isIndex : List Cond := .code yX5_isIndex cX5_isIndex 2 (some .boolean) :: ([])
def wsX0_usesOf : List Cond := .code yX0_usesOf cX0_usesOf 2 (some .int) :: ([.fieldLink RX0 15 "SharedStates$Blocks" "uses" "[I", .static yX5_isIndex, .initialized RX5, .code yX5_isIndex cX5_isIndex 2 (some .boolean)] ++ wsX00)
def wsX0_addUses : List Cond := .code yX0_addUses cX0_addUses 3 none :: ([.fieldLink RX0 15 "SharedStates$Blocks" "uses" "[I", .static yX5_isIndex, .initialized RX5, .code yX5_isIndex cX5_isIndex 2 (some .boolean)] ++ wsX00)
def wsX0_isThere : List Cond := .code yX0_isThere cX0_isThere 2 (some .boolean) :: ([.fieldLink RX0 15 "SharedStates$Blocks" "uses" "[I"] ++ wsX00)
def wsX0_cellOf : List Cond := .code yX0_cellOf cX0_cellOf 4 (some .int) :: ([.fieldLink RX0 9 "SharedStates$Blocks" "cells" "[I"] ++ wsX00)
def wsX0_there : List Cond := .code yX0_there cX0_there 3 (some .int) :: ([.methodLink RX0 35 yX0_isThere, .instanceMethod yX0_isThere, .selects RX0 yX0_isThere yX0_isThere, .initialized RX0, .code yX0_isThere cX0_isThere 2 (some .boolean), .fieldLink RX0 15 "SharedStates$Blocks" "uses" "[I"] ++ wsX00)
def wsX0_holds : List Cond := .code yX0_holds cX0_holds 5 (some .boolean) :: ([.fieldLink RX0 15 "SharedStates$Blocks" "uses" "[I", .fieldLink RX0 9 "SharedStates$Blocks" "cells" "[I"] ++ wsX00)
def wsX0_lowestHolding : List Cond := .code yX0_lowestHolding cX0_lowestHolding 4 (some .int) :: ([.methodLink RX0 39 yX0_holds, .instanceMethod yX0_holds, .selects RX0 yX0_holds yX0_holds, .initialized RX0, .code yX0_holds cX0_holds 5 (some .boolean), .fieldLink RX0 15 "SharedStates$Blocks" "uses" "[I", .fieldLink RX0 9 "SharedStates$Blocks" "cells" "[I"] ++ wsX00)
def wsX0_lowestOtherLike : List Cond := .code yX0_lowestOtherLike cX0_lowestOtherLike 3 (some .int) :: ([.fieldLink RX0 9 "SharedStates$Blocks" "cells" "[I", .methodLink RX0 39 yX0_holds, .instanceMethod yX0_holds, .selects RX0 yX0_holds yX0_holds, .initialized RX0, .code yX0_holds cX0_holds 5 (some .boolean), .fieldLink RX0 15 "SharedStates$Blocks" "uses" "[I"] ++ wsX00)
def wsX0_make : List Cond := .code yX0_make cX0_make 4 (some .int) :: ([.fieldLink RX0 15 "SharedStates$Blocks" "uses" "[I", .fieldLink RX0 9 "SharedStates$Blocks" "cells" "[I", .methodLink RX0 25 arraycopyName, .native arraycopyName, .static arraycopyName, .initialized "java/lang/System", .fieldLink RX0 18 "SharedStates$Blocks" "made" "I"] ++ wsX00)
def wsX0_sumOf : List Cond := .code yX0_sumOf cX0_sumOf 4 (some .int) :: ([.methodLink RX0 43 yX0_cellOf, .instanceMethod yX0_cellOf, .selects RX0 yX0_cellOf yX0_cellOf, .initialized RX0, .code yX0_cellOf cX0_cellOf 4 (some .int), .fieldLink RX0 9 "SharedStates$Blocks" "cells" "[I"] ++ wsX00)
def wsX0_nonZeroCells : List Cond := .code yX0_nonZeroCells cX0_nonZeroCells 4 (some .int) :: ([.methodLink RX0 43 yX0_cellOf, .instanceMethod yX0_cellOf, .selects RX0 yX0_cellOf yX0_cellOf, .initialized RX0, .code yX0_cellOf cX0_cellOf 4 (some .int), .fieldLink RX0 9 "SharedStates$Blocks" "cells" "[I"] ++ wsX00)
def wsX0_doubles : List Cond := .code yX0_doubles cX0_doubles 3 (some .int) :: ([.fieldLink RX0 9 "SharedStates$Blocks" "cells" "[I", .methodLink RX0 35 yX0_isThere, .instanceMethod yX0_isThere, .selects RX0 yX0_isThere yX0_isThere, .initialized RX0, .code yX0_isThere cX0_isThere 2 (some .boolean), .fieldLink RX0 15 "SharedStates$Blocks" "uses" "[I", .methodLink RX0 47 yX0_lowestHolding, .instanceMethod yX0_lowestHolding, .selects RX0 yX0_lowestHolding yX0_lowestHolding, .code yX0_lowestHolding cX0_lowestHolding 4 (some .int), .methodLink RX0 39 yX0_holds, .instanceMethod yX0_holds, .selects RX0 yX0_holds yX0_holds, .code yX0_holds cX0_holds 5 (some .boolean)] ++ wsX00)
def wsX3_init : List Cond := .code yX3_init cX3_init 1 none :: ([.methodLink RX3 3 objectInit, .instanceMethod objectInit, .code objectInit ⟨#[0xb1]⟩ 1 none, .arrayClass .int, .fieldLink RX3 9 "SharedStates$States" "numbers" "[I", .fieldLink RX3 15 "SharedStates$States" "parents" "[I", .fieldLink RX3 18 "SharedStates$States" "places" "[I", .fieldLink RX3 21 "SharedStates$States" "size" "I", .fieldLink RX3 25 "SharedStates$States" "made" "I"] ++ wsX30)
def wsX4_init_r1 : List Cond := [Cond.methodLink RX4 3 objectInit, Cond.instanceMethod objectInit, Cond.code objectInit ⟨#[0xb1]⟩ 1 none, Cond.classLink RX4 9 RX0, Cond.instantiable RX0 4, Cond.initialized RX0, Cond.fieldLink RX4 12 "SharedStates$World" "blocks" "LSharedStates$Blocks;", Cond.classLink RX4 18 RX3, Cond.instantiable RX3 5, Cond.initialized RX3, Cond.fieldLink RX4 21 "SharedStates$World" "states" "LSharedStates$States;", Cond.arrayClass .int, Cond.fieldLink RX4 25 "SharedStates$World" "heads" "[I", Cond.fieldLink RX4 29 "SharedStates$World" "draft" "[I", Cond.fieldLink RX4 32 "SharedStates$World" "sharing" "I", Cond.fieldLink RX4 36 "SharedStates$World" "conflictsSoFar" "I", Cond.methodLink RX4 11 yX0_init, Cond.instanceMethod yX0_init, Cond.code yX0_init cX0_init 1 none, Cond.methodLink RX0 3 objectInit, Cond.fieldLink RX0 9 "SharedStates$Blocks" "cells" "[I", Cond.fieldLink RX0 15 "SharedStates$Blocks" "uses" "[I", Cond.fieldLink RX0 18 "SharedStates$Blocks" "made" "I", Cond.fieldLink RX0 22 "SharedStates$Blocks" "taken" "I"]
def wsX4_init_r2 : List Cond := [Cond.methodLink RX4 20 yX3_init, Cond.instanceMethod yX3_init, Cond.code yX3_init cX3_init 1 none, Cond.methodLink RX3 3 objectInit, Cond.fieldLink RX3 9 "SharedStates$States" "numbers" "[I", Cond.fieldLink RX3 15 "SharedStates$States" "parents" "[I", Cond.fieldLink RX3 18 "SharedStates$States" "places" "[I", Cond.fieldLink RX3 21 "SharedStates$States" "size" "I", Cond.fieldLink RX3 25 "SharedStates$States" "made" "I"]
def wsX4_init : List Cond := .code yX4_init cX4_init 2 none :: ((wsX4_init_r1 ++ wsX4_init_r2) ++ wsX00 ++ wsX40 ++ wsX30)
def wsX1_init_r1 : List Cond := [Cond.methodLink RX1 3 objectInit, Cond.instanceMethod objectInit, Cond.code objectInit ⟨#[0xb1]⟩ 1 none, Cond.classLink RX1 9 RX4, Cond.fieldLink RX1 11 "SharedStates$History" "records" "[LSharedStates$World;", Cond.fieldLink RX1 17 "SharedStates$History" "oldest" "I", Cond.fieldLink RX1 21 "SharedStates$History" "size" "I", Cond.instantiable RX4 6, Cond.initialized RX4, Cond.methodLink RX1 24 yX4_init, Cond.instanceMethod yX4_init, Cond.code yX4_init cX4_init 2 none, Cond.methodLink RX4 3 objectInit, Cond.classLink RX4 9 RX0, Cond.instantiable RX0 4, Cond.initialized RX0, Cond.fieldLink RX4 12 "SharedStates$World" "blocks" "LSharedStates$Blocks;", Cond.classLink RX4 18 RX3, Cond.instantiable RX3 5, Cond.initialized RX3, Cond.fieldLink RX4 21 "SharedStates$World" "states" "LSharedStates$States;", Cond.arrayClass .int, Cond.fieldLink RX4 25 "SharedStates$World" "heads" "[I", Cond.fieldLink RX4 29 "SharedStates$World" "draft" "[I"]
def wsX1_init_r2 : List Cond := [Cond.fieldLink RX4 32 "SharedStates$World" "sharing" "I", Cond.fieldLink RX4 36 "SharedStates$World" "conflictsSoFar" "I", Cond.methodLink RX4 11 yX0_init, Cond.instanceMethod yX0_init, Cond.code yX0_init cX0_init 1 none, Cond.methodLink RX0 3 objectInit, Cond.fieldLink RX0 9 "SharedStates$Blocks" "cells" "[I", Cond.fieldLink RX0 15 "SharedStates$Blocks" "uses" "[I", Cond.fieldLink RX0 18 "SharedStates$Blocks" "made" "I", Cond.fieldLink RX0 22 "SharedStates$Blocks" "taken" "I", Cond.methodLink RX4 20 yX3_init, Cond.instanceMethod yX3_init, Cond.code yX3_init cX3_init 1 none, Cond.methodLink RX3 3 objectInit, Cond.fieldLink RX3 9 "SharedStates$States" "numbers" "[I", Cond.fieldLink RX3 15 "SharedStates$States" "parents" "[I", Cond.fieldLink RX3 18 "SharedStates$States" "places" "[I", Cond.fieldLink RX3 21 "SharedStates$States" "size" "I", Cond.fieldLink RX3 25 "SharedStates$States" "made" "I"]
def wsX1_init : List Cond := .code yX1_init cX1_init 2 none :: ((wsX1_init_r1 ++ wsX1_init_r2) ++ wsX10 ++ wsX40 ++ wsX00 ++ wsX30)
def wsX1_add : List Cond := .code yX1_add cX1_add 4 (some (.object "SharedStates$World")) :: ([.fieldLink RX1 17 "SharedStates$History" "oldest" "I", .fieldLink RX1 21 "SharedStates$History" "size" "I", .fieldLink RX1 11 "SharedStates$History" "records" "[LSharedStates$World;"] ++ wsX10)
def wsX1_exchangeLatest : List Cond := .code yX1_exchangeLatest cX1_exchangeLatest 4 (some (.object "SharedStates$World")) :: ([.fieldLink RX1 21 "SharedStates$History" "size" "I", .fieldLink RX1 17 "SharedStates$History" "oldest" "I", .fieldLink RX1 11 "SharedStates$History" "records" "[LSharedStates$World;"] ++ wsX10)
def wsX2_init : List Cond := .code yX2_init cX2_init 1 none :: ([.methodLink RX2 3 objectInit, .instanceMethod objectInit, .code objectInit ⟨#[0xb1]⟩ 1 none, .arrayClass .int, .fieldLink RX2 9 "SharedStates$Orders" "signs" "[I", .fieldLink RX2 15 "SharedStates$Orders" "numbers" "[I", .fieldLink RX2 18 "SharedStates$Orders" "length" "I", .fieldLink RX2 22 "SharedStates$Orders" "position" "I", .fieldLink RX2 25 "SharedStates$Orders" "done" "I", .fieldLink RX2 28 "SharedStates$Orders" "faultPosition" "I", .fieldLink RX2 31 "SharedStates$Orders" "faultReason" "I", .fieldLink RX2 34 "SharedStates$Orders" "faultCause" "I"] ++ wsX20)
def wsX2_append : List Cond := .code yX2_append cX2_append 2 (some .boolean) :: ([.fieldLink RX2 18 "SharedStates$Orders" "length" "I", .fieldLink RX2 9 "SharedStates$Orders" "signs" "[I"] ++ wsX20)
def wsX2_signHere : List Cond := .code yX2_signHere cX2_signHere 1 (some .int) :: ([.fieldLink RX2 22 "SharedStates$Orders" "position" "I", .fieldLink RX2 18 "SharedStates$Orders" "length" "I", .fieldLink RX2 9 "SharedStates$Orders" "signs" "[I"] ++ wsX20)
def wsX2_numbersOf : List Cond := .code yX2_numbersOf cX2_numbersOf 1 (some .int) :: ([])
def wsX2_readNumber : List Cond := .code yX2_readNumber cX2_readNumber 4 (some .boolean) :: ([.fieldLink RX2 22 "SharedStates$Orders" "position" "I", .fieldLink RX2 15 "SharedStates$Orders" "numbers" "[I", .methodLink RX2 49 yX2_signHere, .instanceMethod yX2_signHere, .selects RX2 yX2_signHere yX2_signHere, .initialized RX2, .code yX2_signHere cX2_signHere 1 (some .int), .fieldLink RX2 18 "SharedStates$Orders" "length" "I", .fieldLink RX2 9 "SharedStates$Orders" "signs" "[I"] ++ wsX20)
def wsX2_readOrder : List Cond := .code yX2_readOrder cX2_readOrder 3 (some .boolean) :: ([.fieldLink RX2 22 "SharedStates$Orders" "position" "I", .methodLink RX2 49 yX2_signHere, .instanceMethod yX2_signHere, .selects RX2 yX2_signHere yX2_signHere, .initialized RX2, .code yX2_signHere cX2_signHere 1 (some .int), .fieldLink RX2 18 "SharedStates$Orders" "length" "I", .fieldLink RX2 9 "SharedStates$Orders" "signs" "[I", .methodLink RX2 53 yX2_numbersOf, .static yX2_numbersOf, .code yX2_numbersOf cX2_numbersOf 1 (some .int), .methodLink RX2 57 yX2_readNumber, .instanceMethod yX2_readNumber, .selects RX2 yX2_readNumber yX2_readNumber, .code yX2_readNumber cX2_readNumber 4 (some .boolean), .fieldLink RX2 15 "SharedStates$Orders" "numbers" "[I"] ++ wsX20)
def wsX2_keepFault : List Cond := .code yX2_keepFault cX2_keepFault 4 (some .boolean) :: ([.fieldLink RX2 28 "SharedStates$Orders" "faultPosition" "I", .fieldLink RX2 31 "SharedStates$Orders" "faultReason" "I", .fieldLink RX2 34 "SharedStates$Orders" "faultCause" "I"] ++ wsX20)
def wsX4_isBranch : List Cond := .code yX4_isBranch cX4_isBranch 2 (some .boolean) :: ([.fieldLink RX4 25 "SharedStates$World" "heads" "[I", .static yX5_isIndex, .initialized RX5, .code yX5_isIndex cX5_isIndex 2 (some .boolean)] ++ wsX40)
def wsX3_slotOf : List Cond := .code yX3_slotOf cX3_slotOf 3 (some .int) :: ([.fieldLink RX3 21 "SharedStates$States" "size" "I", .fieldLink RX3 9 "SharedStates$States" "numbers" "[I"] ++ wsX30)
def wsX4_headSlot : List Cond := .code yX4_headSlot cX4_headSlot 2 (some .int) :: ([.fieldLink RX4 21 "SharedStates$World" "states" "LSharedStates$States;", .fieldLink RX4 25 "SharedStates$World" "heads" "[I", .methodLink RX4 56 yX4_isBranch, .instanceMethod yX4_isBranch, .selects RX4 yX4_isBranch yX4_isBranch, .initialized RX4, .code yX4_isBranch cX4_isBranch 2 (some .boolean), .static yX5_isIndex, .initialized RX5, .code yX5_isIndex cX5_isIndex 2 (some .boolean), .methodLink RX4 60 yX3_slotOf, .instanceMethod yX3_slotOf, .selects RX3 yX3_slotOf yX3_slotOf, .initialized RX3, .code yX3_slotOf cX3_slotOf 3 (some .int), .fieldLink RX3 21 "SharedStates$States" "size" "I", .fieldLink RX3 9 "SharedStates$States" "numbers" "[I"] ++ wsX40 ++ wsX30)
def wsX5_isRange : List Cond := .code yX5_isRange cX5_isRange 2 (some .boolean) :: ([.methodLink RX5 81 yX5_isIndex, .static yX5_isIndex, .initialized RX5, .code yX5_isIndex cX5_isIndex 2 (some .boolean)])
def wsX3_block : List Cond := .code yX3_block cX3_block 4 (some .int) :: ([.fieldLink RX3 21 "SharedStates$States" "size" "I", .fieldLink RX3 18 "SharedStates$States" "places" "[I"] ++ wsX30)
def wsX4_cellAt : List Cond := .code yX4_cellAt cX4_cellAt 3 (some .int) :: ([.fieldLink RX4 12 "SharedStates$World" "blocks" "LSharedStates$Blocks;", .fieldLink RX4 21 "SharedStates$World" "states" "LSharedStates$States;", .methodLink RX4 64 yX3_block, .instanceMethod yX3_block, .selects RX3 yX3_block yX3_block, .initialized RX3, .code yX3_block cX3_block 4 (some .int), .fieldLink RX3 21 "SharedStates$States" "size" "I", .fieldLink RX3 18 "SharedStates$States" "places" "[I", .methodLink RX4 68 yX0_cellOf, .instanceMethod yX0_cellOf, .selects RX0 yX0_cellOf yX0_cellOf, .initialized RX0, .code yX0_cellOf cX0_cellOf 4 (some .int), .fieldLink RX0 9 "SharedStates$Blocks" "cells" "[I"] ++ wsX40 ++ wsX30 ++ wsX00)
def wsX4_draftState : List Cond := .code yX4_draftState cX4_draftState 3 none :: ([.fieldLink RX4 29 "SharedStates$World" "draft" "[I", .methodLink RX4 74 yX4_cellAt, .instanceMethod yX4_cellAt, .selects RX4 yX4_cellAt yX4_cellAt, .initialized RX4, .code yX4_cellAt cX4_cellAt 3 (some .int), .fieldLink RX4 12 "SharedStates$World" "blocks" "LSharedStates$Blocks;", .fieldLink RX4 21 "SharedStates$World" "states" "LSharedStates$States;", .methodLink RX4 64 yX3_block, .instanceMethod yX3_block, .selects RX3 yX3_block yX3_block, .initialized RX3, .code yX3_block cX3_block 4 (some .int), .fieldLink RX3 21 "SharedStates$States" "size" "I", .fieldLink RX3 18 "SharedStates$States" "places" "[I", .methodLink RX4 68 yX0_cellOf, .instanceMethod yX0_cellOf, .selects RX0 yX0_cellOf yX0_cellOf, .initialized RX0, .code yX0_cellOf cX0_cellOf 4 (some .int), .fieldLink RX0 9 "SharedStates$Blocks" "cells" "[I"] ++ wsX40 ++ wsX30 ++ wsX00)
def wsX3_numberOf : List Cond := .code yX3_numberOf cX3_numberOf 2 (some .int) :: ([.fieldLink RX3 21 "SharedStates$States" "size" "I", .fieldLink RX3 9 "SharedStates$States" "numbers" "[I"] ++ wsX30)
def wsX3_add : List Cond := .code yX3_add cX3_add 2 (some .int) :: ([.fieldLink RX3 9 "SharedStates$States" "numbers" "[I", .fieldLink RX3 21 "SharedStates$States" "size" "I", .fieldLink RX3 25 "SharedStates$States" "made" "I", .fieldLink RX3 15 "SharedStates$States" "parents" "[I"] ++ wsX30)
def wsX4_addDraft_r1 : List Cond := [Cond.fieldLink RX4 21 "SharedStates$World" "states" "LSharedStates$States;", Cond.fieldLink RX4 116 "SharedStates$States" "size" "I", Cond.constant RX4 119 (-1000003), Cond.fieldLink RX4 12 "SharedStates$World" "blocks" "LSharedStates$Blocks;", Cond.fieldLink RX4 29 "SharedStates$World" "draft" "[I", Cond.fieldLink RX4 32 "SharedStates$World" "sharing" "I", Cond.fieldLink RX4 128 "SharedStates$Blocks" "taken" "I", Cond.fieldLink RX4 138 "SharedStates$States" "places" "[I", Cond.fieldLink RX4 25 "SharedStates$World" "heads" "[I", Cond.methodLink RX4 64 yX3_block, Cond.instanceMethod yX3_block, Cond.selects RX3 yX3_block yX3_block, Cond.initialized RX3, Cond.code yX3_block cX3_block 4 (some .int), Cond.fieldLink RX3 21 "SharedStates$States" "size" "I", Cond.fieldLink RX3 18 "SharedStates$States" "places" "[I", Cond.methodLink RX4 120 yX0_holds, Cond.instanceMethod yX0_holds, Cond.selects RX0 yX0_holds yX0_holds, Cond.initialized RX0, Cond.code yX0_holds cX0_holds 5 (some .boolean), Cond.fieldLink RX0 15 "SharedStates$Blocks" "uses" "[I", Cond.fieldLink RX0 9 "SharedStates$Blocks" "cells" "[I", Cond.methodLink RX4 124 yX0_lowestHolding]
def wsX4_addDraft_r2 : List Cond := [Cond.instanceMethod yX0_lowestHolding, Cond.selects RX0 yX0_lowestHolding yX0_lowestHolding, Cond.code yX0_lowestHolding cX0_lowestHolding 4 (some .int), Cond.methodLink RX0 39 yX0_holds, Cond.methodLink RX4 131 yX0_make, Cond.instanceMethod yX0_make, Cond.selects RX0 yX0_make yX0_make, Cond.code yX0_make cX0_make 4 (some .int), Cond.methodLink RX0 25 arraycopyName, Cond.native arraycopyName, Cond.static arraycopyName, Cond.initialized "java/lang/System", Cond.fieldLink RX0 18 "SharedStates$Blocks" "made" "I", Cond.methodLink RX4 134 yX0_addUses, Cond.instanceMethod yX0_addUses, Cond.selects RX0 yX0_addUses yX0_addUses, Cond.code yX0_addUses cX0_addUses 3 none, Cond.static yX5_isIndex, Cond.initialized RX5, Cond.code yX5_isIndex cX5_isIndex 2 (some .boolean), Cond.methodLink RX4 89 yX3_numberOf, Cond.instanceMethod yX3_numberOf, Cond.selects RX3 yX3_numberOf yX3_numberOf, Cond.code yX3_numberOf cX3_numberOf 2 (some .int)]
def wsX4_addDraft_r3 : List Cond := [Cond.fieldLink RX3 9 "SharedStates$States" "numbers" "[I", Cond.methodLink RX4 141 yX3_add, Cond.instanceMethod yX3_add, Cond.selects RX3 yX3_add yX3_add, Cond.code yX3_add cX3_add 2 (some .int), Cond.fieldLink RX3 25 "SharedStates$States" "made" "I", Cond.fieldLink RX3 15 "SharedStates$States" "parents" "[I"]
def wsX4_addDraft : List Cond := .code yX4_addDraft cX4_addDraft 7 (some .int) :: ((wsX4_addDraft_r1 ++ (wsX4_addDraft_r2 ++ wsX4_addDraft_r3)) ++ wsX40 ++ wsX30 ++ wsX00)
def wsX4_fillCells_r1 : List Cond := [Cond.constant RX4 101 (-1000001), Cond.fieldLink RX4 29 "SharedStates$World" "draft" "[I", Cond.methodLink RX4 95 yX4_headSlot, Cond.instanceMethod yX4_headSlot, Cond.selects RX4 yX4_headSlot yX4_headSlot, Cond.initialized RX4, Cond.code yX4_headSlot cX4_headSlot 2 (some .int), Cond.fieldLink RX4 21 "SharedStates$World" "states" "LSharedStates$States;", Cond.fieldLink RX4 25 "SharedStates$World" "heads" "[I", Cond.methodLink RX4 56 yX4_isBranch, Cond.instanceMethod yX4_isBranch, Cond.selects RX4 yX4_isBranch yX4_isBranch, Cond.code yX4_isBranch cX4_isBranch 2 (some .boolean), Cond.static yX5_isIndex, Cond.initialized RX5, Cond.code yX5_isIndex cX5_isIndex 2 (some .boolean), Cond.methodLink RX4 60 yX3_slotOf, Cond.instanceMethod yX3_slotOf, Cond.selects RX3 yX3_slotOf yX3_slotOf, Cond.initialized RX3, Cond.code yX3_slotOf cX3_slotOf 3 (some .int), Cond.fieldLink RX3 21 "SharedStates$States" "size" "I", Cond.fieldLink RX3 9 "SharedStates$States" "numbers" "[I", Cond.static yX5_isRange]
def wsX4_fillCells_r2 : List Cond := [Cond.code yX5_isRange cX5_isRange 2 (some .boolean), Cond.methodLink RX5 81 yX5_isIndex, Cond.methodLink RX4 102 yX4_draftState, Cond.instanceMethod yX4_draftState, Cond.selects RX4 yX4_draftState yX4_draftState, Cond.code yX4_draftState cX4_draftState 3 none, Cond.methodLink RX4 74 yX4_cellAt, Cond.instanceMethod yX4_cellAt, Cond.selects RX4 yX4_cellAt yX4_cellAt, Cond.code yX4_cellAt cX4_cellAt 3 (some .int), Cond.fieldLink RX4 12 "SharedStates$World" "blocks" "LSharedStates$Blocks;", Cond.methodLink RX4 64 yX3_block, Cond.instanceMethod yX3_block, Cond.selects RX3 yX3_block yX3_block, Cond.code yX3_block cX3_block 4 (some .int), Cond.fieldLink RX3 18 "SharedStates$States" "places" "[I", Cond.methodLink RX4 68 yX0_cellOf, Cond.instanceMethod yX0_cellOf, Cond.selects RX0 yX0_cellOf yX0_cellOf, Cond.initialized RX0, Cond.code yX0_cellOf cX0_cellOf 4 (some .int), Cond.fieldLink RX0 9 "SharedStates$Blocks" "cells" "[I", Cond.methodLink RX4 106 yX4_addDraft, Cond.instanceMethod yX4_addDraft]
def wsX4_fillCells_r3 : List Cond := [Cond.selects RX4 yX4_addDraft yX4_addDraft, Cond.code yX4_addDraft cX4_addDraft 7 (some .int), Cond.fieldLink RX4 116 "SharedStates$States" "size" "I", Cond.constant RX4 119 (-1000003), Cond.fieldLink RX4 32 "SharedStates$World" "sharing" "I", Cond.fieldLink RX4 128 "SharedStates$Blocks" "taken" "I", Cond.fieldLink RX4 138 "SharedStates$States" "places" "[I", Cond.methodLink RX4 120 yX0_holds, Cond.instanceMethod yX0_holds, Cond.selects RX0 yX0_holds yX0_holds, Cond.code yX0_holds cX0_holds 5 (some .boolean), Cond.fieldLink RX0 15 "SharedStates$Blocks" "uses" "[I", Cond.methodLink RX4 124 yX0_lowestHolding, Cond.instanceMethod yX0_lowestHolding, Cond.selects RX0 yX0_lowestHolding yX0_lowestHolding, Cond.code yX0_lowestHolding cX0_lowestHolding 4 (some .int), Cond.methodLink RX0 39 yX0_holds, Cond.methodLink RX4 131 yX0_make, Cond.instanceMethod yX0_make, Cond.selects RX0 yX0_make yX0_make, Cond.code yX0_make cX0_make 4 (some .int), Cond.methodLink RX0 25 arraycopyName, Cond.native arraycopyName, Cond.static arraycopyName]
def wsX4_fillCells_r4 : List Cond := [Cond.initialized "java/lang/System", Cond.fieldLink RX0 18 "SharedStates$Blocks" "made" "I", Cond.methodLink RX4 134 yX0_addUses, Cond.instanceMethod yX0_addUses, Cond.selects RX0 yX0_addUses yX0_addUses, Cond.code yX0_addUses cX0_addUses 3 none, Cond.methodLink RX4 89 yX3_numberOf, Cond.instanceMethod yX3_numberOf, Cond.selects RX3 yX3_numberOf yX3_numberOf, Cond.code yX3_numberOf cX3_numberOf 2 (some .int), Cond.methodLink RX4 141 yX3_add, Cond.instanceMethod yX3_add, Cond.selects RX3 yX3_add yX3_add, Cond.code yX3_add cX3_add 2 (some .int), Cond.fieldLink RX3 25 "SharedStates$States" "made" "I", Cond.fieldLink RX3 15 "SharedStates$States" "parents" "[I"]
def wsX4_fillCells : List Cond := .code yX4_fillCells cX4_fillCells 7 (some .int) :: ((wsX4_fillCells_r1 ++ (wsX4_fillCells_r2 ++ (wsX4_fillCells_r3 ++ wsX4_fillCells_r4))) ++ wsX40 ++ wsX30 ++ wsX00)
def wsX3_parentOf : List Cond := .code yX3_parentOf cX3_parentOf 2 (some .int) :: ([.fieldLink RX3 21 "SharedStates$States" "size" "I", .fieldLink RX3 15 "SharedStates$States" "parents" "[I"] ++ wsX30)
def wsX3_parentSlot : List Cond := .code yX3_parentSlot cX3_parentSlot 2 (some .int) :: ([.methodLink RX3 34 yX3_parentOf, .instanceMethod yX3_parentOf, .selects RX3 yX3_parentOf yX3_parentOf, .initialized RX3, .code yX3_parentOf cX3_parentOf 2 (some .int), .fieldLink RX3 21 "SharedStates$States" "size" "I", .fieldLink RX3 15 "SharedStates$States" "parents" "[I", .methodLink RX3 38 yX3_slotOf, .instanceMethod yX3_slotOf, .selects RX3 yX3_slotOf yX3_slotOf, .code yX3_slotOf cX3_slotOf 3 (some .int), .fieldLink RX3 9 "SharedStates$States" "numbers" "[I"] ++ wsX30)
def wsX3_commonSlot : List Cond := .code yX3_commonSlot cX3_commonSlot 6 (some .int) :: ([.methodLink RX3 48 yX3_parentSlot, .instanceMethod yX3_parentSlot, .selects RX3 yX3_parentSlot yX3_parentSlot, .initialized RX3, .code yX3_parentSlot cX3_parentSlot 2 (some .int), .methodLink RX3 34 yX3_parentOf, .instanceMethod yX3_parentOf, .selects RX3 yX3_parentOf yX3_parentOf, .code yX3_parentOf cX3_parentOf 2 (some .int), .fieldLink RX3 21 "SharedStates$States" "size" "I", .fieldLink RX3 15 "SharedStates$States" "parents" "[I", .methodLink RX3 38 yX3_slotOf, .instanceMethod yX3_slotOf, .selects RX3 yX3_slotOf yX3_slotOf, .code yX3_slotOf cX3_slotOf 3 (some .int), .fieldLink RX3 9 "SharedStates$States" "numbers" "[I"] ++ wsX30)
def wsX4_draftMerge : List Cond := .code yX4_draftMerge cX4_draftMerge 10 (some .int) :: ([.fieldLink RX4 29 "SharedStates$World" "draft" "[I", .methodLink RX4 74 yX4_cellAt, .instanceMethod yX4_cellAt, .selects RX4 yX4_cellAt yX4_cellAt, .initialized RX4, .code yX4_cellAt cX4_cellAt 3 (some .int), .fieldLink RX4 12 "SharedStates$World" "blocks" "LSharedStates$Blocks;", .fieldLink RX4 21 "SharedStates$World" "states" "LSharedStates$States;", .methodLink RX4 64 yX3_block, .instanceMethod yX3_block, .selects RX3 yX3_block yX3_block, .initialized RX3, .code yX3_block cX3_block 4 (some .int), .fieldLink RX3 21 "SharedStates$States" "size" "I", .fieldLink RX3 18 "SharedStates$States" "places" "[I", .methodLink RX4 68 yX0_cellOf, .instanceMethod yX0_cellOf, .selects RX0 yX0_cellOf yX0_cellOf, .initialized RX0, .code yX0_cellOf cX0_cellOf 4 (some .int), .fieldLink RX0 9 "SharedStates$Blocks" "cells" "[I"] ++ wsX40 ++ wsX30 ++ wsX00)
def wsX4_mergeState_r1 : List Cond := [Cond.fieldLink RX4 21 "SharedStates$World" "states" "LSharedStates$States;", Cond.constant RX4 101 (-1000001), Cond.fieldLink RX4 36 "SharedStates$World" "conflictsSoFar" "I", Cond.methodLink RX4 95 yX4_headSlot, Cond.instanceMethod yX4_headSlot, Cond.selects RX4 yX4_headSlot yX4_headSlot, Cond.initialized RX4, Cond.code yX4_headSlot cX4_headSlot 2 (some .int), Cond.fieldLink RX4 25 "SharedStates$World" "heads" "[I", Cond.methodLink RX4 56 yX4_isBranch, Cond.instanceMethod yX4_isBranch, Cond.selects RX4 yX4_isBranch yX4_isBranch, Cond.code yX4_isBranch cX4_isBranch 2 (some .boolean), Cond.static yX5_isIndex, Cond.initialized RX5, Cond.code yX5_isIndex cX5_isIndex 2 (some .boolean), Cond.methodLink RX4 60 yX3_slotOf, Cond.instanceMethod yX3_slotOf, Cond.selects RX3 yX3_slotOf yX3_slotOf, Cond.initialized RX3, Cond.code yX3_slotOf cX3_slotOf 3 (some .int), Cond.fieldLink RX3 21 "SharedStates$States" "size" "I", Cond.fieldLink RX3 9 "SharedStates$States" "numbers" "[I", Cond.methodLink RX4 109 yX3_commonSlot]
def wsX4_mergeState_r2 : List Cond := [Cond.instanceMethod yX3_commonSlot, Cond.selects RX3 yX3_commonSlot yX3_commonSlot, Cond.code yX3_commonSlot cX3_commonSlot 6 (some .int), Cond.methodLink RX3 48 yX3_parentSlot, Cond.instanceMethod yX3_parentSlot, Cond.selects RX3 yX3_parentSlot yX3_parentSlot, Cond.code yX3_parentSlot cX3_parentSlot 2 (some .int), Cond.methodLink RX3 34 yX3_parentOf, Cond.instanceMethod yX3_parentOf, Cond.selects RX3 yX3_parentOf yX3_parentOf, Cond.code yX3_parentOf cX3_parentOf 2 (some .int), Cond.fieldLink RX3 15 "SharedStates$States" "parents" "[I", Cond.methodLink RX3 38 yX3_slotOf, Cond.methodLink RX4 112 yX4_draftMerge, Cond.instanceMethod yX4_draftMerge, Cond.selects RX4 yX4_draftMerge yX4_draftMerge, Cond.code yX4_draftMerge cX4_draftMerge 10 (some .int), Cond.fieldLink RX4 29 "SharedStates$World" "draft" "[I", Cond.methodLink RX4 74 yX4_cellAt, Cond.instanceMethod yX4_cellAt, Cond.selects RX4 yX4_cellAt yX4_cellAt, Cond.code yX4_cellAt cX4_cellAt 3 (some .int), Cond.fieldLink RX4 12 "SharedStates$World" "blocks" "LSharedStates$Blocks;", Cond.methodLink RX4 64 yX3_block]
def wsX4_mergeState_r3 : List Cond := [Cond.instanceMethod yX3_block, Cond.selects RX3 yX3_block yX3_block, Cond.code yX3_block cX3_block 4 (some .int), Cond.fieldLink RX3 18 "SharedStates$States" "places" "[I", Cond.methodLink RX4 68 yX0_cellOf, Cond.instanceMethod yX0_cellOf, Cond.selects RX0 yX0_cellOf yX0_cellOf, Cond.initialized RX0, Cond.code yX0_cellOf cX0_cellOf 4 (some .int), Cond.fieldLink RX0 9 "SharedStates$Blocks" "cells" "[I", Cond.methodLink RX4 106 yX4_addDraft, Cond.instanceMethod yX4_addDraft, Cond.selects RX4 yX4_addDraft yX4_addDraft, Cond.code yX4_addDraft cX4_addDraft 7 (some .int), Cond.fieldLink RX4 116 "SharedStates$States" "size" "I", Cond.constant RX4 119 (-1000003), Cond.fieldLink RX4 32 "SharedStates$World" "sharing" "I", Cond.fieldLink RX4 128 "SharedStates$Blocks" "taken" "I", Cond.fieldLink RX4 138 "SharedStates$States" "places" "[I", Cond.methodLink RX4 120 yX0_holds, Cond.instanceMethod yX0_holds, Cond.selects RX0 yX0_holds yX0_holds, Cond.code yX0_holds cX0_holds 5 (some .boolean), Cond.fieldLink RX0 15 "SharedStates$Blocks" "uses" "[I"]
def wsX4_mergeState_r4 : List Cond := [Cond.methodLink RX4 124 yX0_lowestHolding, Cond.instanceMethod yX0_lowestHolding, Cond.selects RX0 yX0_lowestHolding yX0_lowestHolding, Cond.code yX0_lowestHolding cX0_lowestHolding 4 (some .int), Cond.methodLink RX0 39 yX0_holds, Cond.methodLink RX4 131 yX0_make, Cond.instanceMethod yX0_make, Cond.selects RX0 yX0_make yX0_make, Cond.code yX0_make cX0_make 4 (some .int), Cond.methodLink RX0 25 arraycopyName, Cond.native arraycopyName, Cond.static arraycopyName, Cond.initialized "java/lang/System", Cond.fieldLink RX0 18 "SharedStates$Blocks" "made" "I", Cond.methodLink RX4 134 yX0_addUses, Cond.instanceMethod yX0_addUses, Cond.selects RX0 yX0_addUses yX0_addUses, Cond.code yX0_addUses cX0_addUses 3 none, Cond.methodLink RX4 89 yX3_numberOf, Cond.instanceMethod yX3_numberOf, Cond.selects RX3 yX3_numberOf yX3_numberOf, Cond.code yX3_numberOf cX3_numberOf 2 (some .int), Cond.methodLink RX4 141 yX3_add, Cond.instanceMethod yX3_add]
def wsX4_mergeState_r5 : List Cond := [Cond.selects RX3 yX3_add yX3_add, Cond.code yX3_add cX3_add 2 (some .int), Cond.fieldLink RX3 25 "SharedStates$States" "made" "I"]
def wsX4_mergeState : List Cond := .code yX4_mergeState cX4_mergeState 7 (some .int) :: ((wsX4_mergeState_r1 ++ (wsX4_mergeState_r2 ++ (wsX4_mergeState_r3 ++ (wsX4_mergeState_r4 ++ wsX4_mergeState_r5)))) ++ wsX40 ++ wsX30 ++ wsX00)
def wsX4_addBranch : List Cond := .code yX4_addBranch cX4_addBranch 3 (some .int) :: ([.fieldLink RX4 21 "SharedStates$World" "states" "LSharedStates$States;", .constant RX4 101 (-1000001), .fieldLink RX4 25 "SharedStates$World" "heads" "[I", .constant RX4 119 (-1000003), .methodLink RX4 60 yX3_slotOf, .instanceMethod yX3_slotOf, .selects RX3 yX3_slotOf yX3_slotOf, .initialized RX3, .code yX3_slotOf cX3_slotOf 3 (some .int), .fieldLink RX3 21 "SharedStates$States" "size" "I", .fieldLink RX3 9 "SharedStates$States" "numbers" "[I"] ++ wsX40 ++ wsX30)
def wsX4_branchesAt : List Cond := .code yX4_branchesAt cX4_branchesAt 4 (some .int) :: ([.fieldLink RX4 25 "SharedStates$World" "heads" "[I"] ++ wsX40)
def wsX4_canForget : List Cond := .code yX4_canForget cX4_canForget 2 (some .boolean) :: ([.fieldLink RX4 21 "SharedStates$World" "states" "LSharedStates$States;", .methodLink RX4 89 yX3_numberOf, .instanceMethod yX3_numberOf, .selects RX3 yX3_numberOf yX3_numberOf, .initialized RX3, .code yX3_numberOf cX3_numberOf 2 (some .int), .fieldLink RX3 21 "SharedStates$States" "size" "I", .fieldLink RX3 9 "SharedStates$States" "numbers" "[I", .methodLink RX4 92 yX4_branchesAt, .instanceMethod yX4_branchesAt, .selects RX4 yX4_branchesAt yX4_branchesAt, .initialized RX4, .code yX4_branchesAt cX4_branchesAt 4 (some .int), .fieldLink RX4 25 "SharedStates$World" "heads" "[I"] ++ wsX40 ++ wsX30)
def wsX3_remove : List Cond := .code yX3_remove cX3_remove 3 none :: ([.fieldLink RX3 21 "SharedStates$States" "size" "I", .fieldLink RX3 15 "SharedStates$States" "parents" "[I", .fieldLink RX3 9 "SharedStates$States" "numbers" "[I", .methodLink RX3 28 arraycopyName, .native arraycopyName, .static arraycopyName, .initialized "java/lang/System", .fieldLink RX3 18 "SharedStates$States" "places" "[I", .static yX5_isIndex, .initialized RX5, .code yX5_isIndex cX5_isIndex 2 (some .boolean)] ++ wsX30)
def wsX4_forgetState_r1 : List Cond := [Cond.fieldLink RX4 21 "SharedStates$World" "states" "LSharedStates$States;", Cond.constant RX4 101 (-1000001), Cond.constant RX4 148 (-1000002), Cond.fieldLink RX4 12 "SharedStates$World" "blocks" "LSharedStates$Blocks;", Cond.methodLink RX4 60 yX3_slotOf, Cond.instanceMethod yX3_slotOf, Cond.selects RX3 yX3_slotOf yX3_slotOf, Cond.initialized RX3, Cond.code yX3_slotOf cX3_slotOf 3 (some .int), Cond.fieldLink RX3 21 "SharedStates$States" "size" "I", Cond.fieldLink RX3 9 "SharedStates$States" "numbers" "[I", Cond.methodLink RX4 152 yX4_canForget, Cond.instanceMethod yX4_canForget, Cond.selects RX4 yX4_canForget yX4_canForget, Cond.initialized RX4, Cond.code yX4_canForget cX4_canForget 2 (some .boolean), Cond.methodLink RX4 89 yX3_numberOf, Cond.instanceMethod yX3_numberOf, Cond.selects RX3 yX3_numberOf yX3_numberOf, Cond.code yX3_numberOf cX3_numberOf 2 (some .int), Cond.methodLink RX4 92 yX4_branchesAt, Cond.instanceMethod yX4_branchesAt, Cond.selects RX4 yX4_branchesAt yX4_branchesAt, Cond.code yX4_branchesAt cX4_branchesAt 4 (some .int)]
def wsX4_forgetState_r2 : List Cond := [Cond.fieldLink RX4 25 "SharedStates$World" "heads" "[I", Cond.methodLink RX4 155 yX0_there, Cond.instanceMethod yX0_there, Cond.selects RX0 yX0_there yX0_there, Cond.initialized RX0, Cond.code yX0_there cX0_there 3 (some .int), Cond.methodLink RX0 35 yX0_isThere, Cond.instanceMethod yX0_isThere, Cond.selects RX0 yX0_isThere yX0_isThere, Cond.code yX0_isThere cX0_isThere 2 (some .boolean), Cond.fieldLink RX0 15 "SharedStates$Blocks" "uses" "[I", Cond.methodLink RX4 64 yX3_block, Cond.instanceMethod yX3_block, Cond.selects RX3 yX3_block yX3_block, Cond.code yX3_block cX3_block 4 (some .int), Cond.fieldLink RX3 18 "SharedStates$States" "places" "[I", Cond.methodLink RX4 134 yX0_addUses, Cond.instanceMethod yX0_addUses, Cond.selects RX0 yX0_addUses yX0_addUses, Cond.code yX0_addUses cX0_addUses 3 none, Cond.static yX5_isIndex, Cond.initialized RX5, Cond.code yX5_isIndex cX5_isIndex 2 (some .boolean), Cond.methodLink RX4 158 yX3_remove]
def wsX4_forgetState_r3 : List Cond := [Cond.instanceMethod yX3_remove, Cond.selects RX3 yX3_remove yX3_remove, Cond.code yX3_remove cX3_remove 3 none, Cond.fieldLink RX3 15 "SharedStates$States" "parents" "[I", Cond.methodLink RX3 28 arraycopyName, Cond.native arraycopyName, Cond.static arraycopyName, Cond.initialized "java/lang/System"]
def wsX4_forgetState : List Cond := .code yX4_forgetState cX4_forgetState 5 (some .int) :: ((wsX4_forgetState_r1 ++ (wsX4_forgetState_r2 ++ wsX4_forgetState_r3)) ++ wsX40 ++ wsX30 ++ wsX00)
def wsX2_doOrder_r1 : List Cond := [Cond.fieldLink RX2 15 "SharedStates$Orders" "numbers" "[I", Cond.methodLink RX2 61 yX4_fillCells, Cond.instanceMethod yX4_fillCells, Cond.selects RX4 yX4_fillCells yX4_fillCells, Cond.initialized RX4, Cond.code yX4_fillCells cX4_fillCells 7 (some .int), Cond.constant RX4 101 (-1000001), Cond.fieldLink RX4 29 "SharedStates$World" "draft" "[I", Cond.methodLink RX4 95 yX4_headSlot, Cond.instanceMethod yX4_headSlot, Cond.selects RX4 yX4_headSlot yX4_headSlot, Cond.code yX4_headSlot cX4_headSlot 2 (some .int), Cond.fieldLink RX4 21 "SharedStates$World" "states" "LSharedStates$States;", Cond.fieldLink RX4 25 "SharedStates$World" "heads" "[I", Cond.methodLink RX4 56 yX4_isBranch, Cond.instanceMethod yX4_isBranch, Cond.selects RX4 yX4_isBranch yX4_isBranch, Cond.code yX4_isBranch cX4_isBranch 2 (some .boolean), Cond.static yX5_isIndex, Cond.initialized RX5, Cond.code yX5_isIndex cX5_isIndex 2 (some .boolean), Cond.methodLink RX4 60 yX3_slotOf, Cond.instanceMethod yX3_slotOf, Cond.selects RX3 yX3_slotOf yX3_slotOf]
def wsX2_doOrder_r2 : List Cond := [Cond.initialized RX3, Cond.code yX3_slotOf cX3_slotOf 3 (some .int), Cond.fieldLink RX3 21 "SharedStates$States" "size" "I", Cond.fieldLink RX3 9 "SharedStates$States" "numbers" "[I", Cond.static yX5_isRange, Cond.code yX5_isRange cX5_isRange 2 (some .boolean), Cond.methodLink RX5 81 yX5_isIndex, Cond.methodLink RX4 102 yX4_draftState, Cond.instanceMethod yX4_draftState, Cond.selects RX4 yX4_draftState yX4_draftState, Cond.code yX4_draftState cX4_draftState 3 none, Cond.methodLink RX4 74 yX4_cellAt, Cond.instanceMethod yX4_cellAt, Cond.selects RX4 yX4_cellAt yX4_cellAt, Cond.code yX4_cellAt cX4_cellAt 3 (some .int), Cond.fieldLink RX4 12 "SharedStates$World" "blocks" "LSharedStates$Blocks;", Cond.methodLink RX4 64 yX3_block, Cond.instanceMethod yX3_block, Cond.selects RX3 yX3_block yX3_block, Cond.code yX3_block cX3_block 4 (some .int), Cond.fieldLink RX3 18 "SharedStates$States" "places" "[I", Cond.methodLink RX4 68 yX0_cellOf, Cond.instanceMethod yX0_cellOf, Cond.selects RX0 yX0_cellOf yX0_cellOf]
def wsX2_doOrder_r3 : List Cond := [Cond.initialized RX0, Cond.code yX0_cellOf cX0_cellOf 4 (some .int), Cond.fieldLink RX0 9 "SharedStates$Blocks" "cells" "[I", Cond.methodLink RX4 106 yX4_addDraft, Cond.instanceMethod yX4_addDraft, Cond.selects RX4 yX4_addDraft yX4_addDraft, Cond.code yX4_addDraft cX4_addDraft 7 (some .int), Cond.fieldLink RX4 116 "SharedStates$States" "size" "I", Cond.constant RX4 119 (-1000003), Cond.fieldLink RX4 32 "SharedStates$World" "sharing" "I", Cond.fieldLink RX4 128 "SharedStates$Blocks" "taken" "I", Cond.fieldLink RX4 138 "SharedStates$States" "places" "[I", Cond.methodLink RX4 120 yX0_holds, Cond.instanceMethod yX0_holds, Cond.selects RX0 yX0_holds yX0_holds, Cond.code yX0_holds cX0_holds 5 (some .boolean), Cond.fieldLink RX0 15 "SharedStates$Blocks" "uses" "[I", Cond.methodLink RX4 124 yX0_lowestHolding, Cond.instanceMethod yX0_lowestHolding, Cond.selects RX0 yX0_lowestHolding yX0_lowestHolding, Cond.code yX0_lowestHolding cX0_lowestHolding 4 (some .int), Cond.methodLink RX0 39 yX0_holds, Cond.methodLink RX4 131 yX0_make, Cond.instanceMethod yX0_make]
def wsX2_doOrder_r4 : List Cond := [Cond.selects RX0 yX0_make yX0_make, Cond.code yX0_make cX0_make 4 (some .int), Cond.methodLink RX0 25 arraycopyName, Cond.native arraycopyName, Cond.static arraycopyName, Cond.initialized "java/lang/System", Cond.fieldLink RX0 18 "SharedStates$Blocks" "made" "I", Cond.methodLink RX4 134 yX0_addUses, Cond.instanceMethod yX0_addUses, Cond.selects RX0 yX0_addUses yX0_addUses, Cond.code yX0_addUses cX0_addUses 3 none, Cond.methodLink RX4 89 yX3_numberOf, Cond.instanceMethod yX3_numberOf, Cond.selects RX3 yX3_numberOf yX3_numberOf, Cond.code yX3_numberOf cX3_numberOf 2 (some .int), Cond.methodLink RX4 141 yX3_add, Cond.instanceMethod yX3_add, Cond.selects RX3 yX3_add yX3_add, Cond.code yX3_add cX3_add 2 (some .int), Cond.fieldLink RX3 25 "SharedStates$States" "made" "I", Cond.fieldLink RX3 15 "SharedStates$States" "parents" "[I", Cond.methodLink RX2 67 yX4_mergeState, Cond.instanceMethod yX4_mergeState, Cond.selects RX4 yX4_mergeState yX4_mergeState]
def wsX2_doOrder_r5 : List Cond := [Cond.code yX4_mergeState cX4_mergeState 7 (some .int), Cond.fieldLink RX4 36 "SharedStates$World" "conflictsSoFar" "I", Cond.methodLink RX4 109 yX3_commonSlot, Cond.instanceMethod yX3_commonSlot, Cond.selects RX3 yX3_commonSlot yX3_commonSlot, Cond.code yX3_commonSlot cX3_commonSlot 6 (some .int), Cond.methodLink RX3 48 yX3_parentSlot, Cond.instanceMethod yX3_parentSlot, Cond.selects RX3 yX3_parentSlot yX3_parentSlot, Cond.code yX3_parentSlot cX3_parentSlot 2 (some .int), Cond.methodLink RX3 34 yX3_parentOf, Cond.instanceMethod yX3_parentOf, Cond.selects RX3 yX3_parentOf yX3_parentOf, Cond.code yX3_parentOf cX3_parentOf 2 (some .int), Cond.methodLink RX3 38 yX3_slotOf, Cond.methodLink RX4 112 yX4_draftMerge, Cond.instanceMethod yX4_draftMerge, Cond.selects RX4 yX4_draftMerge yX4_draftMerge, Cond.code yX4_draftMerge cX4_draftMerge 10 (some .int), Cond.methodLink RX2 71 yX4_addBranch, Cond.instanceMethod yX4_addBranch, Cond.selects RX4 yX4_addBranch yX4_addBranch, Cond.code yX4_addBranch cX4_addBranch 3 (some .int), Cond.methodLink RX2 74 yX4_forgetState]
def wsX2_doOrder_r6 : List Cond := [Cond.instanceMethod yX4_forgetState, Cond.selects RX4 yX4_forgetState yX4_forgetState, Cond.code yX4_forgetState cX4_forgetState 5 (some .int), Cond.constant RX4 148 (-1000002), Cond.methodLink RX4 152 yX4_canForget, Cond.instanceMethod yX4_canForget, Cond.selects RX4 yX4_canForget yX4_canForget, Cond.code yX4_canForget cX4_canForget 2 (some .boolean), Cond.methodLink RX4 92 yX4_branchesAt, Cond.instanceMethod yX4_branchesAt, Cond.selects RX4 yX4_branchesAt yX4_branchesAt, Cond.code yX4_branchesAt cX4_branchesAt 4 (some .int), Cond.methodLink RX4 155 yX0_there, Cond.instanceMethod yX0_there, Cond.selects RX0 yX0_there yX0_there, Cond.code yX0_there cX0_there 3 (some .int), Cond.methodLink RX0 35 yX0_isThere, Cond.instanceMethod yX0_isThere, Cond.selects RX0 yX0_isThere yX0_isThere, Cond.code yX0_isThere cX0_isThere 2 (some .boolean), Cond.methodLink RX4 158 yX3_remove, Cond.instanceMethod yX3_remove, Cond.selects RX3 yX3_remove yX3_remove, Cond.code yX3_remove cX3_remove 3 none]
def wsX2_doOrder_r7 : List Cond := [Cond.methodLink RX3 28 arraycopyName]
def wsX2_doOrder : List Cond := .code yX2_doOrder cX2_doOrder 3 (some .int) :: ((wsX2_doOrder_r1 ++ (wsX2_doOrder_r2 ++ (wsX2_doOrder_r3 ++ (wsX2_doOrder_r4 ++ (wsX2_doOrder_r5 ++ (wsX2_doOrder_r6 ++ wsX2_doOrder_r7)))))) ++ wsX20 ++ wsX40 ++ wsX30 ++ wsX00)
def wsX2_doAll_r1 : List Cond := [Cond.fieldLink RX2 22 "SharedStates$Orders" "position" "I", Cond.fieldLink RX2 25 "SharedStates$Orders" "done" "I", Cond.fieldLink RX2 18 "SharedStates$Orders" "length" "I", Cond.fieldLink RX2 9 "SharedStates$Orders" "signs" "[I", Cond.methodLink RX2 37 yX2_readOrder, Cond.instanceMethod yX2_readOrder, Cond.selects RX2 yX2_readOrder yX2_readOrder, Cond.initialized RX2, Cond.code yX2_readOrder cX2_readOrder 3 (some .boolean), Cond.methodLink RX2 49 yX2_signHere, Cond.instanceMethod yX2_signHere, Cond.selects RX2 yX2_signHere yX2_signHere, Cond.code yX2_signHere cX2_signHere 1 (some .int), Cond.methodLink RX2 53 yX2_numbersOf, Cond.static yX2_numbersOf, Cond.code yX2_numbersOf cX2_numbersOf 1 (some .int), Cond.methodLink RX2 57 yX2_readNumber, Cond.instanceMethod yX2_readNumber, Cond.selects RX2 yX2_readNumber yX2_readNumber, Cond.code yX2_readNumber cX2_readNumber 4 (some .boolean), Cond.fieldLink RX2 15 "SharedStates$Orders" "numbers" "[I", Cond.methodLink RX2 41 yX2_keepFault, Cond.instanceMethod yX2_keepFault, Cond.selects RX2 yX2_keepFault yX2_keepFault]
def wsX2_doAll_r2 : List Cond := [Cond.code yX2_keepFault cX2_keepFault 4 (some .boolean), Cond.fieldLink RX2 28 "SharedStates$Orders" "faultPosition" "I", Cond.fieldLink RX2 31 "SharedStates$Orders" "faultReason" "I", Cond.fieldLink RX2 34 "SharedStates$Orders" "faultCause" "I", Cond.methodLink RX2 45 yX2_doOrder, Cond.instanceMethod yX2_doOrder, Cond.selects RX2 yX2_doOrder yX2_doOrder, Cond.code yX2_doOrder cX2_doOrder 3 (some .int), Cond.methodLink RX2 61 yX4_fillCells, Cond.instanceMethod yX4_fillCells, Cond.selects RX4 yX4_fillCells yX4_fillCells, Cond.initialized RX4, Cond.code yX4_fillCells cX4_fillCells 7 (some .int), Cond.constant RX4 101 (-1000001), Cond.fieldLink RX4 29 "SharedStates$World" "draft" "[I", Cond.methodLink RX4 95 yX4_headSlot, Cond.instanceMethod yX4_headSlot, Cond.selects RX4 yX4_headSlot yX4_headSlot, Cond.code yX4_headSlot cX4_headSlot 2 (some .int), Cond.fieldLink RX4 21 "SharedStates$World" "states" "LSharedStates$States;", Cond.fieldLink RX4 25 "SharedStates$World" "heads" "[I", Cond.methodLink RX4 56 yX4_isBranch, Cond.instanceMethod yX4_isBranch, Cond.selects RX4 yX4_isBranch yX4_isBranch]
def wsX2_doAll_r3 : List Cond := [Cond.code yX4_isBranch cX4_isBranch 2 (some .boolean), Cond.static yX5_isIndex, Cond.initialized RX5, Cond.code yX5_isIndex cX5_isIndex 2 (some .boolean), Cond.methodLink RX4 60 yX3_slotOf, Cond.instanceMethod yX3_slotOf, Cond.selects RX3 yX3_slotOf yX3_slotOf, Cond.initialized RX3, Cond.code yX3_slotOf cX3_slotOf 3 (some .int), Cond.fieldLink RX3 21 "SharedStates$States" "size" "I", Cond.fieldLink RX3 9 "SharedStates$States" "numbers" "[I", Cond.static yX5_isRange, Cond.code yX5_isRange cX5_isRange 2 (some .boolean), Cond.methodLink RX5 81 yX5_isIndex, Cond.methodLink RX4 102 yX4_draftState, Cond.instanceMethod yX4_draftState, Cond.selects RX4 yX4_draftState yX4_draftState, Cond.code yX4_draftState cX4_draftState 3 none, Cond.methodLink RX4 74 yX4_cellAt, Cond.instanceMethod yX4_cellAt, Cond.selects RX4 yX4_cellAt yX4_cellAt, Cond.code yX4_cellAt cX4_cellAt 3 (some .int), Cond.fieldLink RX4 12 "SharedStates$World" "blocks" "LSharedStates$Blocks;", Cond.methodLink RX4 64 yX3_block]
def wsX2_doAll_r4 : List Cond := [Cond.instanceMethod yX3_block, Cond.selects RX3 yX3_block yX3_block, Cond.code yX3_block cX3_block 4 (some .int), Cond.fieldLink RX3 18 "SharedStates$States" "places" "[I", Cond.methodLink RX4 68 yX0_cellOf, Cond.instanceMethod yX0_cellOf, Cond.selects RX0 yX0_cellOf yX0_cellOf, Cond.initialized RX0, Cond.code yX0_cellOf cX0_cellOf 4 (some .int), Cond.fieldLink RX0 9 "SharedStates$Blocks" "cells" "[I", Cond.methodLink RX4 106 yX4_addDraft, Cond.instanceMethod yX4_addDraft, Cond.selects RX4 yX4_addDraft yX4_addDraft, Cond.code yX4_addDraft cX4_addDraft 7 (some .int), Cond.fieldLink RX4 116 "SharedStates$States" "size" "I", Cond.constant RX4 119 (-1000003), Cond.fieldLink RX4 32 "SharedStates$World" "sharing" "I", Cond.fieldLink RX4 128 "SharedStates$Blocks" "taken" "I", Cond.fieldLink RX4 138 "SharedStates$States" "places" "[I", Cond.methodLink RX4 120 yX0_holds, Cond.instanceMethod yX0_holds, Cond.selects RX0 yX0_holds yX0_holds, Cond.code yX0_holds cX0_holds 5 (some .boolean), Cond.fieldLink RX0 15 "SharedStates$Blocks" "uses" "[I"]
def wsX2_doAll_r5 : List Cond := [Cond.methodLink RX4 124 yX0_lowestHolding, Cond.instanceMethod yX0_lowestHolding, Cond.selects RX0 yX0_lowestHolding yX0_lowestHolding, Cond.code yX0_lowestHolding cX0_lowestHolding 4 (some .int), Cond.methodLink RX0 39 yX0_holds, Cond.methodLink RX4 131 yX0_make, Cond.instanceMethod yX0_make, Cond.selects RX0 yX0_make yX0_make, Cond.code yX0_make cX0_make 4 (some .int), Cond.methodLink RX0 25 arraycopyName, Cond.native arraycopyName, Cond.static arraycopyName, Cond.initialized "java/lang/System", Cond.fieldLink RX0 18 "SharedStates$Blocks" "made" "I", Cond.methodLink RX4 134 yX0_addUses, Cond.instanceMethod yX0_addUses, Cond.selects RX0 yX0_addUses yX0_addUses, Cond.code yX0_addUses cX0_addUses 3 none, Cond.methodLink RX4 89 yX3_numberOf, Cond.instanceMethod yX3_numberOf, Cond.selects RX3 yX3_numberOf yX3_numberOf, Cond.code yX3_numberOf cX3_numberOf 2 (some .int), Cond.methodLink RX4 141 yX3_add, Cond.instanceMethod yX3_add]
def wsX2_doAll_r6 : List Cond := [Cond.selects RX3 yX3_add yX3_add, Cond.code yX3_add cX3_add 2 (some .int), Cond.fieldLink RX3 25 "SharedStates$States" "made" "I", Cond.fieldLink RX3 15 "SharedStates$States" "parents" "[I", Cond.methodLink RX2 67 yX4_mergeState, Cond.instanceMethod yX4_mergeState, Cond.selects RX4 yX4_mergeState yX4_mergeState, Cond.code yX4_mergeState cX4_mergeState 7 (some .int), Cond.fieldLink RX4 36 "SharedStates$World" "conflictsSoFar" "I", Cond.methodLink RX4 109 yX3_commonSlot, Cond.instanceMethod yX3_commonSlot, Cond.selects RX3 yX3_commonSlot yX3_commonSlot, Cond.code yX3_commonSlot cX3_commonSlot 6 (some .int), Cond.methodLink RX3 48 yX3_parentSlot, Cond.instanceMethod yX3_parentSlot, Cond.selects RX3 yX3_parentSlot yX3_parentSlot, Cond.code yX3_parentSlot cX3_parentSlot 2 (some .int), Cond.methodLink RX3 34 yX3_parentOf, Cond.instanceMethod yX3_parentOf, Cond.selects RX3 yX3_parentOf yX3_parentOf, Cond.code yX3_parentOf cX3_parentOf 2 (some .int), Cond.methodLink RX3 38 yX3_slotOf, Cond.methodLink RX4 112 yX4_draftMerge, Cond.instanceMethod yX4_draftMerge]
def wsX2_doAll_r7 : List Cond := [Cond.selects RX4 yX4_draftMerge yX4_draftMerge, Cond.code yX4_draftMerge cX4_draftMerge 10 (some .int), Cond.methodLink RX2 71 yX4_addBranch, Cond.instanceMethod yX4_addBranch, Cond.selects RX4 yX4_addBranch yX4_addBranch, Cond.code yX4_addBranch cX4_addBranch 3 (some .int), Cond.methodLink RX2 74 yX4_forgetState, Cond.instanceMethod yX4_forgetState, Cond.selects RX4 yX4_forgetState yX4_forgetState, Cond.code yX4_forgetState cX4_forgetState 5 (some .int), Cond.constant RX4 148 (-1000002), Cond.methodLink RX4 152 yX4_canForget, Cond.instanceMethod yX4_canForget, Cond.selects RX4 yX4_canForget yX4_canForget, Cond.code yX4_canForget cX4_canForget 2 (some .boolean), Cond.methodLink RX4 92 yX4_branchesAt, Cond.instanceMethod yX4_branchesAt, Cond.selects RX4 yX4_branchesAt yX4_branchesAt, Cond.code yX4_branchesAt cX4_branchesAt 4 (some .int), Cond.methodLink RX4 155 yX0_there, Cond.instanceMethod yX0_there, Cond.selects RX0 yX0_there yX0_there, Cond.code yX0_there cX0_there 3 (some .int), Cond.methodLink RX0 35 yX0_isThere]
def wsX2_doAll_r8 : List Cond := [Cond.instanceMethod yX0_isThere, Cond.selects RX0 yX0_isThere yX0_isThere, Cond.code yX0_isThere cX0_isThere 2 (some .boolean), Cond.methodLink RX4 158 yX3_remove, Cond.instanceMethod yX3_remove, Cond.selects RX3 yX3_remove yX3_remove, Cond.code yX3_remove cX3_remove 3 none, Cond.methodLink RX3 28 arraycopyName]
def wsX2_doAll : List Cond := .code yX2_doAll cX2_doAll 5 (some .boolean) :: ((wsX2_doAll_r1 ++ (wsX2_doAll_r2 ++ (wsX2_doAll_r3 ++ (wsX2_doAll_r4 ++ (wsX2_doAll_r5 ++ (wsX2_doAll_r6 ++ (wsX2_doAll_r7 ++ wsX2_doAll_r8))))))) ++ wsX20 ++ wsX40 ++ wsX30 ++ wsX00)
def wsX3_becomeLike : List Cond := .code yX3_becomeLike cX3_becomeLike 2 none :: ([.fieldLink RX3 9 "SharedStates$States" "numbers" "[I", .methodLink RX3 28 arraycopyName, .native arraycopyName, .static arraycopyName, .initialized "java/lang/System", .fieldLink RX3 15 "SharedStates$States" "parents" "[I", .fieldLink RX3 18 "SharedStates$States" "places" "[I", .fieldLink RX3 21 "SharedStates$States" "size" "I", .fieldLink RX3 25 "SharedStates$States" "made" "I"] ++ wsX30)
def wsX3_childrenOf : List Cond := .code yX3_childrenOf cX3_childrenOf 4 (some .int) :: ([.fieldLink RX3 21 "SharedStates$States" "size" "I", .fieldLink RX3 15 "SharedStates$States" "parents" "[I", .methodLink RX3 45 yX3_numberOf, .instanceMethod yX3_numberOf, .selects RX3 yX3_numberOf yX3_numberOf, .initialized RX3, .code yX3_numberOf cX3_numberOf 2 (some .int), .fieldLink RX3 9 "SharedStates$States" "numbers" "[I"] ++ wsX30)
def wsX3_stepsFrom : List Cond := .code yX3_stepsFrom cX3_stepsFrom 5 (some .int) :: ([.methodLink RX3 48 yX3_parentSlot, .instanceMethod yX3_parentSlot, .selects RX3 yX3_parentSlot yX3_parentSlot, .initialized RX3, .code yX3_parentSlot cX3_parentSlot 2 (some .int), .methodLink RX3 34 yX3_parentOf, .instanceMethod yX3_parentOf, .selects RX3 yX3_parentOf yX3_parentOf, .code yX3_parentOf cX3_parentOf 2 (some .int), .fieldLink RX3 21 "SharedStates$States" "size" "I", .fieldLink RX3 15 "SharedStates$States" "parents" "[I", .methodLink RX3 38 yX3_slotOf, .instanceMethod yX3_slotOf, .selects RX3 yX3_slotOf yX3_slotOf, .code yX3_slotOf cX3_slotOf 3 (some .int), .fieldLink RX3 9 "SharedStates$States" "numbers" "[I"] ++ wsX30)
def wsX3_unlikePlaces : List Cond := .code yX3_unlikePlaces cX3_unlikePlaces 5 (some .int) :: ([.methodLink RX3 51 yX3_block, .instanceMethod yX3_block, .selects RX3 yX3_block yX3_block, .initialized RX3, .code yX3_block cX3_block 4 (some .int), .fieldLink RX3 21 "SharedStates$States" "size" "I", .fieldLink RX3 18 "SharedStates$States" "places" "[I"] ++ wsX30)
def wsX3_placesWith : List Cond := .code yX3_placesWith cX3_placesWith 5 (some .int) :: ([.methodLink RX3 51 yX3_block, .instanceMethod yX3_block, .selects RX3 yX3_block yX3_block, .initialized RX3, .code yX3_block cX3_block 4 (some .int), .fieldLink RX3 21 "SharedStates$States" "size" "I", .fieldLink RX3 18 "SharedStates$States" "places" "[I"] ++ wsX30)
def wsX3_statesWith : List Cond := .code yX3_statesWith cX3_statesWith 4 (some .int) :: ([.fieldLink RX3 21 "SharedStates$States" "size" "I", .methodLink RX3 55 yX3_placesWith, .instanceMethod yX3_placesWith, .selects RX3 yX3_placesWith yX3_placesWith, .initialized RX3, .code yX3_placesWith cX3_placesWith 5 (some .int), .methodLink RX3 51 yX3_block, .instanceMethod yX3_block, .selects RX3 yX3_block yX3_block, .code yX3_block cX3_block 4 (some .int), .fieldLink RX3 18 "SharedStates$States" "places" "[I"] ++ wsX30)
def wsX3_isFirstPlace : List Cond := .code yX3_isFirstPlace cX3_isFirstPlace 4 (some .boolean) :: ([.methodLink RX3 51 yX3_block, .instanceMethod yX3_block, .selects RX3 yX3_block yX3_block, .initialized RX3, .code yX3_block cX3_block 4 (some .int), .fieldLink RX3 21 "SharedStates$States" "size" "I", .fieldLink RX3 18 "SharedStates$States" "places" "[I"] ++ wsX30)
def wsX3_blocksIn : List Cond := .code yX3_blocksIn cX3_blocksIn 4 (some .int) :: ([.methodLink RX3 58 yX3_isFirstPlace, .instanceMethod yX3_isFirstPlace, .selects RX3 yX3_isFirstPlace yX3_isFirstPlace, .initialized RX3, .code yX3_isFirstPlace cX3_isFirstPlace 4 (some .boolean), .methodLink RX3 51 yX3_block, .instanceMethod yX3_block, .selects RX3 yX3_block yX3_block, .code yX3_block cX3_block 4 (some .int), .fieldLink RX3 21 "SharedStates$States" "size" "I", .fieldLink RX3 18 "SharedStates$States" "places" "[I"] ++ wsX30)
def wsX4_becomeLike_r1 : List Cond := [Cond.fieldLink RX4 12 "SharedStates$World" "blocks" "LSharedStates$Blocks;", Cond.fieldLink RX4 21 "SharedStates$World" "states" "LSharedStates$States;", Cond.fieldLink RX4 25 "SharedStates$World" "heads" "[I", Cond.methodLink RX4 46 arraycopyName, Cond.native arraycopyName, Cond.static arraycopyName, Cond.initialized "java/lang/System", Cond.fieldLink RX4 32 "SharedStates$World" "sharing" "I", Cond.fieldLink RX4 36 "SharedStates$World" "conflictsSoFar" "I", Cond.methodLink RX4 39 yX0_becomeLike, Cond.instanceMethod yX0_becomeLike, Cond.selects RX0 yX0_becomeLike yX0_becomeLike, Cond.initialized RX0, Cond.code yX0_becomeLike cX0_becomeLike 2 none, Cond.fieldLink RX0 9 "SharedStates$Blocks" "cells" "[I", Cond.methodLink RX0 25 arraycopyName, Cond.fieldLink RX0 15 "SharedStates$Blocks" "uses" "[I", Cond.fieldLink RX0 18 "SharedStates$Blocks" "made" "I", Cond.fieldLink RX0 22 "SharedStates$Blocks" "taken" "I", Cond.methodLink RX4 43 yX3_becomeLike, Cond.instanceMethod yX3_becomeLike, Cond.selects RX3 yX3_becomeLike yX3_becomeLike, Cond.initialized RX3, Cond.code yX3_becomeLike cX3_becomeLike 2 none]
def wsX4_becomeLike_r2 : List Cond := [Cond.fieldLink RX3 9 "SharedStates$States" "numbers" "[I", Cond.methodLink RX3 28 arraycopyName, Cond.fieldLink RX3 15 "SharedStates$States" "parents" "[I", Cond.fieldLink RX3 18 "SharedStates$States" "places" "[I", Cond.fieldLink RX3 21 "SharedStates$States" "size" "I", Cond.fieldLink RX3 25 "SharedStates$States" "made" "I"]
def wsX4_becomeLike : List Cond := .code yX4_becomeLike cX4_becomeLike 2 none :: ((wsX4_becomeLike_r1 ++ wsX4_becomeLike_r2) ++ wsX40 ++ wsX00 ++ wsX30)
def wsX4_branchesThere : List Cond := .code yX4_branchesThere cX4_branchesThere 3 (some .int) :: ([.fieldLink RX4 25 "SharedStates$World" "heads" "[I"] ++ wsX40)
def wsX4_sumOfState : List Cond := .code yX4_sumOfState cX4_sumOfState 4 (some .int) :: ([.fieldLink RX4 12 "SharedStates$World" "blocks" "LSharedStates$Blocks;", .fieldLink RX4 21 "SharedStates$World" "states" "LSharedStates$States;", .methodLink RX4 64 yX3_block, .instanceMethod yX3_block, .selects RX3 yX3_block yX3_block, .initialized RX3, .code yX3_block cX3_block 4 (some .int), .fieldLink RX3 21 "SharedStates$States" "size" "I", .fieldLink RX3 18 "SharedStates$States" "places" "[I", .methodLink RX4 71 yX0_sumOf, .instanceMethod yX0_sumOf, .selects RX0 yX0_sumOf yX0_sumOf, .initialized RX0, .code yX0_sumOf cX0_sumOf 4 (some .int), .methodLink RX0 43 yX0_cellOf, .instanceMethod yX0_cellOf, .selects RX0 yX0_cellOf yX0_cellOf, .code yX0_cellOf cX0_cellOf 4 (some .int), .fieldLink RX0 9 "SharedStates$Blocks" "cells" "[I"] ++ wsX40 ++ wsX30 ++ wsX00)
def wsX4_unlikeCells : List Cond := .code yX4_unlikeCells cX4_unlikeCells 5 (some .int) :: ([.methodLink RX4 74 yX4_cellAt, .instanceMethod yX4_cellAt, .selects RX4 yX4_cellAt yX4_cellAt, .initialized RX4, .code yX4_cellAt cX4_cellAt 3 (some .int), .fieldLink RX4 12 "SharedStates$World" "blocks" "LSharedStates$Blocks;", .fieldLink RX4 21 "SharedStates$World" "states" "LSharedStates$States;", .methodLink RX4 64 yX3_block, .instanceMethod yX3_block, .selects RX3 yX3_block yX3_block, .initialized RX3, .code yX3_block cX3_block 4 (some .int), .fieldLink RX3 21 "SharedStates$States" "size" "I", .fieldLink RX3 18 "SharedStates$States" "places" "[I", .methodLink RX4 68 yX0_cellOf, .instanceMethod yX0_cellOf, .selects RX0 yX0_cellOf yX0_cellOf, .initialized RX0, .code yX0_cellOf cX0_cellOf 4 (some .int), .fieldLink RX0 9 "SharedStates$Blocks" "cells" "[I"] ++ wsX40 ++ wsX30 ++ wsX00)
def wsX4_firstUnlikeCell : List Cond := .code yX4_firstUnlikeCell cX4_firstUnlikeCell 4 (some .int) :: ([.methodLink RX4 74 yX4_cellAt, .instanceMethod yX4_cellAt, .selects RX4 yX4_cellAt yX4_cellAt, .initialized RX4, .code yX4_cellAt cX4_cellAt 3 (some .int), .fieldLink RX4 12 "SharedStates$World" "blocks" "LSharedStates$Blocks;", .fieldLink RX4 21 "SharedStates$World" "states" "LSharedStates$States;", .methodLink RX4 64 yX3_block, .instanceMethod yX3_block, .selects RX3 yX3_block yX3_block, .initialized RX3, .code yX3_block cX3_block 4 (some .int), .fieldLink RX3 21 "SharedStates$States" "size" "I", .fieldLink RX3 18 "SharedStates$States" "places" "[I", .methodLink RX4 68 yX0_cellOf, .instanceMethod yX0_cellOf, .selects RX0 yX0_cellOf yX0_cellOf, .initialized RX0, .code yX0_cellOf cX0_cellOf 4 (some .int), .fieldLink RX0 9 "SharedStates$Blocks" "cells" "[I"] ++ wsX40 ++ wsX30 ++ wsX00)
def wsX4_isItsOwn : List Cond := .code yX4_isItsOwn cX4_isItsOwn 4 (some .boolean) :: ([.fieldLink RX4 21 "SharedStates$World" "states" "LSharedStates$States;", .fieldLink RX4 12 "SharedStates$World" "blocks" "LSharedStates$Blocks;", .methodLink RX4 64 yX3_block, .instanceMethod yX3_block, .selects RX3 yX3_block yX3_block, .initialized RX3, .code yX3_block cX3_block 4 (some .int), .fieldLink RX3 21 "SharedStates$States" "size" "I", .fieldLink RX3 18 "SharedStates$States" "places" "[I", .methodLink RX4 77 yX0_usesOf, .instanceMethod yX0_usesOf, .selects RX0 yX0_usesOf yX0_usesOf, .initialized RX0, .code yX0_usesOf cX0_usesOf 2 (some .int), .fieldLink RX0 15 "SharedStates$Blocks" "uses" "[I", .static yX5_isIndex, .initialized RX5, .code yX5_isIndex cX5_isIndex 2 (some .boolean), .methodLink RX4 80 yX3_placesWith, .instanceMethod yX3_placesWith, .selects RX3 yX3_placesWith yX3_placesWith, .code yX3_placesWith cX3_placesWith 5 (some .int), .methodLink RX3 51 yX3_block] ++ wsX40 ++ wsX30 ++ wsX00)
def wsX4_placesOfItsOwn_r1 : List Cond := [Cond.methodLink RX4 83 yX4_isItsOwn, Cond.instanceMethod yX4_isItsOwn, Cond.selects RX4 yX4_isItsOwn yX4_isItsOwn, Cond.initialized RX4, Cond.code yX4_isItsOwn cX4_isItsOwn 4 (some .boolean), Cond.fieldLink RX4 21 "SharedStates$World" "states" "LSharedStates$States;", Cond.fieldLink RX4 12 "SharedStates$World" "blocks" "LSharedStates$Blocks;", Cond.methodLink RX4 64 yX3_block, Cond.instanceMethod yX3_block, Cond.selects RX3 yX3_block yX3_block, Cond.initialized RX3, Cond.code yX3_block cX3_block 4 (some .int), Cond.fieldLink RX3 21 "SharedStates$States" "size" "I", Cond.fieldLink RX3 18 "SharedStates$States" "places" "[I", Cond.methodLink RX4 77 yX0_usesOf, Cond.instanceMethod yX0_usesOf, Cond.selects RX0 yX0_usesOf yX0_usesOf, Cond.initialized RX0, Cond.code yX0_usesOf cX0_usesOf 2 (some .int), Cond.fieldLink RX0 15 "SharedStates$Blocks" "uses" "[I", Cond.static yX5_isIndex, Cond.initialized RX5, Cond.code yX5_isIndex cX5_isIndex 2 (some .boolean), Cond.methodLink RX4 80 yX3_placesWith]
def wsX4_placesOfItsOwn_r2 : List Cond := [Cond.instanceMethod yX3_placesWith, Cond.selects RX3 yX3_placesWith yX3_placesWith, Cond.code yX3_placesWith cX3_placesWith 5 (some .int), Cond.methodLink RX3 51 yX3_block]
def wsX4_placesOfItsOwn : List Cond := .code yX4_placesOfItsOwn cX4_placesOfItsOwn 4 (some .int) :: ((wsX4_placesOfItsOwn_r1 ++ wsX4_placesOfItsOwn_r2) ++ wsX40 ++ wsX30 ++ wsX00)
def wsX4_blocksOfItsOwn_r1 : List Cond := [Cond.fieldLink RX4 21 "SharedStates$World" "states" "LSharedStates$States;", Cond.methodLink RX4 83 yX4_isItsOwn, Cond.instanceMethod yX4_isItsOwn, Cond.selects RX4 yX4_isItsOwn yX4_isItsOwn, Cond.initialized RX4, Cond.code yX4_isItsOwn cX4_isItsOwn 4 (some .boolean), Cond.fieldLink RX4 12 "SharedStates$World" "blocks" "LSharedStates$Blocks;", Cond.methodLink RX4 64 yX3_block, Cond.instanceMethod yX3_block, Cond.selects RX3 yX3_block yX3_block, Cond.initialized RX3, Cond.code yX3_block cX3_block 4 (some .int), Cond.fieldLink RX3 21 "SharedStates$States" "size" "I", Cond.fieldLink RX3 18 "SharedStates$States" "places" "[I", Cond.methodLink RX4 77 yX0_usesOf, Cond.instanceMethod yX0_usesOf, Cond.selects RX0 yX0_usesOf yX0_usesOf, Cond.initialized RX0, Cond.code yX0_usesOf cX0_usesOf 2 (some .int), Cond.fieldLink RX0 15 "SharedStates$Blocks" "uses" "[I", Cond.static yX5_isIndex, Cond.initialized RX5, Cond.code yX5_isIndex cX5_isIndex 2 (some .boolean), Cond.methodLink RX4 80 yX3_placesWith]
def wsX4_blocksOfItsOwn_r2 : List Cond := [Cond.instanceMethod yX3_placesWith, Cond.selects RX3 yX3_placesWith yX3_placesWith, Cond.code yX3_placesWith cX3_placesWith 5 (some .int), Cond.methodLink RX3 51 yX3_block, Cond.methodLink RX4 86 yX3_isFirstPlace, Cond.instanceMethod yX3_isFirstPlace, Cond.selects RX3 yX3_isFirstPlace yX3_isFirstPlace, Cond.code yX3_isFirstPlace cX3_isFirstPlace 4 (some .boolean)]
def wsX4_blocksOfItsOwn : List Cond := .code yX4_blocksOfItsOwn cX4_blocksOfItsOwn 4 (some .int) :: ((wsX4_blocksOfItsOwn_r1 ++ wsX4_blocksOfItsOwn_r2) ++ wsX40 ++ wsX30 ++ wsX00)
def wsX4_copyCells_r1 : List Cond := [Cond.fieldLink RX4 21 "SharedStates$World" "states" "LSharedStates$States;", Cond.constant RX4 101 (-1000001), Cond.fieldLink RX4 29 "SharedStates$World" "draft" "[I", Cond.methodLink RX4 95 yX4_headSlot, Cond.instanceMethod yX4_headSlot, Cond.selects RX4 yX4_headSlot yX4_headSlot, Cond.initialized RX4, Cond.code yX4_headSlot cX4_headSlot 2 (some .int), Cond.fieldLink RX4 25 "SharedStates$World" "heads" "[I", Cond.methodLink RX4 56 yX4_isBranch, Cond.instanceMethod yX4_isBranch, Cond.selects RX4 yX4_isBranch yX4_isBranch, Cond.code yX4_isBranch cX4_isBranch 2 (some .boolean), Cond.static yX5_isIndex, Cond.initialized RX5, Cond.code yX5_isIndex cX5_isIndex 2 (some .boolean), Cond.methodLink RX4 60 yX3_slotOf, Cond.instanceMethod yX3_slotOf, Cond.selects RX3 yX3_slotOf yX3_slotOf, Cond.initialized RX3, Cond.code yX3_slotOf cX3_slotOf 3 (some .int), Cond.fieldLink RX3 21 "SharedStates$States" "size" "I", Cond.fieldLink RX3 9 "SharedStates$States" "numbers" "[I", Cond.static yX5_isRange]
def wsX4_copyCells_r2 : List Cond := [Cond.code yX5_isRange cX5_isRange 2 (some .boolean), Cond.methodLink RX5 81 yX5_isIndex, Cond.methodLink RX4 102 yX4_draftState, Cond.instanceMethod yX4_draftState, Cond.selects RX4 yX4_draftState yX4_draftState, Cond.code yX4_draftState cX4_draftState 3 none, Cond.methodLink RX4 74 yX4_cellAt, Cond.instanceMethod yX4_cellAt, Cond.selects RX4 yX4_cellAt yX4_cellAt, Cond.code yX4_cellAt cX4_cellAt 3 (some .int), Cond.fieldLink RX4 12 "SharedStates$World" "blocks" "LSharedStates$Blocks;", Cond.methodLink RX4 64 yX3_block, Cond.instanceMethod yX3_block, Cond.selects RX3 yX3_block yX3_block, Cond.code yX3_block cX3_block 4 (some .int), Cond.fieldLink RX3 18 "SharedStates$States" "places" "[I", Cond.methodLink RX4 68 yX0_cellOf, Cond.instanceMethod yX0_cellOf, Cond.selects RX0 yX0_cellOf yX0_cellOf, Cond.initialized RX0, Cond.code yX0_cellOf cX0_cellOf 4 (some .int), Cond.fieldLink RX0 9 "SharedStates$Blocks" "cells" "[I", Cond.methodLink RX4 106 yX4_addDraft, Cond.instanceMethod yX4_addDraft]
def wsX4_copyCells_r3 : List Cond := [Cond.selects RX4 yX4_addDraft yX4_addDraft, Cond.code yX4_addDraft cX4_addDraft 7 (some .int), Cond.fieldLink RX4 116 "SharedStates$States" "size" "I", Cond.constant RX4 119 (-1000003), Cond.fieldLink RX4 32 "SharedStates$World" "sharing" "I", Cond.fieldLink RX4 128 "SharedStates$Blocks" "taken" "I", Cond.fieldLink RX4 138 "SharedStates$States" "places" "[I", Cond.methodLink RX4 120 yX0_holds, Cond.instanceMethod yX0_holds, Cond.selects RX0 yX0_holds yX0_holds, Cond.code yX0_holds cX0_holds 5 (some .boolean), Cond.fieldLink RX0 15 "SharedStates$Blocks" "uses" "[I", Cond.methodLink RX4 124 yX0_lowestHolding, Cond.instanceMethod yX0_lowestHolding, Cond.selects RX0 yX0_lowestHolding yX0_lowestHolding, Cond.code yX0_lowestHolding cX0_lowestHolding 4 (some .int), Cond.methodLink RX0 39 yX0_holds, Cond.methodLink RX4 131 yX0_make, Cond.instanceMethod yX0_make, Cond.selects RX0 yX0_make yX0_make, Cond.code yX0_make cX0_make 4 (some .int), Cond.methodLink RX0 25 arraycopyName, Cond.native arraycopyName, Cond.static arraycopyName]
def wsX4_copyCells_r4 : List Cond := [Cond.initialized "java/lang/System", Cond.fieldLink RX0 18 "SharedStates$Blocks" "made" "I", Cond.methodLink RX4 134 yX0_addUses, Cond.instanceMethod yX0_addUses, Cond.selects RX0 yX0_addUses yX0_addUses, Cond.code yX0_addUses cX0_addUses 3 none, Cond.methodLink RX4 89 yX3_numberOf, Cond.instanceMethod yX3_numberOf, Cond.selects RX3 yX3_numberOf yX3_numberOf, Cond.code yX3_numberOf cX3_numberOf 2 (some .int), Cond.methodLink RX4 141 yX3_add, Cond.instanceMethod yX3_add, Cond.selects RX3 yX3_add yX3_add, Cond.code yX3_add cX3_add 2 (some .int), Cond.fieldLink RX3 25 "SharedStates$States" "made" "I", Cond.fieldLink RX3 15 "SharedStates$States" "parents" "[I"]
def wsX4_copyCells : List Cond := .code yX4_copyCells cX4_copyCells 9 (some .int) :: ((wsX4_copyCells_r1 ++ (wsX4_copyCells_r2 ++ (wsX4_copyCells_r3 ++ wsX4_copyCells_r4))) ++ wsX40 ++ wsX30 ++ wsX00)
def wsX4_dropBranch : List Cond := .code yX4_dropBranch cX4_dropBranch 2 (some .int) :: ([.constant RX4 101 (-1000001), .constant RX4 148 (-1000002), .fieldLink RX4 25 "SharedStates$World" "heads" "[I", .methodLink RX4 56 yX4_isBranch, .instanceMethod yX4_isBranch, .selects RX4 yX4_isBranch yX4_isBranch, .initialized RX4, .code yX4_isBranch cX4_isBranch 2 (some .boolean), .static yX5_isIndex, .initialized RX5, .code yX5_isIndex cX5_isIndex 2 (some .boolean), .methodLink RX4 144 yX4_branchesThere, .instanceMethod yX4_branchesThere, .selects RX4 yX4_branchesThere yX4_branchesThere, .code yX4_branchesThere cX4_branchesThere 3 (some .int)] ++ wsX40)
def wsX4_stepBack_r1 : List Cond := [Cond.constant RX4 101 (-1000001), Cond.constant RX4 148 (-1000002), Cond.fieldLink RX4 25 "SharedStates$World" "heads" "[I", Cond.fieldLink RX4 21 "SharedStates$World" "states" "LSharedStates$States;", Cond.methodLink RX4 95 yX4_headSlot, Cond.instanceMethod yX4_headSlot, Cond.selects RX4 yX4_headSlot yX4_headSlot, Cond.initialized RX4, Cond.code yX4_headSlot cX4_headSlot 2 (some .int), Cond.methodLink RX4 56 yX4_isBranch, Cond.instanceMethod yX4_isBranch, Cond.selects RX4 yX4_isBranch yX4_isBranch, Cond.code yX4_isBranch cX4_isBranch 2 (some .boolean), Cond.static yX5_isIndex, Cond.initialized RX5, Cond.code yX5_isIndex cX5_isIndex 2 (some .boolean), Cond.methodLink RX4 60 yX3_slotOf, Cond.instanceMethod yX3_slotOf, Cond.selects RX3 yX3_slotOf yX3_slotOf, Cond.initialized RX3, Cond.code yX3_slotOf cX3_slotOf 3 (some .int), Cond.fieldLink RX3 21 "SharedStates$States" "size" "I", Cond.fieldLink RX3 9 "SharedStates$States" "numbers" "[I", Cond.methodLink RX4 149 yX3_parentOf]
def wsX4_stepBack_r2 : List Cond := [Cond.instanceMethod yX3_parentOf, Cond.selects RX3 yX3_parentOf yX3_parentOf, Cond.code yX3_parentOf cX3_parentOf 2 (some .int), Cond.fieldLink RX3 15 "SharedStates$States" "parents" "[I"]
def wsX4_stepBack : List Cond := .code yX4_stepBack cX4_stepBack 3 (some .int) :: ((wsX4_stepBack_r1 ++ wsX4_stepBack_r2) ++ wsX40 ++ wsX30)
def wsX4_shareBlocks_r1 : List Cond := [Cond.fieldLink RX4 12 "SharedStates$World" "blocks" "LSharedStates$Blocks;", Cond.fieldLink RX4 21 "SharedStates$World" "states" "LSharedStates$States;", Cond.fieldLink RX4 116 "SharedStates$States" "size" "I", Cond.fieldLink RX4 138 "SharedStates$States" "places" "[I", Cond.fieldLink RX4 161 "SharedStates$Blocks" "cells" "[I", Cond.methodLink RX4 155 yX0_there, Cond.instanceMethod yX0_there, Cond.selects RX0 yX0_there yX0_there, Cond.initialized RX0, Cond.code yX0_there cX0_there 3 (some .int), Cond.methodLink RX0 35 yX0_isThere, Cond.instanceMethod yX0_isThere, Cond.selects RX0 yX0_isThere yX0_isThere, Cond.code yX0_isThere cX0_isThere 2 (some .boolean), Cond.fieldLink RX0 15 "SharedStates$Blocks" "uses" "[I", Cond.methodLink RX4 124 yX0_lowestHolding, Cond.instanceMethod yX0_lowestHolding, Cond.selects RX0 yX0_lowestHolding yX0_lowestHolding, Cond.code yX0_lowestHolding cX0_lowestHolding 4 (some .int), Cond.methodLink RX0 39 yX0_holds, Cond.instanceMethod yX0_holds, Cond.selects RX0 yX0_holds yX0_holds, Cond.code yX0_holds cX0_holds 5 (some .boolean), Cond.fieldLink RX0 9 "SharedStates$Blocks" "cells" "[I"]
def wsX4_shareBlocks_r2 : List Cond := [Cond.methodLink RX4 134 yX0_addUses, Cond.instanceMethod yX0_addUses, Cond.selects RX0 yX0_addUses yX0_addUses, Cond.code yX0_addUses cX0_addUses 3 none, Cond.static yX5_isIndex, Cond.initialized RX5, Cond.code yX5_isIndex cX5_isIndex 2 (some .boolean)]
def wsX4_shareBlocks : List Cond := .code yX4_shareBlocks cX4_shareBlocks 5 (some .int) :: ((wsX4_shareBlocks_r1 ++ wsX4_shareBlocks_r2) ++ wsX40 ++ wsX30 ++ wsX00)
def wsX4_changeSetting : List Cond := .code yX4_changeSetting cX4_changeSetting 4 (some .int) :: ([.constant RX4 101 (-1000001), .fieldLink RX4 32 "SharedStates$World" "sharing" "I", .static yX5_isIndex, .initialized RX5, .code yX5_isIndex cX5_isIndex 2 (some .boolean)] ++ wsX40)
def wsX5_init_r1 : List Cond := [Cond.methodLink RX5 1 objectInit, Cond.instanceMethod objectInit, Cond.code objectInit ⟨#[0xb1]⟩ 1 none, Cond.classLink RX5 7 RX4, Cond.instantiable RX4 6, Cond.initialized RX4, Cond.fieldLink RX5 10 "SharedStates" "world" "LSharedStates$World;", Cond.fieldLink RX5 16 "SharedStates" "trial" "LSharedStates$World;", Cond.classLink RX5 19 RX1, Cond.instantiable RX1 3, Cond.initialized RX1, Cond.fieldLink RX5 22 "SharedStates" "history" "LSharedStates$History;", Cond.classLink RX5 26 RX2, Cond.instantiable RX2 8, Cond.initialized RX2, Cond.fieldLink RX5 29 "SharedStates" "orders" "LSharedStates$Orders;", Cond.methodLink RX5 9 yX4_init, Cond.instanceMethod yX4_init, Cond.code yX4_init cX4_init 2 none, Cond.methodLink RX4 3 objectInit, Cond.classLink RX4 9 RX0, Cond.instantiable RX0 4, Cond.initialized RX0, Cond.fieldLink RX4 12 "SharedStates$World" "blocks" "LSharedStates$Blocks;"]
def wsX5_init_r2 : List Cond := [Cond.classLink RX4 18 RX3, Cond.instantiable RX3 5, Cond.initialized RX3, Cond.fieldLink RX4 21 "SharedStates$World" "states" "LSharedStates$States;", Cond.arrayClass .int, Cond.fieldLink RX4 25 "SharedStates$World" "heads" "[I", Cond.fieldLink RX4 29 "SharedStates$World" "draft" "[I", Cond.fieldLink RX4 32 "SharedStates$World" "sharing" "I", Cond.fieldLink RX4 36 "SharedStates$World" "conflictsSoFar" "I", Cond.methodLink RX4 11 yX0_init, Cond.instanceMethod yX0_init, Cond.code yX0_init cX0_init 1 none, Cond.methodLink RX0 3 objectInit, Cond.fieldLink RX0 9 "SharedStates$Blocks" "cells" "[I", Cond.fieldLink RX0 15 "SharedStates$Blocks" "uses" "[I", Cond.fieldLink RX0 18 "SharedStates$Blocks" "made" "I", Cond.fieldLink RX0 22 "SharedStates$Blocks" "taken" "I", Cond.methodLink RX4 20 yX3_init, Cond.instanceMethod yX3_init, Cond.code yX3_init cX3_init 1 none, Cond.methodLink RX3 3 objectInit, Cond.fieldLink RX3 9 "SharedStates$States" "numbers" "[I", Cond.fieldLink RX3 15 "SharedStates$States" "parents" "[I", Cond.fieldLink RX3 18 "SharedStates$States" "places" "[I"]
def wsX5_init_r3 : List Cond := [Cond.fieldLink RX3 21 "SharedStates$States" "size" "I", Cond.fieldLink RX3 25 "SharedStates$States" "made" "I", Cond.methodLink RX5 21 yX1_init, Cond.instanceMethod yX1_init, Cond.code yX1_init cX1_init 2 none, Cond.methodLink RX1 3 objectInit, Cond.classLink RX1 9 RX4, Cond.fieldLink RX1 11 "SharedStates$History" "records" "[LSharedStates$World;", Cond.fieldLink RX1 17 "SharedStates$History" "oldest" "I", Cond.fieldLink RX1 21 "SharedStates$History" "size" "I", Cond.methodLink RX1 24 yX4_init, Cond.instanceMethod yX2_init, Cond.code yX2_init cX2_init 1 none, Cond.methodLink RX2 3 objectInit, Cond.fieldLink RX2 9 "SharedStates$Orders" "signs" "[I", Cond.fieldLink RX2 15 "SharedStates$Orders" "numbers" "[I", Cond.fieldLink RX2 18 "SharedStates$Orders" "length" "I", Cond.fieldLink RX2 22 "SharedStates$Orders" "position" "I", Cond.fieldLink RX2 25 "SharedStates$Orders" "done" "I", Cond.fieldLink RX2 28 "SharedStates$Orders" "faultPosition" "I", Cond.fieldLink RX2 31 "SharedStates$Orders" "faultReason" "I", Cond.fieldLink RX2 34 "SharedStates$Orders" "faultCause" "I"]
def wsX5_init : List Cond := .code yX5_init cX5_init 1 none :: ((wsX5_init_r1 ++ (wsX5_init_r2 ++ wsX5_init_r3)) ++ wsX40 ++ wsX50 ++ wsX10 ++ wsX20 ++ wsX00 ++ wsX30)
def wsX5_startTrial_r1 : List Cond := [Cond.fieldLink RX5 16 "SharedStates" "trial" "LSharedStates$World;", Cond.fieldLink RX5 10 "SharedStates" "world" "LSharedStates$World;", Cond.methodLink RX5 235 yX4_becomeLike, Cond.instanceMethod yX4_becomeLike, Cond.selects RX4 yX4_becomeLike yX4_becomeLike, Cond.initialized RX4, Cond.code yX4_becomeLike cX4_becomeLike 2 none, Cond.fieldLink RX4 12 "SharedStates$World" "blocks" "LSharedStates$Blocks;", Cond.fieldLink RX4 21 "SharedStates$World" "states" "LSharedStates$States;", Cond.fieldLink RX4 25 "SharedStates$World" "heads" "[I", Cond.methodLink RX4 46 arraycopyName, Cond.native arraycopyName, Cond.static arraycopyName, Cond.initialized "java/lang/System", Cond.fieldLink RX4 32 "SharedStates$World" "sharing" "I", Cond.fieldLink RX4 36 "SharedStates$World" "conflictsSoFar" "I", Cond.methodLink RX4 39 yX0_becomeLike, Cond.instanceMethod yX0_becomeLike, Cond.selects RX0 yX0_becomeLike yX0_becomeLike, Cond.initialized RX0, Cond.code yX0_becomeLike cX0_becomeLike 2 none, Cond.fieldLink RX0 9 "SharedStates$Blocks" "cells" "[I", Cond.methodLink RX0 25 arraycopyName, Cond.fieldLink RX0 15 "SharedStates$Blocks" "uses" "[I"]
def wsX5_startTrial_r2 : List Cond := [Cond.fieldLink RX0 18 "SharedStates$Blocks" "made" "I", Cond.fieldLink RX0 22 "SharedStates$Blocks" "taken" "I", Cond.methodLink RX4 43 yX3_becomeLike, Cond.instanceMethod yX3_becomeLike, Cond.selects RX3 yX3_becomeLike yX3_becomeLike, Cond.initialized RX3, Cond.code yX3_becomeLike cX3_becomeLike 2 none, Cond.fieldLink RX3 9 "SharedStates$States" "numbers" "[I", Cond.methodLink RX3 28 arraycopyName, Cond.fieldLink RX3 15 "SharedStates$States" "parents" "[I", Cond.fieldLink RX3 18 "SharedStates$States" "places" "[I", Cond.fieldLink RX3 21 "SharedStates$States" "size" "I", Cond.fieldLink RX3 25 "SharedStates$States" "made" "I"]
def wsX5_startTrial : List Cond := .code yX5_startTrial cX5_startTrial 1 (some (.object "SharedStates$World")) :: ((wsX5_startTrial_r1 ++ wsX5_startTrial_r2) ++ wsX50 ++ wsX40 ++ wsX00 ++ wsX30)
def wsX5_keepTrial : List Cond := .code yX5_keepTrial cX5_keepTrial 3 (some .int) :: ([.fieldLink RX5 10 "SharedStates" "world" "LSharedStates$World;", .fieldLink RX5 16 "SharedStates" "trial" "LSharedStates$World;", .fieldLink RX5 22 "SharedStates" "history" "LSharedStates$History;", .methodLink RX5 239 yX1_add, .instanceMethod yX1_add, .selects RX1 yX1_add yX1_add, .initialized RX1, .code yX1_add cX1_add 4 (some (.object "SharedStates$World")), .fieldLink RX1 17 "SharedStates$History" "oldest" "I", .fieldLink RX1 21 "SharedStates$History" "size" "I", .fieldLink RX1 11 "SharedStates$History" "records" "[LSharedStates$World;"] ++ wsX50 ++ wsX10)
def wsX5_write_r1 : List Cond := [Cond.methodLink RX5 33 yX5_startTrial, Cond.instanceMethod yX5_startTrial, Cond.selects RX5 yX5_startTrial yX5_startTrial, Cond.initialized RX5, Cond.code yX5_startTrial cX5_startTrial 1 (some (.object "SharedStates$World")), Cond.fieldLink RX5 16 "SharedStates" "trial" "LSharedStates$World;", Cond.fieldLink RX5 10 "SharedStates" "world" "LSharedStates$World;", Cond.methodLink RX5 235 yX4_becomeLike, Cond.instanceMethod yX4_becomeLike, Cond.selects RX4 yX4_becomeLike yX4_becomeLike, Cond.initialized RX4, Cond.code yX4_becomeLike cX4_becomeLike 2 none, Cond.fieldLink RX4 12 "SharedStates$World" "blocks" "LSharedStates$Blocks;", Cond.fieldLink RX4 21 "SharedStates$World" "states" "LSharedStates$States;", Cond.fieldLink RX4 25 "SharedStates$World" "heads" "[I", Cond.methodLink RX4 46 arraycopyName, Cond.native arraycopyName, Cond.static arraycopyName, Cond.initialized "java/lang/System", Cond.fieldLink RX4 32 "SharedStates$World" "sharing" "I", Cond.fieldLink RX4 36 "SharedStates$World" "conflictsSoFar" "I", Cond.methodLink RX4 39 yX0_becomeLike, Cond.instanceMethod yX0_becomeLike, Cond.selects RX0 yX0_becomeLike yX0_becomeLike]
def wsX5_write_r2 : List Cond := [Cond.initialized RX0, Cond.code yX0_becomeLike cX0_becomeLike 2 none, Cond.fieldLink RX0 9 "SharedStates$Blocks" "cells" "[I", Cond.methodLink RX0 25 arraycopyName, Cond.fieldLink RX0 15 "SharedStates$Blocks" "uses" "[I", Cond.fieldLink RX0 18 "SharedStates$Blocks" "made" "I", Cond.fieldLink RX0 22 "SharedStates$Blocks" "taken" "I", Cond.methodLink RX4 43 yX3_becomeLike, Cond.instanceMethod yX3_becomeLike, Cond.selects RX3 yX3_becomeLike yX3_becomeLike, Cond.initialized RX3, Cond.code yX3_becomeLike cX3_becomeLike 2 none, Cond.fieldLink RX3 9 "SharedStates$States" "numbers" "[I", Cond.methodLink RX3 28 arraycopyName, Cond.fieldLink RX3 15 "SharedStates$States" "parents" "[I", Cond.fieldLink RX3 18 "SharedStates$States" "places" "[I", Cond.fieldLink RX3 21 "SharedStates$States" "size" "I", Cond.fieldLink RX3 25 "SharedStates$States" "made" "I", Cond.methodLink RX5 37 yX4_fillCells, Cond.instanceMethod yX4_fillCells, Cond.selects RX4 yX4_fillCells yX4_fillCells, Cond.code yX4_fillCells cX4_fillCells 7 (some .int), Cond.constant RX4 101 (-1000001), Cond.fieldLink RX4 29 "SharedStates$World" "draft" "[I"]
def wsX5_write_r3 : List Cond := [Cond.methodLink RX4 95 yX4_headSlot, Cond.instanceMethod yX4_headSlot, Cond.selects RX4 yX4_headSlot yX4_headSlot, Cond.code yX4_headSlot cX4_headSlot 2 (some .int), Cond.methodLink RX4 56 yX4_isBranch, Cond.instanceMethod yX4_isBranch, Cond.selects RX4 yX4_isBranch yX4_isBranch, Cond.code yX4_isBranch cX4_isBranch 2 (some .boolean), Cond.static yX5_isIndex, Cond.code yX5_isIndex cX5_isIndex 2 (some .boolean), Cond.methodLink RX4 60 yX3_slotOf, Cond.instanceMethod yX3_slotOf, Cond.selects RX3 yX3_slotOf yX3_slotOf, Cond.code yX3_slotOf cX3_slotOf 3 (some .int), Cond.static yX5_isRange, Cond.code yX5_isRange cX5_isRange 2 (some .boolean), Cond.methodLink RX5 81 yX5_isIndex, Cond.methodLink RX4 102 yX4_draftState, Cond.instanceMethod yX4_draftState, Cond.selects RX4 yX4_draftState yX4_draftState, Cond.code yX4_draftState cX4_draftState 3 none, Cond.methodLink RX4 74 yX4_cellAt, Cond.instanceMethod yX4_cellAt, Cond.selects RX4 yX4_cellAt yX4_cellAt]
def wsX5_write_r4 : List Cond := [Cond.code yX4_cellAt cX4_cellAt 3 (some .int), Cond.methodLink RX4 64 yX3_block, Cond.instanceMethod yX3_block, Cond.selects RX3 yX3_block yX3_block, Cond.code yX3_block cX3_block 4 (some .int), Cond.methodLink RX4 68 yX0_cellOf, Cond.instanceMethod yX0_cellOf, Cond.selects RX0 yX0_cellOf yX0_cellOf, Cond.code yX0_cellOf cX0_cellOf 4 (some .int), Cond.methodLink RX4 106 yX4_addDraft, Cond.instanceMethod yX4_addDraft, Cond.selects RX4 yX4_addDraft yX4_addDraft, Cond.code yX4_addDraft cX4_addDraft 7 (some .int), Cond.fieldLink RX4 116 "SharedStates$States" "size" "I", Cond.constant RX4 119 (-1000003), Cond.fieldLink RX4 128 "SharedStates$Blocks" "taken" "I", Cond.fieldLink RX4 138 "SharedStates$States" "places" "[I", Cond.methodLink RX4 120 yX0_holds, Cond.instanceMethod yX0_holds, Cond.selects RX0 yX0_holds yX0_holds, Cond.code yX0_holds cX0_holds 5 (some .boolean), Cond.methodLink RX4 124 yX0_lowestHolding, Cond.instanceMethod yX0_lowestHolding, Cond.selects RX0 yX0_lowestHolding yX0_lowestHolding]
def wsX5_write_r5 : List Cond := [Cond.code yX0_lowestHolding cX0_lowestHolding 4 (some .int), Cond.methodLink RX0 39 yX0_holds, Cond.methodLink RX4 131 yX0_make, Cond.instanceMethod yX0_make, Cond.selects RX0 yX0_make yX0_make, Cond.code yX0_make cX0_make 4 (some .int), Cond.methodLink RX4 134 yX0_addUses, Cond.instanceMethod yX0_addUses, Cond.selects RX0 yX0_addUses yX0_addUses, Cond.code yX0_addUses cX0_addUses 3 none, Cond.methodLink RX4 89 yX3_numberOf, Cond.instanceMethod yX3_numberOf, Cond.selects RX3 yX3_numberOf yX3_numberOf, Cond.code yX3_numberOf cX3_numberOf 2 (some .int), Cond.methodLink RX4 141 yX3_add, Cond.instanceMethod yX3_add, Cond.selects RX3 yX3_add yX3_add, Cond.code yX3_add cX3_add 2 (some .int), Cond.methodLink RX5 41 yX5_keepTrial, Cond.instanceMethod yX5_keepTrial, Cond.selects RX5 yX5_keepTrial yX5_keepTrial, Cond.code yX5_keepTrial cX5_keepTrial 3 (some .int), Cond.fieldLink RX5 22 "SharedStates" "history" "LSharedStates$History;", Cond.methodLink RX5 239 yX1_add]
def wsX5_write_r6 : List Cond := [Cond.instanceMethod yX1_add, Cond.selects RX1 yX1_add yX1_add, Cond.initialized RX1, Cond.code yX1_add cX1_add 4 (some (.object "SharedStates$World")), Cond.fieldLink RX1 17 "SharedStates$History" "oldest" "I", Cond.fieldLink RX1 21 "SharedStates$History" "size" "I", Cond.fieldLink RX1 11 "SharedStates$History" "records" "[LSharedStates$World;"]
def wsX5_write : List Cond := .code yX5_write cX5_write 4 (some .int) :: ((wsX5_write_r1 ++ (wsX5_write_r2 ++ (wsX5_write_r3 ++ (wsX5_write_r4 ++ (wsX5_write_r5 ++ wsX5_write_r6))))) ++ wsX50 ++ wsX40 ++ wsX00 ++ wsX30 ++ wsX10)
def wsX5_fill_r1 : List Cond := [Cond.methodLink RX5 33 yX5_startTrial, Cond.instanceMethod yX5_startTrial, Cond.selects RX5 yX5_startTrial yX5_startTrial, Cond.initialized RX5, Cond.code yX5_startTrial cX5_startTrial 1 (some (.object "SharedStates$World")), Cond.fieldLink RX5 16 "SharedStates" "trial" "LSharedStates$World;", Cond.fieldLink RX5 10 "SharedStates" "world" "LSharedStates$World;", Cond.methodLink RX5 235 yX4_becomeLike, Cond.instanceMethod yX4_becomeLike, Cond.selects RX4 yX4_becomeLike yX4_becomeLike, Cond.initialized RX4, Cond.code yX4_becomeLike cX4_becomeLike 2 none, Cond.fieldLink RX4 12 "SharedStates$World" "blocks" "LSharedStates$Blocks;", Cond.fieldLink RX4 21 "SharedStates$World" "states" "LSharedStates$States;", Cond.fieldLink RX4 25 "SharedStates$World" "heads" "[I", Cond.methodLink RX4 46 arraycopyName, Cond.native arraycopyName, Cond.static arraycopyName, Cond.initialized "java/lang/System", Cond.fieldLink RX4 32 "SharedStates$World" "sharing" "I", Cond.fieldLink RX4 36 "SharedStates$World" "conflictsSoFar" "I", Cond.methodLink RX4 39 yX0_becomeLike, Cond.instanceMethod yX0_becomeLike, Cond.selects RX0 yX0_becomeLike yX0_becomeLike]
def wsX5_fill_r2 : List Cond := [Cond.initialized RX0, Cond.code yX0_becomeLike cX0_becomeLike 2 none, Cond.fieldLink RX0 9 "SharedStates$Blocks" "cells" "[I", Cond.methodLink RX0 25 arraycopyName, Cond.fieldLink RX0 15 "SharedStates$Blocks" "uses" "[I", Cond.fieldLink RX0 18 "SharedStates$Blocks" "made" "I", Cond.fieldLink RX0 22 "SharedStates$Blocks" "taken" "I", Cond.methodLink RX4 43 yX3_becomeLike, Cond.instanceMethod yX3_becomeLike, Cond.selects RX3 yX3_becomeLike yX3_becomeLike, Cond.initialized RX3, Cond.code yX3_becomeLike cX3_becomeLike 2 none, Cond.fieldLink RX3 9 "SharedStates$States" "numbers" "[I", Cond.methodLink RX3 28 arraycopyName, Cond.fieldLink RX3 15 "SharedStates$States" "parents" "[I", Cond.fieldLink RX3 18 "SharedStates$States" "places" "[I", Cond.fieldLink RX3 21 "SharedStates$States" "size" "I", Cond.fieldLink RX3 25 "SharedStates$States" "made" "I", Cond.methodLink RX5 37 yX4_fillCells, Cond.instanceMethod yX4_fillCells, Cond.selects RX4 yX4_fillCells yX4_fillCells, Cond.code yX4_fillCells cX4_fillCells 7 (some .int), Cond.constant RX4 101 (-1000001), Cond.fieldLink RX4 29 "SharedStates$World" "draft" "[I"]
def wsX5_fill_r3 : List Cond := [Cond.methodLink RX4 95 yX4_headSlot, Cond.instanceMethod yX4_headSlot, Cond.selects RX4 yX4_headSlot yX4_headSlot, Cond.code yX4_headSlot cX4_headSlot 2 (some .int), Cond.methodLink RX4 56 yX4_isBranch, Cond.instanceMethod yX4_isBranch, Cond.selects RX4 yX4_isBranch yX4_isBranch, Cond.code yX4_isBranch cX4_isBranch 2 (some .boolean), Cond.static yX5_isIndex, Cond.code yX5_isIndex cX5_isIndex 2 (some .boolean), Cond.methodLink RX4 60 yX3_slotOf, Cond.instanceMethod yX3_slotOf, Cond.selects RX3 yX3_slotOf yX3_slotOf, Cond.code yX3_slotOf cX3_slotOf 3 (some .int), Cond.static yX5_isRange, Cond.code yX5_isRange cX5_isRange 2 (some .boolean), Cond.methodLink RX5 81 yX5_isIndex, Cond.methodLink RX4 102 yX4_draftState, Cond.instanceMethod yX4_draftState, Cond.selects RX4 yX4_draftState yX4_draftState, Cond.code yX4_draftState cX4_draftState 3 none, Cond.methodLink RX4 74 yX4_cellAt, Cond.instanceMethod yX4_cellAt, Cond.selects RX4 yX4_cellAt yX4_cellAt]
def wsX5_fill_r4 : List Cond := [Cond.code yX4_cellAt cX4_cellAt 3 (some .int), Cond.methodLink RX4 64 yX3_block, Cond.instanceMethod yX3_block, Cond.selects RX3 yX3_block yX3_block, Cond.code yX3_block cX3_block 4 (some .int), Cond.methodLink RX4 68 yX0_cellOf, Cond.instanceMethod yX0_cellOf, Cond.selects RX0 yX0_cellOf yX0_cellOf, Cond.code yX0_cellOf cX0_cellOf 4 (some .int), Cond.methodLink RX4 106 yX4_addDraft, Cond.instanceMethod yX4_addDraft, Cond.selects RX4 yX4_addDraft yX4_addDraft, Cond.code yX4_addDraft cX4_addDraft 7 (some .int), Cond.fieldLink RX4 116 "SharedStates$States" "size" "I", Cond.constant RX4 119 (-1000003), Cond.fieldLink RX4 128 "SharedStates$Blocks" "taken" "I", Cond.fieldLink RX4 138 "SharedStates$States" "places" "[I", Cond.methodLink RX4 120 yX0_holds, Cond.instanceMethod yX0_holds, Cond.selects RX0 yX0_holds yX0_holds, Cond.code yX0_holds cX0_holds 5 (some .boolean), Cond.methodLink RX4 124 yX0_lowestHolding, Cond.instanceMethod yX0_lowestHolding, Cond.selects RX0 yX0_lowestHolding yX0_lowestHolding]
def wsX5_fill_r5 : List Cond := [Cond.code yX0_lowestHolding cX0_lowestHolding 4 (some .int), Cond.methodLink RX0 39 yX0_holds, Cond.methodLink RX4 131 yX0_make, Cond.instanceMethod yX0_make, Cond.selects RX0 yX0_make yX0_make, Cond.code yX0_make cX0_make 4 (some .int), Cond.methodLink RX4 134 yX0_addUses, Cond.instanceMethod yX0_addUses, Cond.selects RX0 yX0_addUses yX0_addUses, Cond.code yX0_addUses cX0_addUses 3 none, Cond.methodLink RX4 89 yX3_numberOf, Cond.instanceMethod yX3_numberOf, Cond.selects RX3 yX3_numberOf yX3_numberOf, Cond.code yX3_numberOf cX3_numberOf 2 (some .int), Cond.methodLink RX4 141 yX3_add, Cond.instanceMethod yX3_add, Cond.selects RX3 yX3_add yX3_add, Cond.code yX3_add cX3_add 2 (some .int), Cond.methodLink RX5 41 yX5_keepTrial, Cond.instanceMethod yX5_keepTrial, Cond.selects RX5 yX5_keepTrial yX5_keepTrial, Cond.code yX5_keepTrial cX5_keepTrial 3 (some .int), Cond.fieldLink RX5 22 "SharedStates" "history" "LSharedStates$History;", Cond.methodLink RX5 239 yX1_add]
def wsX5_fill_r6 : List Cond := [Cond.instanceMethod yX1_add, Cond.selects RX1 yX1_add yX1_add, Cond.initialized RX1, Cond.code yX1_add cX1_add 4 (some (.object "SharedStates$World")), Cond.fieldLink RX1 17 "SharedStates$History" "oldest" "I", Cond.fieldLink RX1 21 "SharedStates$History" "size" "I", Cond.fieldLink RX1 11 "SharedStates$History" "records" "[LSharedStates$World;"]
def wsX5_fill : List Cond := .code yX5_fill cX5_fill 5 (some .int) :: ((wsX5_fill_r1 ++ (wsX5_fill_r2 ++ (wsX5_fill_r3 ++ (wsX5_fill_r4 ++ (wsX5_fill_r5 ++ wsX5_fill_r6))))) ++ wsX50 ++ wsX40 ++ wsX00 ++ wsX30 ++ wsX10)
def wsX5_copy_r1 : List Cond := [Cond.methodLink RX5 33 yX5_startTrial, Cond.instanceMethod yX5_startTrial, Cond.selects RX5 yX5_startTrial yX5_startTrial, Cond.initialized RX5, Cond.code yX5_startTrial cX5_startTrial 1 (some (.object "SharedStates$World")), Cond.fieldLink RX5 16 "SharedStates" "trial" "LSharedStates$World;", Cond.fieldLink RX5 10 "SharedStates" "world" "LSharedStates$World;", Cond.methodLink RX5 235 yX4_becomeLike, Cond.instanceMethod yX4_becomeLike, Cond.selects RX4 yX4_becomeLike yX4_becomeLike, Cond.initialized RX4, Cond.code yX4_becomeLike cX4_becomeLike 2 none, Cond.fieldLink RX4 12 "SharedStates$World" "blocks" "LSharedStates$Blocks;", Cond.fieldLink RX4 21 "SharedStates$World" "states" "LSharedStates$States;", Cond.fieldLink RX4 25 "SharedStates$World" "heads" "[I", Cond.methodLink RX4 46 arraycopyName, Cond.native arraycopyName, Cond.static arraycopyName, Cond.initialized "java/lang/System", Cond.fieldLink RX4 32 "SharedStates$World" "sharing" "I", Cond.fieldLink RX4 36 "SharedStates$World" "conflictsSoFar" "I", Cond.methodLink RX4 39 yX0_becomeLike, Cond.instanceMethod yX0_becomeLike, Cond.selects RX0 yX0_becomeLike yX0_becomeLike]
def wsX5_copy_r2 : List Cond := [Cond.initialized RX0, Cond.code yX0_becomeLike cX0_becomeLike 2 none, Cond.fieldLink RX0 9 "SharedStates$Blocks" "cells" "[I", Cond.methodLink RX0 25 arraycopyName, Cond.fieldLink RX0 15 "SharedStates$Blocks" "uses" "[I", Cond.fieldLink RX0 18 "SharedStates$Blocks" "made" "I", Cond.fieldLink RX0 22 "SharedStates$Blocks" "taken" "I", Cond.methodLink RX4 43 yX3_becomeLike, Cond.instanceMethod yX3_becomeLike, Cond.selects RX3 yX3_becomeLike yX3_becomeLike, Cond.initialized RX3, Cond.code yX3_becomeLike cX3_becomeLike 2 none, Cond.fieldLink RX3 9 "SharedStates$States" "numbers" "[I", Cond.methodLink RX3 28 arraycopyName, Cond.fieldLink RX3 15 "SharedStates$States" "parents" "[I", Cond.fieldLink RX3 18 "SharedStates$States" "places" "[I", Cond.fieldLink RX3 21 "SharedStates$States" "size" "I", Cond.fieldLink RX3 25 "SharedStates$States" "made" "I", Cond.methodLink RX5 45 yX4_copyCells, Cond.instanceMethod yX4_copyCells, Cond.selects RX4 yX4_copyCells yX4_copyCells, Cond.code yX4_copyCells cX4_copyCells 9 (some .int), Cond.constant RX4 101 (-1000001), Cond.fieldLink RX4 29 "SharedStates$World" "draft" "[I"]
def wsX5_copy_r3 : List Cond := [Cond.methodLink RX4 95 yX4_headSlot, Cond.instanceMethod yX4_headSlot, Cond.selects RX4 yX4_headSlot yX4_headSlot, Cond.code yX4_headSlot cX4_headSlot 2 (some .int), Cond.methodLink RX4 56 yX4_isBranch, Cond.instanceMethod yX4_isBranch, Cond.selects RX4 yX4_isBranch yX4_isBranch, Cond.code yX4_isBranch cX4_isBranch 2 (some .boolean), Cond.static yX5_isIndex, Cond.code yX5_isIndex cX5_isIndex 2 (some .boolean), Cond.methodLink RX4 60 yX3_slotOf, Cond.instanceMethod yX3_slotOf, Cond.selects RX3 yX3_slotOf yX3_slotOf, Cond.code yX3_slotOf cX3_slotOf 3 (some .int), Cond.static yX5_isRange, Cond.code yX5_isRange cX5_isRange 2 (some .boolean), Cond.methodLink RX5 81 yX5_isIndex, Cond.methodLink RX4 102 yX4_draftState, Cond.instanceMethod yX4_draftState, Cond.selects RX4 yX4_draftState yX4_draftState, Cond.code yX4_draftState cX4_draftState 3 none, Cond.methodLink RX4 74 yX4_cellAt, Cond.instanceMethod yX4_cellAt, Cond.selects RX4 yX4_cellAt yX4_cellAt]
def wsX5_copy_r4 : List Cond := [Cond.code yX4_cellAt cX4_cellAt 3 (some .int), Cond.methodLink RX4 64 yX3_block, Cond.instanceMethod yX3_block, Cond.selects RX3 yX3_block yX3_block, Cond.code yX3_block cX3_block 4 (some .int), Cond.methodLink RX4 68 yX0_cellOf, Cond.instanceMethod yX0_cellOf, Cond.selects RX0 yX0_cellOf yX0_cellOf, Cond.code yX0_cellOf cX0_cellOf 4 (some .int), Cond.methodLink RX4 106 yX4_addDraft, Cond.instanceMethod yX4_addDraft, Cond.selects RX4 yX4_addDraft yX4_addDraft, Cond.code yX4_addDraft cX4_addDraft 7 (some .int), Cond.fieldLink RX4 116 "SharedStates$States" "size" "I", Cond.constant RX4 119 (-1000003), Cond.fieldLink RX4 128 "SharedStates$Blocks" "taken" "I", Cond.fieldLink RX4 138 "SharedStates$States" "places" "[I", Cond.methodLink RX4 120 yX0_holds, Cond.instanceMethod yX0_holds, Cond.selects RX0 yX0_holds yX0_holds, Cond.code yX0_holds cX0_holds 5 (some .boolean), Cond.methodLink RX4 124 yX0_lowestHolding, Cond.instanceMethod yX0_lowestHolding, Cond.selects RX0 yX0_lowestHolding yX0_lowestHolding]
def wsX5_copy_r5 : List Cond := [Cond.code yX0_lowestHolding cX0_lowestHolding 4 (some .int), Cond.methodLink RX0 39 yX0_holds, Cond.methodLink RX4 131 yX0_make, Cond.instanceMethod yX0_make, Cond.selects RX0 yX0_make yX0_make, Cond.code yX0_make cX0_make 4 (some .int), Cond.methodLink RX4 134 yX0_addUses, Cond.instanceMethod yX0_addUses, Cond.selects RX0 yX0_addUses yX0_addUses, Cond.code yX0_addUses cX0_addUses 3 none, Cond.methodLink RX4 89 yX3_numberOf, Cond.instanceMethod yX3_numberOf, Cond.selects RX3 yX3_numberOf yX3_numberOf, Cond.code yX3_numberOf cX3_numberOf 2 (some .int), Cond.methodLink RX4 141 yX3_add, Cond.instanceMethod yX3_add, Cond.selects RX3 yX3_add yX3_add, Cond.code yX3_add cX3_add 2 (some .int), Cond.methodLink RX5 41 yX5_keepTrial, Cond.instanceMethod yX5_keepTrial, Cond.selects RX5 yX5_keepTrial yX5_keepTrial, Cond.code yX5_keepTrial cX5_keepTrial 3 (some .int), Cond.fieldLink RX5 22 "SharedStates" "history" "LSharedStates$History;", Cond.methodLink RX5 239 yX1_add]
def wsX5_copy_r6 : List Cond := [Cond.instanceMethod yX1_add, Cond.selects RX1 yX1_add yX1_add, Cond.initialized RX1, Cond.code yX1_add cX1_add 4 (some (.object "SharedStates$World")), Cond.fieldLink RX1 17 "SharedStates$History" "oldest" "I", Cond.fieldLink RX1 21 "SharedStates$History" "size" "I", Cond.fieldLink RX1 11 "SharedStates$History" "records" "[LSharedStates$World;"]
def wsX5_copy : List Cond := .code yX5_copy cX5_copy 6 (some .int) :: ((wsX5_copy_r1 ++ (wsX5_copy_r2 ++ (wsX5_copy_r3 ++ (wsX5_copy_r4 ++ (wsX5_copy_r5 ++ wsX5_copy_r6))))) ++ wsX50 ++ wsX40 ++ wsX00 ++ wsX30 ++ wsX10)
def wsX5_merge_r1 : List Cond := [Cond.methodLink RX5 33 yX5_startTrial, Cond.instanceMethod yX5_startTrial, Cond.selects RX5 yX5_startTrial yX5_startTrial, Cond.initialized RX5, Cond.code yX5_startTrial cX5_startTrial 1 (some (.object "SharedStates$World")), Cond.fieldLink RX5 16 "SharedStates" "trial" "LSharedStates$World;", Cond.fieldLink RX5 10 "SharedStates" "world" "LSharedStates$World;", Cond.methodLink RX5 235 yX4_becomeLike, Cond.instanceMethod yX4_becomeLike, Cond.selects RX4 yX4_becomeLike yX4_becomeLike, Cond.initialized RX4, Cond.code yX4_becomeLike cX4_becomeLike 2 none, Cond.fieldLink RX4 12 "SharedStates$World" "blocks" "LSharedStates$Blocks;", Cond.fieldLink RX4 21 "SharedStates$World" "states" "LSharedStates$States;", Cond.fieldLink RX4 25 "SharedStates$World" "heads" "[I", Cond.methodLink RX4 46 arraycopyName, Cond.native arraycopyName, Cond.static arraycopyName, Cond.initialized "java/lang/System", Cond.fieldLink RX4 32 "SharedStates$World" "sharing" "I", Cond.fieldLink RX4 36 "SharedStates$World" "conflictsSoFar" "I", Cond.methodLink RX4 39 yX0_becomeLike, Cond.instanceMethod yX0_becomeLike, Cond.selects RX0 yX0_becomeLike yX0_becomeLike]
def wsX5_merge_r2 : List Cond := [Cond.initialized RX0, Cond.code yX0_becomeLike cX0_becomeLike 2 none, Cond.fieldLink RX0 9 "SharedStates$Blocks" "cells" "[I", Cond.methodLink RX0 25 arraycopyName, Cond.fieldLink RX0 15 "SharedStates$Blocks" "uses" "[I", Cond.fieldLink RX0 18 "SharedStates$Blocks" "made" "I", Cond.fieldLink RX0 22 "SharedStates$Blocks" "taken" "I", Cond.methodLink RX4 43 yX3_becomeLike, Cond.instanceMethod yX3_becomeLike, Cond.selects RX3 yX3_becomeLike yX3_becomeLike, Cond.initialized RX3, Cond.code yX3_becomeLike cX3_becomeLike 2 none, Cond.fieldLink RX3 9 "SharedStates$States" "numbers" "[I", Cond.methodLink RX3 28 arraycopyName, Cond.fieldLink RX3 15 "SharedStates$States" "parents" "[I", Cond.fieldLink RX3 18 "SharedStates$States" "places" "[I", Cond.fieldLink RX3 21 "SharedStates$States" "size" "I", Cond.fieldLink RX3 25 "SharedStates$States" "made" "I", Cond.methodLink RX5 49 yX4_mergeState, Cond.instanceMethod yX4_mergeState, Cond.selects RX4 yX4_mergeState yX4_mergeState, Cond.code yX4_mergeState cX4_mergeState 7 (some .int), Cond.constant RX4 101 (-1000001), Cond.methodLink RX4 95 yX4_headSlot]
def wsX5_merge_r3 : List Cond := [Cond.instanceMethod yX4_headSlot, Cond.selects RX4 yX4_headSlot yX4_headSlot, Cond.code yX4_headSlot cX4_headSlot 2 (some .int), Cond.methodLink RX4 56 yX4_isBranch, Cond.instanceMethod yX4_isBranch, Cond.selects RX4 yX4_isBranch yX4_isBranch, Cond.code yX4_isBranch cX4_isBranch 2 (some .boolean), Cond.static yX5_isIndex, Cond.code yX5_isIndex cX5_isIndex 2 (some .boolean), Cond.methodLink RX4 60 yX3_slotOf, Cond.instanceMethod yX3_slotOf, Cond.selects RX3 yX3_slotOf yX3_slotOf, Cond.code yX3_slotOf cX3_slotOf 3 (some .int), Cond.methodLink RX4 109 yX3_commonSlot, Cond.instanceMethod yX3_commonSlot, Cond.selects RX3 yX3_commonSlot yX3_commonSlot, Cond.code yX3_commonSlot cX3_commonSlot 6 (some .int), Cond.methodLink RX3 48 yX3_parentSlot, Cond.instanceMethod yX3_parentSlot, Cond.selects RX3 yX3_parentSlot yX3_parentSlot, Cond.code yX3_parentSlot cX3_parentSlot 2 (some .int), Cond.methodLink RX3 34 yX3_parentOf, Cond.instanceMethod yX3_parentOf, Cond.selects RX3 yX3_parentOf yX3_parentOf]
def wsX5_merge_r4 : List Cond := [Cond.code yX3_parentOf cX3_parentOf 2 (some .int), Cond.methodLink RX3 38 yX3_slotOf, Cond.methodLink RX4 112 yX4_draftMerge, Cond.instanceMethod yX4_draftMerge, Cond.selects RX4 yX4_draftMerge yX4_draftMerge, Cond.code yX4_draftMerge cX4_draftMerge 10 (some .int), Cond.fieldLink RX4 29 "SharedStates$World" "draft" "[I", Cond.methodLink RX4 74 yX4_cellAt, Cond.instanceMethod yX4_cellAt, Cond.selects RX4 yX4_cellAt yX4_cellAt, Cond.code yX4_cellAt cX4_cellAt 3 (some .int), Cond.methodLink RX4 64 yX3_block, Cond.instanceMethod yX3_block, Cond.selects RX3 yX3_block yX3_block, Cond.code yX3_block cX3_block 4 (some .int), Cond.methodLink RX4 68 yX0_cellOf, Cond.instanceMethod yX0_cellOf, Cond.selects RX0 yX0_cellOf yX0_cellOf, Cond.code yX0_cellOf cX0_cellOf 4 (some .int), Cond.methodLink RX4 106 yX4_addDraft, Cond.instanceMethod yX4_addDraft, Cond.selects RX4 yX4_addDraft yX4_addDraft, Cond.code yX4_addDraft cX4_addDraft 7 (some .int), Cond.fieldLink RX4 116 "SharedStates$States" "size" "I"]
def wsX5_merge_r5 : List Cond := [Cond.constant RX4 119 (-1000003), Cond.fieldLink RX4 128 "SharedStates$Blocks" "taken" "I", Cond.fieldLink RX4 138 "SharedStates$States" "places" "[I", Cond.methodLink RX4 120 yX0_holds, Cond.instanceMethod yX0_holds, Cond.selects RX0 yX0_holds yX0_holds, Cond.code yX0_holds cX0_holds 5 (some .boolean), Cond.methodLink RX4 124 yX0_lowestHolding, Cond.instanceMethod yX0_lowestHolding, Cond.selects RX0 yX0_lowestHolding yX0_lowestHolding, Cond.code yX0_lowestHolding cX0_lowestHolding 4 (some .int), Cond.methodLink RX0 39 yX0_holds, Cond.methodLink RX4 131 yX0_make, Cond.instanceMethod yX0_make, Cond.selects RX0 yX0_make yX0_make, Cond.code yX0_make cX0_make 4 (some .int), Cond.methodLink RX4 134 yX0_addUses, Cond.instanceMethod yX0_addUses, Cond.selects RX0 yX0_addUses yX0_addUses, Cond.code yX0_addUses cX0_addUses 3 none, Cond.methodLink RX4 89 yX3_numberOf, Cond.instanceMethod yX3_numberOf, Cond.selects RX3 yX3_numberOf yX3_numberOf, Cond.code yX3_numberOf cX3_numberOf 2 (some .int)]
def wsX5_merge_r6 : List Cond := [Cond.methodLink RX4 141 yX3_add, Cond.instanceMethod yX3_add, Cond.selects RX3 yX3_add yX3_add, Cond.code yX3_add cX3_add 2 (some .int), Cond.methodLink RX5 41 yX5_keepTrial, Cond.instanceMethod yX5_keepTrial, Cond.selects RX5 yX5_keepTrial yX5_keepTrial, Cond.code yX5_keepTrial cX5_keepTrial 3 (some .int), Cond.fieldLink RX5 22 "SharedStates" "history" "LSharedStates$History;", Cond.methodLink RX5 239 yX1_add, Cond.instanceMethod yX1_add, Cond.selects RX1 yX1_add yX1_add, Cond.initialized RX1, Cond.code yX1_add cX1_add 4 (some (.object "SharedStates$World")), Cond.fieldLink RX1 17 "SharedStates$History" "oldest" "I", Cond.fieldLink RX1 21 "SharedStates$History" "size" "I", Cond.fieldLink RX1 11 "SharedStates$History" "records" "[LSharedStates$World;"]
def wsX5_merge : List Cond := .code yX5_merge cX5_merge 3 (some .int) :: ((wsX5_merge_r1 ++ (wsX5_merge_r2 ++ (wsX5_merge_r3 ++ (wsX5_merge_r4 ++ (wsX5_merge_r5 ++ wsX5_merge_r6))))) ++ wsX50 ++ wsX40 ++ wsX00 ++ wsX30 ++ wsX10)
def wsX5_branch_r1 : List Cond := [Cond.methodLink RX5 33 yX5_startTrial, Cond.instanceMethod yX5_startTrial, Cond.selects RX5 yX5_startTrial yX5_startTrial, Cond.initialized RX5, Cond.code yX5_startTrial cX5_startTrial 1 (some (.object "SharedStates$World")), Cond.fieldLink RX5 16 "SharedStates" "trial" "LSharedStates$World;", Cond.fieldLink RX5 10 "SharedStates" "world" "LSharedStates$World;", Cond.methodLink RX5 235 yX4_becomeLike, Cond.instanceMethod yX4_becomeLike, Cond.selects RX4 yX4_becomeLike yX4_becomeLike, Cond.initialized RX4, Cond.code yX4_becomeLike cX4_becomeLike 2 none, Cond.fieldLink RX4 12 "SharedStates$World" "blocks" "LSharedStates$Blocks;", Cond.fieldLink RX4 21 "SharedStates$World" "states" "LSharedStates$States;", Cond.fieldLink RX4 25 "SharedStates$World" "heads" "[I", Cond.methodLink RX4 46 arraycopyName, Cond.native arraycopyName, Cond.static arraycopyName, Cond.initialized "java/lang/System", Cond.fieldLink RX4 32 "SharedStates$World" "sharing" "I", Cond.fieldLink RX4 36 "SharedStates$World" "conflictsSoFar" "I", Cond.methodLink RX4 39 yX0_becomeLike, Cond.instanceMethod yX0_becomeLike, Cond.selects RX0 yX0_becomeLike yX0_becomeLike]
def wsX5_branch_r2 : List Cond := [Cond.initialized RX0, Cond.code yX0_becomeLike cX0_becomeLike 2 none, Cond.fieldLink RX0 9 "SharedStates$Blocks" "cells" "[I", Cond.methodLink RX0 25 arraycopyName, Cond.fieldLink RX0 15 "SharedStates$Blocks" "uses" "[I", Cond.fieldLink RX0 18 "SharedStates$Blocks" "made" "I", Cond.fieldLink RX0 22 "SharedStates$Blocks" "taken" "I", Cond.methodLink RX4 43 yX3_becomeLike, Cond.instanceMethod yX3_becomeLike, Cond.selects RX3 yX3_becomeLike yX3_becomeLike, Cond.initialized RX3, Cond.code yX3_becomeLike cX3_becomeLike 2 none, Cond.fieldLink RX3 9 "SharedStates$States" "numbers" "[I", Cond.methodLink RX3 28 arraycopyName, Cond.fieldLink RX3 15 "SharedStates$States" "parents" "[I", Cond.fieldLink RX3 18 "SharedStates$States" "places" "[I", Cond.fieldLink RX3 21 "SharedStates$States" "size" "I", Cond.fieldLink RX3 25 "SharedStates$States" "made" "I", Cond.methodLink RX5 53 yX4_addBranch, Cond.instanceMethod yX4_addBranch, Cond.selects RX4 yX4_addBranch yX4_addBranch, Cond.code yX4_addBranch cX4_addBranch 3 (some .int), Cond.constant RX4 101 (-1000001), Cond.constant RX4 119 (-1000003)]
def wsX5_branch_r3 : List Cond := [Cond.methodLink RX4 60 yX3_slotOf, Cond.instanceMethod yX3_slotOf, Cond.selects RX3 yX3_slotOf yX3_slotOf, Cond.code yX3_slotOf cX3_slotOf 3 (some .int), Cond.methodLink RX5 41 yX5_keepTrial, Cond.instanceMethod yX5_keepTrial, Cond.selects RX5 yX5_keepTrial yX5_keepTrial, Cond.code yX5_keepTrial cX5_keepTrial 3 (some .int), Cond.fieldLink RX5 22 "SharedStates" "history" "LSharedStates$History;", Cond.methodLink RX5 239 yX1_add, Cond.instanceMethod yX1_add, Cond.selects RX1 yX1_add yX1_add, Cond.initialized RX1, Cond.code yX1_add cX1_add 4 (some (.object "SharedStates$World")), Cond.fieldLink RX1 17 "SharedStates$History" "oldest" "I", Cond.fieldLink RX1 21 "SharedStates$History" "size" "I", Cond.fieldLink RX1 11 "SharedStates$History" "records" "[LSharedStates$World;"]
def wsX5_branch : List Cond := .code yX5_branch cX5_branch 2 (some .int) :: ((wsX5_branch_r1 ++ (wsX5_branch_r2 ++ wsX5_branch_r3)) ++ wsX50 ++ wsX40 ++ wsX00 ++ wsX30 ++ wsX10)
def wsX5_leave_r1 : List Cond := [Cond.methodLink RX5 33 yX5_startTrial, Cond.instanceMethod yX5_startTrial, Cond.selects RX5 yX5_startTrial yX5_startTrial, Cond.initialized RX5, Cond.code yX5_startTrial cX5_startTrial 1 (some (.object "SharedStates$World")), Cond.fieldLink RX5 16 "SharedStates" "trial" "LSharedStates$World;", Cond.fieldLink RX5 10 "SharedStates" "world" "LSharedStates$World;", Cond.methodLink RX5 235 yX4_becomeLike, Cond.instanceMethod yX4_becomeLike, Cond.selects RX4 yX4_becomeLike yX4_becomeLike, Cond.initialized RX4, Cond.code yX4_becomeLike cX4_becomeLike 2 none, Cond.fieldLink RX4 12 "SharedStates$World" "blocks" "LSharedStates$Blocks;", Cond.fieldLink RX4 21 "SharedStates$World" "states" "LSharedStates$States;", Cond.fieldLink RX4 25 "SharedStates$World" "heads" "[I", Cond.methodLink RX4 46 arraycopyName, Cond.native arraycopyName, Cond.static arraycopyName, Cond.initialized "java/lang/System", Cond.fieldLink RX4 32 "SharedStates$World" "sharing" "I", Cond.fieldLink RX4 36 "SharedStates$World" "conflictsSoFar" "I", Cond.methodLink RX4 39 yX0_becomeLike, Cond.instanceMethod yX0_becomeLike, Cond.selects RX0 yX0_becomeLike yX0_becomeLike]
def wsX5_leave_r2 : List Cond := [Cond.initialized RX0, Cond.code yX0_becomeLike cX0_becomeLike 2 none, Cond.fieldLink RX0 9 "SharedStates$Blocks" "cells" "[I", Cond.methodLink RX0 25 arraycopyName, Cond.fieldLink RX0 15 "SharedStates$Blocks" "uses" "[I", Cond.fieldLink RX0 18 "SharedStates$Blocks" "made" "I", Cond.fieldLink RX0 22 "SharedStates$Blocks" "taken" "I", Cond.methodLink RX4 43 yX3_becomeLike, Cond.instanceMethod yX3_becomeLike, Cond.selects RX3 yX3_becomeLike yX3_becomeLike, Cond.initialized RX3, Cond.code yX3_becomeLike cX3_becomeLike 2 none, Cond.fieldLink RX3 9 "SharedStates$States" "numbers" "[I", Cond.methodLink RX3 28 arraycopyName, Cond.fieldLink RX3 15 "SharedStates$States" "parents" "[I", Cond.fieldLink RX3 18 "SharedStates$States" "places" "[I", Cond.fieldLink RX3 21 "SharedStates$States" "size" "I", Cond.fieldLink RX3 25 "SharedStates$States" "made" "I", Cond.methodLink RX5 56 yX4_dropBranch, Cond.instanceMethod yX4_dropBranch, Cond.selects RX4 yX4_dropBranch yX4_dropBranch, Cond.code yX4_dropBranch cX4_dropBranch 2 (some .int), Cond.constant RX4 101 (-1000001), Cond.constant RX4 148 (-1000002)]
def wsX5_leave_r3 : List Cond := [Cond.methodLink RX4 56 yX4_isBranch, Cond.instanceMethod yX4_isBranch, Cond.selects RX4 yX4_isBranch yX4_isBranch, Cond.code yX4_isBranch cX4_isBranch 2 (some .boolean), Cond.static yX5_isIndex, Cond.code yX5_isIndex cX5_isIndex 2 (some .boolean), Cond.methodLink RX4 144 yX4_branchesThere, Cond.instanceMethod yX4_branchesThere, Cond.selects RX4 yX4_branchesThere yX4_branchesThere, Cond.code yX4_branchesThere cX4_branchesThere 3 (some .int), Cond.methodLink RX5 41 yX5_keepTrial, Cond.instanceMethod yX5_keepTrial, Cond.selects RX5 yX5_keepTrial yX5_keepTrial, Cond.code yX5_keepTrial cX5_keepTrial 3 (some .int), Cond.fieldLink RX5 22 "SharedStates" "history" "LSharedStates$History;", Cond.methodLink RX5 239 yX1_add, Cond.instanceMethod yX1_add, Cond.selects RX1 yX1_add yX1_add, Cond.initialized RX1, Cond.code yX1_add cX1_add 4 (some (.object "SharedStates$World")), Cond.fieldLink RX1 17 "SharedStates$History" "oldest" "I", Cond.fieldLink RX1 21 "SharedStates$History" "size" "I", Cond.fieldLink RX1 11 "SharedStates$History" "records" "[LSharedStates$World;"]
def wsX5_leave : List Cond := .code yX5_leave cX5_leave 2 (some .int) :: ((wsX5_leave_r1 ++ (wsX5_leave_r2 ++ wsX5_leave_r3)) ++ wsX50 ++ wsX40 ++ wsX00 ++ wsX30 ++ wsX10)
def wsX5_back_r1 : List Cond := [Cond.methodLink RX5 33 yX5_startTrial, Cond.instanceMethod yX5_startTrial, Cond.selects RX5 yX5_startTrial yX5_startTrial, Cond.initialized RX5, Cond.code yX5_startTrial cX5_startTrial 1 (some (.object "SharedStates$World")), Cond.fieldLink RX5 16 "SharedStates" "trial" "LSharedStates$World;", Cond.fieldLink RX5 10 "SharedStates" "world" "LSharedStates$World;", Cond.methodLink RX5 235 yX4_becomeLike, Cond.instanceMethod yX4_becomeLike, Cond.selects RX4 yX4_becomeLike yX4_becomeLike, Cond.initialized RX4, Cond.code yX4_becomeLike cX4_becomeLike 2 none, Cond.fieldLink RX4 12 "SharedStates$World" "blocks" "LSharedStates$Blocks;", Cond.fieldLink RX4 21 "SharedStates$World" "states" "LSharedStates$States;", Cond.fieldLink RX4 25 "SharedStates$World" "heads" "[I", Cond.methodLink RX4 46 arraycopyName, Cond.native arraycopyName, Cond.static arraycopyName, Cond.initialized "java/lang/System", Cond.fieldLink RX4 32 "SharedStates$World" "sharing" "I", Cond.fieldLink RX4 36 "SharedStates$World" "conflictsSoFar" "I", Cond.methodLink RX4 39 yX0_becomeLike, Cond.instanceMethod yX0_becomeLike, Cond.selects RX0 yX0_becomeLike yX0_becomeLike]
def wsX5_back_r2 : List Cond := [Cond.initialized RX0, Cond.code yX0_becomeLike cX0_becomeLike 2 none, Cond.fieldLink RX0 9 "SharedStates$Blocks" "cells" "[I", Cond.methodLink RX0 25 arraycopyName, Cond.fieldLink RX0 15 "SharedStates$Blocks" "uses" "[I", Cond.fieldLink RX0 18 "SharedStates$Blocks" "made" "I", Cond.fieldLink RX0 22 "SharedStates$Blocks" "taken" "I", Cond.methodLink RX4 43 yX3_becomeLike, Cond.instanceMethod yX3_becomeLike, Cond.selects RX3 yX3_becomeLike yX3_becomeLike, Cond.initialized RX3, Cond.code yX3_becomeLike cX3_becomeLike 2 none, Cond.fieldLink RX3 9 "SharedStates$States" "numbers" "[I", Cond.methodLink RX3 28 arraycopyName, Cond.fieldLink RX3 15 "SharedStates$States" "parents" "[I", Cond.fieldLink RX3 18 "SharedStates$States" "places" "[I", Cond.fieldLink RX3 21 "SharedStates$States" "size" "I", Cond.fieldLink RX3 25 "SharedStates$States" "made" "I", Cond.methodLink RX5 59 yX4_stepBack, Cond.instanceMethod yX4_stepBack, Cond.selects RX4 yX4_stepBack yX4_stepBack, Cond.code yX4_stepBack cX4_stepBack 3 (some .int), Cond.constant RX4 101 (-1000001), Cond.constant RX4 148 (-1000002)]
def wsX5_back_r3 : List Cond := [Cond.methodLink RX4 95 yX4_headSlot, Cond.instanceMethod yX4_headSlot, Cond.selects RX4 yX4_headSlot yX4_headSlot, Cond.code yX4_headSlot cX4_headSlot 2 (some .int), Cond.methodLink RX4 56 yX4_isBranch, Cond.instanceMethod yX4_isBranch, Cond.selects RX4 yX4_isBranch yX4_isBranch, Cond.code yX4_isBranch cX4_isBranch 2 (some .boolean), Cond.static yX5_isIndex, Cond.code yX5_isIndex cX5_isIndex 2 (some .boolean), Cond.methodLink RX4 60 yX3_slotOf, Cond.instanceMethod yX3_slotOf, Cond.selects RX3 yX3_slotOf yX3_slotOf, Cond.code yX3_slotOf cX3_slotOf 3 (some .int), Cond.methodLink RX4 149 yX3_parentOf, Cond.instanceMethod yX3_parentOf, Cond.selects RX3 yX3_parentOf yX3_parentOf, Cond.code yX3_parentOf cX3_parentOf 2 (some .int), Cond.methodLink RX5 41 yX5_keepTrial, Cond.instanceMethod yX5_keepTrial, Cond.selects RX5 yX5_keepTrial yX5_keepTrial, Cond.code yX5_keepTrial cX5_keepTrial 3 (some .int), Cond.fieldLink RX5 22 "SharedStates" "history" "LSharedStates$History;", Cond.methodLink RX5 239 yX1_add]
def wsX5_back_r4 : List Cond := [Cond.instanceMethod yX1_add, Cond.selects RX1 yX1_add yX1_add, Cond.initialized RX1, Cond.code yX1_add cX1_add 4 (some (.object "SharedStates$World")), Cond.fieldLink RX1 17 "SharedStates$History" "oldest" "I", Cond.fieldLink RX1 21 "SharedStates$History" "size" "I", Cond.fieldLink RX1 11 "SharedStates$History" "records" "[LSharedStates$World;"]
def wsX5_back : List Cond := .code yX5_back cX5_back 2 (some .int) :: ((wsX5_back_r1 ++ (wsX5_back_r2 ++ (wsX5_back_r3 ++ wsX5_back_r4))) ++ wsX50 ++ wsX40 ++ wsX00 ++ wsX30 ++ wsX10)
def wsX5_forget_r1 : List Cond := [Cond.methodLink RX5 33 yX5_startTrial, Cond.instanceMethod yX5_startTrial, Cond.selects RX5 yX5_startTrial yX5_startTrial, Cond.initialized RX5, Cond.code yX5_startTrial cX5_startTrial 1 (some (.object "SharedStates$World")), Cond.fieldLink RX5 16 "SharedStates" "trial" "LSharedStates$World;", Cond.fieldLink RX5 10 "SharedStates" "world" "LSharedStates$World;", Cond.methodLink RX5 235 yX4_becomeLike, Cond.instanceMethod yX4_becomeLike, Cond.selects RX4 yX4_becomeLike yX4_becomeLike, Cond.initialized RX4, Cond.code yX4_becomeLike cX4_becomeLike 2 none, Cond.fieldLink RX4 12 "SharedStates$World" "blocks" "LSharedStates$Blocks;", Cond.fieldLink RX4 21 "SharedStates$World" "states" "LSharedStates$States;", Cond.fieldLink RX4 25 "SharedStates$World" "heads" "[I", Cond.methodLink RX4 46 arraycopyName, Cond.native arraycopyName, Cond.static arraycopyName, Cond.initialized "java/lang/System", Cond.fieldLink RX4 32 "SharedStates$World" "sharing" "I", Cond.fieldLink RX4 36 "SharedStates$World" "conflictsSoFar" "I", Cond.methodLink RX4 39 yX0_becomeLike, Cond.instanceMethod yX0_becomeLike, Cond.selects RX0 yX0_becomeLike yX0_becomeLike]
def wsX5_forget_r2 : List Cond := [Cond.initialized RX0, Cond.code yX0_becomeLike cX0_becomeLike 2 none, Cond.fieldLink RX0 9 "SharedStates$Blocks" "cells" "[I", Cond.methodLink RX0 25 arraycopyName, Cond.fieldLink RX0 15 "SharedStates$Blocks" "uses" "[I", Cond.fieldLink RX0 18 "SharedStates$Blocks" "made" "I", Cond.fieldLink RX0 22 "SharedStates$Blocks" "taken" "I", Cond.methodLink RX4 43 yX3_becomeLike, Cond.instanceMethod yX3_becomeLike, Cond.selects RX3 yX3_becomeLike yX3_becomeLike, Cond.initialized RX3, Cond.code yX3_becomeLike cX3_becomeLike 2 none, Cond.fieldLink RX3 9 "SharedStates$States" "numbers" "[I", Cond.methodLink RX3 28 arraycopyName, Cond.fieldLink RX3 15 "SharedStates$States" "parents" "[I", Cond.fieldLink RX3 18 "SharedStates$States" "places" "[I", Cond.fieldLink RX3 21 "SharedStates$States" "size" "I", Cond.fieldLink RX3 25 "SharedStates$States" "made" "I", Cond.methodLink RX5 62 yX4_forgetState, Cond.instanceMethod yX4_forgetState, Cond.selects RX4 yX4_forgetState yX4_forgetState, Cond.code yX4_forgetState cX4_forgetState 5 (some .int), Cond.constant RX4 101 (-1000001), Cond.constant RX4 148 (-1000002)]
def wsX5_forget_r3 : List Cond := [Cond.methodLink RX4 60 yX3_slotOf, Cond.instanceMethod yX3_slotOf, Cond.selects RX3 yX3_slotOf yX3_slotOf, Cond.code yX3_slotOf cX3_slotOf 3 (some .int), Cond.methodLink RX4 152 yX4_canForget, Cond.instanceMethod yX4_canForget, Cond.selects RX4 yX4_canForget yX4_canForget, Cond.code yX4_canForget cX4_canForget 2 (some .boolean), Cond.methodLink RX4 89 yX3_numberOf, Cond.instanceMethod yX3_numberOf, Cond.selects RX3 yX3_numberOf yX3_numberOf, Cond.code yX3_numberOf cX3_numberOf 2 (some .int), Cond.methodLink RX4 92 yX4_branchesAt, Cond.instanceMethod yX4_branchesAt, Cond.selects RX4 yX4_branchesAt yX4_branchesAt, Cond.code yX4_branchesAt cX4_branchesAt 4 (some .int), Cond.methodLink RX4 155 yX0_there, Cond.instanceMethod yX0_there, Cond.selects RX0 yX0_there yX0_there, Cond.code yX0_there cX0_there 3 (some .int), Cond.methodLink RX0 35 yX0_isThere, Cond.instanceMethod yX0_isThere, Cond.selects RX0 yX0_isThere yX0_isThere, Cond.code yX0_isThere cX0_isThere 2 (some .boolean)]
def wsX5_forget_r4 : List Cond := [Cond.methodLink RX4 64 yX3_block, Cond.instanceMethod yX3_block, Cond.selects RX3 yX3_block yX3_block, Cond.code yX3_block cX3_block 4 (some .int), Cond.methodLink RX4 134 yX0_addUses, Cond.instanceMethod yX0_addUses, Cond.selects RX0 yX0_addUses yX0_addUses, Cond.code yX0_addUses cX0_addUses 3 none, Cond.static yX5_isIndex, Cond.code yX5_isIndex cX5_isIndex 2 (some .boolean), Cond.methodLink RX4 158 yX3_remove, Cond.instanceMethod yX3_remove, Cond.selects RX3 yX3_remove yX3_remove, Cond.code yX3_remove cX3_remove 3 none, Cond.methodLink RX5 41 yX5_keepTrial, Cond.instanceMethod yX5_keepTrial, Cond.selects RX5 yX5_keepTrial yX5_keepTrial, Cond.code yX5_keepTrial cX5_keepTrial 3 (some .int), Cond.fieldLink RX5 22 "SharedStates" "history" "LSharedStates$History;", Cond.methodLink RX5 239 yX1_add, Cond.instanceMethod yX1_add, Cond.selects RX1 yX1_add yX1_add, Cond.initialized RX1, Cond.code yX1_add cX1_add 4 (some (.object "SharedStates$World"))]
def wsX5_forget_r5 : List Cond := [Cond.fieldLink RX1 17 "SharedStates$History" "oldest" "I", Cond.fieldLink RX1 21 "SharedStates$History" "size" "I", Cond.fieldLink RX1 11 "SharedStates$History" "records" "[LSharedStates$World;"]
def wsX5_forget : List Cond := .code yX5_forget cX5_forget 2 (some .int) :: ((wsX5_forget_r1 ++ (wsX5_forget_r2 ++ (wsX5_forget_r3 ++ (wsX5_forget_r4 ++ wsX5_forget_r5)))) ++ wsX50 ++ wsX40 ++ wsX00 ++ wsX30 ++ wsX10)
def wsX5_share_r1 : List Cond := [Cond.methodLink RX5 33 yX5_startTrial, Cond.instanceMethod yX5_startTrial, Cond.selects RX5 yX5_startTrial yX5_startTrial, Cond.initialized RX5, Cond.code yX5_startTrial cX5_startTrial 1 (some (.object "SharedStates$World")), Cond.fieldLink RX5 16 "SharedStates" "trial" "LSharedStates$World;", Cond.fieldLink RX5 10 "SharedStates" "world" "LSharedStates$World;", Cond.methodLink RX5 235 yX4_becomeLike, Cond.instanceMethod yX4_becomeLike, Cond.selects RX4 yX4_becomeLike yX4_becomeLike, Cond.initialized RX4, Cond.code yX4_becomeLike cX4_becomeLike 2 none, Cond.fieldLink RX4 12 "SharedStates$World" "blocks" "LSharedStates$Blocks;", Cond.fieldLink RX4 21 "SharedStates$World" "states" "LSharedStates$States;", Cond.fieldLink RX4 25 "SharedStates$World" "heads" "[I", Cond.methodLink RX4 46 arraycopyName, Cond.native arraycopyName, Cond.static arraycopyName, Cond.initialized "java/lang/System", Cond.fieldLink RX4 32 "SharedStates$World" "sharing" "I", Cond.fieldLink RX4 36 "SharedStates$World" "conflictsSoFar" "I", Cond.methodLink RX4 39 yX0_becomeLike, Cond.instanceMethod yX0_becomeLike, Cond.selects RX0 yX0_becomeLike yX0_becomeLike]
def wsX5_share_r2 : List Cond := [Cond.initialized RX0, Cond.code yX0_becomeLike cX0_becomeLike 2 none, Cond.fieldLink RX0 9 "SharedStates$Blocks" "cells" "[I", Cond.methodLink RX0 25 arraycopyName, Cond.fieldLink RX0 15 "SharedStates$Blocks" "uses" "[I", Cond.fieldLink RX0 18 "SharedStates$Blocks" "made" "I", Cond.fieldLink RX0 22 "SharedStates$Blocks" "taken" "I", Cond.methodLink RX4 43 yX3_becomeLike, Cond.instanceMethod yX3_becomeLike, Cond.selects RX3 yX3_becomeLike yX3_becomeLike, Cond.initialized RX3, Cond.code yX3_becomeLike cX3_becomeLike 2 none, Cond.fieldLink RX3 9 "SharedStates$States" "numbers" "[I", Cond.methodLink RX3 28 arraycopyName, Cond.fieldLink RX3 15 "SharedStates$States" "parents" "[I", Cond.fieldLink RX3 18 "SharedStates$States" "places" "[I", Cond.fieldLink RX3 21 "SharedStates$States" "size" "I", Cond.fieldLink RX3 25 "SharedStates$States" "made" "I", Cond.methodLink RX5 65 yX4_shareBlocks, Cond.instanceMethod yX4_shareBlocks, Cond.selects RX4 yX4_shareBlocks yX4_shareBlocks, Cond.code yX4_shareBlocks cX4_shareBlocks 5 (some .int), Cond.fieldLink RX4 116 "SharedStates$States" "size" "I", Cond.fieldLink RX4 138 "SharedStates$States" "places" "[I"]
def wsX5_share_r3 : List Cond := [Cond.fieldLink RX4 161 "SharedStates$Blocks" "cells" "[I", Cond.methodLink RX4 155 yX0_there, Cond.instanceMethod yX0_there, Cond.selects RX0 yX0_there yX0_there, Cond.code yX0_there cX0_there 3 (some .int), Cond.methodLink RX0 35 yX0_isThere, Cond.instanceMethod yX0_isThere, Cond.selects RX0 yX0_isThere yX0_isThere, Cond.code yX0_isThere cX0_isThere 2 (some .boolean), Cond.methodLink RX4 124 yX0_lowestHolding, Cond.instanceMethod yX0_lowestHolding, Cond.selects RX0 yX0_lowestHolding yX0_lowestHolding, Cond.code yX0_lowestHolding cX0_lowestHolding 4 (some .int), Cond.methodLink RX0 39 yX0_holds, Cond.instanceMethod yX0_holds, Cond.selects RX0 yX0_holds yX0_holds, Cond.code yX0_holds cX0_holds 5 (some .boolean), Cond.methodLink RX4 134 yX0_addUses, Cond.instanceMethod yX0_addUses, Cond.selects RX0 yX0_addUses yX0_addUses, Cond.code yX0_addUses cX0_addUses 3 none, Cond.static yX5_isIndex, Cond.code yX5_isIndex cX5_isIndex 2 (some .boolean), Cond.methodLink RX5 41 yX5_keepTrial]
def wsX5_share_r4 : List Cond := [Cond.instanceMethod yX5_keepTrial, Cond.selects RX5 yX5_keepTrial yX5_keepTrial, Cond.code yX5_keepTrial cX5_keepTrial 3 (some .int), Cond.fieldLink RX5 22 "SharedStates" "history" "LSharedStates$History;", Cond.methodLink RX5 239 yX1_add, Cond.instanceMethod yX1_add, Cond.selects RX1 yX1_add yX1_add, Cond.initialized RX1, Cond.code yX1_add cX1_add 4 (some (.object "SharedStates$World")), Cond.fieldLink RX1 17 "SharedStates$History" "oldest" "I", Cond.fieldLink RX1 21 "SharedStates$History" "size" "I", Cond.fieldLink RX1 11 "SharedStates$History" "records" "[LSharedStates$World;"]
def wsX5_share : List Cond := .code yX5_share cX5_share 1 (some .int) :: ((wsX5_share_r1 ++ (wsX5_share_r2 ++ (wsX5_share_r3 ++ wsX5_share_r4))) ++ wsX50 ++ wsX40 ++ wsX00 ++ wsX30 ++ wsX10)
def wsX5_set_r1 : List Cond := [Cond.methodLink RX5 33 yX5_startTrial, Cond.instanceMethod yX5_startTrial, Cond.selects RX5 yX5_startTrial yX5_startTrial, Cond.initialized RX5, Cond.code yX5_startTrial cX5_startTrial 1 (some (.object "SharedStates$World")), Cond.fieldLink RX5 16 "SharedStates" "trial" "LSharedStates$World;", Cond.fieldLink RX5 10 "SharedStates" "world" "LSharedStates$World;", Cond.methodLink RX5 235 yX4_becomeLike, Cond.instanceMethod yX4_becomeLike, Cond.selects RX4 yX4_becomeLike yX4_becomeLike, Cond.initialized RX4, Cond.code yX4_becomeLike cX4_becomeLike 2 none, Cond.fieldLink RX4 12 "SharedStates$World" "blocks" "LSharedStates$Blocks;", Cond.fieldLink RX4 21 "SharedStates$World" "states" "LSharedStates$States;", Cond.fieldLink RX4 25 "SharedStates$World" "heads" "[I", Cond.methodLink RX4 46 arraycopyName, Cond.native arraycopyName, Cond.static arraycopyName, Cond.initialized "java/lang/System", Cond.fieldLink RX4 32 "SharedStates$World" "sharing" "I", Cond.fieldLink RX4 36 "SharedStates$World" "conflictsSoFar" "I", Cond.methodLink RX4 39 yX0_becomeLike, Cond.instanceMethod yX0_becomeLike, Cond.selects RX0 yX0_becomeLike yX0_becomeLike]
def wsX5_set_r2 : List Cond := [Cond.initialized RX0, Cond.code yX0_becomeLike cX0_becomeLike 2 none, Cond.fieldLink RX0 9 "SharedStates$Blocks" "cells" "[I", Cond.methodLink RX0 25 arraycopyName, Cond.fieldLink RX0 15 "SharedStates$Blocks" "uses" "[I", Cond.fieldLink RX0 18 "SharedStates$Blocks" "made" "I", Cond.fieldLink RX0 22 "SharedStates$Blocks" "taken" "I", Cond.methodLink RX4 43 yX3_becomeLike, Cond.instanceMethod yX3_becomeLike, Cond.selects RX3 yX3_becomeLike yX3_becomeLike, Cond.initialized RX3, Cond.code yX3_becomeLike cX3_becomeLike 2 none, Cond.fieldLink RX3 9 "SharedStates$States" "numbers" "[I", Cond.methodLink RX3 28 arraycopyName, Cond.fieldLink RX3 15 "SharedStates$States" "parents" "[I", Cond.fieldLink RX3 18 "SharedStates$States" "places" "[I", Cond.fieldLink RX3 21 "SharedStates$States" "size" "I", Cond.fieldLink RX3 25 "SharedStates$States" "made" "I", Cond.methodLink RX5 69 yX4_changeSetting, Cond.instanceMethod yX4_changeSetting, Cond.selects RX4 yX4_changeSetting yX4_changeSetting, Cond.code yX4_changeSetting cX4_changeSetting 4 (some .int), Cond.constant RX4 101 (-1000001), Cond.static yX5_isIndex]
def wsX5_set_r3 : List Cond := [Cond.code yX5_isIndex cX5_isIndex 2 (some .boolean), Cond.methodLink RX5 41 yX5_keepTrial, Cond.instanceMethod yX5_keepTrial, Cond.selects RX5 yX5_keepTrial yX5_keepTrial, Cond.code yX5_keepTrial cX5_keepTrial 3 (some .int), Cond.fieldLink RX5 22 "SharedStates" "history" "LSharedStates$History;", Cond.methodLink RX5 239 yX1_add, Cond.instanceMethod yX1_add, Cond.selects RX1 yX1_add yX1_add, Cond.initialized RX1, Cond.code yX1_add cX1_add 4 (some (.object "SharedStates$World")), Cond.fieldLink RX1 17 "SharedStates$History" "oldest" "I", Cond.fieldLink RX1 21 "SharedStates$History" "size" "I", Cond.fieldLink RX1 11 "SharedStates$History" "records" "[LSharedStates$World;"]
def wsX5_set : List Cond := .code yX5_set cX5_set 3 (some .int) :: ((wsX5_set_r1 ++ (wsX5_set_r2 ++ wsX5_set_r3)) ++ wsX50 ++ wsX40 ++ wsX00 ++ wsX30 ++ wsX10)
def wsX5_read_r1 : List Cond := [Cond.fieldLink RX5 10 "SharedStates" "world" "LSharedStates$World;", Cond.fieldLink RX5 72 "SharedStates$World" "states" "LSharedStates$States;", Cond.constant RX5 85 (-1000001), Cond.methodLink RX5 76 yX3_slotOf, Cond.instanceMethod yX3_slotOf, Cond.selects RX3 yX3_slotOf yX3_slotOf, Cond.initialized RX3, Cond.code yX3_slotOf cX3_slotOf 3 (some .int), Cond.fieldLink RX3 21 "SharedStates$States" "size" "I", Cond.fieldLink RX3 9 "SharedStates$States" "numbers" "[I", Cond.methodLink RX5 81 yX5_isIndex, Cond.static yX5_isIndex, Cond.initialized RX5, Cond.code yX5_isIndex cX5_isIndex 2 (some .boolean), Cond.methodLink RX5 86 yX4_cellAt, Cond.instanceMethod yX4_cellAt, Cond.selects RX4 yX4_cellAt yX4_cellAt, Cond.initialized RX4, Cond.code yX4_cellAt cX4_cellAt 3 (some .int), Cond.fieldLink RX4 12 "SharedStates$World" "blocks" "LSharedStates$Blocks;", Cond.fieldLink RX4 21 "SharedStates$World" "states" "LSharedStates$States;", Cond.methodLink RX4 64 yX3_block, Cond.instanceMethod yX3_block, Cond.selects RX3 yX3_block yX3_block]
def wsX5_read_r2 : List Cond := [Cond.code yX3_block cX3_block 4 (some .int), Cond.fieldLink RX3 18 "SharedStates$States" "places" "[I", Cond.methodLink RX4 68 yX0_cellOf, Cond.instanceMethod yX0_cellOf, Cond.selects RX0 yX0_cellOf yX0_cellOf, Cond.initialized RX0, Cond.code yX0_cellOf cX0_cellOf 4 (some .int), Cond.fieldLink RX0 9 "SharedStates$Blocks" "cells" "[I"]
def wsX5_read : List Cond := .code yX5_read cX5_read 4 (some .int) :: ((wsX5_read_r1 ++ wsX5_read_r2) ++ wsX50 ++ wsX40 ++ wsX30 ++ wsX00)
def wsX5_foundOr : List Cond := .code yX5_foundOr cX5_foundOr 1 (some .int) :: ([.constant RX5 104 (-1000004)])
def wsX5_stateOf_r1 : List Cond := [Cond.fieldLink RX5 10 "SharedStates" "world" "LSharedStates$World;", Cond.fieldLink RX5 72 "SharedStates$World" "states" "LSharedStates$States;", Cond.constant RX5 85 (-1000001), Cond.constant RX5 104 (-1000004), Cond.methodLink RX5 76 yX3_slotOf, Cond.instanceMethod yX3_slotOf, Cond.selects RX3 yX3_slotOf yX3_slotOf, Cond.initialized RX3, Cond.code yX3_slotOf cX3_slotOf 3 (some .int), Cond.fieldLink RX3 21 "SharedStates$States" "size" "I", Cond.fieldLink RX3 9 "SharedStates$States" "numbers" "[I", Cond.methodLink RX5 89 yX3_parentOf, Cond.instanceMethod yX3_parentOf, Cond.selects RX3 yX3_parentOf yX3_parentOf, Cond.code yX3_parentOf cX3_parentOf 2 (some .int), Cond.fieldLink RX3 15 "SharedStates$States" "parents" "[I", Cond.methodLink RX5 92 yX5_foundOr, Cond.static yX5_foundOr, Cond.initialized RX5, Cond.code yX5_foundOr cX5_foundOr 1 (some .int), Cond.methodLink RX5 95 yX3_childrenOf, Cond.instanceMethod yX3_childrenOf, Cond.selects RX3 yX3_childrenOf yX3_childrenOf, Cond.code yX3_childrenOf cX3_childrenOf 4 (some .int)]
def wsX5_stateOf_r2 : List Cond := [Cond.methodLink RX3 45 yX3_numberOf, Cond.instanceMethod yX3_numberOf, Cond.selects RX3 yX3_numberOf yX3_numberOf, Cond.code yX3_numberOf cX3_numberOf 2 (some .int), Cond.methodLink RX5 98 yX3_stepsFrom, Cond.instanceMethod yX3_stepsFrom, Cond.selects RX3 yX3_stepsFrom yX3_stepsFrom, Cond.code yX3_stepsFrom cX3_stepsFrom 5 (some .int), Cond.methodLink RX3 48 yX3_parentSlot, Cond.instanceMethod yX3_parentSlot, Cond.selects RX3 yX3_parentSlot yX3_parentSlot, Cond.code yX3_parentSlot cX3_parentSlot 2 (some .int), Cond.methodLink RX3 34 yX3_parentOf, Cond.methodLink RX3 38 yX3_slotOf, Cond.methodLink RX5 101 yX4_sumOfState, Cond.instanceMethod yX4_sumOfState, Cond.selects RX4 yX4_sumOfState yX4_sumOfState, Cond.initialized RX4, Cond.code yX4_sumOfState cX4_sumOfState 4 (some .int), Cond.fieldLink RX4 12 "SharedStates$World" "blocks" "LSharedStates$Blocks;", Cond.fieldLink RX4 21 "SharedStates$World" "states" "LSharedStates$States;", Cond.methodLink RX4 64 yX3_block, Cond.instanceMethod yX3_block, Cond.selects RX3 yX3_block yX3_block]
def wsX5_stateOf_r3 : List Cond := [Cond.code yX3_block cX3_block 4 (some .int), Cond.fieldLink RX3 18 "SharedStates$States" "places" "[I", Cond.methodLink RX4 71 yX0_sumOf, Cond.instanceMethod yX0_sumOf, Cond.selects RX0 yX0_sumOf yX0_sumOf, Cond.initialized RX0, Cond.code yX0_sumOf cX0_sumOf 4 (some .int), Cond.methodLink RX0 43 yX0_cellOf, Cond.instanceMethod yX0_cellOf, Cond.selects RX0 yX0_cellOf yX0_cellOf, Cond.code yX0_cellOf cX0_cellOf 4 (some .int), Cond.fieldLink RX0 9 "SharedStates$Blocks" "cells" "[I", Cond.methodLink RX5 105 yX3_parentSlot, Cond.methodLink RX5 108 yX3_unlikePlaces, Cond.instanceMethod yX3_unlikePlaces, Cond.selects RX3 yX3_unlikePlaces yX3_unlikePlaces, Cond.code yX3_unlikePlaces cX3_unlikePlaces 5 (some .int), Cond.methodLink RX3 51 yX3_block, Cond.methodLink RX5 111 yX4_placesOfItsOwn, Cond.instanceMethod yX4_placesOfItsOwn, Cond.selects RX4 yX4_placesOfItsOwn yX4_placesOfItsOwn, Cond.code yX4_placesOfItsOwn cX4_placesOfItsOwn 4 (some .int), Cond.methodLink RX4 83 yX4_isItsOwn, Cond.instanceMethod yX4_isItsOwn]
def wsX5_stateOf_r4 : List Cond := [Cond.selects RX4 yX4_isItsOwn yX4_isItsOwn, Cond.code yX4_isItsOwn cX4_isItsOwn 4 (some .boolean), Cond.methodLink RX4 77 yX0_usesOf, Cond.instanceMethod yX0_usesOf, Cond.selects RX0 yX0_usesOf yX0_usesOf, Cond.code yX0_usesOf cX0_usesOf 2 (some .int), Cond.fieldLink RX0 15 "SharedStates$Blocks" "uses" "[I", Cond.static yX5_isIndex, Cond.code yX5_isIndex cX5_isIndex 2 (some .boolean), Cond.methodLink RX4 80 yX3_placesWith, Cond.instanceMethod yX3_placesWith, Cond.selects RX3 yX3_placesWith yX3_placesWith, Cond.code yX3_placesWith cX3_placesWith 5 (some .int), Cond.methodLink RX5 114 yX3_blocksIn, Cond.instanceMethod yX3_blocksIn, Cond.selects RX3 yX3_blocksIn yX3_blocksIn, Cond.code yX3_blocksIn cX3_blocksIn 4 (some .int), Cond.methodLink RX3 58 yX3_isFirstPlace, Cond.instanceMethod yX3_isFirstPlace, Cond.selects RX3 yX3_isFirstPlace yX3_isFirstPlace, Cond.code yX3_isFirstPlace cX3_isFirstPlace 4 (some .boolean), Cond.methodLink RX5 117 yX4_branchesAt, Cond.instanceMethod yX4_branchesAt, Cond.selects RX4 yX4_branchesAt yX4_branchesAt]
def wsX5_stateOf_r5 : List Cond := [Cond.code yX4_branchesAt cX4_branchesAt 4 (some .int), Cond.fieldLink RX4 25 "SharedStates$World" "heads" "[I"]
def wsX5_stateOf : List Cond := .code yX5_stateOf cX5_stateOf 4 (some .int) :: ((wsX5_stateOf_r1 ++ (wsX5_stateOf_r2 ++ (wsX5_stateOf_r3 ++ (wsX5_stateOf_r4 ++ wsX5_stateOf_r5)))) ++ wsX50 ++ wsX40 ++ wsX30 ++ wsX00)
def wsX5_number : List Cond := .code yX5_number cX5_number 2 (some .int) :: ([.constant RX5 85 (-1000001), .fieldLink RX5 10 "SharedStates" "world" "LSharedStates$World;", .fieldLink RX5 72 "SharedStates$World" "states" "LSharedStates$States;", .methodLink RX5 120 yX3_numberOf, .instanceMethod yX3_numberOf, .selects RX3 yX3_numberOf yX3_numberOf, .initialized RX3, .code yX3_numberOf cX3_numberOf 2 (some .int), .fieldLink RX3 21 "SharedStates$States" "size" "I", .fieldLink RX3 9 "SharedStates$States" "numbers" "[I", .methodLink RX5 92 yX5_foundOr, .static yX5_foundOr, .initialized RX5, .code yX5_foundOr cX5_foundOr 1 (some .int), .constant RX5 104 (-1000004)] ++ wsX50 ++ wsX40 ++ wsX30)
def wsX5_blockAt : List Cond := .code yX5_blockAt cX5_blockAt 4 (some .int) :: ([.fieldLink RX5 10 "SharedStates" "world" "LSharedStates$World;", .fieldLink RX5 72 "SharedStates$World" "states" "LSharedStates$States;", .constant RX5 85 (-1000001), .methodLink RX5 76 yX3_slotOf, .instanceMethod yX3_slotOf, .selects RX3 yX3_slotOf yX3_slotOf, .initialized RX3, .code yX3_slotOf cX3_slotOf 3 (some .int), .fieldLink RX3 21 "SharedStates$States" "size" "I", .fieldLink RX3 9 "SharedStates$States" "numbers" "[I", .methodLink RX5 81 yX5_isIndex, .static yX5_isIndex, .initialized RX5, .code yX5_isIndex cX5_isIndex 2 (some .boolean), .methodLink RX5 123 yX3_block, .instanceMethod yX3_block, .selects RX3 yX3_block yX3_block, .code yX3_block cX3_block 4 (some .int), .fieldLink RX3 18 "SharedStates$States" "places" "[I"] ++ wsX50 ++ wsX40 ++ wsX30)
def wsX5_blockOf_r1 : List Cond := [Cond.fieldLink RX5 10 "SharedStates" "world" "LSharedStates$World;", Cond.fieldLink RX5 126 "SharedStates$World" "blocks" "LSharedStates$Blocks;", Cond.constant RX5 85 (-1000001), Cond.fieldLink RX5 72 "SharedStates$World" "states" "LSharedStates$States;", Cond.methodLink RX5 130 yX0_isThere, Cond.instanceMethod yX0_isThere, Cond.selects RX0 yX0_isThere yX0_isThere, Cond.initialized RX0, Cond.code yX0_isThere cX0_isThere 2 (some .boolean), Cond.fieldLink RX0 15 "SharedStates$Blocks" "uses" "[I", Cond.methodLink RX5 136 yX0_usesOf, Cond.instanceMethod yX0_usesOf, Cond.selects RX0 yX0_usesOf yX0_usesOf, Cond.code yX0_usesOf cX0_usesOf 2 (some .int), Cond.static yX5_isIndex, Cond.initialized RX5, Cond.code yX5_isIndex cX5_isIndex 2 (some .boolean), Cond.methodLink RX5 139 yX3_statesWith, Cond.instanceMethod yX3_statesWith, Cond.selects RX3 yX3_statesWith yX3_statesWith, Cond.initialized RX3, Cond.code yX3_statesWith cX3_statesWith 4 (some .int), Cond.fieldLink RX3 21 "SharedStates$States" "size" "I", Cond.methodLink RX3 55 yX3_placesWith]
def wsX5_blockOf_r2 : List Cond := [Cond.instanceMethod yX3_placesWith, Cond.selects RX3 yX3_placesWith yX3_placesWith, Cond.code yX3_placesWith cX3_placesWith 5 (some .int), Cond.methodLink RX3 51 yX3_block, Cond.instanceMethod yX3_block, Cond.selects RX3 yX3_block yX3_block, Cond.code yX3_block cX3_block 4 (some .int), Cond.fieldLink RX3 18 "SharedStates$States" "places" "[I", Cond.methodLink RX5 142 yX0_sumOf, Cond.instanceMethod yX0_sumOf, Cond.selects RX0 yX0_sumOf yX0_sumOf, Cond.code yX0_sumOf cX0_sumOf 4 (some .int), Cond.methodLink RX0 43 yX0_cellOf, Cond.instanceMethod yX0_cellOf, Cond.selects RX0 yX0_cellOf yX0_cellOf, Cond.code yX0_cellOf cX0_cellOf 4 (some .int), Cond.fieldLink RX0 9 "SharedStates$Blocks" "cells" "[I", Cond.methodLink RX5 145 yX0_nonZeroCells, Cond.instanceMethod yX0_nonZeroCells, Cond.selects RX0 yX0_nonZeroCells yX0_nonZeroCells, Cond.code yX0_nonZeroCells cX0_nonZeroCells 4 (some .int), Cond.methodLink RX5 148 yX0_lowestOtherLike, Cond.instanceMethod yX0_lowestOtherLike, Cond.selects RX0 yX0_lowestOtherLike yX0_lowestOtherLike]
def wsX5_blockOf_r3 : List Cond := [Cond.code yX0_lowestOtherLike cX0_lowestOtherLike 3 (some .int), Cond.methodLink RX0 39 yX0_holds, Cond.instanceMethod yX0_holds, Cond.selects RX0 yX0_holds yX0_holds, Cond.code yX0_holds cX0_holds 5 (some .boolean), Cond.methodLink RX5 92 yX5_foundOr, Cond.static yX5_foundOr, Cond.code yX5_foundOr cX5_foundOr 1 (some .int), Cond.constant RX5 104 (-1000004)]
def wsX5_blockOf : List Cond := .code yX5_blockOf cX5_blockOf 3 (some .int) :: ((wsX5_blockOf_r1 ++ (wsX5_blockOf_r2 ++ wsX5_blockOf_r3)) ++ wsX50 ++ wsX40 ++ wsX00 ++ wsX30)
def wsX5_head : List Cond := .code yX5_head cX5_head 2 (some .int) :: ([.fieldLink RX5 10 "SharedStates" "world" "LSharedStates$World;", .fieldLink RX5 154 "SharedStates$World" "heads" "[I", .constant RX5 85 (-1000001), .methodLink RX5 151 yX4_isBranch, .instanceMethod yX4_isBranch, .selects RX4 yX4_isBranch yX4_isBranch, .initialized RX4, .code yX4_isBranch cX4_isBranch 2 (some .boolean), .fieldLink RX4 25 "SharedStates$World" "heads" "[I", .static yX5_isIndex, .initialized RX5, .code yX5_isIndex cX5_isIndex 2 (some .boolean)] ++ wsX50 ++ wsX40)
def wsX5_unlike_r1 : List Cond := [Cond.fieldLink RX5 10 "SharedStates" "world" "LSharedStates$World;", Cond.fieldLink RX5 72 "SharedStates$World" "states" "LSharedStates$States;", Cond.constant RX5 85 (-1000001), Cond.methodLink RX5 76 yX3_slotOf, Cond.instanceMethod yX3_slotOf, Cond.selects RX3 yX3_slotOf yX3_slotOf, Cond.initialized RX3, Cond.code yX3_slotOf cX3_slotOf 3 (some .int), Cond.fieldLink RX3 21 "SharedStates$States" "size" "I", Cond.fieldLink RX3 9 "SharedStates$States" "numbers" "[I", Cond.methodLink RX5 158 yX4_unlikeCells, Cond.instanceMethod yX4_unlikeCells, Cond.selects RX4 yX4_unlikeCells yX4_unlikeCells, Cond.initialized RX4, Cond.code yX4_unlikeCells cX4_unlikeCells 5 (some .int), Cond.methodLink RX4 74 yX4_cellAt, Cond.instanceMethod yX4_cellAt, Cond.selects RX4 yX4_cellAt yX4_cellAt, Cond.code yX4_cellAt cX4_cellAt 3 (some .int), Cond.fieldLink RX4 12 "SharedStates$World" "blocks" "LSharedStates$Blocks;", Cond.fieldLink RX4 21 "SharedStates$World" "states" "LSharedStates$States;", Cond.methodLink RX4 64 yX3_block, Cond.instanceMethod yX3_block, Cond.selects RX3 yX3_block yX3_block]
def wsX5_unlike_r2 : List Cond := [Cond.code yX3_block cX3_block 4 (some .int), Cond.fieldLink RX3 18 "SharedStates$States" "places" "[I", Cond.methodLink RX4 68 yX0_cellOf, Cond.instanceMethod yX0_cellOf, Cond.selects RX0 yX0_cellOf yX0_cellOf, Cond.initialized RX0, Cond.code yX0_cellOf cX0_cellOf 4 (some .int), Cond.fieldLink RX0 9 "SharedStates$Blocks" "cells" "[I", Cond.methodLink RX5 161 yX4_firstUnlikeCell, Cond.instanceMethod yX4_firstUnlikeCell, Cond.selects RX4 yX4_firstUnlikeCell yX4_firstUnlikeCell, Cond.code yX4_firstUnlikeCell cX4_firstUnlikeCell 4 (some .int), Cond.methodLink RX5 92 yX5_foundOr, Cond.static yX5_foundOr, Cond.initialized RX5, Cond.code yX5_foundOr cX5_foundOr 1 (some .int), Cond.constant RX5 104 (-1000004), Cond.methodLink RX5 108 yX3_unlikePlaces, Cond.instanceMethod yX3_unlikePlaces, Cond.selects RX3 yX3_unlikePlaces yX3_unlikePlaces, Cond.code yX3_unlikePlaces cX3_unlikePlaces 5 (some .int), Cond.methodLink RX3 51 yX3_block, Cond.methodLink RX5 164 yX3_commonSlot, Cond.instanceMethod yX3_commonSlot]
def wsX5_unlike_r3 : List Cond := [Cond.selects RX3 yX3_commonSlot yX3_commonSlot, Cond.code yX3_commonSlot cX3_commonSlot 6 (some .int), Cond.methodLink RX3 48 yX3_parentSlot, Cond.instanceMethod yX3_parentSlot, Cond.selects RX3 yX3_parentSlot yX3_parentSlot, Cond.code yX3_parentSlot cX3_parentSlot 2 (some .int), Cond.methodLink RX3 34 yX3_parentOf, Cond.instanceMethod yX3_parentOf, Cond.selects RX3 yX3_parentOf yX3_parentOf, Cond.code yX3_parentOf cX3_parentOf 2 (some .int), Cond.fieldLink RX3 15 "SharedStates$States" "parents" "[I", Cond.methodLink RX3 38 yX3_slotOf, Cond.methodLink RX5 120 yX3_numberOf, Cond.instanceMethod yX3_numberOf, Cond.selects RX3 yX3_numberOf yX3_numberOf, Cond.code yX3_numberOf cX3_numberOf 2 (some .int)]
def wsX5_unlike : List Cond := .code yX5_unlike cX5_unlike 6 (some .int) :: ((wsX5_unlike_r1 ++ (wsX5_unlike_r2 ++ wsX5_unlike_r3)) ++ wsX50 ++ wsX40 ++ wsX30 ++ wsX00)
def wsX5_like_r1 : List Cond := [Cond.fieldLink RX5 10 "SharedStates" "world" "LSharedStates$World;", Cond.fieldLink RX5 72 "SharedStates$World" "states" "LSharedStates$States;", Cond.constant RX5 85 (-1000001), Cond.fieldLink RX5 167 "SharedStates$States" "size" "I", Cond.constant RX5 104 (-1000004), Cond.methodLink RX5 76 yX3_slotOf, Cond.instanceMethod yX3_slotOf, Cond.selects RX3 yX3_slotOf yX3_slotOf, Cond.initialized RX3, Cond.code yX3_slotOf cX3_slotOf 3 (some .int), Cond.fieldLink RX3 21 "SharedStates$States" "size" "I", Cond.fieldLink RX3 9 "SharedStates$States" "numbers" "[I", Cond.methodLink RX5 161 yX4_firstUnlikeCell, Cond.instanceMethod yX4_firstUnlikeCell, Cond.selects RX4 yX4_firstUnlikeCell yX4_firstUnlikeCell, Cond.initialized RX4, Cond.code yX4_firstUnlikeCell cX4_firstUnlikeCell 4 (some .int), Cond.methodLink RX4 74 yX4_cellAt, Cond.instanceMethod yX4_cellAt, Cond.selects RX4 yX4_cellAt yX4_cellAt, Cond.code yX4_cellAt cX4_cellAt 3 (some .int), Cond.fieldLink RX4 12 "SharedStates$World" "blocks" "LSharedStates$Blocks;", Cond.fieldLink RX4 21 "SharedStates$World" "states" "LSharedStates$States;", Cond.methodLink RX4 64 yX3_block]
def wsX5_like_r2 : List Cond := [Cond.instanceMethod yX3_block, Cond.selects RX3 yX3_block yX3_block, Cond.code yX3_block cX3_block 4 (some .int), Cond.fieldLink RX3 18 "SharedStates$States" "places" "[I", Cond.methodLink RX4 68 yX0_cellOf, Cond.instanceMethod yX0_cellOf, Cond.selects RX0 yX0_cellOf yX0_cellOf, Cond.initialized RX0, Cond.code yX0_cellOf cX0_cellOf 4 (some .int), Cond.fieldLink RX0 9 "SharedStates$Blocks" "cells" "[I", Cond.methodLink RX5 120 yX3_numberOf, Cond.instanceMethod yX3_numberOf, Cond.selects RX3 yX3_numberOf yX3_numberOf, Cond.code yX3_numberOf cX3_numberOf 2 (some .int)]
def wsX5_like : List Cond := .code yX5_like cX5_like 4 (some .int) :: ((wsX5_like_r1 ++ wsX5_like_r2) ++ wsX50 ++ wsX40 ++ wsX30 ++ wsX00)
def wsX5_before_r1 : List Cond := [Cond.fieldLink RX5 10 "SharedStates" "world" "LSharedStates$World;", Cond.fieldLink RX5 72 "SharedStates$World" "states" "LSharedStates$States;", Cond.constant RX5 85 (-1000001), Cond.constant RX5 104 (-1000004), Cond.methodLink RX5 76 yX3_slotOf, Cond.instanceMethod yX3_slotOf, Cond.selects RX3 yX3_slotOf yX3_slotOf, Cond.initialized RX3, Cond.code yX3_slotOf cX3_slotOf 3 (some .int), Cond.fieldLink RX3 21 "SharedStates$States" "size" "I", Cond.fieldLink RX3 9 "SharedStates$States" "numbers" "[I", Cond.methodLink RX5 81 yX5_isIndex, Cond.static yX5_isIndex, Cond.initialized RX5, Cond.code yX5_isIndex cX5_isIndex 2 (some .boolean), Cond.methodLink RX5 86 yX4_cellAt, Cond.instanceMethod yX4_cellAt, Cond.selects RX4 yX4_cellAt yX4_cellAt, Cond.initialized RX4, Cond.code yX4_cellAt cX4_cellAt 3 (some .int), Cond.fieldLink RX4 12 "SharedStates$World" "blocks" "LSharedStates$Blocks;", Cond.fieldLink RX4 21 "SharedStates$World" "states" "LSharedStates$States;", Cond.methodLink RX4 64 yX3_block, Cond.instanceMethod yX3_block]
def wsX5_before_r2 : List Cond := [Cond.selects RX3 yX3_block yX3_block, Cond.code yX3_block cX3_block 4 (some .int), Cond.fieldLink RX3 18 "SharedStates$States" "places" "[I", Cond.methodLink RX4 68 yX0_cellOf, Cond.instanceMethod yX0_cellOf, Cond.selects RX0 yX0_cellOf yX0_cellOf, Cond.initialized RX0, Cond.code yX0_cellOf cX0_cellOf 4 (some .int), Cond.fieldLink RX0 9 "SharedStates$Blocks" "cells" "[I", Cond.methodLink RX5 120 yX3_numberOf, Cond.instanceMethod yX3_numberOf, Cond.selects RX3 yX3_numberOf yX3_numberOf, Cond.code yX3_numberOf cX3_numberOf 2 (some .int), Cond.methodLink RX5 105 yX3_parentSlot, Cond.instanceMethod yX3_parentSlot, Cond.selects RX3 yX3_parentSlot yX3_parentSlot, Cond.code yX3_parentSlot cX3_parentSlot 2 (some .int), Cond.methodLink RX3 34 yX3_parentOf, Cond.instanceMethod yX3_parentOf, Cond.selects RX3 yX3_parentOf yX3_parentOf, Cond.code yX3_parentOf cX3_parentOf 2 (some .int), Cond.fieldLink RX3 15 "SharedStates$States" "parents" "[I", Cond.methodLink RX3 38 yX3_slotOf]
def wsX5_before : List Cond := .code yX5_before cX5_before 6 (some .int) :: ((wsX5_before_r1 ++ wsX5_before_r2) ++ wsX50 ++ wsX40 ++ wsX30 ++ wsX00)
def wsX5_conflicts_r1 : List Cond := [Cond.fieldLink RX5 10 "SharedStates" "world" "LSharedStates$World;", Cond.fieldLink RX5 72 "SharedStates$World" "states" "LSharedStates$States;", Cond.constant RX5 85 (-1000001), Cond.methodLink RX5 171 yX4_headSlot, Cond.instanceMethod yX4_headSlot, Cond.selects RX4 yX4_headSlot yX4_headSlot, Cond.initialized RX4, Cond.code yX4_headSlot cX4_headSlot 2 (some .int), Cond.fieldLink RX4 21 "SharedStates$World" "states" "LSharedStates$States;", Cond.fieldLink RX4 25 "SharedStates$World" "heads" "[I", Cond.methodLink RX4 56 yX4_isBranch, Cond.instanceMethod yX4_isBranch, Cond.selects RX4 yX4_isBranch yX4_isBranch, Cond.code yX4_isBranch cX4_isBranch 2 (some .boolean), Cond.static yX5_isIndex, Cond.initialized RX5, Cond.code yX5_isIndex cX5_isIndex 2 (some .boolean), Cond.methodLink RX4 60 yX3_slotOf, Cond.instanceMethod yX3_slotOf, Cond.selects RX3 yX3_slotOf yX3_slotOf, Cond.initialized RX3, Cond.code yX3_slotOf cX3_slotOf 3 (some .int), Cond.fieldLink RX3 21 "SharedStates$States" "size" "I", Cond.fieldLink RX3 9 "SharedStates$States" "numbers" "[I"]
def wsX5_conflicts_r2 : List Cond := [Cond.methodLink RX5 76 yX3_slotOf, Cond.methodLink RX5 164 yX3_commonSlot, Cond.instanceMethod yX3_commonSlot, Cond.selects RX3 yX3_commonSlot yX3_commonSlot, Cond.code yX3_commonSlot cX3_commonSlot 6 (some .int), Cond.methodLink RX3 48 yX3_parentSlot, Cond.instanceMethod yX3_parentSlot, Cond.selects RX3 yX3_parentSlot yX3_parentSlot, Cond.code yX3_parentSlot cX3_parentSlot 2 (some .int), Cond.methodLink RX3 34 yX3_parentOf, Cond.instanceMethod yX3_parentOf, Cond.selects RX3 yX3_parentOf yX3_parentOf, Cond.code yX3_parentOf cX3_parentOf 2 (some .int), Cond.fieldLink RX3 15 "SharedStates$States" "parents" "[I", Cond.methodLink RX3 38 yX3_slotOf, Cond.methodLink RX5 174 yX4_draftMerge, Cond.instanceMethod yX4_draftMerge, Cond.selects RX4 yX4_draftMerge yX4_draftMerge, Cond.code yX4_draftMerge cX4_draftMerge 10 (some .int), Cond.fieldLink RX4 29 "SharedStates$World" "draft" "[I", Cond.methodLink RX4 74 yX4_cellAt, Cond.instanceMethod yX4_cellAt, Cond.selects RX4 yX4_cellAt yX4_cellAt, Cond.code yX4_cellAt cX4_cellAt 3 (some .int)]
def wsX5_conflicts_r3 : List Cond := [Cond.fieldLink RX4 12 "SharedStates$World" "blocks" "LSharedStates$Blocks;", Cond.methodLink RX4 64 yX3_block, Cond.instanceMethod yX3_block, Cond.selects RX3 yX3_block yX3_block, Cond.code yX3_block cX3_block 4 (some .int), Cond.fieldLink RX3 18 "SharedStates$States" "places" "[I", Cond.methodLink RX4 68 yX0_cellOf, Cond.instanceMethod yX0_cellOf, Cond.selects RX0 yX0_cellOf yX0_cellOf, Cond.initialized RX0, Cond.code yX0_cellOf cX0_cellOf 4 (some .int), Cond.fieldLink RX0 9 "SharedStates$Blocks" "cells" "[I"]
def wsX5_conflicts : List Cond := .code yX5_conflicts cX5_conflicts 5 (some .int) :: ((wsX5_conflicts_r1 ++ (wsX5_conflicts_r2 ++ wsX5_conflicts_r3)) ++ wsX50 ++ wsX40 ++ wsX30 ++ wsX00)
def wsX5_frees_r1 : List Cond := [Cond.fieldLink RX5 10 "SharedStates" "world" "LSharedStates$World;", Cond.fieldLink RX5 72 "SharedStates$World" "states" "LSharedStates$States;", Cond.constant RX5 85 (-1000001), Cond.constant RX5 184 (-1000002), Cond.methodLink RX5 76 yX3_slotOf, Cond.instanceMethod yX3_slotOf, Cond.selects RX3 yX3_slotOf yX3_slotOf, Cond.initialized RX3, Cond.code yX3_slotOf cX3_slotOf 3 (some .int), Cond.fieldLink RX3 21 "SharedStates$States" "size" "I", Cond.fieldLink RX3 9 "SharedStates$States" "numbers" "[I", Cond.methodLink RX5 178 yX4_canForget, Cond.instanceMethod yX4_canForget, Cond.selects RX4 yX4_canForget yX4_canForget, Cond.initialized RX4, Cond.code yX4_canForget cX4_canForget 2 (some .boolean), Cond.fieldLink RX4 21 "SharedStates$World" "states" "LSharedStates$States;", Cond.methodLink RX4 89 yX3_numberOf, Cond.instanceMethod yX3_numberOf, Cond.selects RX3 yX3_numberOf yX3_numberOf, Cond.code yX3_numberOf cX3_numberOf 2 (some .int), Cond.methodLink RX4 92 yX4_branchesAt, Cond.instanceMethod yX4_branchesAt, Cond.selects RX4 yX4_branchesAt yX4_branchesAt]
def wsX5_frees_r2 : List Cond := [Cond.code yX4_branchesAt cX4_branchesAt 4 (some .int), Cond.fieldLink RX4 25 "SharedStates$World" "heads" "[I", Cond.methodLink RX5 181 yX4_blocksOfItsOwn, Cond.instanceMethod yX4_blocksOfItsOwn, Cond.selects RX4 yX4_blocksOfItsOwn yX4_blocksOfItsOwn, Cond.code yX4_blocksOfItsOwn cX4_blocksOfItsOwn 4 (some .int), Cond.methodLink RX4 83 yX4_isItsOwn, Cond.instanceMethod yX4_isItsOwn, Cond.selects RX4 yX4_isItsOwn yX4_isItsOwn, Cond.code yX4_isItsOwn cX4_isItsOwn 4 (some .boolean), Cond.fieldLink RX4 12 "SharedStates$World" "blocks" "LSharedStates$Blocks;", Cond.methodLink RX4 64 yX3_block, Cond.instanceMethod yX3_block, Cond.selects RX3 yX3_block yX3_block, Cond.code yX3_block cX3_block 4 (some .int), Cond.fieldLink RX3 18 "SharedStates$States" "places" "[I", Cond.methodLink RX4 77 yX0_usesOf, Cond.instanceMethod yX0_usesOf, Cond.selects RX0 yX0_usesOf yX0_usesOf, Cond.initialized RX0, Cond.code yX0_usesOf cX0_usesOf 2 (some .int), Cond.fieldLink RX0 15 "SharedStates$Blocks" "uses" "[I", Cond.static yX5_isIndex, Cond.initialized RX5]
def wsX5_frees_r3 : List Cond := [Cond.code yX5_isIndex cX5_isIndex 2 (some .boolean), Cond.methodLink RX4 80 yX3_placesWith, Cond.instanceMethod yX3_placesWith, Cond.selects RX3 yX3_placesWith yX3_placesWith, Cond.code yX3_placesWith cX3_placesWith 5 (some .int), Cond.methodLink RX3 51 yX3_block, Cond.methodLink RX4 86 yX3_isFirstPlace, Cond.instanceMethod yX3_isFirstPlace, Cond.selects RX3 yX3_isFirstPlace yX3_isFirstPlace, Cond.code yX3_isFirstPlace cX3_isFirstPlace 4 (some .boolean)]
def wsX5_frees : List Cond := .code yX5_frees cX5_frees 3 (some .int) :: ((wsX5_frees_r1 ++ (wsX5_frees_r2 ++ wsX5_frees_r3)) ++ wsX50 ++ wsX40 ++ wsX30 ++ wsX00)
def wsX5_heaviest_r1 : List Cond := [Cond.constant RX5 85 (-1000001), Cond.fieldLink RX5 10 "SharedStates" "world" "LSharedStates$World;", Cond.fieldLink RX5 72 "SharedStates$World" "states" "LSharedStates$States;", Cond.fieldLink RX5 167 "SharedStates$States" "size" "I", Cond.methodLink RX5 81 yX5_isIndex, Cond.static yX5_isIndex, Cond.initialized RX5, Cond.code yX5_isIndex cX5_isIndex 2 (some .boolean), Cond.methodLink RX5 178 yX4_canForget, Cond.instanceMethod yX4_canForget, Cond.selects RX4 yX4_canForget yX4_canForget, Cond.initialized RX4, Cond.code yX4_canForget cX4_canForget 2 (some .boolean), Cond.fieldLink RX4 21 "SharedStates$World" "states" "LSharedStates$States;", Cond.methodLink RX4 89 yX3_numberOf, Cond.instanceMethod yX3_numberOf, Cond.selects RX3 yX3_numberOf yX3_numberOf, Cond.initialized RX3, Cond.code yX3_numberOf cX3_numberOf 2 (some .int), Cond.fieldLink RX3 21 "SharedStates$States" "size" "I", Cond.fieldLink RX3 9 "SharedStates$States" "numbers" "[I", Cond.methodLink RX4 92 yX4_branchesAt, Cond.instanceMethod yX4_branchesAt, Cond.selects RX4 yX4_branchesAt yX4_branchesAt]
def wsX5_heaviest_r2 : List Cond := [Cond.code yX4_branchesAt cX4_branchesAt 4 (some .int), Cond.fieldLink RX4 25 "SharedStates$World" "heads" "[I", Cond.methodLink RX5 181 yX4_blocksOfItsOwn, Cond.instanceMethod yX4_blocksOfItsOwn, Cond.selects RX4 yX4_blocksOfItsOwn yX4_blocksOfItsOwn, Cond.code yX4_blocksOfItsOwn cX4_blocksOfItsOwn 4 (some .int), Cond.methodLink RX4 83 yX4_isItsOwn, Cond.instanceMethod yX4_isItsOwn, Cond.selects RX4 yX4_isItsOwn yX4_isItsOwn, Cond.code yX4_isItsOwn cX4_isItsOwn 4 (some .boolean), Cond.fieldLink RX4 12 "SharedStates$World" "blocks" "LSharedStates$Blocks;", Cond.methodLink RX4 64 yX3_block, Cond.instanceMethod yX3_block, Cond.selects RX3 yX3_block yX3_block, Cond.code yX3_block cX3_block 4 (some .int), Cond.fieldLink RX3 18 "SharedStates$States" "places" "[I", Cond.methodLink RX4 77 yX0_usesOf, Cond.instanceMethod yX0_usesOf, Cond.selects RX0 yX0_usesOf yX0_usesOf, Cond.initialized RX0, Cond.code yX0_usesOf cX0_usesOf 2 (some .int), Cond.fieldLink RX0 15 "SharedStates$Blocks" "uses" "[I", Cond.methodLink RX4 80 yX3_placesWith, Cond.instanceMethod yX3_placesWith]
def wsX5_heaviest_r3 : List Cond := [Cond.selects RX3 yX3_placesWith yX3_placesWith, Cond.code yX3_placesWith cX3_placesWith 5 (some .int), Cond.methodLink RX3 51 yX3_block, Cond.methodLink RX4 86 yX3_isFirstPlace, Cond.instanceMethod yX3_isFirstPlace, Cond.selects RX3 yX3_isFirstPlace yX3_isFirstPlace, Cond.code yX3_isFirstPlace cX3_isFirstPlace 4 (some .boolean), Cond.methodLink RX5 120 yX3_numberOf, Cond.methodLink RX5 92 yX5_foundOr, Cond.static yX5_foundOr, Cond.code yX5_foundOr cX5_foundOr 1 (some .int), Cond.constant RX5 104 (-1000004)]
def wsX5_heaviest : List Cond := .code yX5_heaviest cX5_heaviest 6 (some .int) :: ((wsX5_heaviest_r1 ++ (wsX5_heaviest_r2 ++ wsX5_heaviest_r3)) ++ wsX50 ++ wsX40 ++ wsX30 ++ wsX00)
def wsX5_count_r1 : List Cond := [Cond.fieldLink RX5 10 "SharedStates" "world" "LSharedStates$World;", Cond.fieldLink RX5 72 "SharedStates$World" "states" "LSharedStates$States;", Cond.fieldLink RX5 167 "SharedStates$States" "size" "I", Cond.fieldLink RX5 126 "SharedStates$World" "blocks" "LSharedStates$Blocks;", Cond.fieldLink RX5 194 "SharedStates$States" "made" "I", Cond.fieldLink RX5 197 "SharedStates$Blocks" "made" "I", Cond.fieldLink RX5 198 "SharedStates$Blocks" "taken" "I", Cond.fieldLink RX5 201 "SharedStates$World" "conflictsSoFar" "I", Cond.fieldLink RX5 22 "SharedStates" "history" "LSharedStates$History;", Cond.fieldLink RX5 204 "SharedStates$History" "size" "I", Cond.fieldLink RX5 29 "SharedStates" "orders" "LSharedStates$Orders;", Cond.fieldLink RX5 205 "SharedStates$Orders" "length" "I", Cond.fieldLink RX5 208 "SharedStates$World" "sharing" "I", Cond.constant RX5 85 (-1000001), Cond.methodLink RX5 185 yX4_branchesThere, Cond.instanceMethod yX4_branchesThere, Cond.selects RX4 yX4_branchesThere yX4_branchesThere, Cond.initialized RX4, Cond.code yX4_branchesThere cX4_branchesThere 3 (some .int), Cond.fieldLink RX4 25 "SharedStates$World" "heads" "[I", Cond.methodLink RX5 188 yX0_there, Cond.instanceMethod yX0_there, Cond.selects RX0 yX0_there yX0_there, Cond.initialized RX0]
def wsX5_count_r2 : List Cond := [Cond.code yX0_there cX0_there 3 (some .int), Cond.methodLink RX0 35 yX0_isThere, Cond.instanceMethod yX0_isThere, Cond.selects RX0 yX0_isThere yX0_isThere, Cond.code yX0_isThere cX0_isThere 2 (some .boolean), Cond.fieldLink RX0 15 "SharedStates$Blocks" "uses" "[I", Cond.methodLink RX5 191 yX0_doubles, Cond.instanceMethod yX0_doubles, Cond.selects RX0 yX0_doubles yX0_doubles, Cond.code yX0_doubles cX0_doubles 3 (some .int), Cond.fieldLink RX0 9 "SharedStates$Blocks" "cells" "[I", Cond.methodLink RX0 47 yX0_lowestHolding, Cond.instanceMethod yX0_lowestHolding, Cond.selects RX0 yX0_lowestHolding yX0_lowestHolding, Cond.code yX0_lowestHolding cX0_lowestHolding 4 (some .int), Cond.methodLink RX0 39 yX0_holds, Cond.instanceMethod yX0_holds, Cond.selects RX0 yX0_holds yX0_holds, Cond.code yX0_holds cX0_holds 5 (some .boolean)]
def wsX5_count : List Cond := .code yX5_count cX5_count 2 (some .int) :: ((wsX5_count_r1 ++ wsX5_count_r2) ++ wsX50 ++ wsX40 ++ wsX30 ++ wsX00 ++ wsX10 ++ wsX20)
def wsX5_undo : List Cond := .code yX5_undo cX5_undo 1 (some .int) :: ([.fieldLink RX5 22 "SharedStates" "history" "LSharedStates$History;", .fieldLink RX5 204 "SharedStates$History" "size" "I", .constant RX5 184 (-1000002), .fieldLink RX5 10 "SharedStates" "world" "LSharedStates$World;", .methodLink RX5 211 yX1_exchangeLatest, .instanceMethod yX1_exchangeLatest, .selects RX1 yX1_exchangeLatest yX1_exchangeLatest, .initialized RX1, .code yX1_exchangeLatest cX1_exchangeLatest 4 (some (.object "SharedStates$World")), .fieldLink RX1 21 "SharedStates$History" "size" "I", .fieldLink RX1 17 "SharedStates$History" "oldest" "I", .fieldLink RX1 11 "SharedStates$History" "records" "[LSharedStates$World;"] ++ wsX50 ++ wsX10)
def wsX5_type : List Cond := .code yX5_type cX5_type 2 (some .int) :: ([.constant RX5 85 (-1000001), .fieldLink RX5 29 "SharedStates" "orders" "LSharedStates$Orders;", .fieldLink RX5 205 "SharedStates$Orders" "length" "I", .constant RX5 218 (-1000003), .methodLink RX5 215 yX2_append, .instanceMethod yX2_append, .selects RX2 yX2_append yX2_append, .initialized RX2, .code yX2_append cX2_append 2 (some .boolean), .fieldLink RX2 18 "SharedStates$Orders" "length" "I", .fieldLink RX2 9 "SharedStates$Orders" "signs" "[I"] ++ wsX50 ++ wsX20)
def wsX5_clearText : List Cond := .code yX5_clearText cX5_clearText 2 (some .int) :: ([.fieldLink RX5 29 "SharedStates" "orders" "LSharedStates$Orders;", .fieldLink RX5 205 "SharedStates$Orders" "length" "I"] ++ wsX50 ++ wsX20)
def wsX5_fault_r1 : List Cond := [Cond.constant RX5 85 (-1000001), Cond.fieldLink RX5 29 "SharedStates" "orders" "LSharedStates$Orders;", Cond.constant RX5 104 (-1000004), Cond.fieldLink RX5 223 "SharedStates$Orders" "faultPosition" "I", Cond.fieldLink RX5 226 "SharedStates$Orders" "faultReason" "I", Cond.fieldLink RX5 229 "SharedStates$Orders" "faultCause" "I", Cond.methodLink RX5 81 yX5_isIndex, Cond.static yX5_isIndex, Cond.initialized RX5, Cond.code yX5_isIndex cX5_isIndex 2 (some .boolean), Cond.methodLink RX5 33 yX5_startTrial, Cond.instanceMethod yX5_startTrial, Cond.selects RX5 yX5_startTrial yX5_startTrial, Cond.code yX5_startTrial cX5_startTrial 1 (some (.object "SharedStates$World")), Cond.fieldLink RX5 16 "SharedStates" "trial" "LSharedStates$World;", Cond.fieldLink RX5 10 "SharedStates" "world" "LSharedStates$World;", Cond.methodLink RX5 235 yX4_becomeLike, Cond.instanceMethod yX4_becomeLike, Cond.selects RX4 yX4_becomeLike yX4_becomeLike, Cond.initialized RX4, Cond.code yX4_becomeLike cX4_becomeLike 2 none, Cond.fieldLink RX4 12 "SharedStates$World" "blocks" "LSharedStates$Blocks;", Cond.fieldLink RX4 21 "SharedStates$World" "states" "LSharedStates$States;", Cond.fieldLink RX4 25 "SharedStates$World" "heads" "[I"]
def wsX5_fault_r2 : List Cond := [Cond.methodLink RX4 46 arraycopyName, Cond.native arraycopyName, Cond.static arraycopyName, Cond.initialized "java/lang/System", Cond.fieldLink RX4 32 "SharedStates$World" "sharing" "I", Cond.fieldLink RX4 36 "SharedStates$World" "conflictsSoFar" "I", Cond.methodLink RX4 39 yX0_becomeLike, Cond.instanceMethod yX0_becomeLike, Cond.selects RX0 yX0_becomeLike yX0_becomeLike, Cond.initialized RX0, Cond.code yX0_becomeLike cX0_becomeLike 2 none, Cond.fieldLink RX0 9 "SharedStates$Blocks" "cells" "[I", Cond.methodLink RX0 25 arraycopyName, Cond.fieldLink RX0 15 "SharedStates$Blocks" "uses" "[I", Cond.fieldLink RX0 18 "SharedStates$Blocks" "made" "I", Cond.fieldLink RX0 22 "SharedStates$Blocks" "taken" "I", Cond.methodLink RX4 43 yX3_becomeLike, Cond.instanceMethod yX3_becomeLike, Cond.selects RX3 yX3_becomeLike yX3_becomeLike, Cond.initialized RX3, Cond.code yX3_becomeLike cX3_becomeLike 2 none, Cond.fieldLink RX3 9 "SharedStates$States" "numbers" "[I", Cond.methodLink RX3 28 arraycopyName, Cond.fieldLink RX3 15 "SharedStates$States" "parents" "[I"]
def wsX5_fault_r3 : List Cond := [Cond.fieldLink RX3 18 "SharedStates$States" "places" "[I", Cond.fieldLink RX3 21 "SharedStates$States" "size" "I", Cond.fieldLink RX3 25 "SharedStates$States" "made" "I", Cond.methodLink RX5 219 yX2_doAll, Cond.instanceMethod yX2_doAll, Cond.selects RX2 yX2_doAll yX2_doAll, Cond.initialized RX2, Cond.code yX2_doAll cX2_doAll 5 (some .boolean), Cond.fieldLink RX2 22 "SharedStates$Orders" "position" "I", Cond.fieldLink RX2 25 "SharedStates$Orders" "done" "I", Cond.fieldLink RX2 18 "SharedStates$Orders" "length" "I", Cond.fieldLink RX2 9 "SharedStates$Orders" "signs" "[I", Cond.methodLink RX2 37 yX2_readOrder, Cond.instanceMethod yX2_readOrder, Cond.selects RX2 yX2_readOrder yX2_readOrder, Cond.code yX2_readOrder cX2_readOrder 3 (some .boolean), Cond.methodLink RX2 49 yX2_signHere, Cond.instanceMethod yX2_signHere, Cond.selects RX2 yX2_signHere yX2_signHere, Cond.code yX2_signHere cX2_signHere 1 (some .int), Cond.methodLink RX2 53 yX2_numbersOf, Cond.static yX2_numbersOf, Cond.code yX2_numbersOf cX2_numbersOf 1 (some .int), Cond.methodLink RX2 57 yX2_readNumber]
def wsX5_fault_r4 : List Cond := [Cond.instanceMethod yX2_readNumber, Cond.selects RX2 yX2_readNumber yX2_readNumber, Cond.code yX2_readNumber cX2_readNumber 4 (some .boolean), Cond.fieldLink RX2 15 "SharedStates$Orders" "numbers" "[I", Cond.methodLink RX2 41 yX2_keepFault, Cond.instanceMethod yX2_keepFault, Cond.selects RX2 yX2_keepFault yX2_keepFault, Cond.code yX2_keepFault cX2_keepFault 4 (some .boolean), Cond.fieldLink RX2 28 "SharedStates$Orders" "faultPosition" "I", Cond.fieldLink RX2 31 "SharedStates$Orders" "faultReason" "I", Cond.fieldLink RX2 34 "SharedStates$Orders" "faultCause" "I", Cond.methodLink RX2 45 yX2_doOrder, Cond.instanceMethod yX2_doOrder, Cond.selects RX2 yX2_doOrder yX2_doOrder, Cond.code yX2_doOrder cX2_doOrder 3 (some .int), Cond.methodLink RX2 61 yX4_fillCells, Cond.instanceMethod yX4_fillCells, Cond.selects RX4 yX4_fillCells yX4_fillCells, Cond.code yX4_fillCells cX4_fillCells 7 (some .int), Cond.constant RX4 101 (-1000001), Cond.fieldLink RX4 29 "SharedStates$World" "draft" "[I", Cond.methodLink RX4 95 yX4_headSlot, Cond.instanceMethod yX4_headSlot, Cond.selects RX4 yX4_headSlot yX4_headSlot]
def wsX5_fault_r5 : List Cond := [Cond.code yX4_headSlot cX4_headSlot 2 (some .int), Cond.methodLink RX4 56 yX4_isBranch, Cond.instanceMethod yX4_isBranch, Cond.selects RX4 yX4_isBranch yX4_isBranch, Cond.code yX4_isBranch cX4_isBranch 2 (some .boolean), Cond.methodLink RX4 60 yX3_slotOf, Cond.instanceMethod yX3_slotOf, Cond.selects RX3 yX3_slotOf yX3_slotOf, Cond.code yX3_slotOf cX3_slotOf 3 (some .int), Cond.static yX5_isRange, Cond.code yX5_isRange cX5_isRange 2 (some .boolean), Cond.methodLink RX4 102 yX4_draftState, Cond.instanceMethod yX4_draftState, Cond.selects RX4 yX4_draftState yX4_draftState, Cond.code yX4_draftState cX4_draftState 3 none, Cond.methodLink RX4 74 yX4_cellAt, Cond.instanceMethod yX4_cellAt, Cond.selects RX4 yX4_cellAt yX4_cellAt, Cond.code yX4_cellAt cX4_cellAt 3 (some .int), Cond.methodLink RX4 64 yX3_block, Cond.instanceMethod yX3_block, Cond.selects RX3 yX3_block yX3_block, Cond.code yX3_block cX3_block 4 (some .int), Cond.methodLink RX4 68 yX0_cellOf]
def wsX5_fault_r6 : List Cond := [Cond.instanceMethod yX0_cellOf, Cond.selects RX0 yX0_cellOf yX0_cellOf, Cond.code yX0_cellOf cX0_cellOf 4 (some .int), Cond.methodLink RX4 106 yX4_addDraft, Cond.instanceMethod yX4_addDraft, Cond.selects RX4 yX4_addDraft yX4_addDraft, Cond.code yX4_addDraft cX4_addDraft 7 (some .int), Cond.fieldLink RX4 116 "SharedStates$States" "size" "I", Cond.constant RX4 119 (-1000003), Cond.fieldLink RX4 128 "SharedStates$Blocks" "taken" "I", Cond.fieldLink RX4 138 "SharedStates$States" "places" "[I", Cond.methodLink RX4 120 yX0_holds, Cond.instanceMethod yX0_holds, Cond.selects RX0 yX0_holds yX0_holds, Cond.code yX0_holds cX0_holds 5 (some .boolean), Cond.methodLink RX4 124 yX0_lowestHolding, Cond.instanceMethod yX0_lowestHolding, Cond.selects RX0 yX0_lowestHolding yX0_lowestHolding, Cond.code yX0_lowestHolding cX0_lowestHolding 4 (some .int), Cond.methodLink RX0 39 yX0_holds, Cond.methodLink RX4 131 yX0_make, Cond.instanceMethod yX0_make, Cond.selects RX0 yX0_make yX0_make, Cond.code yX0_make cX0_make 4 (some .int)]
def wsX5_fault_r7 : List Cond := [Cond.methodLink RX4 134 yX0_addUses, Cond.instanceMethod yX0_addUses, Cond.selects RX0 yX0_addUses yX0_addUses, Cond.code yX0_addUses cX0_addUses 3 none, Cond.methodLink RX4 89 yX3_numberOf, Cond.instanceMethod yX3_numberOf, Cond.selects RX3 yX3_numberOf yX3_numberOf, Cond.code yX3_numberOf cX3_numberOf 2 (some .int), Cond.methodLink RX4 141 yX3_add, Cond.instanceMethod yX3_add, Cond.selects RX3 yX3_add yX3_add, Cond.code yX3_add cX3_add 2 (some .int), Cond.methodLink RX2 67 yX4_mergeState, Cond.instanceMethod yX4_mergeState, Cond.selects RX4 yX4_mergeState yX4_mergeState, Cond.code yX4_mergeState cX4_mergeState 7 (some .int), Cond.methodLink RX4 109 yX3_commonSlot, Cond.instanceMethod yX3_commonSlot, Cond.selects RX3 yX3_commonSlot yX3_commonSlot, Cond.code yX3_commonSlot cX3_commonSlot 6 (some .int), Cond.methodLink RX3 48 yX3_parentSlot, Cond.instanceMethod yX3_parentSlot, Cond.selects RX3 yX3_parentSlot yX3_parentSlot, Cond.code yX3_parentSlot cX3_parentSlot 2 (some .int)]
def wsX5_fault_r8 : List Cond := [Cond.methodLink RX3 34 yX3_parentOf, Cond.instanceMethod yX3_parentOf, Cond.selects RX3 yX3_parentOf yX3_parentOf, Cond.code yX3_parentOf cX3_parentOf 2 (some .int), Cond.methodLink RX3 38 yX3_slotOf, Cond.methodLink RX4 112 yX4_draftMerge, Cond.instanceMethod yX4_draftMerge, Cond.selects RX4 yX4_draftMerge yX4_draftMerge, Cond.code yX4_draftMerge cX4_draftMerge 10 (some .int), Cond.methodLink RX2 71 yX4_addBranch, Cond.instanceMethod yX4_addBranch, Cond.selects RX4 yX4_addBranch yX4_addBranch, Cond.code yX4_addBranch cX4_addBranch 3 (some .int), Cond.methodLink RX2 74 yX4_forgetState, Cond.instanceMethod yX4_forgetState, Cond.selects RX4 yX4_forgetState yX4_forgetState, Cond.code yX4_forgetState cX4_forgetState 5 (some .int), Cond.constant RX4 148 (-1000002), Cond.methodLink RX4 152 yX4_canForget, Cond.instanceMethod yX4_canForget, Cond.selects RX4 yX4_canForget yX4_canForget, Cond.code yX4_canForget cX4_canForget 2 (some .boolean), Cond.methodLink RX4 92 yX4_branchesAt, Cond.instanceMethod yX4_branchesAt]
def wsX5_fault_r9 : List Cond := [Cond.selects RX4 yX4_branchesAt yX4_branchesAt, Cond.code yX4_branchesAt cX4_branchesAt 4 (some .int), Cond.methodLink RX4 155 yX0_there, Cond.instanceMethod yX0_there, Cond.selects RX0 yX0_there yX0_there, Cond.code yX0_there cX0_there 3 (some .int), Cond.methodLink RX0 35 yX0_isThere, Cond.instanceMethod yX0_isThere, Cond.selects RX0 yX0_isThere yX0_isThere, Cond.code yX0_isThere cX0_isThere 2 (some .boolean), Cond.methodLink RX4 158 yX3_remove, Cond.instanceMethod yX3_remove, Cond.selects RX3 yX3_remove yX3_remove, Cond.code yX3_remove cX3_remove 3 none]
def wsX5_fault : List Cond := .code yX5_fault cX5_fault 2 (some .int) :: ((wsX5_fault_r1 ++ (wsX5_fault_r2 ++ (wsX5_fault_r3 ++ (wsX5_fault_r4 ++ (wsX5_fault_r5 ++ (wsX5_fault_r6 ++ (wsX5_fault_r7 ++ (wsX5_fault_r8 ++ wsX5_fault_r9)))))))) ++ wsX50 ++ wsX20 ++ wsX40 ++ wsX00 ++ wsX30)
def wsX5_play_r1 : List Cond := [Cond.fieldLink RX5 29 "SharedStates" "orders" "LSharedStates$Orders;", Cond.fieldLink RX5 232 "SharedStates$Orders" "done" "I", Cond.constant RX5 184 (-1000002), Cond.methodLink RX5 33 yX5_startTrial, Cond.instanceMethod yX5_startTrial, Cond.selects RX5 yX5_startTrial yX5_startTrial, Cond.initialized RX5, Cond.code yX5_startTrial cX5_startTrial 1 (some (.object "SharedStates$World")), Cond.fieldLink RX5 16 "SharedStates" "trial" "LSharedStates$World;", Cond.fieldLink RX5 10 "SharedStates" "world" "LSharedStates$World;", Cond.methodLink RX5 235 yX4_becomeLike, Cond.instanceMethod yX4_becomeLike, Cond.selects RX4 yX4_becomeLike yX4_becomeLike, Cond.initialized RX4, Cond.code yX4_becomeLike cX4_becomeLike 2 none, Cond.fieldLink RX4 12 "SharedStates$World" "blocks" "LSharedStates$Blocks;", Cond.fieldLink RX4 21 "SharedStates$World" "states" "LSharedStates$States;", Cond.fieldLink RX4 25 "SharedStates$World" "heads" "[I", Cond.methodLink RX4 46 arraycopyName, Cond.native arraycopyName, Cond.static arraycopyName, Cond.initialized "java/lang/System", Cond.fieldLink RX4 32 "SharedStates$World" "sharing" "I", Cond.fieldLink RX4 36 "SharedStates$World" "conflictsSoFar" "I"]
def wsX5_play_r2 : List Cond := [Cond.methodLink RX4 39 yX0_becomeLike, Cond.instanceMethod yX0_becomeLike, Cond.selects RX0 yX0_becomeLike yX0_becomeLike, Cond.initialized RX0, Cond.code yX0_becomeLike cX0_becomeLike 2 none, Cond.fieldLink RX0 9 "SharedStates$Blocks" "cells" "[I", Cond.methodLink RX0 25 arraycopyName, Cond.fieldLink RX0 15 "SharedStates$Blocks" "uses" "[I", Cond.fieldLink RX0 18 "SharedStates$Blocks" "made" "I", Cond.fieldLink RX0 22 "SharedStates$Blocks" "taken" "I", Cond.methodLink RX4 43 yX3_becomeLike, Cond.instanceMethod yX3_becomeLike, Cond.selects RX3 yX3_becomeLike yX3_becomeLike, Cond.initialized RX3, Cond.code yX3_becomeLike cX3_becomeLike 2 none, Cond.fieldLink RX3 9 "SharedStates$States" "numbers" "[I", Cond.methodLink RX3 28 arraycopyName, Cond.fieldLink RX3 15 "SharedStates$States" "parents" "[I", Cond.fieldLink RX3 18 "SharedStates$States" "places" "[I", Cond.fieldLink RX3 21 "SharedStates$States" "size" "I", Cond.fieldLink RX3 25 "SharedStates$States" "made" "I", Cond.methodLink RX5 219 yX2_doAll, Cond.instanceMethod yX2_doAll, Cond.selects RX2 yX2_doAll yX2_doAll]
def wsX5_play_r3 : List Cond := [Cond.initialized RX2, Cond.code yX2_doAll cX2_doAll 5 (some .boolean), Cond.fieldLink RX2 22 "SharedStates$Orders" "position" "I", Cond.fieldLink RX2 25 "SharedStates$Orders" "done" "I", Cond.fieldLink RX2 18 "SharedStates$Orders" "length" "I", Cond.fieldLink RX2 9 "SharedStates$Orders" "signs" "[I", Cond.methodLink RX2 37 yX2_readOrder, Cond.instanceMethod yX2_readOrder, Cond.selects RX2 yX2_readOrder yX2_readOrder, Cond.code yX2_readOrder cX2_readOrder 3 (some .boolean), Cond.methodLink RX2 49 yX2_signHere, Cond.instanceMethod yX2_signHere, Cond.selects RX2 yX2_signHere yX2_signHere, Cond.code yX2_signHere cX2_signHere 1 (some .int), Cond.methodLink RX2 53 yX2_numbersOf, Cond.static yX2_numbersOf, Cond.code yX2_numbersOf cX2_numbersOf 1 (some .int), Cond.methodLink RX2 57 yX2_readNumber, Cond.instanceMethod yX2_readNumber, Cond.selects RX2 yX2_readNumber yX2_readNumber, Cond.code yX2_readNumber cX2_readNumber 4 (some .boolean), Cond.fieldLink RX2 15 "SharedStates$Orders" "numbers" "[I", Cond.methodLink RX2 41 yX2_keepFault, Cond.instanceMethod yX2_keepFault]
def wsX5_play_r4 : List Cond := [Cond.selects RX2 yX2_keepFault yX2_keepFault, Cond.code yX2_keepFault cX2_keepFault 4 (some .boolean), Cond.fieldLink RX2 28 "SharedStates$Orders" "faultPosition" "I", Cond.fieldLink RX2 31 "SharedStates$Orders" "faultReason" "I", Cond.fieldLink RX2 34 "SharedStates$Orders" "faultCause" "I", Cond.methodLink RX2 45 yX2_doOrder, Cond.instanceMethod yX2_doOrder, Cond.selects RX2 yX2_doOrder yX2_doOrder, Cond.code yX2_doOrder cX2_doOrder 3 (some .int), Cond.methodLink RX2 61 yX4_fillCells, Cond.instanceMethod yX4_fillCells, Cond.selects RX4 yX4_fillCells yX4_fillCells, Cond.code yX4_fillCells cX4_fillCells 7 (some .int), Cond.constant RX4 101 (-1000001), Cond.fieldLink RX4 29 "SharedStates$World" "draft" "[I", Cond.methodLink RX4 95 yX4_headSlot, Cond.instanceMethod yX4_headSlot, Cond.selects RX4 yX4_headSlot yX4_headSlot, Cond.code yX4_headSlot cX4_headSlot 2 (some .int), Cond.methodLink RX4 56 yX4_isBranch, Cond.instanceMethod yX4_isBranch, Cond.selects RX4 yX4_isBranch yX4_isBranch, Cond.code yX4_isBranch cX4_isBranch 2 (some .boolean), Cond.static yX5_isIndex]
def wsX5_play_r5 : List Cond := [Cond.code yX5_isIndex cX5_isIndex 2 (some .boolean), Cond.methodLink RX4 60 yX3_slotOf, Cond.instanceMethod yX3_slotOf, Cond.selects RX3 yX3_slotOf yX3_slotOf, Cond.code yX3_slotOf cX3_slotOf 3 (some .int), Cond.static yX5_isRange, Cond.code yX5_isRange cX5_isRange 2 (some .boolean), Cond.methodLink RX5 81 yX5_isIndex, Cond.methodLink RX4 102 yX4_draftState, Cond.instanceMethod yX4_draftState, Cond.selects RX4 yX4_draftState yX4_draftState, Cond.code yX4_draftState cX4_draftState 3 none, Cond.methodLink RX4 74 yX4_cellAt, Cond.instanceMethod yX4_cellAt, Cond.selects RX4 yX4_cellAt yX4_cellAt, Cond.code yX4_cellAt cX4_cellAt 3 (some .int), Cond.methodLink RX4 64 yX3_block, Cond.instanceMethod yX3_block, Cond.selects RX3 yX3_block yX3_block, Cond.code yX3_block cX3_block 4 (some .int), Cond.methodLink RX4 68 yX0_cellOf, Cond.instanceMethod yX0_cellOf, Cond.selects RX0 yX0_cellOf yX0_cellOf, Cond.code yX0_cellOf cX0_cellOf 4 (some .int)]
def wsX5_play_r6 : List Cond := [Cond.methodLink RX4 106 yX4_addDraft, Cond.instanceMethod yX4_addDraft, Cond.selects RX4 yX4_addDraft yX4_addDraft, Cond.code yX4_addDraft cX4_addDraft 7 (some .int), Cond.fieldLink RX4 116 "SharedStates$States" "size" "I", Cond.constant RX4 119 (-1000003), Cond.fieldLink RX4 128 "SharedStates$Blocks" "taken" "I", Cond.fieldLink RX4 138 "SharedStates$States" "places" "[I", Cond.methodLink RX4 120 yX0_holds, Cond.instanceMethod yX0_holds, Cond.selects RX0 yX0_holds yX0_holds, Cond.code yX0_holds cX0_holds 5 (some .boolean), Cond.methodLink RX4 124 yX0_lowestHolding, Cond.instanceMethod yX0_lowestHolding, Cond.selects RX0 yX0_lowestHolding yX0_lowestHolding, Cond.code yX0_lowestHolding cX0_lowestHolding 4 (some .int), Cond.methodLink RX0 39 yX0_holds, Cond.methodLink RX4 131 yX0_make, Cond.instanceMethod yX0_make, Cond.selects RX0 yX0_make yX0_make, Cond.code yX0_make cX0_make 4 (some .int), Cond.methodLink RX4 134 yX0_addUses, Cond.instanceMethod yX0_addUses, Cond.selects RX0 yX0_addUses yX0_addUses]
def wsX5_play_r7 : List Cond := [Cond.code yX0_addUses cX0_addUses 3 none, Cond.methodLink RX4 89 yX3_numberOf, Cond.instanceMethod yX3_numberOf, Cond.selects RX3 yX3_numberOf yX3_numberOf, Cond.code yX3_numberOf cX3_numberOf 2 (some .int), Cond.methodLink RX4 141 yX3_add, Cond.instanceMethod yX3_add, Cond.selects RX3 yX3_add yX3_add, Cond.code yX3_add cX3_add 2 (some .int), Cond.methodLink RX2 67 yX4_mergeState, Cond.instanceMethod yX4_mergeState, Cond.selects RX4 yX4_mergeState yX4_mergeState, Cond.code yX4_mergeState cX4_mergeState 7 (some .int), Cond.methodLink RX4 109 yX3_commonSlot, Cond.instanceMethod yX3_commonSlot, Cond.selects RX3 yX3_commonSlot yX3_commonSlot, Cond.code yX3_commonSlot cX3_commonSlot 6 (some .int), Cond.methodLink RX3 48 yX3_parentSlot, Cond.instanceMethod yX3_parentSlot, Cond.selects RX3 yX3_parentSlot yX3_parentSlot, Cond.code yX3_parentSlot cX3_parentSlot 2 (some .int), Cond.methodLink RX3 34 yX3_parentOf, Cond.instanceMethod yX3_parentOf, Cond.selects RX3 yX3_parentOf yX3_parentOf]
def wsX5_play_r8 : List Cond := [Cond.code yX3_parentOf cX3_parentOf 2 (some .int), Cond.methodLink RX3 38 yX3_slotOf, Cond.methodLink RX4 112 yX4_draftMerge, Cond.instanceMethod yX4_draftMerge, Cond.selects RX4 yX4_draftMerge yX4_draftMerge, Cond.code yX4_draftMerge cX4_draftMerge 10 (some .int), Cond.methodLink RX2 71 yX4_addBranch, Cond.instanceMethod yX4_addBranch, Cond.selects RX4 yX4_addBranch yX4_addBranch, Cond.code yX4_addBranch cX4_addBranch 3 (some .int), Cond.methodLink RX2 74 yX4_forgetState, Cond.instanceMethod yX4_forgetState, Cond.selects RX4 yX4_forgetState yX4_forgetState, Cond.code yX4_forgetState cX4_forgetState 5 (some .int), Cond.constant RX4 148 (-1000002), Cond.methodLink RX4 152 yX4_canForget, Cond.instanceMethod yX4_canForget, Cond.selects RX4 yX4_canForget yX4_canForget, Cond.code yX4_canForget cX4_canForget 2 (some .boolean), Cond.methodLink RX4 92 yX4_branchesAt, Cond.instanceMethod yX4_branchesAt, Cond.selects RX4 yX4_branchesAt yX4_branchesAt, Cond.code yX4_branchesAt cX4_branchesAt 4 (some .int), Cond.methodLink RX4 155 yX0_there]
def wsX5_play_r9 : List Cond := [Cond.instanceMethod yX0_there, Cond.selects RX0 yX0_there yX0_there, Cond.code yX0_there cX0_there 3 (some .int), Cond.methodLink RX0 35 yX0_isThere, Cond.instanceMethod yX0_isThere, Cond.selects RX0 yX0_isThere yX0_isThere, Cond.code yX0_isThere cX0_isThere 2 (some .boolean), Cond.methodLink RX4 158 yX3_remove, Cond.instanceMethod yX3_remove, Cond.selects RX3 yX3_remove yX3_remove, Cond.code yX3_remove cX3_remove 3 none, Cond.methodLink RX5 41 yX5_keepTrial, Cond.instanceMethod yX5_keepTrial, Cond.selects RX5 yX5_keepTrial yX5_keepTrial, Cond.code yX5_keepTrial cX5_keepTrial 3 (some .int), Cond.fieldLink RX5 22 "SharedStates" "history" "LSharedStates$History;", Cond.methodLink RX5 239 yX1_add, Cond.instanceMethod yX1_add, Cond.selects RX1 yX1_add yX1_add, Cond.initialized RX1, Cond.code yX1_add cX1_add 4 (some (.object "SharedStates$World")), Cond.fieldLink RX1 17 "SharedStates$History" "oldest" "I", Cond.fieldLink RX1 21 "SharedStates$History" "size" "I", Cond.fieldLink RX1 11 "SharedStates$History" "records" "[LSharedStates$World;"]
def wsX5_play : List Cond := .code yX5_play cX5_play 1 (some .int) :: ((wsX5_play_r1 ++ (wsX5_play_r2 ++ (wsX5_play_r3 ++ (wsX5_play_r4 ++ (wsX5_play_r5 ++ (wsX5_play_r6 ++ (wsX5_play_r7 ++ (wsX5_play_r8 ++ wsX5_play_r9)))))))) ++ wsX50 ++ wsX20 ++ wsX40 ++ wsX00 ++ wsX30 ++ wsX10)
def wsX6_init : List Cond := .code yX6_init cX6_init 2 none :: ([.methodLink RX6 1 objectInit, .instanceMethod objectInit, .code objectInit ⟨#[0xb1]⟩ 1 none, .arrayClass .int, .fieldLink RX6 7 "SharedStatesModel" "s" "[I", .fieldLink RX6 13 "SharedStatesModel" "past" "[I", .fieldLink RX6 16 "SharedStatesModel" "held" "[I", .fieldLink RX6 19 "SharedStatesModel" "text" "[I", .fieldLink RX6 22 "SharedStatesModel" "cells" "[I", .fieldLink RX6 25 "SharedStatesModel" "told" "[I", .fieldLink RX6 28 "SharedStatesModel" "ahead" "[I"] ++ wsX60)
def wsX6_in : List Cond := .code yX6_in cX6_in 3 (some .boolean) :: ([])
def wsX6_copies : List Cond := .code yX6_copies cX6_copies 3 none :: ([])
def wsX6_changes : List Cond := .code yX6_changes cX6_changes 2 none :: ([.fieldLink RX6 31 "SharedStatesModel" "runs" "Z", .fieldLink RX6 35 "SharedStatesModel" "pasts" "I", .fieldLink RX6 13 "SharedStatesModel" "past" "[I", .fieldLink RX6 7 "SharedStatesModel" "s" "[I"] ++ wsX60)
def wsX6_of : List Cond := .code yX6_of cX6_of 3 (some .int) :: ([.fieldLink RX6 7 "SharedStatesModel" "s" "[I"] ++ wsX60)
def wsX6_slot : List Cond := .code yX6_slot cX6_slot 3 (some .int) :: ([.fieldLink RX6 7 "SharedStatesModel" "s" "[I", .constant RX6 43 (-1000004), .methodLink RX6 39 yX6_of, .instanceMethod yX6_of, .selects RX6 yX6_of yX6_of, .initialized RX6, .code yX6_of cX6_of 3 (some .int)] ++ wsX60)
def wsX6_isState : List Cond := .code yX6_isState cX6_isState 2 (some .boolean) :: ([.methodLink RX6 44 yX6_slot, .instanceMethod yX6_slot, .selects RX6 yX6_slot yX6_slot, .initialized RX6, .code yX6_slot cX6_slot 3 (some .int), .fieldLink RX6 7 "SharedStatesModel" "s" "[I", .constant RX6 43 (-1000004), .methodLink RX6 39 yX6_of, .instanceMethod yX6_of, .selects RX6 yX6_of yX6_of, .code yX6_of cX6_of 3 (some .int)] ++ wsX60)
def wsX6_isBranch : List Cond := .code yX6_isBranch cX6_isBranch 2 (some .boolean) :: ([.fieldLink RX6 7 "SharedStatesModel" "s" "[I", .methodLink RX6 48 yX6_in, .static yX6_in, .initialized RX6, .code yX6_in cX6_in 3 (some .boolean)] ++ wsX60)
def wsX6_isBlock : List Cond := .code yX6_isBlock cX6_isBlock 2 (some .boolean) :: ([.fieldLink RX6 7 "SharedStatesModel" "s" "[I", .methodLink RX6 48 yX6_in, .static yX6_in, .initialized RX6, .code yX6_in cX6_in 3 (some .boolean)] ++ wsX60)
def wsX6_inBlock : List Cond := .code yX6_inBlock cX6_inBlock 3 (some .int) :: ([.fieldLink RX6 7 "SharedStatesModel" "s" "[I"] ++ wsX60)
def wsX6_cellOf : List Cond := .code yX6_cellOf cX6_cellOf 3 (some .int) :: ([.methodLink RX6 39 yX6_of, .instanceMethod yX6_of, .selects RX6 yX6_of yX6_of, .initialized RX6, .code yX6_of cX6_of 3 (some .int), .fieldLink RX6 7 "SharedStatesModel" "s" "[I", .methodLink RX6 52 yX6_inBlock, .instanceMethod yX6_inBlock, .selects RX6 yX6_inBlock yX6_inBlock, .code yX6_inBlock cX6_inBlock 3 (some .int)] ++ wsX60)
def wsX6_blocks : List Cond := .code yX6_blocks cX6_blocks 3 (some .int) :: ([.fieldLink RX6 7 "SharedStatesModel" "s" "[I"] ++ wsX60)
def wsX6_branches : List Cond := .code yX6_branches cX6_branches 3 (some .int) :: ([.fieldLink RX6 7 "SharedStatesModel" "s" "[I"] ++ wsX60)
def wsX6_areLike : List Cond := .code yX6_areLike cX6_areLike 5 (some .boolean) :: ([.methodLink RX6 52 yX6_inBlock, .instanceMethod yX6_inBlock, .selects RX6 yX6_inBlock yX6_inBlock, .initialized RX6, .code yX6_inBlock cX6_inBlock 3 (some .int), .fieldLink RX6 7 "SharedStatesModel" "s" "[I"] ++ wsX60)
def wsX6_placesWith : List Cond := .code yX6_placesWith cX6_placesWith 5 (some .int) :: ([.fieldLink RX6 7 "SharedStatesModel" "s" "[I", .methodLink RX6 39 yX6_of, .instanceMethod yX6_of, .selects RX6 yX6_of yX6_of, .initialized RX6, .code yX6_of cX6_of 3 (some .int)] ++ wsX60)
def wsX6_sweeps : List Cond := .code yX6_sweeps cX6_sweeps 3 (some .int) :: ([.fieldLink RX6 7 "SharedStatesModel" "s" "[I", .methodLink RX6 55 yX6_placesWith, .instanceMethod yX6_placesWith, .selects RX6 yX6_placesWith yX6_placesWith, .initialized RX6, .code yX6_placesWith cX6_placesWith 5 (some .int), .methodLink RX6 39 yX6_of, .instanceMethod yX6_of, .selects RX6 yX6_of yX6_of, .code yX6_of cX6_of 3 (some .int)] ++ wsX60)
def wsX6_has : List Cond := .code yX6_has cX6_has 5 (some .boolean) :: ([.methodLink RX6 39 yX6_of, .instanceMethod yX6_of, .selects RX6 yX6_of yX6_of, .initialized RX6, .code yX6_of cX6_of 3 (some .int), .fieldLink RX6 7 "SharedStatesModel" "s" "[I"] ++ wsX60)
def wsX6_statesWith : List Cond := .code yX6_statesWith cX6_statesWith 4 (some .int) :: ([.fieldLink RX6 7 "SharedStatesModel" "s" "[I", .methodLink RX6 58 yX6_has, .instanceMethod yX6_has, .selects RX6 yX6_has yX6_has, .initialized RX6, .code yX6_has cX6_has 5 (some .boolean), .methodLink RX6 39 yX6_of, .instanceMethod yX6_of, .selects RX6 yX6_of yX6_of, .code yX6_of cX6_of 3 (some .int)] ++ wsX60)
def wsX6_loads : List Cond := .code yX6_loads cX6_loads 3 none :: ([.fieldLink RX6 22 "SharedStatesModel" "cells" "[I", .methodLink RX6 62 yX6_cellOf, .instanceMethod yX6_cellOf, .selects RX6 yX6_cellOf yX6_cellOf, .initialized RX6, .code yX6_cellOf cX6_cellOf 3 (some .int), .methodLink RX6 39 yX6_of, .instanceMethod yX6_of, .selects RX6 yX6_of yX6_of, .code yX6_of cX6_of 3 (some .int), .fieldLink RX6 7 "SharedStatesModel" "s" "[I", .methodLink RX6 52 yX6_inBlock, .instanceMethod yX6_inBlock, .selects RX6 yX6_inBlock yX6_inBlock, .code yX6_inBlock cX6_inBlock 3 (some .int)] ++ wsX60)
def wsX6_differs : List Cond := .code yX6_differs cX6_differs 5 (some .boolean) :: ([.fieldLink RX6 22 "SharedStatesModel" "cells" "[I", .methodLink RX6 62 yX6_cellOf, .instanceMethod yX6_cellOf, .selects RX6 yX6_cellOf yX6_cellOf, .initialized RX6, .code yX6_cellOf cX6_cellOf 3 (some .int), .methodLink RX6 39 yX6_of, .instanceMethod yX6_of, .selects RX6 yX6_of yX6_of, .code yX6_of cX6_of 3 (some .int), .fieldLink RX6 7 "SharedStatesModel" "s" "[I", .methodLink RX6 52 yX6_inBlock, .instanceMethod yX6_inBlock, .selects RX6 yX6_inBlock yX6_inBlock, .code yX6_inBlock cX6_inBlock 3 (some .int)] ++ wsX60)
def wsX6_found : List Cond := .code yX6_found cX6_found 5 (some .int) :: ([.fieldLink RX6 22 "SharedStatesModel" "cells" "[I", .constant RX6 43 (-1000004), .methodLink RX6 65 yX6_isBlock, .instanceMethod yX6_isBlock, .selects RX6 yX6_isBlock yX6_isBlock, .initialized RX6, .code yX6_isBlock cX6_isBlock 2 (some .boolean), .fieldLink RX6 7 "SharedStatesModel" "s" "[I", .methodLink RX6 48 yX6_in, .static yX6_in, .code yX6_in cX6_in 3 (some .boolean), .methodLink RX6 52 yX6_inBlock, .instanceMethod yX6_inBlock, .selects RX6 yX6_inBlock yX6_inBlock, .code yX6_inBlock cX6_inBlock 3 (some .int)] ++ wsX60)
def wsX6_areSame : List Cond := .code yX6_areSame cX6_areSame 5 (some .boolean) :: ([.fieldLink RX6 22 "SharedStatesModel" "cells" "[I"] ++ wsX60)
def wsX6_needs_r1 : List Cond := [Cond.fieldLink RX6 7 "SharedStatesModel" "s" "[I", Cond.methodLink RX6 69 yX6_found, Cond.instanceMethod yX6_found, Cond.selects RX6 yX6_found yX6_found, Cond.initialized RX6, Cond.code yX6_found cX6_found 5 (some .int), Cond.fieldLink RX6 22 "SharedStatesModel" "cells" "[I", Cond.constant RX6 43 (-1000004), Cond.methodLink RX6 65 yX6_isBlock, Cond.instanceMethod yX6_isBlock, Cond.selects RX6 yX6_isBlock yX6_isBlock, Cond.code yX6_isBlock cX6_isBlock 2 (some .boolean), Cond.methodLink RX6 48 yX6_in, Cond.static yX6_in, Cond.code yX6_in cX6_in 3 (some .boolean), Cond.methodLink RX6 52 yX6_inBlock, Cond.instanceMethod yX6_inBlock, Cond.selects RX6 yX6_inBlock yX6_inBlock, Cond.code yX6_inBlock cX6_inBlock 3 (some .int), Cond.methodLink RX6 72 yX6_differs, Cond.instanceMethod yX6_differs, Cond.selects RX6 yX6_differs yX6_differs, Cond.code yX6_differs cX6_differs 5 (some .boolean), Cond.methodLink RX6 62 yX6_cellOf]
def wsX6_needs_r2 : List Cond := [Cond.instanceMethod yX6_cellOf, Cond.selects RX6 yX6_cellOf yX6_cellOf, Cond.code yX6_cellOf cX6_cellOf 3 (some .int), Cond.methodLink RX6 39 yX6_of, Cond.instanceMethod yX6_of, Cond.selects RX6 yX6_of yX6_of, Cond.code yX6_of cX6_of 3 (some .int), Cond.methodLink RX6 75 yX6_areSame, Cond.instanceMethod yX6_areSame, Cond.selects RX6 yX6_areSame yX6_areSame, Cond.code yX6_areSame cX6_areSame 5 (some .boolean)]
def wsX6_needs : List Cond := .code yX6_needs cX6_needs 6 (some .int) :: ((wsX6_needs_r1 ++ wsX6_needs_r2) ++ wsX60)
def wsX6_fits_r1 : List Cond := [Cond.fieldLink RX6 7 "SharedStatesModel" "s" "[I", Cond.methodLink RX6 78 yX6_blocks, Cond.instanceMethod yX6_blocks, Cond.selects RX6 yX6_blocks yX6_blocks, Cond.initialized RX6, Cond.code yX6_blocks cX6_blocks 3 (some .int), Cond.methodLink RX6 44 yX6_slot, Cond.instanceMethod yX6_slot, Cond.selects RX6 yX6_slot yX6_slot, Cond.code yX6_slot cX6_slot 3 (some .int), Cond.constant RX6 43 (-1000004), Cond.methodLink RX6 39 yX6_of, Cond.instanceMethod yX6_of, Cond.selects RX6 yX6_of yX6_of, Cond.code yX6_of cX6_of 3 (some .int), Cond.methodLink RX6 82 yX6_needs, Cond.instanceMethod yX6_needs, Cond.selects RX6 yX6_needs yX6_needs, Cond.code yX6_needs cX6_needs 6 (some .int), Cond.methodLink RX6 69 yX6_found, Cond.instanceMethod yX6_found, Cond.selects RX6 yX6_found yX6_found, Cond.code yX6_found cX6_found 5 (some .int), Cond.fieldLink RX6 22 "SharedStatesModel" "cells" "[I"]
def wsX6_fits_r2 : List Cond := [Cond.methodLink RX6 65 yX6_isBlock, Cond.instanceMethod yX6_isBlock, Cond.selects RX6 yX6_isBlock yX6_isBlock, Cond.code yX6_isBlock cX6_isBlock 2 (some .boolean), Cond.methodLink RX6 48 yX6_in, Cond.static yX6_in, Cond.code yX6_in cX6_in 3 (some .boolean), Cond.methodLink RX6 52 yX6_inBlock, Cond.instanceMethod yX6_inBlock, Cond.selects RX6 yX6_inBlock yX6_inBlock, Cond.code yX6_inBlock cX6_inBlock 3 (some .int), Cond.methodLink RX6 72 yX6_differs, Cond.instanceMethod yX6_differs, Cond.selects RX6 yX6_differs yX6_differs, Cond.code yX6_differs cX6_differs 5 (some .boolean), Cond.methodLink RX6 62 yX6_cellOf, Cond.instanceMethod yX6_cellOf, Cond.selects RX6 yX6_cellOf yX6_cellOf, Cond.code yX6_cellOf cX6_cellOf 3 (some .int), Cond.methodLink RX6 75 yX6_areSame, Cond.instanceMethod yX6_areSame, Cond.selects RX6 yX6_areSame yX6_areSame, Cond.code yX6_areSame cX6_areSame 5 (some .boolean)]
def wsX6_fits : List Cond := .code yX6_fits cX6_fits 2 (some .boolean) :: ((wsX6_fits_r1 ++ wsX6_fits_r2) ++ wsX60)
def wsX6_makesBlock : List Cond := .code yX6_makesBlock cX6_makesBlock 4 (some .int) :: ([.fieldLink RX6 7 "SharedStatesModel" "s" "[I", .fieldLink RX6 22 "SharedStatesModel" "cells" "[I"] ++ wsX60)
def wsX6_blockFor : List Cond := .code yX6_blockFor cX6_blockFor 3 (some .int) :: ([.fieldLink RX6 7 "SharedStatesModel" "s" "[I", .constant RX6 43 (-1000004), .methodLink RX6 69 yX6_found, .instanceMethod yX6_found, .selects RX6 yX6_found yX6_found, .initialized RX6, .code yX6_found cX6_found 5 (some .int), .fieldLink RX6 22 "SharedStatesModel" "cells" "[I", .methodLink RX6 65 yX6_isBlock, .instanceMethod yX6_isBlock, .selects RX6 yX6_isBlock yX6_isBlock, .code yX6_isBlock cX6_isBlock 2 (some .boolean), .methodLink RX6 48 yX6_in, .static yX6_in, .code yX6_in cX6_in 3 (some .boolean), .methodLink RX6 52 yX6_inBlock, .instanceMethod yX6_inBlock, .selects RX6 yX6_inBlock yX6_inBlock, .code yX6_inBlock cX6_inBlock 3 (some .int), .methodLink RX6 85 yX6_makesBlock, .instanceMethod yX6_makesBlock, .selects RX6 yX6_makesBlock yX6_makesBlock, .code yX6_makesBlock cX6_makesBlock 4 (some .int)] ++ wsX60)
def wsX6_writes_r1 : List Cond := [Cond.fieldLink RX6 7 "SharedStatesModel" "s" "[I", Cond.methodLink RX6 44 yX6_slot, Cond.instanceMethod yX6_slot, Cond.selects RX6 yX6_slot yX6_slot, Cond.initialized RX6, Cond.code yX6_slot cX6_slot 3 (some .int), Cond.constant RX6 43 (-1000004), Cond.methodLink RX6 39 yX6_of, Cond.instanceMethod yX6_of, Cond.selects RX6 yX6_of yX6_of, Cond.code yX6_of cX6_of 3 (some .int), Cond.methodLink RX6 72 yX6_differs, Cond.instanceMethod yX6_differs, Cond.selects RX6 yX6_differs yX6_differs, Cond.code yX6_differs cX6_differs 5 (some .boolean), Cond.fieldLink RX6 22 "SharedStatesModel" "cells" "[I", Cond.methodLink RX6 62 yX6_cellOf, Cond.instanceMethod yX6_cellOf, Cond.selects RX6 yX6_cellOf yX6_cellOf, Cond.code yX6_cellOf cX6_cellOf 3 (some .int), Cond.methodLink RX6 52 yX6_inBlock, Cond.instanceMethod yX6_inBlock, Cond.selects RX6 yX6_inBlock yX6_inBlock, Cond.code yX6_inBlock cX6_inBlock 3 (some .int)]
def wsX6_writes_r2 : List Cond := [Cond.methodLink RX6 88 yX6_blockFor, Cond.instanceMethod yX6_blockFor, Cond.selects RX6 yX6_blockFor yX6_blockFor, Cond.code yX6_blockFor cX6_blockFor 3 (some .int), Cond.methodLink RX6 69 yX6_found, Cond.instanceMethod yX6_found, Cond.selects RX6 yX6_found yX6_found, Cond.code yX6_found cX6_found 5 (some .int), Cond.methodLink RX6 65 yX6_isBlock, Cond.instanceMethod yX6_isBlock, Cond.selects RX6 yX6_isBlock yX6_isBlock, Cond.code yX6_isBlock cX6_isBlock 2 (some .boolean), Cond.methodLink RX6 48 yX6_in, Cond.static yX6_in, Cond.code yX6_in cX6_in 3 (some .boolean), Cond.methodLink RX6 85 yX6_makesBlock, Cond.instanceMethod yX6_makesBlock, Cond.selects RX6 yX6_makesBlock yX6_makesBlock, Cond.code yX6_makesBlock cX6_makesBlock 4 (some .int)]
def wsX6_writes : List Cond := .code yX6_writes cX6_writes 6 (some .int) :: ((wsX6_writes_r1 ++ wsX6_writes_r2) ++ wsX60)
def wsX6_tries_r1 : List Cond := [Cond.constant RX6 94 (-1000003), Cond.methodLink RX6 91 yX6_fits, Cond.instanceMethod yX6_fits, Cond.selects RX6 yX6_fits yX6_fits, Cond.initialized RX6, Cond.code yX6_fits cX6_fits 2 (some .boolean), Cond.fieldLink RX6 7 "SharedStatesModel" "s" "[I", Cond.methodLink RX6 78 yX6_blocks, Cond.instanceMethod yX6_blocks, Cond.selects RX6 yX6_blocks yX6_blocks, Cond.code yX6_blocks cX6_blocks 3 (some .int), Cond.methodLink RX6 44 yX6_slot, Cond.instanceMethod yX6_slot, Cond.selects RX6 yX6_slot yX6_slot, Cond.code yX6_slot cX6_slot 3 (some .int), Cond.constant RX6 43 (-1000004), Cond.methodLink RX6 39 yX6_of, Cond.instanceMethod yX6_of, Cond.selects RX6 yX6_of yX6_of, Cond.code yX6_of cX6_of 3 (some .int), Cond.methodLink RX6 82 yX6_needs, Cond.instanceMethod yX6_needs, Cond.selects RX6 yX6_needs yX6_needs, Cond.code yX6_needs cX6_needs 6 (some .int)]
def wsX6_tries_r2 : List Cond := [Cond.methodLink RX6 69 yX6_found, Cond.instanceMethod yX6_found, Cond.selects RX6 yX6_found yX6_found, Cond.code yX6_found cX6_found 5 (some .int), Cond.fieldLink RX6 22 "SharedStatesModel" "cells" "[I", Cond.methodLink RX6 65 yX6_isBlock, Cond.instanceMethod yX6_isBlock, Cond.selects RX6 yX6_isBlock yX6_isBlock, Cond.code yX6_isBlock cX6_isBlock 2 (some .boolean), Cond.methodLink RX6 48 yX6_in, Cond.static yX6_in, Cond.code yX6_in cX6_in 3 (some .boolean), Cond.methodLink RX6 52 yX6_inBlock, Cond.instanceMethod yX6_inBlock, Cond.selects RX6 yX6_inBlock yX6_inBlock, Cond.code yX6_inBlock cX6_inBlock 3 (some .int), Cond.methodLink RX6 72 yX6_differs, Cond.instanceMethod yX6_differs, Cond.selects RX6 yX6_differs yX6_differs, Cond.code yX6_differs cX6_differs 5 (some .boolean), Cond.methodLink RX6 62 yX6_cellOf, Cond.instanceMethod yX6_cellOf, Cond.selects RX6 yX6_cellOf yX6_cellOf, Cond.code yX6_cellOf cX6_cellOf 3 (some .int)]
def wsX6_tries_r3 : List Cond := [Cond.methodLink RX6 75 yX6_areSame, Cond.instanceMethod yX6_areSame, Cond.selects RX6 yX6_areSame yX6_areSame, Cond.code yX6_areSame cX6_areSame 5 (some .boolean), Cond.methodLink RX6 95 yX6_changes, Cond.instanceMethod yX6_changes, Cond.selects RX6 yX6_changes yX6_changes, Cond.code yX6_changes cX6_changes 2 none, Cond.fieldLink RX6 31 "SharedStatesModel" "runs" "Z", Cond.fieldLink RX6 35 "SharedStatesModel" "pasts" "I", Cond.fieldLink RX6 13 "SharedStatesModel" "past" "[I", Cond.methodLink RX6 98 yX6_writes, Cond.instanceMethod yX6_writes, Cond.selects RX6 yX6_writes yX6_writes, Cond.code yX6_writes cX6_writes 6 (some .int), Cond.methodLink RX6 88 yX6_blockFor, Cond.instanceMethod yX6_blockFor, Cond.selects RX6 yX6_blockFor yX6_blockFor, Cond.code yX6_blockFor cX6_blockFor 3 (some .int), Cond.methodLink RX6 85 yX6_makesBlock, Cond.instanceMethod yX6_makesBlock, Cond.selects RX6 yX6_makesBlock yX6_makesBlock, Cond.code yX6_makesBlock cX6_makesBlock 4 (some .int)]
def wsX6_tries : List Cond := .code yX6_tries cX6_tries 2 (some .int) :: ((wsX6_tries_r1 ++ (wsX6_tries_r2 ++ wsX6_tries_r3)) ++ wsX60)
def wsX6_isRow : List Cond := .code yX6_isRow cX6_isRow 2 (some .boolean) :: ([.methodLink RX6 48 yX6_in, .static yX6_in, .initialized RX6, .code yX6_in cX6_in 3 (some .boolean)])
def wsX6_fill_r1 : List Cond := [Cond.constant RX6 111 (-1000001), Cond.fieldLink RX6 7 "SharedStatesModel" "s" "[I", Cond.fieldLink RX6 22 "SharedStatesModel" "cells" "[I", Cond.methodLink RX6 105 yX6_isBranch, Cond.instanceMethod yX6_isBranch, Cond.selects RX6 yX6_isBranch yX6_isBranch, Cond.initialized RX6, Cond.code yX6_isBranch cX6_isBranch 2 (some .boolean), Cond.methodLink RX6 48 yX6_in, Cond.static yX6_in, Cond.code yX6_in cX6_in 3 (some .boolean), Cond.methodLink RX6 108 yX6_isRow, Cond.static yX6_isRow, Cond.code yX6_isRow cX6_isRow 2 (some .boolean), Cond.methodLink RX6 44 yX6_slot, Cond.instanceMethod yX6_slot, Cond.selects RX6 yX6_slot yX6_slot, Cond.code yX6_slot cX6_slot 3 (some .int), Cond.constant RX6 43 (-1000004), Cond.methodLink RX6 39 yX6_of, Cond.instanceMethod yX6_of, Cond.selects RX6 yX6_of yX6_of, Cond.code yX6_of cX6_of 3 (some .int), Cond.methodLink RX6 112 yX6_loads]
def wsX6_fill_r2 : List Cond := [Cond.instanceMethod yX6_loads, Cond.selects RX6 yX6_loads yX6_loads, Cond.code yX6_loads cX6_loads 3 none, Cond.methodLink RX6 62 yX6_cellOf, Cond.instanceMethod yX6_cellOf, Cond.selects RX6 yX6_cellOf yX6_cellOf, Cond.code yX6_cellOf cX6_cellOf 3 (some .int), Cond.methodLink RX6 52 yX6_inBlock, Cond.instanceMethod yX6_inBlock, Cond.selects RX6 yX6_inBlock yX6_inBlock, Cond.code yX6_inBlock cX6_inBlock 3 (some .int), Cond.methodLink RX6 116 yX6_tries, Cond.instanceMethod yX6_tries, Cond.selects RX6 yX6_tries yX6_tries, Cond.code yX6_tries cX6_tries 2 (some .int), Cond.constant RX6 94 (-1000003), Cond.methodLink RX6 91 yX6_fits, Cond.instanceMethod yX6_fits, Cond.selects RX6 yX6_fits yX6_fits, Cond.code yX6_fits cX6_fits 2 (some .boolean), Cond.methodLink RX6 78 yX6_blocks, Cond.instanceMethod yX6_blocks, Cond.selects RX6 yX6_blocks yX6_blocks, Cond.code yX6_blocks cX6_blocks 3 (some .int)]
def wsX6_fill_r3 : List Cond := [Cond.methodLink RX6 82 yX6_needs, Cond.instanceMethod yX6_needs, Cond.selects RX6 yX6_needs yX6_needs, Cond.code yX6_needs cX6_needs 6 (some .int), Cond.methodLink RX6 69 yX6_found, Cond.instanceMethod yX6_found, Cond.selects RX6 yX6_found yX6_found, Cond.code yX6_found cX6_found 5 (some .int), Cond.methodLink RX6 65 yX6_isBlock, Cond.instanceMethod yX6_isBlock, Cond.selects RX6 yX6_isBlock yX6_isBlock, Cond.code yX6_isBlock cX6_isBlock 2 (some .boolean), Cond.methodLink RX6 72 yX6_differs, Cond.instanceMethod yX6_differs, Cond.selects RX6 yX6_differs yX6_differs, Cond.code yX6_differs cX6_differs 5 (some .boolean), Cond.methodLink RX6 75 yX6_areSame, Cond.instanceMethod yX6_areSame, Cond.selects RX6 yX6_areSame yX6_areSame, Cond.code yX6_areSame cX6_areSame 5 (some .boolean), Cond.methodLink RX6 95 yX6_changes, Cond.instanceMethod yX6_changes, Cond.selects RX6 yX6_changes yX6_changes, Cond.code yX6_changes cX6_changes 2 none]
def wsX6_fill_r4 : List Cond := [Cond.fieldLink RX6 31 "SharedStatesModel" "runs" "Z", Cond.fieldLink RX6 35 "SharedStatesModel" "pasts" "I", Cond.fieldLink RX6 13 "SharedStatesModel" "past" "[I", Cond.methodLink RX6 98 yX6_writes, Cond.instanceMethod yX6_writes, Cond.selects RX6 yX6_writes yX6_writes, Cond.code yX6_writes cX6_writes 6 (some .int), Cond.methodLink RX6 88 yX6_blockFor, Cond.instanceMethod yX6_blockFor, Cond.selects RX6 yX6_blockFor yX6_blockFor, Cond.code yX6_blockFor cX6_blockFor 3 (some .int), Cond.methodLink RX6 85 yX6_makesBlock, Cond.instanceMethod yX6_makesBlock, Cond.selects RX6 yX6_makesBlock yX6_makesBlock, Cond.code yX6_makesBlock cX6_makesBlock 4 (some .int)]
def wsX6_fill : List Cond := .code yX6_fill cX6_fill 6 (some .int) :: ((wsX6_fill_r1 ++ (wsX6_fill_r2 ++ (wsX6_fill_r3 ++ wsX6_fill_r4))) ++ wsX60)
def wsX6_write_r1 : List Cond := [Cond.methodLink RX6 101 yX6_fill, Cond.instanceMethod yX6_fill, Cond.selects RX6 yX6_fill yX6_fill, Cond.initialized RX6, Cond.code yX6_fill cX6_fill 6 (some .int), Cond.constant RX6 111 (-1000001), Cond.fieldLink RX6 7 "SharedStatesModel" "s" "[I", Cond.fieldLink RX6 22 "SharedStatesModel" "cells" "[I", Cond.methodLink RX6 105 yX6_isBranch, Cond.instanceMethod yX6_isBranch, Cond.selects RX6 yX6_isBranch yX6_isBranch, Cond.code yX6_isBranch cX6_isBranch 2 (some .boolean), Cond.methodLink RX6 48 yX6_in, Cond.static yX6_in, Cond.code yX6_in cX6_in 3 (some .boolean), Cond.methodLink RX6 108 yX6_isRow, Cond.static yX6_isRow, Cond.code yX6_isRow cX6_isRow 2 (some .boolean), Cond.methodLink RX6 44 yX6_slot, Cond.instanceMethod yX6_slot, Cond.selects RX6 yX6_slot yX6_slot, Cond.code yX6_slot cX6_slot 3 (some .int), Cond.constant RX6 43 (-1000004), Cond.methodLink RX6 39 yX6_of]
def wsX6_write_r2 : List Cond := [Cond.instanceMethod yX6_of, Cond.selects RX6 yX6_of yX6_of, Cond.code yX6_of cX6_of 3 (some .int), Cond.methodLink RX6 112 yX6_loads, Cond.instanceMethod yX6_loads, Cond.selects RX6 yX6_loads yX6_loads, Cond.code yX6_loads cX6_loads 3 none, Cond.methodLink RX6 62 yX6_cellOf, Cond.instanceMethod yX6_cellOf, Cond.selects RX6 yX6_cellOf yX6_cellOf, Cond.code yX6_cellOf cX6_cellOf 3 (some .int), Cond.methodLink RX6 52 yX6_inBlock, Cond.instanceMethod yX6_inBlock, Cond.selects RX6 yX6_inBlock yX6_inBlock, Cond.code yX6_inBlock cX6_inBlock 3 (some .int), Cond.methodLink RX6 116 yX6_tries, Cond.instanceMethod yX6_tries, Cond.selects RX6 yX6_tries yX6_tries, Cond.code yX6_tries cX6_tries 2 (some .int), Cond.constant RX6 94 (-1000003), Cond.methodLink RX6 91 yX6_fits, Cond.instanceMethod yX6_fits, Cond.selects RX6 yX6_fits yX6_fits, Cond.code yX6_fits cX6_fits 2 (some .boolean)]
def wsX6_write_r3 : List Cond := [Cond.methodLink RX6 78 yX6_blocks, Cond.instanceMethod yX6_blocks, Cond.selects RX6 yX6_blocks yX6_blocks, Cond.code yX6_blocks cX6_blocks 3 (some .int), Cond.methodLink RX6 82 yX6_needs, Cond.instanceMethod yX6_needs, Cond.selects RX6 yX6_needs yX6_needs, Cond.code yX6_needs cX6_needs 6 (some .int), Cond.methodLink RX6 69 yX6_found, Cond.instanceMethod yX6_found, Cond.selects RX6 yX6_found yX6_found, Cond.code yX6_found cX6_found 5 (some .int), Cond.methodLink RX6 65 yX6_isBlock, Cond.instanceMethod yX6_isBlock, Cond.selects RX6 yX6_isBlock yX6_isBlock, Cond.code yX6_isBlock cX6_isBlock 2 (some .boolean), Cond.methodLink RX6 72 yX6_differs, Cond.instanceMethod yX6_differs, Cond.selects RX6 yX6_differs yX6_differs, Cond.code yX6_differs cX6_differs 5 (some .boolean), Cond.methodLink RX6 75 yX6_areSame, Cond.instanceMethod yX6_areSame, Cond.selects RX6 yX6_areSame yX6_areSame, Cond.code yX6_areSame cX6_areSame 5 (some .boolean)]
def wsX6_write_r4 : List Cond := [Cond.methodLink RX6 95 yX6_changes, Cond.instanceMethod yX6_changes, Cond.selects RX6 yX6_changes yX6_changes, Cond.code yX6_changes cX6_changes 2 none, Cond.fieldLink RX6 31 "SharedStatesModel" "runs" "Z", Cond.fieldLink RX6 35 "SharedStatesModel" "pasts" "I", Cond.fieldLink RX6 13 "SharedStatesModel" "past" "[I", Cond.methodLink RX6 98 yX6_writes, Cond.instanceMethod yX6_writes, Cond.selects RX6 yX6_writes yX6_writes, Cond.code yX6_writes cX6_writes 6 (some .int), Cond.methodLink RX6 88 yX6_blockFor, Cond.instanceMethod yX6_blockFor, Cond.selects RX6 yX6_blockFor yX6_blockFor, Cond.code yX6_blockFor cX6_blockFor 3 (some .int), Cond.methodLink RX6 85 yX6_makesBlock, Cond.instanceMethod yX6_makesBlock, Cond.selects RX6 yX6_makesBlock yX6_makesBlock, Cond.code yX6_makesBlock cX6_makesBlock 4 (some .int)]
def wsX6_write : List Cond := .code yX6_write cX6_write 4 (some .int) :: ((wsX6_write_r1 ++ (wsX6_write_r2 ++ (wsX6_write_r3 ++ wsX6_write_r4))) ++ wsX60)
def wsX6_copy_r1 : List Cond := [Cond.constant RX6 111 (-1000001), Cond.fieldLink RX6 7 "SharedStatesModel" "s" "[I", Cond.fieldLink RX6 22 "SharedStatesModel" "cells" "[I", Cond.methodLink RX6 105 yX6_isBranch, Cond.instanceMethod yX6_isBranch, Cond.selects RX6 yX6_isBranch yX6_isBranch, Cond.initialized RX6, Cond.code yX6_isBranch cX6_isBranch 2 (some .boolean), Cond.methodLink RX6 48 yX6_in, Cond.static yX6_in, Cond.code yX6_in cX6_in 3 (some .boolean), Cond.methodLink RX6 119 yX6_isState, Cond.instanceMethod yX6_isState, Cond.selects RX6 yX6_isState yX6_isState, Cond.code yX6_isState cX6_isState 2 (some .boolean), Cond.methodLink RX6 44 yX6_slot, Cond.instanceMethod yX6_slot, Cond.selects RX6 yX6_slot yX6_slot, Cond.code yX6_slot cX6_slot 3 (some .int), Cond.constant RX6 43 (-1000004), Cond.methodLink RX6 39 yX6_of, Cond.instanceMethod yX6_of, Cond.selects RX6 yX6_of yX6_of, Cond.code yX6_of cX6_of 3 (some .int)]
def wsX6_copy_r2 : List Cond := [Cond.methodLink RX6 108 yX6_isRow, Cond.static yX6_isRow, Cond.code yX6_isRow cX6_isRow 2 (some .boolean), Cond.methodLink RX6 112 yX6_loads, Cond.instanceMethod yX6_loads, Cond.selects RX6 yX6_loads yX6_loads, Cond.code yX6_loads cX6_loads 3 none, Cond.methodLink RX6 62 yX6_cellOf, Cond.instanceMethod yX6_cellOf, Cond.selects RX6 yX6_cellOf yX6_cellOf, Cond.code yX6_cellOf cX6_cellOf 3 (some .int), Cond.methodLink RX6 52 yX6_inBlock, Cond.instanceMethod yX6_inBlock, Cond.selects RX6 yX6_inBlock yX6_inBlock, Cond.code yX6_inBlock cX6_inBlock 3 (some .int), Cond.methodLink RX6 116 yX6_tries, Cond.instanceMethod yX6_tries, Cond.selects RX6 yX6_tries yX6_tries, Cond.code yX6_tries cX6_tries 2 (some .int), Cond.constant RX6 94 (-1000003), Cond.methodLink RX6 91 yX6_fits, Cond.instanceMethod yX6_fits, Cond.selects RX6 yX6_fits yX6_fits, Cond.code yX6_fits cX6_fits 2 (some .boolean)]
def wsX6_copy_r3 : List Cond := [Cond.methodLink RX6 78 yX6_blocks, Cond.instanceMethod yX6_blocks, Cond.selects RX6 yX6_blocks yX6_blocks, Cond.code yX6_blocks cX6_blocks 3 (some .int), Cond.methodLink RX6 82 yX6_needs, Cond.instanceMethod yX6_needs, Cond.selects RX6 yX6_needs yX6_needs, Cond.code yX6_needs cX6_needs 6 (some .int), Cond.methodLink RX6 69 yX6_found, Cond.instanceMethod yX6_found, Cond.selects RX6 yX6_found yX6_found, Cond.code yX6_found cX6_found 5 (some .int), Cond.methodLink RX6 65 yX6_isBlock, Cond.instanceMethod yX6_isBlock, Cond.selects RX6 yX6_isBlock yX6_isBlock, Cond.code yX6_isBlock cX6_isBlock 2 (some .boolean), Cond.methodLink RX6 72 yX6_differs, Cond.instanceMethod yX6_differs, Cond.selects RX6 yX6_differs yX6_differs, Cond.code yX6_differs cX6_differs 5 (some .boolean), Cond.methodLink RX6 75 yX6_areSame, Cond.instanceMethod yX6_areSame, Cond.selects RX6 yX6_areSame yX6_areSame, Cond.code yX6_areSame cX6_areSame 5 (some .boolean)]
def wsX6_copy_r4 : List Cond := [Cond.methodLink RX6 95 yX6_changes, Cond.instanceMethod yX6_changes, Cond.selects RX6 yX6_changes yX6_changes, Cond.code yX6_changes cX6_changes 2 none, Cond.fieldLink RX6 31 "SharedStatesModel" "runs" "Z", Cond.fieldLink RX6 35 "SharedStatesModel" "pasts" "I", Cond.fieldLink RX6 13 "SharedStatesModel" "past" "[I", Cond.methodLink RX6 98 yX6_writes, Cond.instanceMethod yX6_writes, Cond.selects RX6 yX6_writes yX6_writes, Cond.code yX6_writes cX6_writes 6 (some .int), Cond.methodLink RX6 88 yX6_blockFor, Cond.instanceMethod yX6_blockFor, Cond.selects RX6 yX6_blockFor yX6_blockFor, Cond.code yX6_blockFor cX6_blockFor 3 (some .int), Cond.methodLink RX6 85 yX6_makesBlock, Cond.instanceMethod yX6_makesBlock, Cond.selects RX6 yX6_makesBlock yX6_makesBlock, Cond.code yX6_makesBlock cX6_makesBlock 4 (some .int)]
def wsX6_copy : List Cond := .code yX6_copy cX6_copy 7 (some .int) :: ((wsX6_copy_r1 ++ (wsX6_copy_r2 ++ (wsX6_copy_r3 ++ wsX6_copy_r4))) ++ wsX60)
def wsX6_isFrom : List Cond := .code yX6_isFrom cX6_isFrom 4 (some .boolean) :: ([.methodLink RX6 44 yX6_slot, .instanceMethod yX6_slot, .selects RX6 yX6_slot yX6_slot, .initialized RX6, .code yX6_slot cX6_slot 3 (some .int), .fieldLink RX6 7 "SharedStatesModel" "s" "[I", .constant RX6 43 (-1000004), .methodLink RX6 39 yX6_of, .instanceMethod yX6_of, .selects RX6 yX6_of yX6_of, .code yX6_of cX6_of 3 (some .int)] ++ wsX60)
def wsX6_common : List Cond := .code yX6_common cX6_common 4 (some .int) :: ([.methodLink RX6 122 yX6_isFrom, .instanceMethod yX6_isFrom, .selects RX6 yX6_isFrom yX6_isFrom, .initialized RX6, .code yX6_isFrom cX6_isFrom 4 (some .boolean), .methodLink RX6 44 yX6_slot, .instanceMethod yX6_slot, .selects RX6 yX6_slot yX6_slot, .code yX6_slot cX6_slot 3 (some .int), .fieldLink RX6 7 "SharedStatesModel" "s" "[I", .constant RX6 43 (-1000004), .methodLink RX6 39 yX6_of, .instanceMethod yX6_of, .selects RX6 yX6_of yX6_of, .code yX6_of cX6_of 3 (some .int)] ++ wsX60)
def wsX6_merges_r1 : List Cond := [Cond.fieldLink RX6 7 "SharedStatesModel" "s" "[I", Cond.fieldLink RX6 22 "SharedStatesModel" "cells" "[I", Cond.methodLink RX6 44 yX6_slot, Cond.instanceMethod yX6_slot, Cond.selects RX6 yX6_slot yX6_slot, Cond.initialized RX6, Cond.code yX6_slot cX6_slot 3 (some .int), Cond.constant RX6 43 (-1000004), Cond.methodLink RX6 39 yX6_of, Cond.instanceMethod yX6_of, Cond.selects RX6 yX6_of yX6_of, Cond.code yX6_of cX6_of 3 (some .int), Cond.methodLink RX6 125 yX6_common, Cond.instanceMethod yX6_common, Cond.selects RX6 yX6_common yX6_common, Cond.code yX6_common cX6_common 4 (some .int), Cond.methodLink RX6 122 yX6_isFrom, Cond.instanceMethod yX6_isFrom, Cond.selects RX6 yX6_isFrom yX6_isFrom, Cond.code yX6_isFrom cX6_isFrom 4 (some .boolean), Cond.methodLink RX6 62 yX6_cellOf, Cond.instanceMethod yX6_cellOf, Cond.selects RX6 yX6_cellOf yX6_cellOf, Cond.code yX6_cellOf cX6_cellOf 3 (some .int)]
def wsX6_merges_r2 : List Cond := [Cond.methodLink RX6 52 yX6_inBlock, Cond.instanceMethod yX6_inBlock, Cond.selects RX6 yX6_inBlock yX6_inBlock, Cond.code yX6_inBlock cX6_inBlock 3 (some .int)]
def wsX6_merges : List Cond := .code yX6_merges cX6_merges 12 (some .int) :: ((wsX6_merges_r1 ++ wsX6_merges_r2) ++ wsX60)
def wsX6_merge_r1 : List Cond := [Cond.constant RX6 111 (-1000001), Cond.fieldLink RX6 7 "SharedStatesModel" "s" "[I", Cond.methodLink RX6 105 yX6_isBranch, Cond.instanceMethod yX6_isBranch, Cond.selects RX6 yX6_isBranch yX6_isBranch, Cond.initialized RX6, Cond.code yX6_isBranch cX6_isBranch 2 (some .boolean), Cond.methodLink RX6 48 yX6_in, Cond.static yX6_in, Cond.code yX6_in cX6_in 3 (some .boolean), Cond.methodLink RX6 119 yX6_isState, Cond.instanceMethod yX6_isState, Cond.selects RX6 yX6_isState yX6_isState, Cond.code yX6_isState cX6_isState 2 (some .boolean), Cond.methodLink RX6 44 yX6_slot, Cond.instanceMethod yX6_slot, Cond.selects RX6 yX6_slot yX6_slot, Cond.code yX6_slot cX6_slot 3 (some .int), Cond.constant RX6 43 (-1000004), Cond.methodLink RX6 39 yX6_of, Cond.instanceMethod yX6_of, Cond.selects RX6 yX6_of yX6_of, Cond.code yX6_of cX6_of 3 (some .int), Cond.methodLink RX6 128 yX6_merges]
def wsX6_merge_r2 : List Cond := [Cond.instanceMethod yX6_merges, Cond.selects RX6 yX6_merges yX6_merges, Cond.code yX6_merges cX6_merges 12 (some .int), Cond.fieldLink RX6 22 "SharedStatesModel" "cells" "[I", Cond.methodLink RX6 125 yX6_common, Cond.instanceMethod yX6_common, Cond.selects RX6 yX6_common yX6_common, Cond.code yX6_common cX6_common 4 (some .int), Cond.methodLink RX6 122 yX6_isFrom, Cond.instanceMethod yX6_isFrom, Cond.selects RX6 yX6_isFrom yX6_isFrom, Cond.code yX6_isFrom cX6_isFrom 4 (some .boolean), Cond.methodLink RX6 62 yX6_cellOf, Cond.instanceMethod yX6_cellOf, Cond.selects RX6 yX6_cellOf yX6_cellOf, Cond.code yX6_cellOf cX6_cellOf 3 (some .int), Cond.methodLink RX6 52 yX6_inBlock, Cond.instanceMethod yX6_inBlock, Cond.selects RX6 yX6_inBlock yX6_inBlock, Cond.code yX6_inBlock cX6_inBlock 3 (some .int), Cond.methodLink RX6 116 yX6_tries, Cond.instanceMethod yX6_tries, Cond.selects RX6 yX6_tries yX6_tries, Cond.code yX6_tries cX6_tries 2 (some .int)]
def wsX6_merge_r3 : List Cond := [Cond.constant RX6 94 (-1000003), Cond.methodLink RX6 91 yX6_fits, Cond.instanceMethod yX6_fits, Cond.selects RX6 yX6_fits yX6_fits, Cond.code yX6_fits cX6_fits 2 (some .boolean), Cond.methodLink RX6 78 yX6_blocks, Cond.instanceMethod yX6_blocks, Cond.selects RX6 yX6_blocks yX6_blocks, Cond.code yX6_blocks cX6_blocks 3 (some .int), Cond.methodLink RX6 82 yX6_needs, Cond.instanceMethod yX6_needs, Cond.selects RX6 yX6_needs yX6_needs, Cond.code yX6_needs cX6_needs 6 (some .int), Cond.methodLink RX6 69 yX6_found, Cond.instanceMethod yX6_found, Cond.selects RX6 yX6_found yX6_found, Cond.code yX6_found cX6_found 5 (some .int), Cond.methodLink RX6 65 yX6_isBlock, Cond.instanceMethod yX6_isBlock, Cond.selects RX6 yX6_isBlock yX6_isBlock, Cond.code yX6_isBlock cX6_isBlock 2 (some .boolean), Cond.methodLink RX6 72 yX6_differs, Cond.instanceMethod yX6_differs, Cond.selects RX6 yX6_differs yX6_differs]
def wsX6_merge_r4 : List Cond := [Cond.code yX6_differs cX6_differs 5 (some .boolean), Cond.methodLink RX6 75 yX6_areSame, Cond.instanceMethod yX6_areSame, Cond.selects RX6 yX6_areSame yX6_areSame, Cond.code yX6_areSame cX6_areSame 5 (some .boolean), Cond.methodLink RX6 95 yX6_changes, Cond.instanceMethod yX6_changes, Cond.selects RX6 yX6_changes yX6_changes, Cond.code yX6_changes cX6_changes 2 none, Cond.fieldLink RX6 31 "SharedStatesModel" "runs" "Z", Cond.fieldLink RX6 35 "SharedStatesModel" "pasts" "I", Cond.fieldLink RX6 13 "SharedStatesModel" "past" "[I", Cond.methodLink RX6 98 yX6_writes, Cond.instanceMethod yX6_writes, Cond.selects RX6 yX6_writes yX6_writes, Cond.code yX6_writes cX6_writes 6 (some .int), Cond.methodLink RX6 88 yX6_blockFor, Cond.instanceMethod yX6_blockFor, Cond.selects RX6 yX6_blockFor yX6_blockFor, Cond.code yX6_blockFor cX6_blockFor 3 (some .int), Cond.methodLink RX6 85 yX6_makesBlock, Cond.instanceMethod yX6_makesBlock, Cond.selects RX6 yX6_makesBlock yX6_makesBlock, Cond.code yX6_makesBlock cX6_makesBlock 4 (some .int)]
def wsX6_merge : List Cond := .code yX6_merge cX6_merge 5 (some .int) :: ((wsX6_merge_r1 ++ (wsX6_merge_r2 ++ (wsX6_merge_r3 ++ wsX6_merge_r4))) ++ wsX60)
def wsX6_branch : List Cond := .code yX6_branch cX6_branch 3 (some .int) :: ([.constant RX6 111 (-1000001), .fieldLink RX6 7 "SharedStatesModel" "s" "[I", .constant RX6 94 (-1000003), .methodLink RX6 119 yX6_isState, .instanceMethod yX6_isState, .selects RX6 yX6_isState yX6_isState, .initialized RX6, .code yX6_isState cX6_isState 2 (some .boolean), .methodLink RX6 44 yX6_slot, .instanceMethod yX6_slot, .selects RX6 yX6_slot yX6_slot, .code yX6_slot cX6_slot 3 (some .int), .constant RX6 43 (-1000004), .methodLink RX6 39 yX6_of, .instanceMethod yX6_of, .selects RX6 yX6_of yX6_of, .code yX6_of cX6_of 3 (some .int), .methodLink RX6 95 yX6_changes, .instanceMethod yX6_changes, .selects RX6 yX6_changes yX6_changes, .code yX6_changes cX6_changes 2 none, .fieldLink RX6 31 "SharedStatesModel" "runs" "Z", .fieldLink RX6 35 "SharedStatesModel" "pasts" "I", .fieldLink RX6 13 "SharedStatesModel" "past" "[I"] ++ wsX60)
def wsX6_leave : List Cond := .code yX6_leave cX6_leave 2 (some .int) :: ([.constant RX6 111 (-1000001), .constant RX6 134 (-1000002), .fieldLink RX6 7 "SharedStatesModel" "s" "[I", .methodLink RX6 105 yX6_isBranch, .instanceMethod yX6_isBranch, .selects RX6 yX6_isBranch yX6_isBranch, .initialized RX6, .code yX6_isBranch cX6_isBranch 2 (some .boolean), .methodLink RX6 48 yX6_in, .static yX6_in, .code yX6_in cX6_in 3 (some .boolean), .methodLink RX6 131 yX6_branches, .instanceMethod yX6_branches, .selects RX6 yX6_branches yX6_branches, .code yX6_branches cX6_branches 3 (some .int), .methodLink RX6 95 yX6_changes, .instanceMethod yX6_changes, .selects RX6 yX6_changes yX6_changes, .code yX6_changes cX6_changes 2 none, .fieldLink RX6 31 "SharedStatesModel" "runs" "Z", .fieldLink RX6 35 "SharedStatesModel" "pasts" "I", .fieldLink RX6 13 "SharedStatesModel" "past" "[I"] ++ wsX60)
def wsX6_back_r1 : List Cond := [Cond.constant RX6 111 (-1000001), Cond.fieldLink RX6 7 "SharedStatesModel" "s" "[I", Cond.constant RX6 134 (-1000002), Cond.methodLink RX6 105 yX6_isBranch, Cond.instanceMethod yX6_isBranch, Cond.selects RX6 yX6_isBranch yX6_isBranch, Cond.initialized RX6, Cond.code yX6_isBranch cX6_isBranch 2 (some .boolean), Cond.methodLink RX6 48 yX6_in, Cond.static yX6_in, Cond.code yX6_in cX6_in 3 (some .boolean), Cond.methodLink RX6 95 yX6_changes, Cond.instanceMethod yX6_changes, Cond.selects RX6 yX6_changes yX6_changes, Cond.code yX6_changes cX6_changes 2 none, Cond.fieldLink RX6 31 "SharedStatesModel" "runs" "Z", Cond.fieldLink RX6 35 "SharedStatesModel" "pasts" "I", Cond.fieldLink RX6 13 "SharedStatesModel" "past" "[I", Cond.methodLink RX6 44 yX6_slot, Cond.instanceMethod yX6_slot, Cond.selects RX6 yX6_slot yX6_slot, Cond.code yX6_slot cX6_slot 3 (some .int), Cond.constant RX6 43 (-1000004), Cond.methodLink RX6 39 yX6_of]
def wsX6_back_r2 : List Cond := [Cond.instanceMethod yX6_of, Cond.selects RX6 yX6_of yX6_of, Cond.code yX6_of cX6_of 3 (some .int)]
def wsX6_back : List Cond := .code yX6_back cX6_back 3 (some .int) :: ((wsX6_back_r1 ++ wsX6_back_r2) ++ wsX60)
def wsX6_canForget : List Cond := .code yX6_canForget cX6_canForget 4 (some .boolean) :: ([.fieldLink RX6 7 "SharedStatesModel" "s" "[I"] ++ wsX60)
def wsX6_forgets : List Cond := .code yX6_forgets cX6_forgets 5 (some .int) :: ([.fieldLink RX6 7 "SharedStatesModel" "s" "[I", .methodLink RX6 44 yX6_slot, .instanceMethod yX6_slot, .selects RX6 yX6_slot yX6_slot, .initialized RX6, .code yX6_slot cX6_slot 3 (some .int), .constant RX6 43 (-1000004), .methodLink RX6 39 yX6_of, .instanceMethod yX6_of, .selects RX6 yX6_of yX6_of, .code yX6_of cX6_of 3 (some .int), .methodLink RX6 135 yX6_sweeps, .instanceMethod yX6_sweeps, .selects RX6 yX6_sweeps yX6_sweeps, .code yX6_sweeps cX6_sweeps 3 (some .int), .methodLink RX6 55 yX6_placesWith, .instanceMethod yX6_placesWith, .selects RX6 yX6_placesWith yX6_placesWith, .code yX6_placesWith cX6_placesWith 5 (some .int)] ++ wsX60)
def wsX6_forget_r1 : List Cond := [Cond.constant RX6 111 (-1000001), Cond.constant RX6 134 (-1000002), Cond.methodLink RX6 119 yX6_isState, Cond.instanceMethod yX6_isState, Cond.selects RX6 yX6_isState yX6_isState, Cond.initialized RX6, Cond.code yX6_isState cX6_isState 2 (some .boolean), Cond.methodLink RX6 44 yX6_slot, Cond.instanceMethod yX6_slot, Cond.selects RX6 yX6_slot yX6_slot, Cond.code yX6_slot cX6_slot 3 (some .int), Cond.fieldLink RX6 7 "SharedStatesModel" "s" "[I", Cond.constant RX6 43 (-1000004), Cond.methodLink RX6 39 yX6_of, Cond.instanceMethod yX6_of, Cond.selects RX6 yX6_of yX6_of, Cond.code yX6_of cX6_of 3 (some .int), Cond.methodLink RX6 138 yX6_canForget, Cond.instanceMethod yX6_canForget, Cond.selects RX6 yX6_canForget yX6_canForget, Cond.code yX6_canForget cX6_canForget 4 (some .boolean), Cond.methodLink RX6 95 yX6_changes, Cond.instanceMethod yX6_changes, Cond.selects RX6 yX6_changes yX6_changes]
def wsX6_forget_r2 : List Cond := [Cond.code yX6_changes cX6_changes 2 none, Cond.fieldLink RX6 31 "SharedStatesModel" "runs" "Z", Cond.fieldLink RX6 35 "SharedStatesModel" "pasts" "I", Cond.fieldLink RX6 13 "SharedStatesModel" "past" "[I", Cond.methodLink RX6 141 yX6_forgets, Cond.instanceMethod yX6_forgets, Cond.selects RX6 yX6_forgets yX6_forgets, Cond.code yX6_forgets cX6_forgets 5 (some .int), Cond.methodLink RX6 135 yX6_sweeps, Cond.instanceMethod yX6_sweeps, Cond.selects RX6 yX6_sweeps yX6_sweeps, Cond.code yX6_sweeps cX6_sweeps 3 (some .int), Cond.methodLink RX6 55 yX6_placesWith, Cond.instanceMethod yX6_placesWith, Cond.selects RX6 yX6_placesWith yX6_placesWith, Cond.code yX6_placesWith cX6_placesWith 5 (some .int)]
def wsX6_forget : List Cond := .code yX6_forget cX6_forget 2 (some .int) :: ((wsX6_forget_r1 ++ wsX6_forget_r2) ++ wsX60)
def wsX6_lowestLike : List Cond := .code yX6_lowestLike cX6_lowestLike 3 (some .int) :: ([.methodLink RX6 65 yX6_isBlock, .instanceMethod yX6_isBlock, .selects RX6 yX6_isBlock yX6_isBlock, .initialized RX6, .code yX6_isBlock cX6_isBlock 2 (some .boolean), .fieldLink RX6 7 "SharedStatesModel" "s" "[I", .methodLink RX6 48 yX6_in, .static yX6_in, .code yX6_in cX6_in 3 (some .boolean), .methodLink RX6 144 yX6_areLike, .instanceMethod yX6_areLike, .selects RX6 yX6_areLike yX6_areLike, .code yX6_areLike cX6_areLike 5 (some .boolean), .methodLink RX6 52 yX6_inBlock, .instanceMethod yX6_inBlock, .selects RX6 yX6_inBlock yX6_inBlock, .code yX6_inBlock cX6_inBlock 3 (some .int)] ++ wsX60)
def wsX6_sharesAll_r1 : List Cond := [Cond.fieldLink RX6 7 "SharedStatesModel" "s" "[I", Cond.methodLink RX6 39 yX6_of, Cond.instanceMethod yX6_of, Cond.selects RX6 yX6_of yX6_of, Cond.initialized RX6, Cond.code yX6_of cX6_of 3 (some .int), Cond.methodLink RX6 147 yX6_lowestLike, Cond.instanceMethod yX6_lowestLike, Cond.selects RX6 yX6_lowestLike yX6_lowestLike, Cond.code yX6_lowestLike cX6_lowestLike 3 (some .int), Cond.methodLink RX6 65 yX6_isBlock, Cond.instanceMethod yX6_isBlock, Cond.selects RX6 yX6_isBlock yX6_isBlock, Cond.code yX6_isBlock cX6_isBlock 2 (some .boolean), Cond.methodLink RX6 48 yX6_in, Cond.static yX6_in, Cond.code yX6_in cX6_in 3 (some .boolean), Cond.methodLink RX6 144 yX6_areLike, Cond.instanceMethod yX6_areLike, Cond.selects RX6 yX6_areLike yX6_areLike, Cond.code yX6_areLike cX6_areLike 5 (some .boolean), Cond.methodLink RX6 52 yX6_inBlock, Cond.instanceMethod yX6_inBlock, Cond.selects RX6 yX6_inBlock yX6_inBlock]
def wsX6_sharesAll_r2 : List Cond := [Cond.code yX6_inBlock cX6_inBlock 3 (some .int), Cond.methodLink RX6 135 yX6_sweeps, Cond.instanceMethod yX6_sweeps, Cond.selects RX6 yX6_sweeps yX6_sweeps, Cond.code yX6_sweeps cX6_sweeps 3 (some .int), Cond.methodLink RX6 55 yX6_placesWith, Cond.instanceMethod yX6_placesWith, Cond.selects RX6 yX6_placesWith yX6_placesWith, Cond.code yX6_placesWith cX6_placesWith 5 (some .int)]
def wsX6_sharesAll : List Cond := .code yX6_sharesAll cX6_sharesAll 3 (some .int) :: ((wsX6_sharesAll_r1 ++ wsX6_sharesAll_r2) ++ wsX60)
def wsX6_share_r1 : List Cond := [Cond.methodLink RX6 95 yX6_changes, Cond.instanceMethod yX6_changes, Cond.selects RX6 yX6_changes yX6_changes, Cond.initialized RX6, Cond.code yX6_changes cX6_changes 2 none, Cond.fieldLink RX6 31 "SharedStatesModel" "runs" "Z", Cond.fieldLink RX6 35 "SharedStatesModel" "pasts" "I", Cond.fieldLink RX6 13 "SharedStatesModel" "past" "[I", Cond.fieldLink RX6 7 "SharedStatesModel" "s" "[I", Cond.methodLink RX6 150 yX6_sharesAll, Cond.instanceMethod yX6_sharesAll, Cond.selects RX6 yX6_sharesAll yX6_sharesAll, Cond.code yX6_sharesAll cX6_sharesAll 3 (some .int), Cond.methodLink RX6 39 yX6_of, Cond.instanceMethod yX6_of, Cond.selects RX6 yX6_of yX6_of, Cond.code yX6_of cX6_of 3 (some .int), Cond.methodLink RX6 147 yX6_lowestLike, Cond.instanceMethod yX6_lowestLike, Cond.selects RX6 yX6_lowestLike yX6_lowestLike, Cond.code yX6_lowestLike cX6_lowestLike 3 (some .int), Cond.methodLink RX6 65 yX6_isBlock, Cond.instanceMethod yX6_isBlock, Cond.selects RX6 yX6_isBlock yX6_isBlock]
def wsX6_share_r2 : List Cond := [Cond.code yX6_isBlock cX6_isBlock 2 (some .boolean), Cond.methodLink RX6 48 yX6_in, Cond.static yX6_in, Cond.code yX6_in cX6_in 3 (some .boolean), Cond.methodLink RX6 144 yX6_areLike, Cond.instanceMethod yX6_areLike, Cond.selects RX6 yX6_areLike yX6_areLike, Cond.code yX6_areLike cX6_areLike 5 (some .boolean), Cond.methodLink RX6 52 yX6_inBlock, Cond.instanceMethod yX6_inBlock, Cond.selects RX6 yX6_inBlock yX6_inBlock, Cond.code yX6_inBlock cX6_inBlock 3 (some .int), Cond.methodLink RX6 135 yX6_sweeps, Cond.instanceMethod yX6_sweeps, Cond.selects RX6 yX6_sweeps yX6_sweeps, Cond.code yX6_sweeps cX6_sweeps 3 (some .int), Cond.methodLink RX6 55 yX6_placesWith, Cond.instanceMethod yX6_placesWith, Cond.selects RX6 yX6_placesWith yX6_placesWith, Cond.code yX6_placesWith cX6_placesWith 5 (some .int)]
def wsX6_share : List Cond := .code yX6_share cX6_share 1 (some .int) :: ((wsX6_share_r1 ++ wsX6_share_r2) ++ wsX60)
def wsX6_set : List Cond := .code yX6_set cX6_set 4 (some .int) :: ([.constant RX6 111 (-1000001), .fieldLink RX6 7 "SharedStatesModel" "s" "[I", .methodLink RX6 48 yX6_in, .static yX6_in, .initialized RX6, .code yX6_in cX6_in 3 (some .boolean), .methodLink RX6 95 yX6_changes, .instanceMethod yX6_changes, .selects RX6 yX6_changes yX6_changes, .code yX6_changes cX6_changes 2 none, .fieldLink RX6 31 "SharedStatesModel" "runs" "Z", .fieldLink RX6 35 "SharedStatesModel" "pasts" "I", .fieldLink RX6 13 "SharedStatesModel" "past" "[I"] ++ wsX60)
def wsX6_read_r1 : List Cond := [Cond.constant RX6 111 (-1000001), Cond.methodLink RX6 119 yX6_isState, Cond.instanceMethod yX6_isState, Cond.selects RX6 yX6_isState yX6_isState, Cond.initialized RX6, Cond.code yX6_isState cX6_isState 2 (some .boolean), Cond.methodLink RX6 44 yX6_slot, Cond.instanceMethod yX6_slot, Cond.selects RX6 yX6_slot yX6_slot, Cond.code yX6_slot cX6_slot 3 (some .int), Cond.fieldLink RX6 7 "SharedStatesModel" "s" "[I", Cond.constant RX6 43 (-1000004), Cond.methodLink RX6 39 yX6_of, Cond.instanceMethod yX6_of, Cond.selects RX6 yX6_of yX6_of, Cond.code yX6_of cX6_of 3 (some .int), Cond.methodLink RX6 48 yX6_in, Cond.static yX6_in, Cond.code yX6_in cX6_in 3 (some .boolean), Cond.methodLink RX6 62 yX6_cellOf, Cond.instanceMethod yX6_cellOf, Cond.selects RX6 yX6_cellOf yX6_cellOf, Cond.code yX6_cellOf cX6_cellOf 3 (some .int), Cond.methodLink RX6 52 yX6_inBlock]
def wsX6_read_r2 : List Cond := [Cond.instanceMethod yX6_inBlock, Cond.selects RX6 yX6_inBlock yX6_inBlock, Cond.code yX6_inBlock cX6_inBlock 3 (some .int)]
def wsX6_read : List Cond := .code yX6_read cX6_read 3 (some .int) :: ((wsX6_read_r1 ++ wsX6_read_r2) ++ wsX60)
def wsX6_children : List Cond := .code yX6_children cX6_children 4 (some .int) :: ([.fieldLink RX6 7 "SharedStatesModel" "s" "[I", .methodLink RX6 39 yX6_of, .instanceMethod yX6_of, .selects RX6 yX6_of yX6_of, .initialized RX6, .code yX6_of cX6_of 3 (some .int)] ++ wsX60)
def wsX6_steps : List Cond := .code yX6_steps cX6_steps 4 (some .int) :: ([.methodLink RX6 44 yX6_slot, .instanceMethod yX6_slot, .selects RX6 yX6_slot yX6_slot, .initialized RX6, .code yX6_slot cX6_slot 3 (some .int), .fieldLink RX6 7 "SharedStatesModel" "s" "[I", .constant RX6 43 (-1000004), .methodLink RX6 39 yX6_of, .instanceMethod yX6_of, .selects RX6 yX6_of yX6_of, .code yX6_of cX6_of 3 (some .int)] ++ wsX60)
def wsX6_sum : List Cond := .code yX6_sum cX6_sum 4 (some .int) :: ([.methodLink RX6 62 yX6_cellOf, .instanceMethod yX6_cellOf, .selects RX6 yX6_cellOf yX6_cellOf, .initialized RX6, .code yX6_cellOf cX6_cellOf 3 (some .int), .methodLink RX6 39 yX6_of, .instanceMethod yX6_of, .selects RX6 yX6_of yX6_of, .code yX6_of cX6_of 3 (some .int), .fieldLink RX6 7 "SharedStatesModel" "s" "[I", .methodLink RX6 52 yX6_inBlock, .instanceMethod yX6_inBlock, .selects RX6 yX6_inBlock yX6_inBlock, .code yX6_inBlock cX6_inBlock 3 (some .int)] ++ wsX60)
def wsX6_otherPlaces : List Cond := .code yX6_otherPlaces cX6_otherPlaces 5 (some .int) :: ([.methodLink RX6 39 yX6_of, .instanceMethod yX6_of, .selects RX6 yX6_of yX6_of, .initialized RX6, .code yX6_of cX6_of 3 (some .int), .fieldLink RX6 7 "SharedStatesModel" "s" "[I"] ++ wsX60)
def wsX6_ownPlaces : List Cond := .code yX6_ownPlaces cX6_ownPlaces 4 (some .int) :: ([.methodLink RX6 39 yX6_of, .instanceMethod yX6_of, .selects RX6 yX6_of yX6_of, .initialized RX6, .code yX6_of cX6_of 3 (some .int), .fieldLink RX6 7 "SharedStatesModel" "s" "[I", .methodLink RX6 153 yX6_statesWith, .instanceMethod yX6_statesWith, .selects RX6 yX6_statesWith yX6_statesWith, .code yX6_statesWith cX6_statesWith 4 (some .int), .methodLink RX6 58 yX6_has, .instanceMethod yX6_has, .selects RX6 yX6_has yX6_has, .code yX6_has cX6_has 5 (some .boolean)] ++ wsX60)
def wsX6_unlikeBlocks : List Cond := .code yX6_unlikeBlocks cX6_unlikeBlocks 4 (some .int) :: ([.methodLink RX6 58 yX6_has, .instanceMethod yX6_has, .selects RX6 yX6_has yX6_has, .initialized RX6, .code yX6_has cX6_has 5 (some .boolean), .methodLink RX6 39 yX6_of, .instanceMethod yX6_of, .selects RX6 yX6_of yX6_of, .code yX6_of cX6_of 3 (some .int), .fieldLink RX6 7 "SharedStatesModel" "s" "[I"] ++ wsX60)
def wsX6_standing : List Cond := .code yX6_standing cX6_standing 4 (some .int) :: ([.fieldLink RX6 7 "SharedStatesModel" "s" "[I"] ++ wsX60)
def wsX6_stateOf_r1 : List Cond := [Cond.constant RX6 111 (-1000001), Cond.constant RX6 43 (-1000004), Cond.methodLink RX6 119 yX6_isState, Cond.instanceMethod yX6_isState, Cond.selects RX6 yX6_isState yX6_isState, Cond.initialized RX6, Cond.code yX6_isState cX6_isState 2 (some .boolean), Cond.methodLink RX6 44 yX6_slot, Cond.instanceMethod yX6_slot, Cond.selects RX6 yX6_slot yX6_slot, Cond.code yX6_slot cX6_slot 3 (some .int), Cond.fieldLink RX6 7 "SharedStatesModel" "s" "[I", Cond.methodLink RX6 39 yX6_of, Cond.instanceMethod yX6_of, Cond.selects RX6 yX6_of yX6_of, Cond.code yX6_of cX6_of 3 (some .int), Cond.methodLink RX6 48 yX6_in, Cond.static yX6_in, Cond.code yX6_in cX6_in 3 (some .boolean), Cond.methodLink RX6 156 yX6_children, Cond.instanceMethod yX6_children, Cond.selects RX6 yX6_children yX6_children, Cond.code yX6_children cX6_children 4 (some .int), Cond.methodLink RX6 159 yX6_steps]
def wsX6_stateOf_r2 : List Cond := [Cond.instanceMethod yX6_steps, Cond.selects RX6 yX6_steps yX6_steps, Cond.code yX6_steps cX6_steps 4 (some .int), Cond.methodLink RX6 162 yX6_sum, Cond.instanceMethod yX6_sum, Cond.selects RX6 yX6_sum yX6_sum, Cond.code yX6_sum cX6_sum 4 (some .int), Cond.methodLink RX6 62 yX6_cellOf, Cond.instanceMethod yX6_cellOf, Cond.selects RX6 yX6_cellOf yX6_cellOf, Cond.code yX6_cellOf cX6_cellOf 3 (some .int), Cond.methodLink RX6 52 yX6_inBlock, Cond.instanceMethod yX6_inBlock, Cond.selects RX6 yX6_inBlock yX6_inBlock, Cond.code yX6_inBlock cX6_inBlock 3 (some .int), Cond.methodLink RX6 165 yX6_otherPlaces, Cond.instanceMethod yX6_otherPlaces, Cond.selects RX6 yX6_otherPlaces yX6_otherPlaces, Cond.code yX6_otherPlaces cX6_otherPlaces 5 (some .int), Cond.methodLink RX6 168 yX6_ownPlaces, Cond.instanceMethod yX6_ownPlaces, Cond.selects RX6 yX6_ownPlaces yX6_ownPlaces, Cond.code yX6_ownPlaces cX6_ownPlaces 4 (some .int), Cond.methodLink RX6 153 yX6_statesWith]
def wsX6_stateOf_r3 : List Cond := [Cond.instanceMethod yX6_statesWith, Cond.selects RX6 yX6_statesWith yX6_statesWith, Cond.code yX6_statesWith cX6_statesWith 4 (some .int), Cond.methodLink RX6 58 yX6_has, Cond.instanceMethod yX6_has, Cond.selects RX6 yX6_has yX6_has, Cond.code yX6_has cX6_has 5 (some .boolean), Cond.methodLink RX6 171 yX6_unlikeBlocks, Cond.instanceMethod yX6_unlikeBlocks, Cond.selects RX6 yX6_unlikeBlocks yX6_unlikeBlocks, Cond.code yX6_unlikeBlocks cX6_unlikeBlocks 4 (some .int), Cond.methodLink RX6 174 yX6_standing, Cond.instanceMethod yX6_standing, Cond.selects RX6 yX6_standing yX6_standing, Cond.code yX6_standing cX6_standing 4 (some .int)]
def wsX6_stateOf : List Cond := .code yX6_stateOf cX6_stateOf 4 (some .int) :: ((wsX6_stateOf_r1 ++ (wsX6_stateOf_r2 ++ wsX6_stateOf_r3)) ++ wsX60)
def wsX6_number : List Cond := .code yX6_number cX6_number 2 (some .int) :: ([.constant RX6 111 (-1000001), .fieldLink RX6 7 "SharedStatesModel" "s" "[I", .constant RX6 43 (-1000004), .methodLink RX6 39 yX6_of, .instanceMethod yX6_of, .selects RX6 yX6_of yX6_of, .initialized RX6, .code yX6_of cX6_of 3 (some .int)] ++ wsX60)
def wsX6_blockAt : List Cond := .code yX6_blockAt cX6_blockAt 3 (some .int) :: ([.constant RX6 111 (-1000001), .methodLink RX6 119 yX6_isState, .instanceMethod yX6_isState, .selects RX6 yX6_isState yX6_isState, .initialized RX6, .code yX6_isState cX6_isState 2 (some .boolean), .methodLink RX6 44 yX6_slot, .instanceMethod yX6_slot, .selects RX6 yX6_slot yX6_slot, .code yX6_slot cX6_slot 3 (some .int), .fieldLink RX6 7 "SharedStatesModel" "s" "[I", .constant RX6 43 (-1000004), .methodLink RX6 39 yX6_of, .instanceMethod yX6_of, .selects RX6 yX6_of yX6_of, .code yX6_of cX6_of 3 (some .int), .methodLink RX6 48 yX6_in, .static yX6_in, .code yX6_in cX6_in 3 (some .boolean)] ++ wsX60)
def wsX6_inAll : List Cond := .code yX6_inAll cX6_inAll 5 (some .int) :: ([.methodLink RX6 52 yX6_inBlock, .instanceMethod yX6_inBlock, .selects RX6 yX6_inBlock yX6_inBlock, .initialized RX6, .code yX6_inBlock cX6_inBlock 3 (some .int), .fieldLink RX6 7 "SharedStatesModel" "s" "[I"] ++ wsX60)
def wsX6_otherLike : List Cond := .code yX6_otherLike cX6_otherLike 3 (some .int) :: ([.constant RX6 43 (-1000004), .methodLink RX6 65 yX6_isBlock, .instanceMethod yX6_isBlock, .selects RX6 yX6_isBlock yX6_isBlock, .initialized RX6, .code yX6_isBlock cX6_isBlock 2 (some .boolean), .fieldLink RX6 7 "SharedStatesModel" "s" "[I", .methodLink RX6 48 yX6_in, .static yX6_in, .code yX6_in cX6_in 3 (some .boolean), .methodLink RX6 144 yX6_areLike, .instanceMethod yX6_areLike, .selects RX6 yX6_areLike yX6_areLike, .code yX6_areLike cX6_areLike 5 (some .boolean), .methodLink RX6 52 yX6_inBlock, .instanceMethod yX6_inBlock, .selects RX6 yX6_inBlock yX6_inBlock, .code yX6_inBlock cX6_inBlock 3 (some .int)] ++ wsX60)
def wsX6_blockOf_r1 : List Cond := [Cond.constant RX6 111 (-1000001), Cond.methodLink RX6 65 yX6_isBlock, Cond.instanceMethod yX6_isBlock, Cond.selects RX6 yX6_isBlock yX6_isBlock, Cond.initialized RX6, Cond.code yX6_isBlock cX6_isBlock 2 (some .boolean), Cond.fieldLink RX6 7 "SharedStatesModel" "s" "[I", Cond.methodLink RX6 48 yX6_in, Cond.static yX6_in, Cond.code yX6_in cX6_in 3 (some .boolean), Cond.methodLink RX6 55 yX6_placesWith, Cond.instanceMethod yX6_placesWith, Cond.selects RX6 yX6_placesWith yX6_placesWith, Cond.code yX6_placesWith cX6_placesWith 5 (some .int), Cond.methodLink RX6 39 yX6_of, Cond.instanceMethod yX6_of, Cond.selects RX6 yX6_of yX6_of, Cond.code yX6_of cX6_of 3 (some .int), Cond.methodLink RX6 153 yX6_statesWith, Cond.instanceMethod yX6_statesWith, Cond.selects RX6 yX6_statesWith yX6_statesWith, Cond.code yX6_statesWith cX6_statesWith 4 (some .int), Cond.methodLink RX6 58 yX6_has, Cond.instanceMethod yX6_has]
def wsX6_blockOf_r2 : List Cond := [Cond.selects RX6 yX6_has yX6_has, Cond.code yX6_has cX6_has 5 (some .boolean), Cond.methodLink RX6 177 yX6_inAll, Cond.instanceMethod yX6_inAll, Cond.selects RX6 yX6_inAll yX6_inAll, Cond.code yX6_inAll cX6_inAll 5 (some .int), Cond.methodLink RX6 52 yX6_inBlock, Cond.instanceMethod yX6_inBlock, Cond.selects RX6 yX6_inBlock yX6_inBlock, Cond.code yX6_inBlock cX6_inBlock 3 (some .int), Cond.methodLink RX6 181 yX6_otherLike, Cond.instanceMethod yX6_otherLike, Cond.selects RX6 yX6_otherLike yX6_otherLike, Cond.code yX6_otherLike cX6_otherLike 3 (some .int), Cond.constant RX6 43 (-1000004), Cond.methodLink RX6 144 yX6_areLike, Cond.instanceMethod yX6_areLike, Cond.selects RX6 yX6_areLike yX6_areLike, Cond.code yX6_areLike cX6_areLike 5 (some .boolean)]
def wsX6_blockOf : List Cond := .code yX6_blockOf cX6_blockOf 3 (some .int) :: ((wsX6_blockOf_r1 ++ wsX6_blockOf_r2) ++ wsX60)
def wsX6_head : List Cond := .code yX6_head cX6_head 2 (some .int) :: ([.fieldLink RX6 7 "SharedStatesModel" "s" "[I", .constant RX6 111 (-1000001), .methodLink RX6 105 yX6_isBranch, .instanceMethod yX6_isBranch, .selects RX6 yX6_isBranch yX6_isBranch, .initialized RX6, .code yX6_isBranch cX6_isBranch 2 (some .boolean), .methodLink RX6 48 yX6_in, .static yX6_in, .code yX6_in cX6_in 3 (some .boolean)] ++ wsX60)
def wsX6_unlikeCells : List Cond := .code yX6_unlikeCells cX6_unlikeCells 7 (some .int) :: ([.constant RX6 43 (-1000004), .methodLink RX6 62 yX6_cellOf, .instanceMethod yX6_cellOf, .selects RX6 yX6_cellOf yX6_cellOf, .initialized RX6, .code yX6_cellOf cX6_cellOf 3 (some .int), .methodLink RX6 39 yX6_of, .instanceMethod yX6_of, .selects RX6 yX6_of yX6_of, .code yX6_of cX6_of 3 (some .int), .fieldLink RX6 7 "SharedStatesModel" "s" "[I", .methodLink RX6 52 yX6_inBlock, .instanceMethod yX6_inBlock, .selects RX6 yX6_inBlock yX6_inBlock, .code yX6_inBlock cX6_inBlock 3 (some .int)] ++ wsX60)
def wsX6_unlike_r1 : List Cond := [Cond.constant RX6 111 (-1000001), Cond.methodLink RX6 119 yX6_isState, Cond.instanceMethod yX6_isState, Cond.selects RX6 yX6_isState yX6_isState, Cond.initialized RX6, Cond.code yX6_isState cX6_isState 2 (some .boolean), Cond.methodLink RX6 44 yX6_slot, Cond.instanceMethod yX6_slot, Cond.selects RX6 yX6_slot yX6_slot, Cond.code yX6_slot cX6_slot 3 (some .int), Cond.fieldLink RX6 7 "SharedStatesModel" "s" "[I", Cond.constant RX6 43 (-1000004), Cond.methodLink RX6 39 yX6_of, Cond.instanceMethod yX6_of, Cond.selects RX6 yX6_of yX6_of, Cond.code yX6_of cX6_of 3 (some .int), Cond.methodLink RX6 48 yX6_in, Cond.static yX6_in, Cond.code yX6_in cX6_in 3 (some .boolean), Cond.methodLink RX6 184 yX6_unlikeCells, Cond.instanceMethod yX6_unlikeCells, Cond.selects RX6 yX6_unlikeCells yX6_unlikeCells, Cond.code yX6_unlikeCells cX6_unlikeCells 7 (some .int), Cond.methodLink RX6 62 yX6_cellOf]
def wsX6_unlike_r2 : List Cond := [Cond.instanceMethod yX6_cellOf, Cond.selects RX6 yX6_cellOf yX6_cellOf, Cond.code yX6_cellOf cX6_cellOf 3 (some .int), Cond.methodLink RX6 52 yX6_inBlock, Cond.instanceMethod yX6_inBlock, Cond.selects RX6 yX6_inBlock yX6_inBlock, Cond.code yX6_inBlock cX6_inBlock 3 (some .int), Cond.methodLink RX6 165 yX6_otherPlaces, Cond.instanceMethod yX6_otherPlaces, Cond.selects RX6 yX6_otherPlaces yX6_otherPlaces, Cond.code yX6_otherPlaces cX6_otherPlaces 5 (some .int), Cond.methodLink RX6 125 yX6_common, Cond.instanceMethod yX6_common, Cond.selects RX6 yX6_common yX6_common, Cond.code yX6_common cX6_common 4 (some .int), Cond.methodLink RX6 122 yX6_isFrom, Cond.instanceMethod yX6_isFrom, Cond.selects RX6 yX6_isFrom yX6_isFrom, Cond.code yX6_isFrom cX6_isFrom 4 (some .boolean)]
def wsX6_unlike : List Cond := .code yX6_unlike cX6_unlike 4 (some .int) :: ((wsX6_unlike_r1 ++ wsX6_unlike_r2) ++ wsX60)
def wsX6_like_r1 : List Cond := [Cond.constant RX6 111 (-1000001), Cond.fieldLink RX6 7 "SharedStatesModel" "s" "[I", Cond.constant RX6 43 (-1000004), Cond.methodLink RX6 119 yX6_isState, Cond.instanceMethod yX6_isState, Cond.selects RX6 yX6_isState yX6_isState, Cond.initialized RX6, Cond.code yX6_isState cX6_isState 2 (some .boolean), Cond.methodLink RX6 44 yX6_slot, Cond.instanceMethod yX6_slot, Cond.selects RX6 yX6_slot yX6_slot, Cond.code yX6_slot cX6_slot 3 (some .int), Cond.methodLink RX6 39 yX6_of, Cond.instanceMethod yX6_of, Cond.selects RX6 yX6_of yX6_of, Cond.code yX6_of cX6_of 3 (some .int), Cond.methodLink RX6 184 yX6_unlikeCells, Cond.instanceMethod yX6_unlikeCells, Cond.selects RX6 yX6_unlikeCells yX6_unlikeCells, Cond.code yX6_unlikeCells cX6_unlikeCells 7 (some .int), Cond.methodLink RX6 62 yX6_cellOf, Cond.instanceMethod yX6_cellOf, Cond.selects RX6 yX6_cellOf yX6_cellOf, Cond.code yX6_cellOf cX6_cellOf 3 (some .int)]
def wsX6_like_r2 : List Cond := [Cond.methodLink RX6 52 yX6_inBlock, Cond.instanceMethod yX6_inBlock, Cond.selects RX6 yX6_inBlock yX6_inBlock, Cond.code yX6_inBlock cX6_inBlock 3 (some .int)]
def wsX6_like : List Cond := .code yX6_like cX6_like 3 (some .int) :: ((wsX6_like_r1 ++ wsX6_like_r2) ++ wsX60)
def wsX6_before_r1 : List Cond := [Cond.constant RX6 111 (-1000001), Cond.constant RX6 43 (-1000004), Cond.methodLink RX6 119 yX6_isState, Cond.instanceMethod yX6_isState, Cond.selects RX6 yX6_isState yX6_isState, Cond.initialized RX6, Cond.code yX6_isState cX6_isState 2 (some .boolean), Cond.methodLink RX6 44 yX6_slot, Cond.instanceMethod yX6_slot, Cond.selects RX6 yX6_slot yX6_slot, Cond.code yX6_slot cX6_slot 3 (some .int), Cond.fieldLink RX6 7 "SharedStatesModel" "s" "[I", Cond.methodLink RX6 39 yX6_of, Cond.instanceMethod yX6_of, Cond.selects RX6 yX6_of yX6_of, Cond.code yX6_of cX6_of 3 (some .int), Cond.methodLink RX6 48 yX6_in, Cond.static yX6_in, Cond.code yX6_in cX6_in 3 (some .boolean), Cond.methodLink RX6 62 yX6_cellOf, Cond.instanceMethod yX6_cellOf, Cond.selects RX6 yX6_cellOf yX6_cellOf, Cond.code yX6_cellOf cX6_cellOf 3 (some .int), Cond.methodLink RX6 52 yX6_inBlock]
def wsX6_before_r2 : List Cond := [Cond.instanceMethod yX6_inBlock, Cond.selects RX6 yX6_inBlock yX6_inBlock, Cond.code yX6_inBlock cX6_inBlock 3 (some .int)]
def wsX6_before : List Cond := .code yX6_before cX6_before 5 (some .int) :: ((wsX6_before_r1 ++ wsX6_before_r2) ++ wsX60)
def wsX6_conflicts_r1 : List Cond := [Cond.constant RX6 111 (-1000001), Cond.methodLink RX6 105 yX6_isBranch, Cond.instanceMethod yX6_isBranch, Cond.selects RX6 yX6_isBranch yX6_isBranch, Cond.initialized RX6, Cond.code yX6_isBranch cX6_isBranch 2 (some .boolean), Cond.fieldLink RX6 7 "SharedStatesModel" "s" "[I", Cond.methodLink RX6 48 yX6_in, Cond.static yX6_in, Cond.code yX6_in cX6_in 3 (some .boolean), Cond.methodLink RX6 119 yX6_isState, Cond.instanceMethod yX6_isState, Cond.selects RX6 yX6_isState yX6_isState, Cond.code yX6_isState cX6_isState 2 (some .boolean), Cond.methodLink RX6 44 yX6_slot, Cond.instanceMethod yX6_slot, Cond.selects RX6 yX6_slot yX6_slot, Cond.code yX6_slot cX6_slot 3 (some .int), Cond.constant RX6 43 (-1000004), Cond.methodLink RX6 39 yX6_of, Cond.instanceMethod yX6_of, Cond.selects RX6 yX6_of yX6_of, Cond.code yX6_of cX6_of 3 (some .int), Cond.methodLink RX6 128 yX6_merges]
def wsX6_conflicts_r2 : List Cond := [Cond.instanceMethod yX6_merges, Cond.selects RX6 yX6_merges yX6_merges, Cond.code yX6_merges cX6_merges 12 (some .int), Cond.fieldLink RX6 22 "SharedStatesModel" "cells" "[I", Cond.methodLink RX6 125 yX6_common, Cond.instanceMethod yX6_common, Cond.selects RX6 yX6_common yX6_common, Cond.code yX6_common cX6_common 4 (some .int), Cond.methodLink RX6 122 yX6_isFrom, Cond.instanceMethod yX6_isFrom, Cond.selects RX6 yX6_isFrom yX6_isFrom, Cond.code yX6_isFrom cX6_isFrom 4 (some .boolean), Cond.methodLink RX6 62 yX6_cellOf, Cond.instanceMethod yX6_cellOf, Cond.selects RX6 yX6_cellOf yX6_cellOf, Cond.code yX6_cellOf cX6_cellOf 3 (some .int), Cond.methodLink RX6 52 yX6_inBlock, Cond.instanceMethod yX6_inBlock, Cond.selects RX6 yX6_inBlock yX6_inBlock, Cond.code yX6_inBlock cX6_inBlock 3 (some .int)]
def wsX6_conflicts : List Cond := .code yX6_conflicts cX6_conflicts 3 (some .int) :: ((wsX6_conflicts_r1 ++ wsX6_conflicts_r2) ++ wsX60)
def wsX6_freed_r1 : List Cond := [Cond.fieldLink RX6 7 "SharedStatesModel" "s" "[I", Cond.fieldLink RX6 16 "SharedStatesModel" "held" "[I", Cond.methodLink RX6 188 yX6_copies, Cond.static yX6_copies, Cond.initialized RX6, Cond.code yX6_copies cX6_copies 3 none, Cond.methodLink RX6 141 yX6_forgets, Cond.instanceMethod yX6_forgets, Cond.selects RX6 yX6_forgets yX6_forgets, Cond.code yX6_forgets cX6_forgets 5 (some .int), Cond.methodLink RX6 44 yX6_slot, Cond.instanceMethod yX6_slot, Cond.selects RX6 yX6_slot yX6_slot, Cond.code yX6_slot cX6_slot 3 (some .int), Cond.constant RX6 43 (-1000004), Cond.methodLink RX6 39 yX6_of, Cond.instanceMethod yX6_of, Cond.selects RX6 yX6_of yX6_of, Cond.code yX6_of cX6_of 3 (some .int), Cond.methodLink RX6 135 yX6_sweeps, Cond.instanceMethod yX6_sweeps, Cond.selects RX6 yX6_sweeps yX6_sweeps, Cond.code yX6_sweeps cX6_sweeps 3 (some .int), Cond.methodLink RX6 55 yX6_placesWith]
def wsX6_freed_r2 : List Cond := [Cond.instanceMethod yX6_placesWith, Cond.selects RX6 yX6_placesWith yX6_placesWith, Cond.code yX6_placesWith cX6_placesWith 5 (some .int)]
def wsX6_freed : List Cond := .code yX6_freed cX6_freed 3 (some .int) :: ((wsX6_freed_r1 ++ wsX6_freed_r2) ++ wsX60)
def wsX6_frees_r1 : List Cond := [Cond.constant RX6 111 (-1000001), Cond.constant RX6 134 (-1000002), Cond.methodLink RX6 119 yX6_isState, Cond.instanceMethod yX6_isState, Cond.selects RX6 yX6_isState yX6_isState, Cond.initialized RX6, Cond.code yX6_isState cX6_isState 2 (some .boolean), Cond.methodLink RX6 44 yX6_slot, Cond.instanceMethod yX6_slot, Cond.selects RX6 yX6_slot yX6_slot, Cond.code yX6_slot cX6_slot 3 (some .int), Cond.fieldLink RX6 7 "SharedStatesModel" "s" "[I", Cond.constant RX6 43 (-1000004), Cond.methodLink RX6 39 yX6_of, Cond.instanceMethod yX6_of, Cond.selects RX6 yX6_of yX6_of, Cond.code yX6_of cX6_of 3 (some .int), Cond.methodLink RX6 138 yX6_canForget, Cond.instanceMethod yX6_canForget, Cond.selects RX6 yX6_canForget yX6_canForget, Cond.code yX6_canForget cX6_canForget 4 (some .boolean), Cond.methodLink RX6 192 yX6_freed, Cond.instanceMethod yX6_freed, Cond.selects RX6 yX6_freed yX6_freed]
def wsX6_frees_r2 : List Cond := [Cond.code yX6_freed cX6_freed 3 (some .int), Cond.fieldLink RX6 16 "SharedStatesModel" "held" "[I", Cond.methodLink RX6 188 yX6_copies, Cond.static yX6_copies, Cond.code yX6_copies cX6_copies 3 none, Cond.methodLink RX6 141 yX6_forgets, Cond.instanceMethod yX6_forgets, Cond.selects RX6 yX6_forgets yX6_forgets, Cond.code yX6_forgets cX6_forgets 5 (some .int), Cond.methodLink RX6 135 yX6_sweeps, Cond.instanceMethod yX6_sweeps, Cond.selects RX6 yX6_sweeps yX6_sweeps, Cond.code yX6_sweeps cX6_sweeps 3 (some .int), Cond.methodLink RX6 55 yX6_placesWith, Cond.instanceMethod yX6_placesWith, Cond.selects RX6 yX6_placesWith yX6_placesWith, Cond.code yX6_placesWith cX6_placesWith 5 (some .int)]
def wsX6_frees : List Cond := .code yX6_frees cX6_frees 2 (some .int) :: ((wsX6_frees_r1 ++ wsX6_frees_r2) ++ wsX60)
def wsX6_heaviest_r1 : List Cond := [Cond.constant RX6 111 (-1000001), Cond.constant RX6 43 (-1000004), Cond.fieldLink RX6 7 "SharedStatesModel" "s" "[I", Cond.methodLink RX6 48 yX6_in, Cond.static yX6_in, Cond.initialized RX6, Cond.code yX6_in cX6_in 3 (some .boolean), Cond.methodLink RX6 39 yX6_of, Cond.instanceMethod yX6_of, Cond.selects RX6 yX6_of yX6_of, Cond.code yX6_of cX6_of 3 (some .int), Cond.methodLink RX6 138 yX6_canForget, Cond.instanceMethod yX6_canForget, Cond.selects RX6 yX6_canForget yX6_canForget, Cond.code yX6_canForget cX6_canForget 4 (some .boolean), Cond.methodLink RX6 192 yX6_freed, Cond.instanceMethod yX6_freed, Cond.selects RX6 yX6_freed yX6_freed, Cond.code yX6_freed cX6_freed 3 (some .int), Cond.fieldLink RX6 16 "SharedStatesModel" "held" "[I", Cond.methodLink RX6 188 yX6_copies, Cond.static yX6_copies, Cond.code yX6_copies cX6_copies 3 none, Cond.methodLink RX6 141 yX6_forgets]
def wsX6_heaviest_r2 : List Cond := [Cond.instanceMethod yX6_forgets, Cond.selects RX6 yX6_forgets yX6_forgets, Cond.code yX6_forgets cX6_forgets 5 (some .int), Cond.methodLink RX6 44 yX6_slot, Cond.instanceMethod yX6_slot, Cond.selects RX6 yX6_slot yX6_slot, Cond.code yX6_slot cX6_slot 3 (some .int), Cond.methodLink RX6 135 yX6_sweeps, Cond.instanceMethod yX6_sweeps, Cond.selects RX6 yX6_sweeps yX6_sweeps, Cond.code yX6_sweeps cX6_sweeps 3 (some .int), Cond.methodLink RX6 55 yX6_placesWith, Cond.instanceMethod yX6_placesWith, Cond.selects RX6 yX6_placesWith yX6_placesWith, Cond.code yX6_placesWith cX6_placesWith 5 (some .int)]
def wsX6_heaviest : List Cond := .code yX6_heaviest cX6_heaviest 7 (some .int) :: ((wsX6_heaviest_r1 ++ wsX6_heaviest_r2) ++ wsX60)
def wsX6_shareable : List Cond := .code yX6_shareable cX6_shareable 3 (some .int) :: ([.methodLink RX6 65 yX6_isBlock, .instanceMethod yX6_isBlock, .selects RX6 yX6_isBlock yX6_isBlock, .initialized RX6, .code yX6_isBlock cX6_isBlock 2 (some .boolean), .fieldLink RX6 7 "SharedStatesModel" "s" "[I", .methodLink RX6 48 yX6_in, .static yX6_in, .code yX6_in cX6_in 3 (some .boolean), .methodLink RX6 147 yX6_lowestLike, .instanceMethod yX6_lowestLike, .selects RX6 yX6_lowestLike yX6_lowestLike, .code yX6_lowestLike cX6_lowestLike 3 (some .int), .methodLink RX6 144 yX6_areLike, .instanceMethod yX6_areLike, .selects RX6 yX6_areLike yX6_areLike, .code yX6_areLike cX6_areLike 5 (some .boolean), .methodLink RX6 52 yX6_inBlock, .instanceMethod yX6_inBlock, .selects RX6 yX6_inBlock yX6_inBlock, .code yX6_inBlock cX6_inBlock 3 (some .int)] ++ wsX60)
def wsX6_count_r1 : List Cond := [Cond.fieldLink RX6 7 "SharedStatesModel" "s" "[I", Cond.fieldLink RX6 35 "SharedStatesModel" "pasts" "I", Cond.fieldLink RX6 198 "SharedStatesModel" "typed" "I", Cond.constant RX6 111 (-1000001), Cond.methodLink RX6 131 yX6_branches, Cond.instanceMethod yX6_branches, Cond.selects RX6 yX6_branches yX6_branches, Cond.initialized RX6, Cond.code yX6_branches cX6_branches 3 (some .int), Cond.methodLink RX6 78 yX6_blocks, Cond.instanceMethod yX6_blocks, Cond.selects RX6 yX6_blocks yX6_blocks, Cond.code yX6_blocks cX6_blocks 3 (some .int), Cond.methodLink RX6 195 yX6_shareable, Cond.instanceMethod yX6_shareable, Cond.selects RX6 yX6_shareable yX6_shareable, Cond.code yX6_shareable cX6_shareable 3 (some .int), Cond.methodLink RX6 65 yX6_isBlock, Cond.instanceMethod yX6_isBlock, Cond.selects RX6 yX6_isBlock yX6_isBlock, Cond.code yX6_isBlock cX6_isBlock 2 (some .boolean), Cond.methodLink RX6 48 yX6_in, Cond.static yX6_in, Cond.code yX6_in cX6_in 3 (some .boolean)]
def wsX6_count_r2 : List Cond := [Cond.methodLink RX6 147 yX6_lowestLike, Cond.instanceMethod yX6_lowestLike, Cond.selects RX6 yX6_lowestLike yX6_lowestLike, Cond.code yX6_lowestLike cX6_lowestLike 3 (some .int), Cond.methodLink RX6 144 yX6_areLike, Cond.instanceMethod yX6_areLike, Cond.selects RX6 yX6_areLike yX6_areLike, Cond.code yX6_areLike cX6_areLike 5 (some .boolean), Cond.methodLink RX6 52 yX6_inBlock, Cond.instanceMethod yX6_inBlock, Cond.selects RX6 yX6_inBlock yX6_inBlock, Cond.code yX6_inBlock cX6_inBlock 3 (some .int)]
def wsX6_count : List Cond := .code yX6_count cX6_count 2 (some .int) :: ((wsX6_count_r1 ++ wsX6_count_r2) ++ wsX60)
def wsX6_undo : List Cond := .code yX6_undo cX6_undo 2 (some .int) :: ([.fieldLink RX6 35 "SharedStatesModel" "pasts" "I", .constant RX6 134 (-1000002), .fieldLink RX6 7 "SharedStatesModel" "s" "[I", .fieldLink RX6 13 "SharedStatesModel" "past" "[I"] ++ wsX60)
def wsX6_type : List Cond := .code yX6_type cX6_type 2 (some .int) :: ([.constant RX6 111 (-1000001), .fieldLink RX6 198 "SharedStatesModel" "typed" "I", .constant RX6 94 (-1000003), .fieldLink RX6 19 "SharedStatesModel" "text" "[I", .methodLink RX6 48 yX6_in, .static yX6_in, .initialized RX6, .code yX6_in cX6_in 3 (some .boolean)] ++ wsX60)
def wsX6_clearText : List Cond := .code yX6_clearText cX6_clearText 2 (some .int) :: ([.fieldLink RX6 198 "SharedStatesModel" "typed" "I"] ++ wsX60)
def wsX6_isAt : List Cond := .code yX6_isAt cX6_isAt 3 (some .boolean) :: ([.fieldLink RX6 201 "SharedStatesModel" "spot" "I", .fieldLink RX6 198 "SharedStatesModel" "typed" "I", .fieldLink RX6 19 "SharedStatesModel" "text" "[I", .methodLink RX6 48 yX6_in, .static yX6_in, .initialized RX6, .code yX6_in cX6_in 3 (some .boolean)] ++ wsX60)
def wsX6_sign : List Cond := .code yX6_sign cX6_sign 3 (some .boolean) :: ([.fieldLink RX6 201 "SharedStatesModel" "spot" "I", .methodLink RX6 204 yX6_isAt, .instanceMethod yX6_isAt, .selects RX6 yX6_isAt yX6_isAt, .initialized RX6, .code yX6_isAt cX6_isAt 3 (some .boolean), .fieldLink RX6 198 "SharedStatesModel" "typed" "I", .fieldLink RX6 19 "SharedStatesModel" "text" "[I", .methodLink RX6 48 yX6_in, .static yX6_in, .code yX6_in cX6_in 3 (some .boolean)] ++ wsX60)
def wsX6_numbered : List Cond := .code yX6_numbered cX6_numbered 3 (some .boolean) :: ([.fieldLink RX6 201 "SharedStatesModel" "spot" "I", .fieldLink RX6 25 "SharedStatesModel" "told" "[I", .fieldLink RX6 19 "SharedStatesModel" "text" "[I", .methodLink RX6 204 yX6_isAt, .instanceMethod yX6_isAt, .selects RX6 yX6_isAt yX6_isAt, .initialized RX6, .code yX6_isAt cX6_isAt 3 (some .boolean), .fieldLink RX6 198 "SharedStatesModel" "typed" "I", .methodLink RX6 48 yX6_in, .static yX6_in, .code yX6_in cX6_in 3 (some .boolean)] ++ wsX60)
def wsX6_numbersOf : List Cond := .code yX6_numbersOf cX6_numbersOf 1 (some .int) :: ([])
def wsX6_reads : List Cond := .code yX6_reads cX6_reads 4 (some .boolean) :: ([.fieldLink RX6 19 "SharedStatesModel" "text" "[I", .fieldLink RX6 201 "SharedStatesModel" "spot" "I", .fieldLink RX6 207 "SharedStatesModel" "order" "I", .methodLink RX6 204 yX6_isAt, .instanceMethod yX6_isAt, .selects RX6 yX6_isAt yX6_isAt, .initialized RX6, .code yX6_isAt cX6_isAt 3 (some .boolean), .fieldLink RX6 198 "SharedStatesModel" "typed" "I", .methodLink RX6 48 yX6_in, .static yX6_in, .code yX6_in cX6_in 3 (some .boolean), .methodLink RX6 210 yX6_numbersOf, .static yX6_numbersOf, .code yX6_numbersOf cX6_numbersOf 1 (some .int), .methodLink RX6 213 yX6_numbered, .instanceMethod yX6_numbered, .selects RX6 yX6_numbered yX6_numbered, .code yX6_numbered cX6_numbered 3 (some .boolean), .fieldLink RX6 25 "SharedStatesModel" "told" "[I", .methodLink RX6 216 yX6_sign, .instanceMethod yX6_sign, .selects RX6 yX6_sign yX6_sign, .code yX6_sign cX6_sign 3 (some .boolean)] ++ wsX60)
def wsX6_calls_r1 : List Cond := [Cond.fieldLink RX6 207 "SharedStatesModel" "order" "I", Cond.fieldLink RX6 25 "SharedStatesModel" "told" "[I", Cond.methodLink RX6 219 yX6_write, Cond.instanceMethod yX6_write, Cond.selects RX6 yX6_write yX6_write, Cond.initialized RX6, Cond.code yX6_write cX6_write 4 (some .int), Cond.methodLink RX6 101 yX6_fill, Cond.instanceMethod yX6_fill, Cond.selects RX6 yX6_fill yX6_fill, Cond.code yX6_fill cX6_fill 6 (some .int), Cond.constant RX6 111 (-1000001), Cond.fieldLink RX6 7 "SharedStatesModel" "s" "[I", Cond.fieldLink RX6 22 "SharedStatesModel" "cells" "[I", Cond.methodLink RX6 105 yX6_isBranch, Cond.instanceMethod yX6_isBranch, Cond.selects RX6 yX6_isBranch yX6_isBranch, Cond.code yX6_isBranch cX6_isBranch 2 (some .boolean), Cond.methodLink RX6 48 yX6_in, Cond.static yX6_in, Cond.code yX6_in cX6_in 3 (some .boolean), Cond.methodLink RX6 108 yX6_isRow, Cond.static yX6_isRow, Cond.code yX6_isRow cX6_isRow 2 (some .boolean)]
def wsX6_calls_r2 : List Cond := [Cond.methodLink RX6 44 yX6_slot, Cond.instanceMethod yX6_slot, Cond.selects RX6 yX6_slot yX6_slot, Cond.code yX6_slot cX6_slot 3 (some .int), Cond.constant RX6 43 (-1000004), Cond.methodLink RX6 39 yX6_of, Cond.instanceMethod yX6_of, Cond.selects RX6 yX6_of yX6_of, Cond.code yX6_of cX6_of 3 (some .int), Cond.methodLink RX6 112 yX6_loads, Cond.instanceMethod yX6_loads, Cond.selects RX6 yX6_loads yX6_loads, Cond.code yX6_loads cX6_loads 3 none, Cond.methodLink RX6 62 yX6_cellOf, Cond.instanceMethod yX6_cellOf, Cond.selects RX6 yX6_cellOf yX6_cellOf, Cond.code yX6_cellOf cX6_cellOf 3 (some .int), Cond.methodLink RX6 52 yX6_inBlock, Cond.instanceMethod yX6_inBlock, Cond.selects RX6 yX6_inBlock yX6_inBlock, Cond.code yX6_inBlock cX6_inBlock 3 (some .int), Cond.methodLink RX6 116 yX6_tries, Cond.instanceMethod yX6_tries, Cond.selects RX6 yX6_tries yX6_tries]
def wsX6_calls_r3 : List Cond := [Cond.code yX6_tries cX6_tries 2 (some .int), Cond.constant RX6 94 (-1000003), Cond.methodLink RX6 91 yX6_fits, Cond.instanceMethod yX6_fits, Cond.selects RX6 yX6_fits yX6_fits, Cond.code yX6_fits cX6_fits 2 (some .boolean), Cond.methodLink RX6 78 yX6_blocks, Cond.instanceMethod yX6_blocks, Cond.selects RX6 yX6_blocks yX6_blocks, Cond.code yX6_blocks cX6_blocks 3 (some .int), Cond.methodLink RX6 82 yX6_needs, Cond.instanceMethod yX6_needs, Cond.selects RX6 yX6_needs yX6_needs, Cond.code yX6_needs cX6_needs 6 (some .int), Cond.methodLink RX6 69 yX6_found, Cond.instanceMethod yX6_found, Cond.selects RX6 yX6_found yX6_found, Cond.code yX6_found cX6_found 5 (some .int), Cond.methodLink RX6 65 yX6_isBlock, Cond.instanceMethod yX6_isBlock, Cond.selects RX6 yX6_isBlock yX6_isBlock, Cond.code yX6_isBlock cX6_isBlock 2 (some .boolean), Cond.methodLink RX6 72 yX6_differs, Cond.instanceMethod yX6_differs]
def wsX6_calls_r4 : List Cond := [Cond.selects RX6 yX6_differs yX6_differs, Cond.code yX6_differs cX6_differs 5 (some .boolean), Cond.methodLink RX6 75 yX6_areSame, Cond.instanceMethod yX6_areSame, Cond.selects RX6 yX6_areSame yX6_areSame, Cond.code yX6_areSame cX6_areSame 5 (some .boolean), Cond.methodLink RX6 95 yX6_changes, Cond.instanceMethod yX6_changes, Cond.selects RX6 yX6_changes yX6_changes, Cond.code yX6_changes cX6_changes 2 none, Cond.fieldLink RX6 31 "SharedStatesModel" "runs" "Z", Cond.fieldLink RX6 35 "SharedStatesModel" "pasts" "I", Cond.fieldLink RX6 13 "SharedStatesModel" "past" "[I", Cond.methodLink RX6 98 yX6_writes, Cond.instanceMethod yX6_writes, Cond.selects RX6 yX6_writes yX6_writes, Cond.code yX6_writes cX6_writes 6 (some .int), Cond.methodLink RX6 88 yX6_blockFor, Cond.instanceMethod yX6_blockFor, Cond.selects RX6 yX6_blockFor yX6_blockFor, Cond.code yX6_blockFor cX6_blockFor 3 (some .int), Cond.methodLink RX6 85 yX6_makesBlock, Cond.instanceMethod yX6_makesBlock, Cond.selects RX6 yX6_makesBlock yX6_makesBlock]
def wsX6_calls_r5 : List Cond := [Cond.code yX6_makesBlock cX6_makesBlock 4 (some .int), Cond.methodLink RX6 223 yX6_merge, Cond.instanceMethod yX6_merge, Cond.selects RX6 yX6_merge yX6_merge, Cond.code yX6_merge cX6_merge 5 (some .int), Cond.methodLink RX6 119 yX6_isState, Cond.instanceMethod yX6_isState, Cond.selects RX6 yX6_isState yX6_isState, Cond.code yX6_isState cX6_isState 2 (some .boolean), Cond.methodLink RX6 128 yX6_merges, Cond.instanceMethod yX6_merges, Cond.selects RX6 yX6_merges yX6_merges, Cond.code yX6_merges cX6_merges 12 (some .int), Cond.methodLink RX6 125 yX6_common, Cond.instanceMethod yX6_common, Cond.selects RX6 yX6_common yX6_common, Cond.code yX6_common cX6_common 4 (some .int), Cond.methodLink RX6 122 yX6_isFrom, Cond.instanceMethod yX6_isFrom, Cond.selects RX6 yX6_isFrom yX6_isFrom, Cond.code yX6_isFrom cX6_isFrom 4 (some .boolean), Cond.methodLink RX6 226 yX6_branch, Cond.instanceMethod yX6_branch, Cond.selects RX6 yX6_branch yX6_branch]
def wsX6_calls_r6 : List Cond := [Cond.code yX6_branch cX6_branch 3 (some .int), Cond.methodLink RX6 229 yX6_forget, Cond.instanceMethod yX6_forget, Cond.selects RX6 yX6_forget yX6_forget, Cond.code yX6_forget cX6_forget 2 (some .int), Cond.constant RX6 134 (-1000002), Cond.methodLink RX6 138 yX6_canForget, Cond.instanceMethod yX6_canForget, Cond.selects RX6 yX6_canForget yX6_canForget, Cond.code yX6_canForget cX6_canForget 4 (some .boolean), Cond.methodLink RX6 141 yX6_forgets, Cond.instanceMethod yX6_forgets, Cond.selects RX6 yX6_forgets yX6_forgets, Cond.code yX6_forgets cX6_forgets 5 (some .int), Cond.methodLink RX6 135 yX6_sweeps, Cond.instanceMethod yX6_sweeps, Cond.selects RX6 yX6_sweeps yX6_sweeps, Cond.code yX6_sweeps cX6_sweeps 3 (some .int), Cond.methodLink RX6 55 yX6_placesWith, Cond.instanceMethod yX6_placesWith, Cond.selects RX6 yX6_placesWith yX6_placesWith, Cond.code yX6_placesWith cX6_placesWith 5 (some .int)]
def wsX6_calls : List Cond := .code yX6_calls cX6_calls 1 (some .int) :: ((wsX6_calls_r1 ++ (wsX6_calls_r2 ++ (wsX6_calls_r3 ++ (wsX6_calls_r4 ++ (wsX6_calls_r5 ++ wsX6_calls_r6))))) ++ wsX60)
def wsX6_plays_r1 : List Cond := [Cond.fieldLink RX6 31 "SharedStatesModel" "runs" "Z", Cond.fieldLink RX6 201 "SharedStatesModel" "spot" "I", Cond.fieldLink RX6 232 "SharedStatesModel" "from" "I", Cond.fieldLink RX6 235 "SharedStatesModel" "orders" "I", Cond.fieldLink RX6 198 "SharedStatesModel" "typed" "I", Cond.fieldLink RX6 245 "SharedStatesModel" "reason" "I", Cond.fieldLink RX6 248 "SharedStatesModel" "cause" "I", Cond.methodLink RX6 238 yX6_reads, Cond.instanceMethod yX6_reads, Cond.selects RX6 yX6_reads yX6_reads, Cond.initialized RX6, Cond.code yX6_reads cX6_reads 4 (some .boolean), Cond.fieldLink RX6 19 "SharedStatesModel" "text" "[I", Cond.fieldLink RX6 207 "SharedStatesModel" "order" "I", Cond.methodLink RX6 204 yX6_isAt, Cond.instanceMethod yX6_isAt, Cond.selects RX6 yX6_isAt yX6_isAt, Cond.code yX6_isAt cX6_isAt 3 (some .boolean), Cond.methodLink RX6 48 yX6_in, Cond.static yX6_in, Cond.code yX6_in cX6_in 3 (some .boolean), Cond.methodLink RX6 210 yX6_numbersOf, Cond.static yX6_numbersOf, Cond.code yX6_numbersOf cX6_numbersOf 1 (some .int)]
def wsX6_plays_r2 : List Cond := [Cond.methodLink RX6 213 yX6_numbered, Cond.instanceMethod yX6_numbered, Cond.selects RX6 yX6_numbered yX6_numbered, Cond.code yX6_numbered cX6_numbered 3 (some .boolean), Cond.fieldLink RX6 25 "SharedStatesModel" "told" "[I", Cond.methodLink RX6 216 yX6_sign, Cond.instanceMethod yX6_sign, Cond.selects RX6 yX6_sign yX6_sign, Cond.code yX6_sign cX6_sign 3 (some .boolean), Cond.methodLink RX6 242 yX6_calls, Cond.instanceMethod yX6_calls, Cond.selects RX6 yX6_calls yX6_calls, Cond.code yX6_calls cX6_calls 1 (some .int), Cond.methodLink RX6 219 yX6_write, Cond.instanceMethod yX6_write, Cond.selects RX6 yX6_write yX6_write, Cond.code yX6_write cX6_write 4 (some .int), Cond.methodLink RX6 101 yX6_fill, Cond.instanceMethod yX6_fill, Cond.selects RX6 yX6_fill yX6_fill, Cond.code yX6_fill cX6_fill 6 (some .int), Cond.constant RX6 111 (-1000001), Cond.fieldLink RX6 7 "SharedStatesModel" "s" "[I", Cond.fieldLink RX6 22 "SharedStatesModel" "cells" "[I"]
def wsX6_plays_r3 : List Cond := [Cond.methodLink RX6 105 yX6_isBranch, Cond.instanceMethod yX6_isBranch, Cond.selects RX6 yX6_isBranch yX6_isBranch, Cond.code yX6_isBranch cX6_isBranch 2 (some .boolean), Cond.methodLink RX6 108 yX6_isRow, Cond.static yX6_isRow, Cond.code yX6_isRow cX6_isRow 2 (some .boolean), Cond.methodLink RX6 44 yX6_slot, Cond.instanceMethod yX6_slot, Cond.selects RX6 yX6_slot yX6_slot, Cond.code yX6_slot cX6_slot 3 (some .int), Cond.constant RX6 43 (-1000004), Cond.methodLink RX6 39 yX6_of, Cond.instanceMethod yX6_of, Cond.selects RX6 yX6_of yX6_of, Cond.code yX6_of cX6_of 3 (some .int), Cond.methodLink RX6 112 yX6_loads, Cond.instanceMethod yX6_loads, Cond.selects RX6 yX6_loads yX6_loads, Cond.code yX6_loads cX6_loads 3 none, Cond.methodLink RX6 62 yX6_cellOf, Cond.instanceMethod yX6_cellOf, Cond.selects RX6 yX6_cellOf yX6_cellOf, Cond.code yX6_cellOf cX6_cellOf 3 (some .int)]
def wsX6_plays_r4 : List Cond := [Cond.methodLink RX6 52 yX6_inBlock, Cond.instanceMethod yX6_inBlock, Cond.selects RX6 yX6_inBlock yX6_inBlock, Cond.code yX6_inBlock cX6_inBlock 3 (some .int), Cond.methodLink RX6 116 yX6_tries, Cond.instanceMethod yX6_tries, Cond.selects RX6 yX6_tries yX6_tries, Cond.code yX6_tries cX6_tries 2 (some .int), Cond.constant RX6 94 (-1000003), Cond.methodLink RX6 91 yX6_fits, Cond.instanceMethod yX6_fits, Cond.selects RX6 yX6_fits yX6_fits, Cond.code yX6_fits cX6_fits 2 (some .boolean), Cond.methodLink RX6 78 yX6_blocks, Cond.instanceMethod yX6_blocks, Cond.selects RX6 yX6_blocks yX6_blocks, Cond.code yX6_blocks cX6_blocks 3 (some .int), Cond.methodLink RX6 82 yX6_needs, Cond.instanceMethod yX6_needs, Cond.selects RX6 yX6_needs yX6_needs, Cond.code yX6_needs cX6_needs 6 (some .int), Cond.methodLink RX6 69 yX6_found, Cond.instanceMethod yX6_found, Cond.selects RX6 yX6_found yX6_found]
def wsX6_plays_r5 : List Cond := [Cond.code yX6_found cX6_found 5 (some .int), Cond.methodLink RX6 65 yX6_isBlock, Cond.instanceMethod yX6_isBlock, Cond.selects RX6 yX6_isBlock yX6_isBlock, Cond.code yX6_isBlock cX6_isBlock 2 (some .boolean), Cond.methodLink RX6 72 yX6_differs, Cond.instanceMethod yX6_differs, Cond.selects RX6 yX6_differs yX6_differs, Cond.code yX6_differs cX6_differs 5 (some .boolean), Cond.methodLink RX6 75 yX6_areSame, Cond.instanceMethod yX6_areSame, Cond.selects RX6 yX6_areSame yX6_areSame, Cond.code yX6_areSame cX6_areSame 5 (some .boolean), Cond.methodLink RX6 95 yX6_changes, Cond.instanceMethod yX6_changes, Cond.selects RX6 yX6_changes yX6_changes, Cond.code yX6_changes cX6_changes 2 none, Cond.fieldLink RX6 35 "SharedStatesModel" "pasts" "I", Cond.fieldLink RX6 13 "SharedStatesModel" "past" "[I", Cond.methodLink RX6 98 yX6_writes, Cond.instanceMethod yX6_writes, Cond.selects RX6 yX6_writes yX6_writes, Cond.code yX6_writes cX6_writes 6 (some .int), Cond.methodLink RX6 88 yX6_blockFor]
def wsX6_plays_r6 : List Cond := [Cond.instanceMethod yX6_blockFor, Cond.selects RX6 yX6_blockFor yX6_blockFor, Cond.code yX6_blockFor cX6_blockFor 3 (some .int), Cond.methodLink RX6 85 yX6_makesBlock, Cond.instanceMethod yX6_makesBlock, Cond.selects RX6 yX6_makesBlock yX6_makesBlock, Cond.code yX6_makesBlock cX6_makesBlock 4 (some .int), Cond.methodLink RX6 223 yX6_merge, Cond.instanceMethod yX6_merge, Cond.selects RX6 yX6_merge yX6_merge, Cond.code yX6_merge cX6_merge 5 (some .int), Cond.methodLink RX6 119 yX6_isState, Cond.instanceMethod yX6_isState, Cond.selects RX6 yX6_isState yX6_isState, Cond.code yX6_isState cX6_isState 2 (some .boolean), Cond.methodLink RX6 128 yX6_merges, Cond.instanceMethod yX6_merges, Cond.selects RX6 yX6_merges yX6_merges, Cond.code yX6_merges cX6_merges 12 (some .int), Cond.methodLink RX6 125 yX6_common, Cond.instanceMethod yX6_common, Cond.selects RX6 yX6_common yX6_common, Cond.code yX6_common cX6_common 4 (some .int), Cond.methodLink RX6 122 yX6_isFrom]
def wsX6_plays_r7 : List Cond := [Cond.instanceMethod yX6_isFrom, Cond.selects RX6 yX6_isFrom yX6_isFrom, Cond.code yX6_isFrom cX6_isFrom 4 (some .boolean), Cond.methodLink RX6 226 yX6_branch, Cond.instanceMethod yX6_branch, Cond.selects RX6 yX6_branch yX6_branch, Cond.code yX6_branch cX6_branch 3 (some .int), Cond.methodLink RX6 229 yX6_forget, Cond.instanceMethod yX6_forget, Cond.selects RX6 yX6_forget yX6_forget, Cond.code yX6_forget cX6_forget 2 (some .int), Cond.constant RX6 134 (-1000002), Cond.methodLink RX6 138 yX6_canForget, Cond.instanceMethod yX6_canForget, Cond.selects RX6 yX6_canForget yX6_canForget, Cond.code yX6_canForget cX6_canForget 4 (some .boolean), Cond.methodLink RX6 141 yX6_forgets, Cond.instanceMethod yX6_forgets, Cond.selects RX6 yX6_forgets yX6_forgets, Cond.code yX6_forgets cX6_forgets 5 (some .int), Cond.methodLink RX6 135 yX6_sweeps, Cond.instanceMethod yX6_sweeps, Cond.selects RX6 yX6_sweeps yX6_sweeps, Cond.code yX6_sweeps cX6_sweeps 3 (some .int)]
def wsX6_plays_r8 : List Cond := [Cond.methodLink RX6 55 yX6_placesWith, Cond.instanceMethod yX6_placesWith, Cond.selects RX6 yX6_placesWith yX6_placesWith, Cond.code yX6_placesWith cX6_placesWith 5 (some .int)]
def wsX6_plays : List Cond := .code yX6_plays cX6_plays 4 (some .boolean) :: ((wsX6_plays_r1 ++ (wsX6_plays_r2 ++ (wsX6_plays_r3 ++ (wsX6_plays_r4 ++ (wsX6_plays_r5 ++ (wsX6_plays_r6 ++ (wsX6_plays_r7 ++ wsX6_plays_r8))))))) ++ wsX60)
def wsX6_fault_r1 : List Cond := [Cond.constant RX6 111 (-1000001), Cond.fieldLink RX6 7 "SharedStatesModel" "s" "[I", Cond.fieldLink RX6 28 "SharedStatesModel" "ahead" "[I", Cond.constant RX6 43 (-1000004), Cond.fieldLink RX6 232 "SharedStatesModel" "from" "I", Cond.fieldLink RX6 245 "SharedStatesModel" "reason" "I", Cond.fieldLink RX6 248 "SharedStatesModel" "cause" "I", Cond.methodLink RX6 48 yX6_in, Cond.static yX6_in, Cond.initialized RX6, Cond.code yX6_in cX6_in 3 (some .boolean), Cond.methodLink RX6 188 yX6_copies, Cond.static yX6_copies, Cond.code yX6_copies cX6_copies 3 none, Cond.methodLink RX6 251 yX6_plays, Cond.instanceMethod yX6_plays, Cond.selects RX6 yX6_plays yX6_plays, Cond.code yX6_plays cX6_plays 4 (some .boolean), Cond.fieldLink RX6 31 "SharedStatesModel" "runs" "Z", Cond.fieldLink RX6 201 "SharedStatesModel" "spot" "I", Cond.fieldLink RX6 235 "SharedStatesModel" "orders" "I", Cond.fieldLink RX6 198 "SharedStatesModel" "typed" "I", Cond.methodLink RX6 238 yX6_reads, Cond.instanceMethod yX6_reads]
def wsX6_fault_r2 : List Cond := [Cond.selects RX6 yX6_reads yX6_reads, Cond.code yX6_reads cX6_reads 4 (some .boolean), Cond.fieldLink RX6 19 "SharedStatesModel" "text" "[I", Cond.fieldLink RX6 207 "SharedStatesModel" "order" "I", Cond.methodLink RX6 204 yX6_isAt, Cond.instanceMethod yX6_isAt, Cond.selects RX6 yX6_isAt yX6_isAt, Cond.code yX6_isAt cX6_isAt 3 (some .boolean), Cond.methodLink RX6 210 yX6_numbersOf, Cond.static yX6_numbersOf, Cond.code yX6_numbersOf cX6_numbersOf 1 (some .int), Cond.methodLink RX6 213 yX6_numbered, Cond.instanceMethod yX6_numbered, Cond.selects RX6 yX6_numbered yX6_numbered, Cond.code yX6_numbered cX6_numbered 3 (some .boolean), Cond.fieldLink RX6 25 "SharedStatesModel" "told" "[I", Cond.methodLink RX6 216 yX6_sign, Cond.instanceMethod yX6_sign, Cond.selects RX6 yX6_sign yX6_sign, Cond.code yX6_sign cX6_sign 3 (some .boolean), Cond.methodLink RX6 242 yX6_calls, Cond.instanceMethod yX6_calls, Cond.selects RX6 yX6_calls yX6_calls, Cond.code yX6_calls cX6_calls 1 (some .int)]
def wsX6_fault_r3 : List Cond := [Cond.methodLink RX6 219 yX6_write, Cond.instanceMethod yX6_write, Cond.selects RX6 yX6_write yX6_write, Cond.code yX6_write cX6_write 4 (some .int), Cond.methodLink RX6 101 yX6_fill, Cond.instanceMethod yX6_fill, Cond.selects RX6 yX6_fill yX6_fill, Cond.code yX6_fill cX6_fill 6 (some .int), Cond.fieldLink RX6 22 "SharedStatesModel" "cells" "[I", Cond.methodLink RX6 105 yX6_isBranch, Cond.instanceMethod yX6_isBranch, Cond.selects RX6 yX6_isBranch yX6_isBranch, Cond.code yX6_isBranch cX6_isBranch 2 (some .boolean), Cond.methodLink RX6 108 yX6_isRow, Cond.static yX6_isRow, Cond.code yX6_isRow cX6_isRow 2 (some .boolean), Cond.methodLink RX6 44 yX6_slot, Cond.instanceMethod yX6_slot, Cond.selects RX6 yX6_slot yX6_slot, Cond.code yX6_slot cX6_slot 3 (some .int), Cond.methodLink RX6 39 yX6_of, Cond.instanceMethod yX6_of, Cond.selects RX6 yX6_of yX6_of, Cond.code yX6_of cX6_of 3 (some .int)]
def wsX6_fault_r4 : List Cond := [Cond.methodLink RX6 112 yX6_loads, Cond.instanceMethod yX6_loads, Cond.selects RX6 yX6_loads yX6_loads, Cond.code yX6_loads cX6_loads 3 none, Cond.methodLink RX6 62 yX6_cellOf, Cond.instanceMethod yX6_cellOf, Cond.selects RX6 yX6_cellOf yX6_cellOf, Cond.code yX6_cellOf cX6_cellOf 3 (some .int), Cond.methodLink RX6 52 yX6_inBlock, Cond.instanceMethod yX6_inBlock, Cond.selects RX6 yX6_inBlock yX6_inBlock, Cond.code yX6_inBlock cX6_inBlock 3 (some .int), Cond.methodLink RX6 116 yX6_tries, Cond.instanceMethod yX6_tries, Cond.selects RX6 yX6_tries yX6_tries, Cond.code yX6_tries cX6_tries 2 (some .int), Cond.constant RX6 94 (-1000003), Cond.methodLink RX6 91 yX6_fits, Cond.instanceMethod yX6_fits, Cond.selects RX6 yX6_fits yX6_fits, Cond.code yX6_fits cX6_fits 2 (some .boolean), Cond.methodLink RX6 78 yX6_blocks, Cond.instanceMethod yX6_blocks, Cond.selects RX6 yX6_blocks yX6_blocks]
def wsX6_fault_r5 : List Cond := [Cond.code yX6_blocks cX6_blocks 3 (some .int), Cond.methodLink RX6 82 yX6_needs, Cond.instanceMethod yX6_needs, Cond.selects RX6 yX6_needs yX6_needs, Cond.code yX6_needs cX6_needs 6 (some .int), Cond.methodLink RX6 69 yX6_found, Cond.instanceMethod yX6_found, Cond.selects RX6 yX6_found yX6_found, Cond.code yX6_found cX6_found 5 (some .int), Cond.methodLink RX6 65 yX6_isBlock, Cond.instanceMethod yX6_isBlock, Cond.selects RX6 yX6_isBlock yX6_isBlock, Cond.code yX6_isBlock cX6_isBlock 2 (some .boolean), Cond.methodLink RX6 72 yX6_differs, Cond.instanceMethod yX6_differs, Cond.selects RX6 yX6_differs yX6_differs, Cond.code yX6_differs cX6_differs 5 (some .boolean), Cond.methodLink RX6 75 yX6_areSame, Cond.instanceMethod yX6_areSame, Cond.selects RX6 yX6_areSame yX6_areSame, Cond.code yX6_areSame cX6_areSame 5 (some .boolean), Cond.methodLink RX6 95 yX6_changes, Cond.instanceMethod yX6_changes, Cond.selects RX6 yX6_changes yX6_changes]
def wsX6_fault_r6 : List Cond := [Cond.code yX6_changes cX6_changes 2 none, Cond.fieldLink RX6 35 "SharedStatesModel" "pasts" "I", Cond.fieldLink RX6 13 "SharedStatesModel" "past" "[I", Cond.methodLink RX6 98 yX6_writes, Cond.instanceMethod yX6_writes, Cond.selects RX6 yX6_writes yX6_writes, Cond.code yX6_writes cX6_writes 6 (some .int), Cond.methodLink RX6 88 yX6_blockFor, Cond.instanceMethod yX6_blockFor, Cond.selects RX6 yX6_blockFor yX6_blockFor, Cond.code yX6_blockFor cX6_blockFor 3 (some .int), Cond.methodLink RX6 85 yX6_makesBlock, Cond.instanceMethod yX6_makesBlock, Cond.selects RX6 yX6_makesBlock yX6_makesBlock, Cond.code yX6_makesBlock cX6_makesBlock 4 (some .int), Cond.methodLink RX6 223 yX6_merge, Cond.instanceMethod yX6_merge, Cond.selects RX6 yX6_merge yX6_merge, Cond.code yX6_merge cX6_merge 5 (some .int), Cond.methodLink RX6 119 yX6_isState, Cond.instanceMethod yX6_isState, Cond.selects RX6 yX6_isState yX6_isState, Cond.code yX6_isState cX6_isState 2 (some .boolean), Cond.methodLink RX6 128 yX6_merges]
def wsX6_fault_r7 : List Cond := [Cond.instanceMethod yX6_merges, Cond.selects RX6 yX6_merges yX6_merges, Cond.code yX6_merges cX6_merges 12 (some .int), Cond.methodLink RX6 125 yX6_common, Cond.instanceMethod yX6_common, Cond.selects RX6 yX6_common yX6_common, Cond.code yX6_common cX6_common 4 (some .int), Cond.methodLink RX6 122 yX6_isFrom, Cond.instanceMethod yX6_isFrom, Cond.selects RX6 yX6_isFrom yX6_isFrom, Cond.code yX6_isFrom cX6_isFrom 4 (some .boolean), Cond.methodLink RX6 226 yX6_branch, Cond.instanceMethod yX6_branch, Cond.selects RX6 yX6_branch yX6_branch, Cond.code yX6_branch cX6_branch 3 (some .int), Cond.methodLink RX6 229 yX6_forget, Cond.instanceMethod yX6_forget, Cond.selects RX6 yX6_forget yX6_forget, Cond.code yX6_forget cX6_forget 2 (some .int), Cond.constant RX6 134 (-1000002), Cond.methodLink RX6 138 yX6_canForget, Cond.instanceMethod yX6_canForget, Cond.selects RX6 yX6_canForget yX6_canForget, Cond.code yX6_canForget cX6_canForget 4 (some .boolean)]
def wsX6_fault_r8 : List Cond := [Cond.methodLink RX6 141 yX6_forgets, Cond.instanceMethod yX6_forgets, Cond.selects RX6 yX6_forgets yX6_forgets, Cond.code yX6_forgets cX6_forgets 5 (some .int), Cond.methodLink RX6 135 yX6_sweeps, Cond.instanceMethod yX6_sweeps, Cond.selects RX6 yX6_sweeps yX6_sweeps, Cond.code yX6_sweeps cX6_sweeps 3 (some .int), Cond.methodLink RX6 55 yX6_placesWith, Cond.instanceMethod yX6_placesWith, Cond.selects RX6 yX6_placesWith yX6_placesWith, Cond.code yX6_placesWith cX6_placesWith 5 (some .int)]
def wsX6_fault : List Cond := .code yX6_fault cX6_fault 3 (some .int) :: ((wsX6_fault_r1 ++ (wsX6_fault_r2 ++ (wsX6_fault_r3 ++ (wsX6_fault_r4 ++ (wsX6_fault_r5 ++ (wsX6_fault_r6 ++ (wsX6_fault_r7 ++ wsX6_fault_r8))))))) ++ wsX60)
def wsX6_play_r1 : List Cond := [Cond.fieldLink RX6 7 "SharedStatesModel" "s" "[I", Cond.fieldLink RX6 28 "SharedStatesModel" "ahead" "[I", Cond.constant RX6 134 (-1000002), Cond.fieldLink RX6 235 "SharedStatesModel" "orders" "I", Cond.constant RX6 43 (-1000004), Cond.methodLink RX6 188 yX6_copies, Cond.static yX6_copies, Cond.initialized RX6, Cond.code yX6_copies cX6_copies 3 none, Cond.methodLink RX6 251 yX6_plays, Cond.instanceMethod yX6_plays, Cond.selects RX6 yX6_plays yX6_plays, Cond.code yX6_plays cX6_plays 4 (some .boolean), Cond.fieldLink RX6 31 "SharedStatesModel" "runs" "Z", Cond.fieldLink RX6 201 "SharedStatesModel" "spot" "I", Cond.fieldLink RX6 232 "SharedStatesModel" "from" "I", Cond.fieldLink RX6 198 "SharedStatesModel" "typed" "I", Cond.fieldLink RX6 245 "SharedStatesModel" "reason" "I", Cond.fieldLink RX6 248 "SharedStatesModel" "cause" "I", Cond.methodLink RX6 238 yX6_reads, Cond.instanceMethod yX6_reads, Cond.selects RX6 yX6_reads yX6_reads, Cond.code yX6_reads cX6_reads 4 (some .boolean), Cond.fieldLink RX6 19 "SharedStatesModel" "text" "[I"]
def wsX6_play_r2 : List Cond := [Cond.fieldLink RX6 207 "SharedStatesModel" "order" "I", Cond.methodLink RX6 204 yX6_isAt, Cond.instanceMethod yX6_isAt, Cond.selects RX6 yX6_isAt yX6_isAt, Cond.code yX6_isAt cX6_isAt 3 (some .boolean), Cond.methodLink RX6 48 yX6_in, Cond.static yX6_in, Cond.code yX6_in cX6_in 3 (some .boolean), Cond.methodLink RX6 210 yX6_numbersOf, Cond.static yX6_numbersOf, Cond.code yX6_numbersOf cX6_numbersOf 1 (some .int), Cond.methodLink RX6 213 yX6_numbered, Cond.instanceMethod yX6_numbered, Cond.selects RX6 yX6_numbered yX6_numbered, Cond.code yX6_numbered cX6_numbered 3 (some .boolean), Cond.fieldLink RX6 25 "SharedStatesModel" "told" "[I", Cond.methodLink RX6 216 yX6_sign, Cond.instanceMethod yX6_sign, Cond.selects RX6 yX6_sign yX6_sign, Cond.code yX6_sign cX6_sign 3 (some .boolean), Cond.methodLink RX6 242 yX6_calls, Cond.instanceMethod yX6_calls, Cond.selects RX6 yX6_calls yX6_calls, Cond.code yX6_calls cX6_calls 1 (some .int)]
def wsX6_play_r3 : List Cond := [Cond.methodLink RX6 219 yX6_write, Cond.instanceMethod yX6_write, Cond.selects RX6 yX6_write yX6_write, Cond.code yX6_write cX6_write 4 (some .int), Cond.methodLink RX6 101 yX6_fill, Cond.instanceMethod yX6_fill, Cond.selects RX6 yX6_fill yX6_fill, Cond.code yX6_fill cX6_fill 6 (some .int), Cond.constant RX6 111 (-1000001), Cond.fieldLink RX6 22 "SharedStatesModel" "cells" "[I", Cond.methodLink RX6 105 yX6_isBranch, Cond.instanceMethod yX6_isBranch, Cond.selects RX6 yX6_isBranch yX6_isBranch, Cond.code yX6_isBranch cX6_isBranch 2 (some .boolean), Cond.methodLink RX6 108 yX6_isRow, Cond.static yX6_isRow, Cond.code yX6_isRow cX6_isRow 2 (some .boolean), Cond.methodLink RX6 44 yX6_slot, Cond.instanceMethod yX6_slot, Cond.selects RX6 yX6_slot yX6_slot, Cond.code yX6_slot cX6_slot 3 (some .int), Cond.methodLink RX6 39 yX6_of, Cond.instanceMethod yX6_of, Cond.selects RX6 yX6_of yX6_of]
def wsX6_play_r4 : List Cond := [Cond.code yX6_of cX6_of 3 (some .int), Cond.methodLink RX6 112 yX6_loads, Cond.instanceMethod yX6_loads, Cond.selects RX6 yX6_loads yX6_loads, Cond.code yX6_loads cX6_loads 3 none, Cond.methodLink RX6 62 yX6_cellOf, Cond.instanceMethod yX6_cellOf, Cond.selects RX6 yX6_cellOf yX6_cellOf, Cond.code yX6_cellOf cX6_cellOf 3 (some .int), Cond.methodLink RX6 52 yX6_inBlock, Cond.instanceMethod yX6_inBlock, Cond.selects RX6 yX6_inBlock yX6_inBlock, Cond.code yX6_inBlock cX6_inBlock 3 (some .int), Cond.methodLink RX6 116 yX6_tries, Cond.instanceMethod yX6_tries, Cond.selects RX6 yX6_tries yX6_tries, Cond.code yX6_tries cX6_tries 2 (some .int), Cond.constant RX6 94 (-1000003), Cond.methodLink RX6 91 yX6_fits, Cond.instanceMethod yX6_fits, Cond.selects RX6 yX6_fits yX6_fits, Cond.code yX6_fits cX6_fits 2 (some .boolean), Cond.methodLink RX6 78 yX6_blocks, Cond.instanceMethod yX6_blocks]
def wsX6_play_r5 : List Cond := [Cond.selects RX6 yX6_blocks yX6_blocks, Cond.code yX6_blocks cX6_blocks 3 (some .int), Cond.methodLink RX6 82 yX6_needs, Cond.instanceMethod yX6_needs, Cond.selects RX6 yX6_needs yX6_needs, Cond.code yX6_needs cX6_needs 6 (some .int), Cond.methodLink RX6 69 yX6_found, Cond.instanceMethod yX6_found, Cond.selects RX6 yX6_found yX6_found, Cond.code yX6_found cX6_found 5 (some .int), Cond.methodLink RX6 65 yX6_isBlock, Cond.instanceMethod yX6_isBlock, Cond.selects RX6 yX6_isBlock yX6_isBlock, Cond.code yX6_isBlock cX6_isBlock 2 (some .boolean), Cond.methodLink RX6 72 yX6_differs, Cond.instanceMethod yX6_differs, Cond.selects RX6 yX6_differs yX6_differs, Cond.code yX6_differs cX6_differs 5 (some .boolean), Cond.methodLink RX6 75 yX6_areSame, Cond.instanceMethod yX6_areSame, Cond.selects RX6 yX6_areSame yX6_areSame, Cond.code yX6_areSame cX6_areSame 5 (some .boolean), Cond.methodLink RX6 95 yX6_changes, Cond.instanceMethod yX6_changes]
def wsX6_play_r6 : List Cond := [Cond.selects RX6 yX6_changes yX6_changes, Cond.code yX6_changes cX6_changes 2 none, Cond.fieldLink RX6 35 "SharedStatesModel" "pasts" "I", Cond.fieldLink RX6 13 "SharedStatesModel" "past" "[I", Cond.methodLink RX6 98 yX6_writes, Cond.instanceMethod yX6_writes, Cond.selects RX6 yX6_writes yX6_writes, Cond.code yX6_writes cX6_writes 6 (some .int), Cond.methodLink RX6 88 yX6_blockFor, Cond.instanceMethod yX6_blockFor, Cond.selects RX6 yX6_blockFor yX6_blockFor, Cond.code yX6_blockFor cX6_blockFor 3 (some .int), Cond.methodLink RX6 85 yX6_makesBlock, Cond.instanceMethod yX6_makesBlock, Cond.selects RX6 yX6_makesBlock yX6_makesBlock, Cond.code yX6_makesBlock cX6_makesBlock 4 (some .int), Cond.methodLink RX6 223 yX6_merge, Cond.instanceMethod yX6_merge, Cond.selects RX6 yX6_merge yX6_merge, Cond.code yX6_merge cX6_merge 5 (some .int), Cond.methodLink RX6 119 yX6_isState, Cond.instanceMethod yX6_isState, Cond.selects RX6 yX6_isState yX6_isState, Cond.code yX6_isState cX6_isState 2 (some .boolean)]
def wsX6_play_r7 : List Cond := [Cond.methodLink RX6 128 yX6_merges, Cond.instanceMethod yX6_merges, Cond.selects RX6 yX6_merges yX6_merges, Cond.code yX6_merges cX6_merges 12 (some .int), Cond.methodLink RX6 125 yX6_common, Cond.instanceMethod yX6_common, Cond.selects RX6 yX6_common yX6_common, Cond.code yX6_common cX6_common 4 (some .int), Cond.methodLink RX6 122 yX6_isFrom, Cond.instanceMethod yX6_isFrom, Cond.selects RX6 yX6_isFrom yX6_isFrom, Cond.code yX6_isFrom cX6_isFrom 4 (some .boolean), Cond.methodLink RX6 226 yX6_branch, Cond.instanceMethod yX6_branch, Cond.selects RX6 yX6_branch yX6_branch, Cond.code yX6_branch cX6_branch 3 (some .int), Cond.methodLink RX6 229 yX6_forget, Cond.instanceMethod yX6_forget, Cond.selects RX6 yX6_forget yX6_forget, Cond.code yX6_forget cX6_forget 2 (some .int), Cond.methodLink RX6 138 yX6_canForget, Cond.instanceMethod yX6_canForget, Cond.selects RX6 yX6_canForget yX6_canForget, Cond.code yX6_canForget cX6_canForget 4 (some .boolean)]
def wsX6_play_r8 : List Cond := [Cond.methodLink RX6 141 yX6_forgets, Cond.instanceMethod yX6_forgets, Cond.selects RX6 yX6_forgets yX6_forgets, Cond.code yX6_forgets cX6_forgets 5 (some .int), Cond.methodLink RX6 135 yX6_sweeps, Cond.instanceMethod yX6_sweeps, Cond.selects RX6 yX6_sweeps yX6_sweeps, Cond.code yX6_sweeps cX6_sweeps 3 (some .int), Cond.methodLink RX6 55 yX6_placesWith, Cond.instanceMethod yX6_placesWith, Cond.selects RX6 yX6_placesWith yX6_placesWith, Cond.code yX6_placesWith cX6_placesWith 5 (some .int)]
def wsX6_play : List Cond := .code yX6_play cX6_play 2 (some .int) :: ((wsX6_play_r1 ++ (wsX6_play_r2 ++ (wsX6_play_r3 ++ (wsX6_play_r4 ++ (wsX6_play_r5 ++ (wsX6_play_r6 ++ (wsX6_play_r7 ++ wsX6_play_r8))))))) ++ wsX60)
end
section
/-! ===== words for what the methods answer; rows for the walks of the class and the reference ===== -/
section SP
variable {X : Cx} {l0 : Launch} {G : Gl} {R0 : Room} {cc : ByteArray} {nL : Nat} {Ts : List Cond} {own : String} {ret : Option FieldType} {mk : Int → Option Value} {post : Int → (Nat → Nat) → Vt → Prop} {P : Nat → Nat} {V : Vt} {L : List (Option Value)} {pc : Nat} {st : List Value}
noncomputable def b2i (p : Prop) : Int := @ite _ p (Classical.propDecidable p) 1 0
theorem b2i_t {p : Prop} (h : p) : b2i p = 1 := if_pos h
theorem b2i_f {p : Prop} (h : ¬ p) : b2i p = 0 := if_neg h
theorem b2i_01 (p : Prop) : b2i p = 0 ∨ b2i p = 1 := by
  by_cases h : p
  · exact Or.inr (b2i_t h)
  · exact Or.inl (b2i_f h)
theorem b2i_b (p : Prop) : 0 ≤ b2i p ∧ b2i p ≤ 1 := by rcases b2i_01 p with h | h <;> omega
theorem b2i_eq0 {p : Prop} : b2i p = 0 ↔ ¬ p := ⟨fun h q => by rw [b2i_t q] at h; omega, b2i_f⟩
theorem b2i_eq1 {p : Prop} : b2i p = 1 ↔ p := ⟨fun h => Classical.byContradiction fun q => by rw [b2i_f q] at h; omega, b2i_t⟩
theorem b2i_iff {p q : Prop} (h : p ↔ q) : b2i p = b2i q := by
  by_cases hp : p
  · rw [b2i_t hp, b2i_t (h.mp hp)]
  · rw [b2i_f hp, b2i_f (fun z => hp (h.mpr z))]
def smN (f : Int → Int) : Nat → Int
  | 0 => 0
  | n + 1 => smN f n + f n
/-- the sum over 0 .. n-1 -/
def sm (n : Int) (f : Int → Int) : Int := smN f n.toNat
theorem sm_0 {f : Int → Int} {n : Int} (h : n ≤ 0) : sm n f = 0 := by
  unfold sm; rw [show n.toNat = 0 by omega]; rfl
theorem sm_s {f : Int → Int} {k : Int} (h : 0 ≤ k) : sm (k + 1) f = sm k f + f k := by
  unfold sm
  rw [show (k + 1).toNat = k.toNat + 1 by omega]
  show smN f k.toNat + f (k.toNat : Int) = _
  rw [Int.toNat_of_nonneg h]
theorem smN_congr {f g : Int → Int} : ∀ n : Nat, (∀ j : Int, 0 ≤ j → j < n → f j = g j) → smN f n = smN g n
  | 0, _ => rfl
  | n + 1, h => by
    show smN f n + f n = smN g n + g n
    rw [smN_congr n (fun j h0 h1 => h j h0 (by omega)), h n (by omega) (by omega)]
theorem sm_congr {n : Int} {f g : Int → Int} (h : ∀ j : Int, 0 ≤ j → j < n → f j = g j) : sm n f = sm n g := smN_congr _ (fun j h0 h1 => h j h0 (by omega))
theorem smN_bd {f : Int → Int} {c : Int} : ∀ n : Nat, (∀ j : Int, 0 ≤ j → j < n → 0 ≤ f j ∧ f j ≤ c) → 0 ≤ smN f n ∧ smN f n ≤ c * n
  | 0, _ => by simp [smN]
  | n + 1, h => by
    have h1 := smN_bd n (fun j h0 h1 => h j h0 (by omega))
    have h2 := h n (by omega) (by omega)
    show 0 ≤ smN f n + f n ∧ smN f n + f n ≤ c * ((n : Int) + 1)
    rw [Int.mul_add]
    omega
theorem sm_bd {n : Int} {f : Int → Int} (c : Int) (hn : 0 ≤ n) (h : ∀ j : Int, 0 ≤ j → j < n → 0 ≤ f j ∧ f j ≤ c) : 0 ≤ sm n f ∧ sm n f ≤ c * n := by
  have := smN_bd (c := c) (f := f) n.toNat (fun j h0 h1 => h j h0 (by omega))
  unfold sm
  rw [Int.toNat_of_nonneg hn] at this
  exact this
theorem sm_b2i_bd {n : Int} {p : Int → Prop} (hn : 0 ≤ n) : 0 ≤ sm n (fun j => b2i (p j)) ∧ sm n (fun j => b2i (p j)) ≤ n := by
  have := sm_bd (n := n) (f := fun j => b2i (p j)) 1 hn (fun j _ _ => b2i_b _)
  omega
/-- the first of 0 .. n-1 with a property, or -1 -/
noncomputable def fnd (n : Int) (p : Int → Prop) : Int := @dite _ (∃ k : Int, 0 ≤ k ∧ k < n ∧ p k ∧ ∀ j, 0 ≤ j → j < k → ¬ p j) (Classical.propDecidable _) (fun h => Classical.choose h) (fun _ => -1)
theorem fnd_y {n k : Int} {p : Int → Prop} (h0 : 0 ≤ k) (h1 : k < n) (h2 : p k) (h3 : ∀ j, 0 ≤ j → j < k → ¬ p j) : fnd n p = k := by
  have hx : ∃ k : Int, 0 ≤ k ∧ k < n ∧ p k ∧ ∀ j, 0 ≤ j → j < k → ¬ p j := ⟨k, h0, h1, h2, h3⟩
  have hc := Classical.choose_spec hx
  have e : fnd n p = Classical.choose hx := dif_pos hx
  rw [e]
  rcases Int.lt_trichotomy (Classical.choose hx) k with h | h | h
  · exact absurd hc.2.2.1 (h3 _ hc.1 h)
  · exact h
  · exact absurd h2 (hc.2.2.2 _ h0 h)
theorem fnd_n {n : Int} {p : Int → Prop} (h : ∀ j, 0 ≤ j → j < n → ¬ p j) : fnd n p = -1 :=
  dif_neg (fun ⟨k, h0, h1, h2, _⟩ => h k h0 h1 h2)
theorem fnd_c (n : Int) (p : Int → Prop) : (fnd n p = -1 ∧ ∀ j, 0 ≤ j → j < n → ¬ p j) ∨ (0 ≤ fnd n p ∧ fnd n p < n ∧ p (fnd n p) ∧ ∀ j, 0 ≤ j → j < fnd n p → ¬ p j) := by
  have key : ∀ m : Nat, (∀ j : Int, 0 ≤ j → j < m → ¬ p j) ∨ ∃ k : Int, 0 ≤ k ∧ k < m ∧ p k ∧ ∀ j, 0 ≤ j → j < k → ¬ p j := by
    intro m
    induction m with
    | zero => exact Or.inl (fun j h0 h1 => by omega)
    | succ m ih =>
      rcases ih with h | ⟨k, h0, h1, h2, h3⟩
      · by_cases hp : p m
        · exact Or.inr ⟨m, by omega, by omega, hp, fun j g0 g1 => h j g0 g1⟩
        · refine Or.inl (fun j g0 g1 => ?_)
          rcases Int.lt_or_le j m with q | q
          · exact h j g0 q
          · rw [show j = (m : Int) by omega]; exact hp
      · exact Or.inr ⟨k, h0, by omega, h2, h3⟩
  rcases key n.toNat with h | ⟨k, h0, h1, h2, h3⟩
  · have hn : ∀ j, 0 ≤ j → j < n → ¬ p j := fun j h0 h1 => h j h0 (by omega)
    exact Or.inl ⟨fnd_n hn, hn⟩
  · have e := fnd_y (n := n) h0 (by omega) h2 h3
    exact Or.inr (by rw [e]; exact ⟨h0, by omega, h2, h3⟩)
theorem fnd_bd (n : Int) (p : Int → Prop) (hn : 0 ≤ n) : -1 ≤ fnd n p ∧ fnd n p < n := by
  rcases fnd_c n p with h | h <;> omega
theorem fnd_congr {n : Int} {p q : Int → Prop} (h : ∀ j : Int, 0 ≤ j → j < n → (p j ↔ q j)) : fnd n p = fnd n q := by
  rcases fnd_c n q with ⟨e, g⟩ | ⟨h0, h1, h2, h3⟩
  · rw [e]; exact fnd_n (fun j a b => fun z => g j a b ((h j a b).mp z))
  · exact fnd_y h0 h1 ((h _ h0 h1).mpr h2) (fun j a b z => h3 j a b ((h j a (by omega)).mp z))
/-- what never need be compared: counters, and rows that are only copied -/
def ctr (r : Nat) (j : Int) : Prop := r = 1 ∨ (r = 0 ∧ j = 5) ∨ (r = 17 ∧ 2 ≤ j ∧ j ≤ 4) ∨ r = 18 ∨ r = 19 ∨ r = 23
def BV (V : Vt) : Prop := ∀ (r w : Nat) (j : Int), ¬ ctr r j → inR (V r w j)
def sfR (r : Nat) : Bool := !(Nat.beq r 0 || Nat.beq r 1 || Nat.beq r 17 || Nat.beq r 18 || Nat.beq r 19 || Nat.beq r 23)
theorem sfR_ctr {r : Nat} {j : Int} (h : sfR r = true) : ¬ ctr r j := by
  intro hz
  rcases hz with rfl | ⟨rfl, -⟩ | ⟨rfl, -⟩ | rfl | rfl | rfl <;> cases h
theorem BV.g {V : Vt} (h : BV V) (r w : Nat) (j : Int) (hr : sfR r = true) : inR (V r w j) := h r w j (sfR_ctr hr)
theorem BV.g0 {V : Vt} (h : BV V) (w : Nat) : inR (V 0 w 4) := h 0 w 4 (by intro hz; simp only [ctr] at hz; omega)
theorem BV.s {V : Vt} (h : BV V) (j : Int) (hj : ¬ (2 ≤ j ∧ j ≤ 4)) : inR (V 17 0 j) := h 17 0 j (by intro hz; simp only [ctr] at hz; omega)
theorem BV_upF {V : Vt} {r w : Nat} {g : Int → Int} (h : BV V) (hx : ∀ j, ¬ ctr r j → inR (g j)) : BV (up V r w g) := by
  intro r' w' j hj
  by_cases hq : r' = r ∧ w' = w
  · obtain ⟨rfl, rfl⟩ := hq
    rw [up_s]; exact hx j hj
  · rw [up_o hq]; exact h r' w' j hj
theorem BV_up {V : Vt} {r w : Nat} {i x : Int} (h : BV V) (hx : ¬ ctr r i → inR x) : BV (up V r w (updI (V r w) i x)) := by
  refine BV_upF h (fun j hj => ?_)
  unfold updI
  split
  · rename_i e; subst e; exact hx hj
  · exact h r w j hj
def cpI (f g : Int → Int) (sp dp n : Int) : Int → Int := fun j => if dp ≤ j ∧ j < dp + n then f (sp + (j - dp)) else g j
theorem BV_upC {V : Vt} {r1 w1 r2 w2 : Nat} {sp dp n : Int} (h : BV V) (h1 : sfR r1 = true) : BV (up V r2 w2 (cpI (V r1 w1) (V r2 w2) sp dp n)) := by
  refine BV_upF h (fun j hj => ?_)
  unfold cpI
  split
  · exact h.g r1 w1 _ h1
  · exact h r2 w2 j hj
theorem zz_cat {av : List Value} (h : av.all (fun v => Nat.beq v.category 1) = true) : ∀ v ∈ av, v.category = 1 := fun v hv => Nat.eq_of_beq_eq_true (List.all_eq_true.mp h v hv)
theorem Kz.drop (i : Nat) {L' : List (Option Value)} (hl : L.set i none = L') (kk : Kz X G P V L' pc st) : Kz X G P V L pc st := by
  subst hl
  refine Kz.sub (by rw [List.length_set]) (fun j v h => ?_) kk
  rw [List.getElem?_set] at h
  split at h
  · split at h <;> cases h
  · exact h
theorem z_dtI {F : Int} {P2 : Nat → Nat} {V2 : Vt} (kk : Kz X G P2 V2 L pc (.int (iI F) :: st)) : ∀ (r : Int) (P' : Nat → Nat) (V' : Vt), dt F P2 V2 r P' V' → Kz X G P' V' L pc ((mkI r).toList ++ st) := by
  rintro r P' V' ⟨rfl, rfl, rfl⟩; exact kk
theorem z_dtV {F : Int} {P2 : Nat → Nat} {V2 : Vt} (kk : Kz X G P2 V2 L pc st) : ∀ (r : Int) (P' : Nat → Nat) (V' : Vt), dt F P2 V2 r P' V' → Kz X G P' V' L pc ((mkV r).toList ++ st) := by
  rintro r P' V' ⟨rfl, rfl, rfl⟩; exact kk
theorem z_exI {pst : Int → (Nat → Nat) → Vt → Prop} (kk : ∀ (r : Int) (P' : Nat → Nat) (V' : Vt), pst r P' V' → Kz X G P' V' L pc (.int (iI r) :: st)) : ∀ (r : Int) (P' : Nat → Nat) (V' : Vt), pst r P' V' → Kz X G P' V' L pc ((mkI r).toList ++ st) := kk
theorem z_exR {pst : Int → (Nat → Nat) → Vt → Prop} (kk : ∀ (r : Int) (P' : Nat → Nat) (V' : Vt), pst r P' V' → Kz X G P' V' L pc (.ref (ad G 0 r.toNat) :: st)) : ∀ (r : Int) (P' : Nat → Nat) (V' : Vt), pst r P' V' → Kz X G P' V' L pc ((mkR G r).toList ++ st) := kk
theorem z_exV {pst : (Nat → Nat) → Vt → Prop} (kk : ∀ (P' : Nat → Nat) (V' : Vt), pst P' V' → Kz X G P' V' L pc st) : ∀ (r : Int) (P' : Nat → Nat) (V' : Vt), pst P' V' → Kz X G P' V' L pc ((mkV r).toList ++ st) := fun _ P' V' h => kk P' V' h
theorem z_ifeq_b (E : Ev X l0 G R0 cc nL Ts own ret mk post) {q : Prop} {off : Int} (tgt : Nat) (hdg : decode cc pc = .ok (.ifCond .eq off, 3)) (ht : (pc : Int) + off = (tgt : Int)) (kt : ¬ q → Kz X G P V L tgt st) (kf : q → Kz X G P V L (pc + 3) st) : Kz X G P V L pc (.int (iI (b2i q)) :: st) :=
  z_if_eq E tgt hdg ht (by have := b2i_b q; omega) (fun h => kt (b2i_eq0.mp h)) (fun h => kf (Classical.byContradiction fun z => h (b2i_f z)))
theorem z_ifne_b (E : Ev X l0 G R0 cc nL Ts own ret mk post) {q : Prop} {off : Int} (tgt : Nat) (hdg : decode cc pc = .ok (.ifCond .ne off, 3)) (ht : (pc : Int) + off = (tgt : Int)) (kt : q → Kz X G P V L tgt st) (kf : ¬ q → Kz X G P V L (pc + 3) st) : Kz X G P V L pc (.int (iI (b2i q)) :: st) :=
  z_if_ne E tgt hdg ht (by have := b2i_b q; omega) (fun h => kt (Classical.byContradiction fun z => h (b2i_f z))) (fun h => kf (b2i_eq0.mp h))
theorem nst_X0_31 {U : State} (h : Nst U) : va_Nw (.methodLinkNest RX0 31 yX5_isIndex "SharedStates") U := h.1
theorem nst_X3_41 {U : State} (h : Nst U) : va_Nw (.methodLinkNest RX3 41 yX5_isIndex "SharedStates") U := h.2.1
theorem nst_X4_52 {U : State} (h : Nst U) : va_Nw (.methodLinkNest RX4 52 yX5_isIndex "SharedStates") U := h.2.2.1
theorem nst_X4_98 {U : State} (h : Nst U) : va_Nw (.methodLinkNest RX4 98 yX5_isRange "SharedStates") U := h.2.2.2
theorem z_acopy (E : Ev X l0 G R0 cc nL Ts own ret mk post) {index : Nat} (f0 : Cond.methodLink own index arraycopyName ∈ Ts) (f1 : Cond.native arraycopyName ∈ Ts) (f2 : Cond.static arraycopyName ∈ Ts) (f3 : Cond.initialized "java/lang/System" ∈ Ts) {r1 w1 r2 w2 : Nat} (hv1 : vl r1 w1 = true) (hv2 : vl r2 w2 = true) (n1 : Nat) (hn1 : n1 ≤ 100000) (n2 : Nat) (hn2 : n2 ≤ 100000) (he1 : ∀ f : Int → Int, cE G P f r1 w1 = aE G n1 f) (he2 : ∀ f : Int → Int, cE G P f r2 w2 = aE G n2 f) {sp dp n : Int} (h1 : 0 ≤ sp) (h2 : 0 ≤ dp) (h3 : 0 ≤ n) (h4 : sp + n ≤ n1) (h5 : dp + n ≤ n2)
    (hfr : 1 ≤ R0.frames) (hlo : (st.map fun v => v.category).sum + (nativeFrameWords "java/lang/System" "arraycopy" 5 + 11) ≤ R0.locals) (hnl : nL = L.length) (hdg : decode cc pc = .ok (.invokestatic index, 3))
    (kk : Kz X G P (up V r2 w2 (cpI (V r1 w1) (V r2 w2) sp dp n)) L (pc + 3) st) : Kz X G P V L pc (.int (iI n) :: .int (iI dp) :: .ref (ad G r2 w2) :: .int (iI sp) :: .ref (ad G r1 w1) :: st) := by
  obtain ⟨p, l, e, R, s, m, args, below, meth, c, Q⟩ := X
  intro H locs ls hP hS hL
  have c1 : (iI sp).toNatClampNeg = sp.toNat := iI_clamp h1 (by omega)
  have c2 : (iI dp).toNatClampNeg = dp.toNat := iI_clamp h2 (by omega)
  have c3 : (iI n).toNatClampNeg = n.toNat := iI_clamp h3 (by omega)
  have nn : ∀ x : Int, 0 ≤ x → x ≤ 100000 → ¬ iI x < 0 := fun x a b => by rw [iI_0, iI_lt (by omega) (by omega)]; omega
  obtain ⟨E1, hK, hG, -, -, rfl, rfl, -⟩ := E
  refine va_copyi (ty := .int) (f := fun j : Nat => iI (V r1 w1 (j : Int))) (g := fun j : Nat => iI (V r2 w2 (j : Int))) E1.1 E1.2.1 (by rw [E1.2.2.1, hL.1, hnl]) E1.2.2.2.1 (E1.2.2.2.2 _ f0) (E1.2.2.2.2 _ f1) (E1.2.2.2.2 _ f2) (E1.2.2.2.2 _ f3) hK.1 hP (WL_D hG) hS (psn r1 w1) (psn r2 w2) 0 0 (by rw [WL_at hv1, he1]; rfl) (by rw [WL_at hv2, he2]; rfl) rfl rfl rfl (nn _ h1 (by omega)) (nn _ h2 (by omega)) (nn _ h3 (by omega)) (by rw [c1, c3]; omega) (by rw [c2, c3]; omega) (fun _ _ => rfl) hfr hlo hdg (fun H1 locs1 hP1 _ hS1 => ?_)
  have hset : (.inl (gI G, n2, .inl (va_cpy (fun j : Nat => iI (V r1 w1 (j : Int))) (fun j : Nat => iI (V r2 w2 (j : Int))) (iI sp).toNatClampNeg (iI dp).toNatClampNeg (iI n).toNatClampNeg)) : va_E) = aE G n2 (cpI (V r1 w1) (V r2 w2) sp dp n) := by
    unfold aE
    congr 4
    funext j
    rw [c1, c2, c3]
    unfold va_cpy cpI
    by_cases hj : dp.toNat ≤ j ∧ j < dp.toNat + n.toNat
    · rw [if_pos hj, if_pos (by omega)]; dsimp only; rw [show ((sp.toNat + (j - dp.toNat) : Nat) : Int) = sp + ((j : Int) - dp) by omega]
    · rw [if_neg hj, if_neg (by omega)]
  rw [hset, WL_set (P' := P) (V' := up V r2 w2 (cpI (V r1 w1) (V r2 w2) sp dp n)) hv2 (by rw [up_s]; exact he2 _) (fun r' w' _ hne => by rw [up_o hne])] at hP1
  exact kk H1 locs1 ls hP1 hS1 hL
theorem arrV_congr {cA : ClassId} {n : Nat} {z z' : Nat → Value} (h : ∀ j, j < n → z j = z' j) : arrV cA n z = arrV cA n z' := by
  unfold arrV
  congr 1
  apply Array.ext
  · simp
  · intro i h1 h2
    simp at h1 ⊢
    exact h i (by omega)
theorem aE_congr {G : Gl} {D : va_G} {cl : List vw_C} {a n : Nat} {f g : Int → Int} {H : Heap} (h : ∀ j : Int, 0 ≤ j → j < n → f j = g j) (hP : va_at D cl (a, aE G n f) H) : va_at D cl (a, aE G n g) H := by
  show H[a]? = some (vp_cell _ _)
  have hP : H[a]? = some (vp_cell (gI G) (n, .inl (fun j : Nat => iI (f (j : Int))))) := hP
  rw [hP, vp_cell_i, vp_cell_i, arrV_congr (z' := fun j : Nat => .int (iI (g (j : Int)))) (fun j hj => by rw [h j (by omega) (by omega)])]
theorem WL_row {D : va_G} {cl : List vw_C} {V V' : Vt} {r w n : Nat} {H : Heap} (hv : vl r w = true) (he : ∀ f : Int → Int, cE G P f r w = aE G n f) (ho : ∀ r' w', ¬ (r' = r ∧ w' = w) → V' r' w' = V r' w') (h : ∀ j : Int, 0 ≤ j → j < n → V r w j = V' r w j) (hP : va_P D cl (WL G P V) H) : va_P D cl (WL G P V') H := by
  intro k q hq
  simp only [WL, List.getElem?_map] at hq
  cases hp : prs[k]? with
  | none => rw [hp] at hq; cases hq
  | some z =>
    obtain ⟨r', w'⟩ := z
    rw [hp] at hq
    cases hq
    have hi := prs_inv hp
    have h0 := hP k (ad G r' w', cE G P (V r' w') r' w') (by simp [WL, List.getElem?_map, hp])
    by_cases hz : r' = r ∧ w' = w
    · obtain ⟨rfl, rfl⟩ := hz
      rw [he] at h0
      show va_at D cl (ad G r' w', cE G P (V' r' w') r' w') H
      rw [he]
      exact aE_congr h h0
    · show va_at D cl (ad G r' w', cE G P (V' r' w') r' w') H
      rw [ho r' w' hz]; exact h0
/-- a row of numbers may be called otherwise beyond its length -/
theorem z_row {V' : Vt} {r w n : Nat} (hv : vl r w = true) (he : ∀ f : Int → Int, cE G P f r w = aE G n f) (ho : ∀ r' w', ¬ (r' = r ∧ w' = w) → V' r' w' = V r' w') (h : ∀ j : Int, 0 ≤ j → j < n → V r w j = V' r w j) (kk : Kz X G P V' L pc st) : Kz X G P V L pc st := by
  obtain ⟨p, l, e, R, s, m, args, below, meth, c, Q⟩ := X
  intro H locs ls hP hS hL
  exact kk H locs ls (WL_row hv he ho h hP) hS hL
theorem z_acopyF (E : Ev X l0 G R0 cc nL Ts own ret mk post) {index : Nat} (f0 : Cond.methodLink own index arraycopyName ∈ Ts) (f1 : Cond.native arraycopyName ∈ Ts) (f2 : Cond.static arraycopyName ∈ Ts) (f3 : Cond.initialized "java/lang/System" ∈ Ts) {r1 w1 r2 w2 : Nat} (hv1 : vl r1 w1 = true) (hv2 : vl r2 w2 = true) (n1 : Nat) (hn1 : n1 ≤ 100000) (n2 : Nat) (hn2 : n2 ≤ 100000) (he1 : ∀ f : Int → Int, cE G P f r1 w1 = aE G n1 f) (he2 : ∀ f : Int → Int, cE G P f r2 w2 = aE G n2 f) {n : Int} (h1 : n = n1) (h2 : n1 = n2)
    (hfr : 1 ≤ R0.frames) (hlo : (st.map fun v => v.category).sum + (nativeFrameWords "java/lang/System" "arraycopy" 5 + 11) ≤ R0.locals) (hnl : nL = L.length) (hdg : decode cc pc = .ok (.invokestatic index, 3))
    (kk : Kz X G P (up V r2 w2 (V r1 w1)) L (pc + 3) st) : Kz X G P V L pc (.int (iI n) :: .int (iI 0) :: .ref (ad G r2 w2) :: .int (iI 0) :: .ref (ad G r1 w1) :: st) := by
  refine z_acopy E f0 f1 f2 f3 hv1 hv2 n1 hn1 n2 hn2 he1 he2 (by omega) (by omega) (by omega) (by omega) (by omega) hfr hlo hnl hdg (z_row hv2 he2 (fun r' w' hz => by rw [up_o hz, up_o hz]) (fun j h0 h1' => ?_) kk)
  rw [up_s, up_s]
  unfold cpI
  rw [if_pos (by omega)]
  congr 1
  omega
theorem all_0 {p : Int → Prop} : ∀ j : Int, 0 ≤ j → j < 0 → p j := fun _ h0 h1 => by omega
theorem all_s {k : Int} {p : Int → Prop} (h : ∀ j : Int, 0 ≤ j → j < k → p j) (hk : p k) : ∀ j : Int, 0 ≤ j → j < k + 1 → p j := by
  intro j h0 h1
  rcases Int.lt_or_le j k with q | q
  · exact h j h0 q
  · rw [show j = k by omega]; exact hk
theorem smb_t {m k : Int} {p : Int → Prop} (h : m = sm k (fun j => b2i (p j))) (hk : 0 ≤ k) (hp : p k) : m + 1 = sm (k + 1) (fun j => b2i (p j)) := by
  rw [sm_s hk, ← h, b2i_t hp]
theorem smb_f {m k : Int} {p : Int → Prop} (h : m = sm k (fun j => b2i (p j))) (hk : 0 ≤ k) (hp : ¬ p k) : m + 0 = sm (k + 1) (fun j => b2i (p j)) := by
  rw [sm_s hk, ← h, b2i_f hp]
theorem smb_f0 {m k : Int} {p : Int → Prop} (h : m = sm k (fun j => b2i (p j))) (hk : 0 ≤ k) (hp : ¬ p k) : m = sm (k + 1) (fun j => b2i (p j)) := by
  have := smb_f h hk hp; omega
/-- a set of 0 .. n-1 as bits -/
noncomputable def bits (n : Int) (p : Int → Prop) : Int := sm n (fun i => b2i (p i) * 2 ^ i.toNat)
theorem bits_0 {p : Int → Prop} : bits 0 p = 0 := sm_0 (by omega)
theorem bits_t {m k : Int} {p : Int → Prop} (h : m = bits k p) (hk : 0 ≤ k) (hp : p k) : m + 2 ^ k.toNat = bits (k + 1) p := by
  unfold bits; rw [sm_s hk, b2i_t hp, Int.one_mul, h]; rfl
theorem bits_f {m k : Int} {p : Int → Prop} (h : m = bits k p) (hk : 0 ≤ k) (hp : ¬ p k) : m = bits (k + 1) p := by
  unfold bits; rw [sm_s hk, b2i_f hp, Int.zero_mul, h, Int.add_zero]; rfl
theorem bits_bdN (p : Int → Prop) : ∀ n : Nat, 0 ≤ bits n p ∧ bits n p < 2 ^ n
  | 0 => by rw [show ((0 : Nat) : Int) = 0 from rfl, bits_0]; decide
  | n + 1 => by
    have ih := bits_bdN p n
    have e : (2 : Int) ^ (n + 1) = 2 ^ n + 2 ^ n := by rw [Int.pow_succ]; omega
    rw [e, show ((n + 1 : Nat) : Int) = (n : Int) + 1 from rfl]
    by_cases hp : p n
    · rw [← bits_t rfl (by omega) hp, Int.toNat_natCast]; omega
    · rw [← bits_f rfl (by omega) hp]; omega
theorem bits_bd (p : Int → Prop) {n : Int} (h : 0 ≤ n) : 0 ≤ bits n p ∧ bits n p < 2 ^ n.toNat := by
  have := bits_bdN p n.toNat
  rw [Int.toNat_of_nonneg h] at this
  exact this
theorem bits_congr {n : Int} {p q : Int → Prop} (h : ∀ j : Int, 0 ≤ j → j < n → (p j ↔ q j)) : bits n p = bits n q := sm_congr (fun j h0 h1 => by rw [b2i_iff (h j h0 h1)])
/-- eight numbers are the same -/
def eq8 (f g : Int → Int) (a b : Int) : Prop := ∀ i, 0 ≤ i → i < 8 → f (a + i) = g (b + i)
/-- the number, or NOT_FOUND -/
def fO (x : Int) : Int := if 0 ≤ x then x else -1000004
theorem fO_t {x : Int} (h : 0 ≤ x) : fO x = x := if_pos h
theorem fO_f {x : Int} (h : x < 0) : fO x = -1000004 := if_neg (by omega)
end SP
end
section
theorem dX0_init_0 : decode cX0_init 0 = .ok (.aload_n 0, 1) := by decide +kernel
theorem dX0_init_1 : decode cX0_init 1 = .ok (.invokespecial 3, 3) := by decide +kernel
theorem dX0_init_4 : decode cX0_init 4 = .ok (.aload_n 0, 1) := by decide +kernel
theorem dX0_init_5 : decode cX0_init 5 = .ok (.sipush 320, 3) := by decide +kernel
theorem dX0_init_8 : decode cX0_init 8 = .ok (.newarray .int, 2) := by decide +kernel
theorem dX0_init_10 : decode cX0_init 10 = .ok (.putfield 9, 3) := by decide +kernel
theorem dX0_init_13 : decode cX0_init 13 = .ok (.aload_n 0, 1) := by decide +kernel
theorem dX0_init_14 : decode cX0_init 14 = .ok (.bipush 40, 2) := by decide +kernel
theorem dX0_init_16 : decode cX0_init 16 = .ok (.newarray .int, 2) := by decide +kernel
theorem dX0_init_18 : decode cX0_init 18 = .ok (.putfield 15, 3) := by decide +kernel
theorem dX0_init_21 : decode cX0_init 21 = .ok (.aload_n 0, 1) := by decide +kernel
theorem dX0_init_22 : decode cX0_init 22 = .ok (.iconst 1, 1) := by decide +kernel
theorem dX0_init_23 : decode cX0_init 23 = .ok (.putfield 18, 3) := by decide +kernel
theorem dX0_init_26 : decode cX0_init 26 = .ok (.aload_n 0, 1) := by decide +kernel
theorem dX0_init_27 : decode cX0_init 27 = .ok (.iconst 0, 1) := by decide +kernel
theorem dX0_init_28 : decode cX0_init 28 = .ok (.putfield 22, 3) := by decide +kernel
theorem dX0_init_31 : decode cX0_init 31 = .ok (.aload_n 0, 1) := by decide +kernel
theorem dX0_init_32 : decode cX0_init 32 = .ok (.getfield 15, 3) := by decide +kernel
theorem dX0_init_35 : decode cX0_init 35 = .ok (.iconst 0, 1) := by decide +kernel
theorem dX0_init_36 : decode cX0_init 36 = .ok (.bipush 6, 2) := by decide +kernel
theorem dX0_init_38 : decode cX0_init 38 = .ok (.iastore, 1) := by decide +kernel
theorem dX0_init_39 : decode cX0_init 39 = .ok (.return_, 1) := by decide +kernel
theorem dX0_becomeLike_0 : decode cX0_becomeLike 0 = .ok (.aload_n 1, 1) := by decide +kernel
theorem dX0_becomeLike_1 : decode cX0_becomeLike 1 = .ok (.getfield 9, 3) := by decide +kernel
theorem dX0_becomeLike_4 : decode cX0_becomeLike 4 = .ok (.iconst 0, 1) := by decide +kernel
theorem dX0_becomeLike_5 : decode cX0_becomeLike 5 = .ok (.aload_n 0, 1) := by decide +kernel
theorem dX0_becomeLike_6 : decode cX0_becomeLike 6 = .ok (.getfield 9, 3) := by decide +kernel
theorem dX0_becomeLike_9 : decode cX0_becomeLike 9 = .ok (.iconst 0, 1) := by decide +kernel
theorem dX0_becomeLike_10 : decode cX0_becomeLike 10 = .ok (.aload_n 0, 1) := by decide +kernel
theorem dX0_becomeLike_11 : decode cX0_becomeLike 11 = .ok (.getfield 9, 3) := by decide +kernel
theorem dX0_becomeLike_14 : decode cX0_becomeLike 14 = .ok (.arraylength, 1) := by decide +kernel
theorem dX0_becomeLike_15 : decode cX0_becomeLike 15 = .ok (.invokestatic 25, 3) := by decide +kernel
theorem dX0_becomeLike_18 : decode cX0_becomeLike 18 = .ok (.aload_n 1, 1) := by decide +kernel
theorem dX0_becomeLike_19 : decode cX0_becomeLike 19 = .ok (.getfield 15, 3) := by decide +kernel
theorem dX0_becomeLike_22 : decode cX0_becomeLike 22 = .ok (.iconst 0, 1) := by decide +kernel
theorem dX0_becomeLike_23 : decode cX0_becomeLike 23 = .ok (.aload_n 0, 1) := by decide +kernel
theorem dX0_becomeLike_24 : decode cX0_becomeLike 24 = .ok (.getfield 15, 3) := by decide +kernel
theorem dX0_becomeLike_27 : decode cX0_becomeLike 27 = .ok (.iconst 0, 1) := by decide +kernel
theorem dX0_becomeLike_28 : decode cX0_becomeLike 28 = .ok (.aload_n 0, 1) := by decide +kernel
theorem dX0_becomeLike_29 : decode cX0_becomeLike 29 = .ok (.getfield 15, 3) := by decide +kernel
theorem dX0_becomeLike_32 : decode cX0_becomeLike 32 = .ok (.arraylength, 1) := by decide +kernel
theorem dX0_becomeLike_33 : decode cX0_becomeLike 33 = .ok (.invokestatic 25, 3) := by decide +kernel
theorem dX0_becomeLike_36 : decode cX0_becomeLike 36 = .ok (.aload_n 0, 1) := by decide +kernel
theorem dX0_becomeLike_37 : decode cX0_becomeLike 37 = .ok (.aload_n 1, 1) := by decide +kernel
theorem dX0_becomeLike_38 : decode cX0_becomeLike 38 = .ok (.getfield 18, 3) := by decide +kernel
theorem dX0_becomeLike_41 : decode cX0_becomeLike 41 = .ok (.putfield 18, 3) := by decide +kernel
theorem dX0_becomeLike_44 : decode cX0_becomeLike 44 = .ok (.aload_n 0, 1) := by decide +kernel
theorem dX0_becomeLike_45 : decode cX0_becomeLike 45 = .ok (.aload_n 1, 1) := by decide +kernel
theorem dX0_becomeLike_46 : decode cX0_becomeLike 46 = .ok (.getfield 22, 3) := by decide +kernel
theorem dX0_becomeLike_49 : decode cX0_becomeLike 49 = .ok (.putfield 22, 3) := by decide +kernel
theorem dX0_becomeLike_52 : decode cX0_becomeLike 52 = .ok (.return_, 1) := by decide +kernel
set_option maxRecDepth 20000 in
theorem ggX0_usesOf_X5_isIndex : GoodIn wsX0_usesOf wsX5_isIndex := goodIn_r _ [4] (by decide +kernel) (by decide +kernel)
set_option maxRecDepth 20000 in
theorem gX0_usesOf_X5_isIndex_n31 : GoodIn wsX0_usesOf (wsX5_isIndex) := ggX0_usesOf_X5_isIndex
theorem dX0_usesOf_0 : decode cX0_usesOf 0 = .ok (.iload_n 1, 1) := by decide +kernel
theorem dX0_usesOf_1 : decode cX0_usesOf 1 = .ok (.bipush 40, 2) := by decide +kernel
theorem dX0_usesOf_3 : decode cX0_usesOf 3 = .ok (.invokestatic 31, 3) := by decide +kernel
theorem dX0_usesOf_6 : decode cX0_usesOf 6 = .ok (.ifCond .eq 12, 3) := by decide +kernel
theorem dX0_usesOf_9 : decode cX0_usesOf 9 = .ok (.aload_n 0, 1) := by decide +kernel
theorem dX0_usesOf_10 : decode cX0_usesOf 10 = .ok (.getfield 15, 3) := by decide +kernel
theorem dX0_usesOf_13 : decode cX0_usesOf 13 = .ok (.iload_n 1, 1) := by decide +kernel
theorem dX0_usesOf_14 : decode cX0_usesOf 14 = .ok (.iaload, 1) := by decide +kernel
theorem dX0_usesOf_15 : decode cX0_usesOf 15 = .ok (.goto 4, 3) := by decide +kernel
theorem dX0_usesOf_18 : decode cX0_usesOf 18 = .ok (.iconst 0, 1) := by decide +kernel
theorem dX0_usesOf_19 : decode cX0_usesOf 19 = .ok (.ireturn, 1) := by decide +kernel
set_option maxRecDepth 20000 in
theorem ggX0_addUses_X5_isIndex : GoodIn wsX0_addUses wsX5_isIndex := goodIn_r _ [4] (by decide +kernel) (by decide +kernel)
set_option maxRecDepth 20000 in
theorem gX0_addUses_X5_isIndex_n31 : GoodIn wsX0_addUses (wsX5_isIndex) := ggX0_addUses_X5_isIndex
theorem dX0_addUses_0 : decode cX0_addUses 0 = .ok (.iload_n 1, 1) := by decide +kernel
theorem dX0_addUses_1 : decode cX0_addUses 1 = .ok (.bipush 40, 2) := by decide +kernel
theorem dX0_addUses_3 : decode cX0_addUses 3 = .ok (.invokestatic 31, 3) := by decide +kernel
theorem dX0_addUses_6 : decode cX0_addUses 6 = .ok (.ifCond .eq 13, 3) := by decide +kernel
theorem dX0_addUses_9 : decode cX0_addUses 9 = .ok (.aload_n 0, 1) := by decide +kernel
theorem dX0_addUses_10 : decode cX0_addUses 10 = .ok (.getfield 15, 3) := by decide +kernel
theorem dX0_addUses_13 : decode cX0_addUses 13 = .ok (.iload_n 1, 1) := by decide +kernel
theorem dX0_addUses_14 : decode cX0_addUses 14 = .ok (.dup2, 1) := by decide +kernel
theorem dX0_addUses_15 : decode cX0_addUses 15 = .ok (.iaload, 1) := by decide +kernel
theorem dX0_addUses_16 : decode cX0_addUses 16 = .ok (.iload_n 2, 1) := by decide +kernel
theorem dX0_addUses_17 : decode cX0_addUses 17 = .ok (.iadd, 1) := by decide +kernel
theorem dX0_addUses_18 : decode cX0_addUses 18 = .ok (.iastore, 1) := by decide +kernel
theorem dX0_addUses_19 : decode cX0_addUses 19 = .ok (.return_, 1) := by decide +kernel
theorem dX0_isThere_0 : decode cX0_isThere 0 = .ok (.iload_n 1, 1) := by decide +kernel
theorem dX0_isThere_1 : decode cX0_isThere 1 = .ok (.ifCond .lt 22, 3) := by decide +kernel
theorem dX0_isThere_4 : decode cX0_isThere 4 = .ok (.iload_n 1, 1) := by decide +kernel
theorem dX0_isThere_5 : decode cX0_isThere 5 = .ok (.bipush 40, 2) := by decide +kernel
theorem dX0_isThere_7 : decode cX0_isThere 7 = .ok (.if_icmp .ge 16, 3) := by decide +kernel
theorem dX0_isThere_10 : decode cX0_isThere 10 = .ok (.aload_n 0, 1) := by decide +kernel
theorem dX0_isThere_11 : decode cX0_isThere 11 = .ok (.getfield 15, 3) := by decide +kernel
theorem dX0_isThere_14 : decode cX0_isThere 14 = .ok (.iload_n 1, 1) := by decide +kernel
theorem dX0_isThere_15 : decode cX0_isThere 15 = .ok (.iaload, 1) := by decide +kernel
theorem dX0_isThere_16 : decode cX0_isThere 16 = .ok (.ifCond .le 7, 3) := by decide +kernel
theorem dX0_isThere_19 : decode cX0_isThere 19 = .ok (.iconst 1, 1) := by decide +kernel
theorem dX0_isThere_20 : decode cX0_isThere 20 = .ok (.goto 4, 3) := by decide +kernel
theorem dX0_isThere_23 : decode cX0_isThere 23 = .ok (.iconst 0, 1) := by decide +kernel
theorem dX0_isThere_24 : decode cX0_isThere 24 = .ok (.ireturn, 1) := by decide +kernel
theorem dX0_cellOf_0 : decode cX0_cellOf 0 = .ok (.iload_n 1, 1) := by decide +kernel
theorem dX0_cellOf_1 : decode cX0_cellOf 1 = .ok (.bipush 8, 2) := by decide +kernel
theorem dX0_cellOf_3 : decode cX0_cellOf 3 = .ok (.imul, 1) := by decide +kernel
theorem dX0_cellOf_4 : decode cX0_cellOf 4 = .ok (.iload_n 2, 1) := by decide +kernel
theorem dX0_cellOf_5 : decode cX0_cellOf 5 = .ok (.iadd, 1) := by decide +kernel
theorem dX0_cellOf_6 : decode cX0_cellOf 6 = .ok (.istore_n 3, 1) := by decide +kernel
theorem dX0_cellOf_7 : decode cX0_cellOf 7 = .ok (.iload_n 3, 1) := by decide +kernel
theorem dX0_cellOf_8 : decode cX0_cellOf 8 = .ok (.ifCond .lt 21, 3) := by decide +kernel
theorem dX0_cellOf_11 : decode cX0_cellOf 11 = .ok (.iload_n 3, 1) := by decide +kernel
theorem dX0_cellOf_12 : decode cX0_cellOf 12 = .ok (.aload_n 0, 1) := by decide +kernel
theorem dX0_cellOf_13 : decode cX0_cellOf 13 = .ok (.getfield 9, 3) := by decide +kernel
theorem dX0_cellOf_16 : decode cX0_cellOf 16 = .ok (.arraylength, 1) := by decide +kernel
theorem dX0_cellOf_17 : decode cX0_cellOf 17 = .ok (.if_icmp .ge 12, 3) := by decide +kernel
theorem dX0_cellOf_20 : decode cX0_cellOf 20 = .ok (.aload_n 0, 1) := by decide +kernel
theorem dX0_cellOf_21 : decode cX0_cellOf 21 = .ok (.getfield 9, 3) := by decide +kernel
theorem dX0_cellOf_24 : decode cX0_cellOf 24 = .ok (.iload_n 3, 1) := by decide +kernel
theorem dX0_cellOf_25 : decode cX0_cellOf 25 = .ok (.iaload, 1) := by decide +kernel
theorem dX0_cellOf_26 : decode cX0_cellOf 26 = .ok (.goto 4, 3) := by decide +kernel
theorem dX0_cellOf_29 : decode cX0_cellOf 29 = .ok (.iconst 0, 1) := by decide +kernel
theorem dX0_cellOf_30 : decode cX0_cellOf 30 = .ok (.ireturn, 1) := by decide +kernel
set_option maxRecDepth 20000 in
theorem ggX0_there_X0_isThere : GoodIn wsX0_there wsX0_isThere := goodIn_r _ [5, 6, 7, 8, 9, 10] (by decide +kernel) (by decide +kernel)
set_option maxRecDepth 20000 in
theorem gX0_there_X0_isThere : GoodIn wsX0_there (wsV RX0 35 RX0 yX0_isThere wsX0_isThere) := goodIn_app (goodIn_of _ (by decide +kernel)) ggX0_there_X0_isThere
theorem dX0_there_0 : decode cX0_there 0 = .ok (.iconst 0, 1) := by decide +kernel
theorem dX0_there_1 : decode cX0_there 1 = .ok (.istore_n 1, 1) := by decide +kernel
theorem dX0_there_2 : decode cX0_there 2 = .ok (.iconst 0, 1) := by decide +kernel
theorem dX0_there_3 : decode cX0_there 3 = .ok (.istore_n 2, 1) := by decide +kernel
theorem dX0_there_4 : decode cX0_there 4 = .ok (.iload_n 2, 1) := by decide +kernel
theorem dX0_there_5 : decode cX0_there 5 = .ok (.bipush 40, 2) := by decide +kernel
theorem dX0_there_7 : decode cX0_there 7 = .ok (.if_icmp .ge 25, 3) := by decide +kernel
theorem dX0_there_10 : decode cX0_there 10 = .ok (.iload_n 1, 1) := by decide +kernel
theorem dX0_there_11 : decode cX0_there 11 = .ok (.aload_n 0, 1) := by decide +kernel
theorem dX0_there_12 : decode cX0_there 12 = .ok (.iload_n 2, 1) := by decide +kernel
theorem dX0_there_13 : decode cX0_there 13 = .ok (.invokevirtual 35, 3) := by decide +kernel
theorem dX0_there_16 : decode cX0_there 16 = .ok (.ifCond .eq 7, 3) := by decide +kernel
theorem dX0_there_19 : decode cX0_there 19 = .ok (.iconst 1, 1) := by decide +kernel
theorem dX0_there_20 : decode cX0_there 20 = .ok (.goto 4, 3) := by decide +kernel
theorem dX0_there_23 : decode cX0_there 23 = .ok (.iconst 0, 1) := by decide +kernel
theorem dX0_there_24 : decode cX0_there 24 = .ok (.iadd, 1) := by decide +kernel
theorem dX0_there_25 : decode cX0_there 25 = .ok (.istore_n 1, 1) := by decide +kernel
theorem dX0_there_26 : decode cX0_there 26 = .ok (.iinc 2 1, 3) := by decide +kernel
theorem dX0_there_29 : decode cX0_there 29 = .ok (.goto (-25), 3) := by decide +kernel
theorem dX0_there_32 : decode cX0_there 32 = .ok (.iload_n 1, 1) := by decide +kernel
theorem dX0_there_33 : decode cX0_there 33 = .ok (.ireturn, 1) := by decide +kernel
theorem dX0_holds_0 : decode cX0_holds 0 = .ok (.iload_n 1, 1) := by decide +kernel
theorem dX0_holds_1 : decode cX0_holds 1 = .ok (.ifCond .lt 18, 3) := by decide +kernel
theorem dX0_holds_4 : decode cX0_holds 4 = .ok (.iload_n 1, 1) := by decide +kernel
theorem dX0_holds_5 : decode cX0_holds 5 = .ok (.bipush 40, 2) := by decide +kernel
theorem dX0_holds_7 : decode cX0_holds 7 = .ok (.if_icmp .ge 12, 3) := by decide +kernel
theorem dX0_holds_10 : decode cX0_holds 10 = .ok (.aload_n 0, 1) := by decide +kernel
theorem dX0_holds_11 : decode cX0_holds 11 = .ok (.getfield 15, 3) := by decide +kernel
theorem dX0_holds_14 : decode cX0_holds 14 = .ok (.iload_n 1, 1) := by decide +kernel
theorem dX0_holds_15 : decode cX0_holds 15 = .ok (.iaload, 1) := by decide +kernel
theorem dX0_holds_16 : decode cX0_holds 16 = .ok (.ifCond .ne 5, 3) := by decide +kernel
theorem dX0_holds_19 : decode cX0_holds 19 = .ok (.iconst 0, 1) := by decide +kernel
theorem dX0_holds_20 : decode cX0_holds 20 = .ok (.ireturn, 1) := by decide +kernel
theorem dX0_holds_21 : decode cX0_holds 21 = .ok (.iload_n 3, 1) := by decide +kernel
theorem dX0_holds_22 : decode cX0_holds 22 = .ok (.ifCond .lt 12, 3) := by decide +kernel
theorem dX0_holds_25 : decode cX0_holds 25 = .ok (.iload_n 3, 1) := by decide +kernel
theorem dX0_holds_26 : decode cX0_holds 26 = .ok (.aload_n 2, 1) := by decide +kernel
theorem dX0_holds_27 : decode cX0_holds 27 = .ok (.arraylength, 1) := by decide +kernel
theorem dX0_holds_28 : decode cX0_holds 28 = .ok (.bipush 8, 2) := by decide +kernel
theorem dX0_holds_30 : decode cX0_holds 30 = .ok (.isub, 1) := by decide +kernel
theorem dX0_holds_31 : decode cX0_holds 31 = .ok (.if_icmp .le 5, 3) := by decide +kernel
theorem dX0_holds_34 : decode cX0_holds 34 = .ok (.iconst 0, 1) := by decide +kernel
theorem dX0_holds_35 : decode cX0_holds 35 = .ok (.ireturn, 1) := by decide +kernel
theorem dX0_holds_36 : decode cX0_holds 36 = .ok (.iconst 0, 1) := by decide +kernel
theorem dX0_holds_37 : decode cX0_holds 37 = .ok (.istore 4, 2) := by decide +kernel
theorem dX0_holds_39 : decode cX0_holds 39 = .ok (.iload 4, 2) := by decide +kernel
theorem dX0_holds_41 : decode cX0_holds 41 = .ok (.bipush 8, 2) := by decide +kernel
theorem dX0_holds_43 : decode cX0_holds 43 = .ok (.if_icmp .ge 32, 3) := by decide +kernel
theorem dX0_holds_46 : decode cX0_holds 46 = .ok (.aload_n 0, 1) := by decide +kernel
theorem dX0_holds_47 : decode cX0_holds 47 = .ok (.getfield 9, 3) := by decide +kernel
theorem dX0_holds_50 : decode cX0_holds 50 = .ok (.iload_n 1, 1) := by decide +kernel
theorem dX0_holds_51 : decode cX0_holds 51 = .ok (.bipush 8, 2) := by decide +kernel
theorem dX0_holds_53 : decode cX0_holds 53 = .ok (.imul, 1) := by decide +kernel
theorem dX0_holds_54 : decode cX0_holds 54 = .ok (.iload 4, 2) := by decide +kernel
theorem dX0_holds_56 : decode cX0_holds 56 = .ok (.iadd, 1) := by decide +kernel
theorem dX0_holds_57 : decode cX0_holds 57 = .ok (.iaload, 1) := by decide +kernel
theorem dX0_holds_58 : decode cX0_holds 58 = .ok (.aload_n 2, 1) := by decide +kernel
theorem dX0_holds_59 : decode cX0_holds 59 = .ok (.iload_n 3, 1) := by decide +kernel
theorem dX0_holds_60 : decode cX0_holds 60 = .ok (.iload 4, 2) := by decide +kernel
theorem dX0_holds_62 : decode cX0_holds 62 = .ok (.iadd, 1) := by decide +kernel
theorem dX0_holds_63 : decode cX0_holds 63 = .ok (.iaload, 1) := by decide +kernel
theorem dX0_holds_64 : decode cX0_holds 64 = .ok (.if_icmp .eq 5, 3) := by decide +kernel
theorem dX0_holds_67 : decode cX0_holds 67 = .ok (.iconst 0, 1) := by decide +kernel
theorem dX0_holds_68 : decode cX0_holds 68 = .ok (.ireturn, 1) := by decide +kernel
theorem dX0_holds_69 : decode cX0_holds 69 = .ok (.iinc 4 1, 3) := by decide +kernel
theorem dX0_holds_72 : decode cX0_holds 72 = .ok (.goto (-33), 3) := by decide +kernel
theorem dX0_holds_75 : decode cX0_holds 75 = .ok (.iconst 1, 1) := by decide +kernel
theorem dX0_holds_76 : decode cX0_holds 76 = .ok (.ireturn, 1) := by decide +kernel
set_option maxRecDepth 20000 in
theorem ggX0_lowestHolding_X0_holds : GoodIn wsX0_lowestHolding wsX0_holds := goodIn_r _ [5, 6, 7, 8, 9, 10, 11] (by decide +kernel) (by decide +kernel)
set_option maxRecDepth 20000 in
theorem gX0_lowestHolding_X0_holds : GoodIn wsX0_lowestHolding (wsV RX0 39 RX0 yX0_holds wsX0_holds) := goodIn_app (goodIn_of _ (by decide +kernel)) ggX0_lowestHolding_X0_holds
theorem dX0_lowestHolding_0 : decode cX0_lowestHolding 0 = .ok (.iconst 0, 1) := by decide +kernel
theorem dX0_lowestHolding_1 : decode cX0_lowestHolding 1 = .ok (.istore_n 3, 1) := by decide +kernel
theorem dX0_lowestHolding_2 : decode cX0_lowestHolding 2 = .ok (.iload_n 3, 1) := by decide +kernel
theorem dX0_lowestHolding_3 : decode cX0_lowestHolding 3 = .ok (.bipush 40, 2) := by decide +kernel
theorem dX0_lowestHolding_5 : decode cX0_lowestHolding 5 = .ok (.if_icmp .ge 21, 3) := by decide +kernel
theorem dX0_lowestHolding_8 : decode cX0_lowestHolding 8 = .ok (.aload_n 0, 1) := by decide +kernel
theorem dX0_lowestHolding_9 : decode cX0_lowestHolding 9 = .ok (.iload_n 3, 1) := by decide +kernel
theorem dX0_lowestHolding_10 : decode cX0_lowestHolding 10 = .ok (.aload_n 1, 1) := by decide +kernel
theorem dX0_lowestHolding_11 : decode cX0_lowestHolding 11 = .ok (.iload_n 2, 1) := by decide +kernel
theorem dX0_lowestHolding_12 : decode cX0_lowestHolding 12 = .ok (.invokevirtual 39, 3) := by decide +kernel
theorem dX0_lowestHolding_15 : decode cX0_lowestHolding 15 = .ok (.ifCond .eq 5, 3) := by decide +kernel
theorem dX0_lowestHolding_18 : decode cX0_lowestHolding 18 = .ok (.iload_n 3, 1) := by decide +kernel
theorem dX0_lowestHolding_19 : decode cX0_lowestHolding 19 = .ok (.ireturn, 1) := by decide +kernel
theorem dX0_lowestHolding_20 : decode cX0_lowestHolding 20 = .ok (.iinc 3 1, 3) := by decide +kernel
theorem dX0_lowestHolding_23 : decode cX0_lowestHolding 23 = .ok (.goto (-21), 3) := by decide +kernel
theorem dX0_lowestHolding_26 : decode cX0_lowestHolding 26 = .ok (.iconst (-1), 1) := by decide +kernel
theorem dX0_lowestHolding_27 : decode cX0_lowestHolding 27 = .ok (.ireturn, 1) := by decide +kernel
set_option maxRecDepth 20000 in
theorem ggX0_lowestOtherLike_X0_holds : GoodIn wsX0_lowestOtherLike wsX0_holds := goodIn_r _ [6, 7, 1, 8, 9, 10, 11] (by decide +kernel) (by decide +kernel)
set_option maxRecDepth 20000 in
theorem gX0_lowestOtherLike_X0_holds : GoodIn wsX0_lowestOtherLike (wsV RX0 39 RX0 yX0_holds wsX0_holds) := goodIn_app (goodIn_of _ (by decide +kernel)) ggX0_lowestOtherLike_X0_holds
theorem dX0_lowestOtherLike_0 : decode cX0_lowestOtherLike 0 = .ok (.iconst 0, 1) := by decide +kernel
theorem dX0_lowestOtherLike_1 : decode cX0_lowestOtherLike 1 = .ok (.istore_n 2, 1) := by decide +kernel
theorem dX0_lowestOtherLike_2 : decode cX0_lowestOtherLike 2 = .ok (.iload_n 2, 1) := by decide +kernel
theorem dX0_lowestOtherLike_3 : decode cX0_lowestOtherLike 3 = .ok (.bipush 40, 2) := by decide +kernel
theorem dX0_lowestOtherLike_5 : decode cX0_lowestOtherLike 5 = .ok (.if_icmp .ge 32, 3) := by decide +kernel
theorem dX0_lowestOtherLike_8 : decode cX0_lowestOtherLike 8 = .ok (.iload_n 2, 1) := by decide +kernel
theorem dX0_lowestOtherLike_9 : decode cX0_lowestOtherLike 9 = .ok (.iload_n 1, 1) := by decide +kernel
theorem dX0_lowestOtherLike_10 : decode cX0_lowestOtherLike 10 = .ok (.if_icmp .eq 21, 3) := by decide +kernel
theorem dX0_lowestOtherLike_13 : decode cX0_lowestOtherLike 13 = .ok (.aload_n 0, 1) := by decide +kernel
theorem dX0_lowestOtherLike_14 : decode cX0_lowestOtherLike 14 = .ok (.iload_n 2, 1) := by decide +kernel
theorem dX0_lowestOtherLike_15 : decode cX0_lowestOtherLike 15 = .ok (.aload_n 0, 1) := by decide +kernel
theorem dX0_lowestOtherLike_16 : decode cX0_lowestOtherLike 16 = .ok (.getfield 9, 3) := by decide +kernel
theorem dX0_lowestOtherLike_19 : decode cX0_lowestOtherLike 19 = .ok (.iload_n 1, 1) := by decide +kernel
theorem dX0_lowestOtherLike_20 : decode cX0_lowestOtherLike 20 = .ok (.bipush 8, 2) := by decide +kernel
theorem dX0_lowestOtherLike_22 : decode cX0_lowestOtherLike 22 = .ok (.imul, 1) := by decide +kernel
theorem dX0_lowestOtherLike_23 : decode cX0_lowestOtherLike 23 = .ok (.invokevirtual 39, 3) := by decide +kernel
theorem dX0_lowestOtherLike_26 : decode cX0_lowestOtherLike 26 = .ok (.ifCond .eq 5, 3) := by decide +kernel
theorem dX0_lowestOtherLike_29 : decode cX0_lowestOtherLike 29 = .ok (.iload_n 2, 1) := by decide +kernel
theorem dX0_lowestOtherLike_30 : decode cX0_lowestOtherLike 30 = .ok (.ireturn, 1) := by decide +kernel
theorem dX0_lowestOtherLike_31 : decode cX0_lowestOtherLike 31 = .ok (.iinc 2 1, 3) := by decide +kernel
theorem dX0_lowestOtherLike_34 : decode cX0_lowestOtherLike 34 = .ok (.goto (-32), 3) := by decide +kernel
theorem dX0_lowestOtherLike_37 : decode cX0_lowestOtherLike 37 = .ok (.iconst (-1), 1) := by decide +kernel
theorem dX0_lowestOtherLike_38 : decode cX0_lowestOtherLike 38 = .ok (.ireturn, 1) := by decide +kernel
theorem dX0_make_0 : decode cX0_make 0 = .ok (.iload_n 2, 1) := by decide +kernel
theorem dX0_make_1 : decode cX0_make 1 = .ok (.ifCond .lt 12, 3) := by decide +kernel
theorem dX0_make_4 : decode cX0_make 4 = .ok (.iload_n 2, 1) := by decide +kernel
theorem dX0_make_5 : decode cX0_make 5 = .ok (.aload_n 1, 1) := by decide +kernel
theorem dX0_make_6 : decode cX0_make 6 = .ok (.arraylength, 1) := by decide +kernel
theorem dX0_make_7 : decode cX0_make 7 = .ok (.bipush 8, 2) := by decide +kernel
theorem dX0_make_9 : decode cX0_make 9 = .ok (.isub, 1) := by decide +kernel
theorem dX0_make_10 : decode cX0_make 10 = .ok (.if_icmp .le 5, 3) := by decide +kernel
theorem dX0_make_13 : decode cX0_make 13 = .ok (.iconst (-1), 1) := by decide +kernel
theorem dX0_make_14 : decode cX0_make 14 = .ok (.ireturn, 1) := by decide +kernel
theorem dX0_make_15 : decode cX0_make 15 = .ok (.iconst 0, 1) := by decide +kernel
theorem dX0_make_16 : decode cX0_make 16 = .ok (.istore_n 3, 1) := by decide +kernel
theorem dX0_make_17 : decode cX0_make 17 = .ok (.iload_n 3, 1) := by decide +kernel
theorem dX0_make_18 : decode cX0_make 18 = .ok (.bipush 40, 2) := by decide +kernel
theorem dX0_make_20 : decode cX0_make 20 = .ok (.if_icmp .ge 45, 3) := by decide +kernel
theorem dX0_make_23 : decode cX0_make 23 = .ok (.aload_n 0, 1) := by decide +kernel
theorem dX0_make_24 : decode cX0_make 24 = .ok (.getfield 15, 3) := by decide +kernel
theorem dX0_make_27 : decode cX0_make 27 = .ok (.iload_n 3, 1) := by decide +kernel
theorem dX0_make_28 : decode cX0_make 28 = .ok (.iaload, 1) := by decide +kernel
theorem dX0_make_29 : decode cX0_make 29 = .ok (.ifCond .ne 30, 3) := by decide +kernel
theorem dX0_make_32 : decode cX0_make 32 = .ok (.aload_n 1, 1) := by decide +kernel
theorem dX0_make_33 : decode cX0_make 33 = .ok (.iload_n 2, 1) := by decide +kernel
theorem dX0_make_34 : decode cX0_make 34 = .ok (.aload_n 0, 1) := by decide +kernel
theorem dX0_make_35 : decode cX0_make 35 = .ok (.getfield 9, 3) := by decide +kernel
theorem dX0_make_38 : decode cX0_make 38 = .ok (.iload_n 3, 1) := by decide +kernel
theorem dX0_make_39 : decode cX0_make 39 = .ok (.bipush 8, 2) := by decide +kernel
theorem dX0_make_41 : decode cX0_make 41 = .ok (.imul, 1) := by decide +kernel
theorem dX0_make_42 : decode cX0_make 42 = .ok (.bipush 8, 2) := by decide +kernel
theorem dX0_make_44 : decode cX0_make 44 = .ok (.invokestatic 25, 3) := by decide +kernel
theorem dX0_make_47 : decode cX0_make 47 = .ok (.aload_n 0, 1) := by decide +kernel
theorem dX0_make_48 : decode cX0_make 48 = .ok (.dup, 1) := by decide +kernel
theorem dX0_make_49 : decode cX0_make 49 = .ok (.getfield 18, 3) := by decide +kernel
theorem dX0_make_52 : decode cX0_make 52 = .ok (.iconst 1, 1) := by decide +kernel
theorem dX0_make_53 : decode cX0_make 53 = .ok (.iadd, 1) := by decide +kernel
theorem dX0_make_54 : decode cX0_make 54 = .ok (.putfield 18, 3) := by decide +kernel
theorem dX0_make_57 : decode cX0_make 57 = .ok (.iload_n 3, 1) := by decide +kernel
theorem dX0_make_58 : decode cX0_make 58 = .ok (.ireturn, 1) := by decide +kernel
theorem dX0_make_59 : decode cX0_make 59 = .ok (.iinc 3 1, 3) := by decide +kernel
theorem dX0_make_62 : decode cX0_make 62 = .ok (.goto (-45), 3) := by decide +kernel
theorem dX0_make_65 : decode cX0_make 65 = .ok (.iconst (-1), 1) := by decide +kernel
theorem dX0_make_66 : decode cX0_make 66 = .ok (.ireturn, 1) := by decide +kernel
set_option maxRecDepth 20000 in
theorem ggX0_sumOf_X0_cellOf : GoodIn wsX0_sumOf wsX0_cellOf := goodIn_r _ [5, 6, 7, 8, 9, 10] (by decide +kernel) (by decide +kernel)
set_option maxRecDepth 20000 in
theorem gX0_sumOf_X0_cellOf : GoodIn wsX0_sumOf (wsV RX0 43 RX0 yX0_cellOf wsX0_cellOf) := goodIn_app (goodIn_of _ (by decide +kernel)) ggX0_sumOf_X0_cellOf
theorem dX0_sumOf_0 : decode cX0_sumOf 0 = .ok (.iconst 0, 1) := by decide +kernel
theorem dX0_sumOf_1 : decode cX0_sumOf 1 = .ok (.istore_n 2, 1) := by decide +kernel
theorem dX0_sumOf_2 : decode cX0_sumOf 2 = .ok (.iconst 0, 1) := by decide +kernel
theorem dX0_sumOf_3 : decode cX0_sumOf 3 = .ok (.istore_n 3, 1) := by decide +kernel
theorem dX0_sumOf_4 : decode cX0_sumOf 4 = .ok (.iload_n 3, 1) := by decide +kernel
theorem dX0_sumOf_5 : decode cX0_sumOf 5 = .ok (.bipush 8, 2) := by decide +kernel
theorem dX0_sumOf_7 : decode cX0_sumOf 7 = .ok (.if_icmp .ge 18, 3) := by decide +kernel
theorem dX0_sumOf_10 : decode cX0_sumOf 10 = .ok (.iload_n 2, 1) := by decide +kernel
theorem dX0_sumOf_11 : decode cX0_sumOf 11 = .ok (.aload_n 0, 1) := by decide +kernel
theorem dX0_sumOf_12 : decode cX0_sumOf 12 = .ok (.iload_n 1, 1) := by decide +kernel
theorem dX0_sumOf_13 : decode cX0_sumOf 13 = .ok (.iload_n 3, 1) := by decide +kernel
theorem dX0_sumOf_14 : decode cX0_sumOf 14 = .ok (.invokevirtual 43, 3) := by decide +kernel
theorem dX0_sumOf_17 : decode cX0_sumOf 17 = .ok (.iadd, 1) := by decide +kernel
theorem dX0_sumOf_18 : decode cX0_sumOf 18 = .ok (.istore_n 2, 1) := by decide +kernel
theorem dX0_sumOf_19 : decode cX0_sumOf 19 = .ok (.iinc 3 1, 3) := by decide +kernel
theorem dX0_sumOf_22 : decode cX0_sumOf 22 = .ok (.goto (-18), 3) := by decide +kernel
theorem dX0_sumOf_25 : decode cX0_sumOf 25 = .ok (.iload_n 2, 1) := by decide +kernel
theorem dX0_sumOf_26 : decode cX0_sumOf 26 = .ok (.ireturn, 1) := by decide +kernel
set_option maxRecDepth 20000 in
theorem ggX0_nonZeroCells_X0_cellOf : GoodIn wsX0_nonZeroCells wsX0_cellOf := goodIn_r _ [5, 6, 7, 8, 9, 10] (by decide +kernel) (by decide +kernel)
set_option maxRecDepth 20000 in
theorem gX0_nonZeroCells_X0_cellOf : GoodIn wsX0_nonZeroCells (wsV RX0 43 RX0 yX0_cellOf wsX0_cellOf) := goodIn_app (goodIn_of _ (by decide +kernel)) ggX0_nonZeroCells_X0_cellOf
theorem dX0_nonZeroCells_0 : decode cX0_nonZeroCells 0 = .ok (.iconst 0, 1) := by decide +kernel
theorem dX0_nonZeroCells_1 : decode cX0_nonZeroCells 1 = .ok (.istore_n 2, 1) := by decide +kernel
theorem dX0_nonZeroCells_2 : decode cX0_nonZeroCells 2 = .ok (.iconst 0, 1) := by decide +kernel
theorem dX0_nonZeroCells_3 : decode cX0_nonZeroCells 3 = .ok (.istore_n 3, 1) := by decide +kernel
theorem dX0_nonZeroCells_4 : decode cX0_nonZeroCells 4 = .ok (.iload_n 3, 1) := by decide +kernel
theorem dX0_nonZeroCells_5 : decode cX0_nonZeroCells 5 = .ok (.bipush 8, 2) := by decide +kernel
theorem dX0_nonZeroCells_7 : decode cX0_nonZeroCells 7 = .ok (.if_icmp .ge 24, 3) := by decide +kernel
theorem dX0_nonZeroCells_10 : decode cX0_nonZeroCells 10 = .ok (.aload_n 0, 1) := by decide +kernel
theorem dX0_nonZeroCells_11 : decode cX0_nonZeroCells 11 = .ok (.iload_n 1, 1) := by decide +kernel
theorem dX0_nonZeroCells_12 : decode cX0_nonZeroCells 12 = .ok (.iload_n 3, 1) := by decide +kernel
theorem dX0_nonZeroCells_13 : decode cX0_nonZeroCells 13 = .ok (.invokevirtual 43, 3) := by decide +kernel
theorem dX0_nonZeroCells_16 : decode cX0_nonZeroCells 16 = .ok (.ifCond .eq 9, 3) := by decide +kernel
theorem dX0_nonZeroCells_19 : decode cX0_nonZeroCells 19 = .ok (.iload_n 2, 1) := by decide +kernel
theorem dX0_nonZeroCells_20 : decode cX0_nonZeroCells 20 = .ok (.iconst 1, 1) := by decide +kernel
theorem dX0_nonZeroCells_21 : decode cX0_nonZeroCells 21 = .ok (.iload_n 3, 1) := by decide +kernel
theorem dX0_nonZeroCells_22 : decode cX0_nonZeroCells 22 = .ok (.ishl, 1) := by decide +kernel
theorem dX0_nonZeroCells_23 : decode cX0_nonZeroCells 23 = .ok (.ior, 1) := by decide +kernel
theorem dX0_nonZeroCells_24 : decode cX0_nonZeroCells 24 = .ok (.istore_n 2, 1) := by decide +kernel
theorem dX0_nonZeroCells_25 : decode cX0_nonZeroCells 25 = .ok (.iinc 3 1, 3) := by decide +kernel
theorem dX0_nonZeroCells_28 : decode cX0_nonZeroCells 28 = .ok (.goto (-24), 3) := by decide +kernel
theorem dX0_nonZeroCells_31 : decode cX0_nonZeroCells 31 = .ok (.iload_n 2, 1) := by decide +kernel
theorem dX0_nonZeroCells_32 : decode cX0_nonZeroCells 32 = .ok (.ireturn, 1) := by decide +kernel
set_option maxRecDepth 20000 in
theorem ggX0_doubles_X0_isThere : GoodIn wsX0_doubles wsX0_isThere := goodIn_r _ [6, 7, 16, 17, 18, 19] (by decide +kernel) (by decide +kernel)
set_option maxRecDepth 20000 in
theorem gX0_doubles_X0_isThere : GoodIn wsX0_doubles (wsV RX0 35 RX0 yX0_isThere wsX0_isThere) := goodIn_app (goodIn_of _ (by decide +kernel)) ggX0_doubles_X0_isThere
set_option maxRecDepth 20000 in
theorem ggX0_doubles_X0_lowestHolding : GoodIn wsX0_doubles wsX0_lowestHolding := goodIn_r _ [11, 12, 13, 14, 5, 15, 7, 1, 16, 17, 18, 19] (by decide +kernel) (by decide +kernel)
set_option maxRecDepth 20000 in
theorem gX0_doubles_X0_lowestHolding : GoodIn wsX0_doubles (wsV RX0 47 RX0 yX0_lowestHolding wsX0_lowestHolding) := goodIn_app (goodIn_of _ (by decide +kernel)) ggX0_doubles_X0_lowestHolding
theorem dX0_doubles_0 : decode cX0_doubles 0 = .ok (.iconst 0, 1) := by decide +kernel
theorem dX0_doubles_1 : decode cX0_doubles 1 = .ok (.istore_n 1, 1) := by decide +kernel
theorem dX0_doubles_2 : decode cX0_doubles 2 = .ok (.iconst 0, 1) := by decide +kernel
theorem dX0_doubles_3 : decode cX0_doubles 3 = .ok (.istore_n 2, 1) := by decide +kernel
theorem dX0_doubles_4 : decode cX0_doubles 4 = .ok (.iload_n 2, 1) := by decide +kernel
theorem dX0_doubles_5 : decode cX0_doubles 5 = .ok (.bipush 40, 2) := by decide +kernel
theorem dX0_doubles_7 : decode cX0_doubles 7 = .ok (.if_icmp .ge 36, 3) := by decide +kernel
theorem dX0_doubles_10 : decode cX0_doubles 10 = .ok (.aload_n 0, 1) := by decide +kernel
theorem dX0_doubles_11 : decode cX0_doubles 11 = .ok (.iload_n 2, 1) := by decide +kernel
theorem dX0_doubles_12 : decode cX0_doubles 12 = .ok (.invokevirtual 35, 3) := by decide +kernel
theorem dX0_doubles_15 : decode cX0_doubles 15 = .ok (.ifCond .eq 22, 3) := by decide +kernel
theorem dX0_doubles_18 : decode cX0_doubles 18 = .ok (.aload_n 0, 1) := by decide +kernel
theorem dX0_doubles_19 : decode cX0_doubles 19 = .ok (.aload_n 0, 1) := by decide +kernel
theorem dX0_doubles_20 : decode cX0_doubles 20 = .ok (.getfield 9, 3) := by decide +kernel
theorem dX0_doubles_23 : decode cX0_doubles 23 = .ok (.iload_n 2, 1) := by decide +kernel
theorem dX0_doubles_24 : decode cX0_doubles 24 = .ok (.bipush 8, 2) := by decide +kernel
theorem dX0_doubles_26 : decode cX0_doubles 26 = .ok (.imul, 1) := by decide +kernel
theorem dX0_doubles_27 : decode cX0_doubles 27 = .ok (.invokevirtual 47, 3) := by decide +kernel
theorem dX0_doubles_30 : decode cX0_doubles 30 = .ok (.iload_n 2, 1) := by decide +kernel
theorem dX0_doubles_31 : decode cX0_doubles 31 = .ok (.if_icmp .ge 6, 3) := by decide +kernel
theorem dX0_doubles_34 : decode cX0_doubles 34 = .ok (.iinc 1 1, 3) := by decide +kernel
theorem dX0_doubles_37 : decode cX0_doubles 37 = .ok (.iinc 2 1, 3) := by decide +kernel
theorem dX0_doubles_40 : decode cX0_doubles 40 = .ok (.goto (-36), 3) := by decide +kernel
theorem dX0_doubles_43 : decode cX0_doubles 43 = .ok (.iload_n 1, 1) := by decide +kernel
theorem dX0_doubles_44 : decode cX0_doubles 44 = .ok (.ireturn, 1) := by decide +kernel
set_option maxRecDepth 20000 in
theorem ggX1_init_X4_init : GoodIn wsX1_init wsX4_init := goodIn_r _ [12, 13, 2, 3, 14, 15, 16, 17, 18, 19, 20, 21, 22, 23, 24, 25, 26, 27, 28, 29, 30, 31, 32, 33, 34, 35, 36, 37, 38, 39, 40, 41, 42, 43, 53, 54, 55, 56, 47, 48, 49, 50, 51, 52, 57, 58, 59, 60, 61] (by decide +kernel) (by decide +kernel)
set_option maxRecDepth 20000 in
theorem gX1_init_X4_init : GoodIn wsX1_init (wsX4_init) := ggX1_init_X4_init
theorem dX1_init_0 : decode cX1_init 0 = .ok (.aload_n 0, 1) := by decide +kernel
theorem dX1_init_1 : decode cX1_init 1 = .ok (.invokespecial 3, 3) := by decide +kernel
theorem dX1_init_4 : decode cX1_init 4 = .ok (.aload_n 0, 1) := by decide +kernel
theorem dX1_init_5 : decode cX1_init 5 = .ok (.iconst 4, 1) := by decide +kernel
theorem dX1_init_6 : decode cX1_init 6 = .ok (.anewarray 9, 3) := by decide +kernel
theorem dX1_init_9 : decode cX1_init 9 = .ok (.putfield 11, 3) := by decide +kernel
theorem dX1_init_12 : decode cX1_init 12 = .ok (.aload_n 0, 1) := by decide +kernel
theorem dX1_init_13 : decode cX1_init 13 = .ok (.iconst 0, 1) := by decide +kernel
theorem dX1_init_14 : decode cX1_init 14 = .ok (.putfield 17, 3) := by decide +kernel
theorem dX1_init_17 : decode cX1_init 17 = .ok (.aload_n 0, 1) := by decide +kernel
theorem dX1_init_18 : decode cX1_init 18 = .ok (.iconst 0, 1) := by decide +kernel
theorem dX1_init_19 : decode cX1_init 19 = .ok (.putfield 21, 3) := by decide +kernel
theorem dX1_init_22 : decode cX1_init 22 = .ok (.iconst 0, 1) := by decide +kernel
theorem dX1_init_23 : decode cX1_init 23 = .ok (.istore_n 1, 1) := by decide +kernel
theorem dX1_init_24 : decode cX1_init 24 = .ok (.iload_n 1, 1) := by decide +kernel
theorem dX1_init_25 : decode cX1_init 25 = .ok (.iconst 4, 1) := by decide +kernel
theorem dX1_init_26 : decode cX1_init 26 = .ok (.if_icmp .ge 22, 3) := by decide +kernel
theorem dX1_init_29 : decode cX1_init 29 = .ok (.aload_n 0, 1) := by decide +kernel
theorem dX1_init_30 : decode cX1_init 30 = .ok (.getfield 11, 3) := by decide +kernel
theorem dX1_init_33 : decode cX1_init 33 = .ok (.iload_n 1, 1) := by decide +kernel
theorem dX1_init_34 : decode cX1_init 34 = .ok (.new 9, 3) := by decide +kernel
theorem dX1_init_37 : decode cX1_init 37 = .ok (.dup, 1) := by decide +kernel
theorem dX1_init_38 : decode cX1_init 38 = .ok (.invokespecial 24, 3) := by decide +kernel
theorem dX1_init_41 : decode cX1_init 41 = .ok (.aastore, 1) := by decide +kernel
theorem dX1_init_42 : decode cX1_init 42 = .ok (.iinc 1 1, 3) := by decide +kernel
theorem dX1_init_45 : decode cX1_init 45 = .ok (.goto (-21), 3) := by decide +kernel
theorem dX1_init_48 : decode cX1_init 48 = .ok (.return_, 1) := by decide +kernel
theorem dX1_add_0 : decode cX1_add 0 = .ok (.aload_n 0, 1) := by decide +kernel
theorem dX1_add_1 : decode cX1_add 1 = .ok (.getfield 17, 3) := by decide +kernel
theorem dX1_add_4 : decode cX1_add 4 = .ok (.aload_n 0, 1) := by decide +kernel
theorem dX1_add_5 : decode cX1_add 5 = .ok (.getfield 21, 3) := by decide +kernel
theorem dX1_add_8 : decode cX1_add 8 = .ok (.iadd, 1) := by decide +kernel
theorem dX1_add_9 : decode cX1_add 9 = .ok (.iconst 4, 1) := by decide +kernel
theorem dX1_add_10 : decode cX1_add 10 = .ok (.irem, 1) := by decide +kernel
theorem dX1_add_11 : decode cX1_add 11 = .ok (.istore_n 2, 1) := by decide +kernel
theorem dX1_add_12 : decode cX1_add 12 = .ok (.aload_n 0, 1) := by decide +kernel
theorem dX1_add_13 : decode cX1_add 13 = .ok (.getfield 11, 3) := by decide +kernel
theorem dX1_add_16 : decode cX1_add 16 = .ok (.iload_n 2, 1) := by decide +kernel
theorem dX1_add_17 : decode cX1_add 17 = .ok (.aaload, 1) := by decide +kernel
theorem dX1_add_18 : decode cX1_add 18 = .ok (.astore_n 3, 1) := by decide +kernel
theorem dX1_add_19 : decode cX1_add 19 = .ok (.aload_n 0, 1) := by decide +kernel
theorem dX1_add_20 : decode cX1_add 20 = .ok (.getfield 11, 3) := by decide +kernel
theorem dX1_add_23 : decode cX1_add 23 = .ok (.iload_n 2, 1) := by decide +kernel
theorem dX1_add_24 : decode cX1_add 24 = .ok (.aload_n 1, 1) := by decide +kernel
theorem dX1_add_25 : decode cX1_add 25 = .ok (.aastore, 1) := by decide +kernel
theorem dX1_add_26 : decode cX1_add 26 = .ok (.aload_n 0, 1) := by decide +kernel
theorem dX1_add_27 : decode cX1_add 27 = .ok (.getfield 21, 3) := by decide +kernel
theorem dX1_add_30 : decode cX1_add 30 = .ok (.iconst 4, 1) := by decide +kernel
theorem dX1_add_31 : decode cX1_add 31 = .ok (.if_icmp .ge 16, 3) := by decide +kernel
theorem dX1_add_34 : decode cX1_add 34 = .ok (.aload_n 0, 1) := by decide +kernel
theorem dX1_add_35 : decode cX1_add 35 = .ok (.dup, 1) := by decide +kernel
theorem dX1_add_36 : decode cX1_add 36 = .ok (.getfield 21, 3) := by decide +kernel
theorem dX1_add_39 : decode cX1_add 39 = .ok (.iconst 1, 1) := by decide +kernel
theorem dX1_add_40 : decode cX1_add 40 = .ok (.iadd, 1) := by decide +kernel
theorem dX1_add_41 : decode cX1_add 41 = .ok (.putfield 21, 3) := by decide +kernel
theorem dX1_add_44 : decode cX1_add 44 = .ok (.goto 15, 3) := by decide +kernel
theorem dX1_add_47 : decode cX1_add 47 = .ok (.aload_n 0, 1) := by decide +kernel
theorem dX1_add_48 : decode cX1_add 48 = .ok (.aload_n 0, 1) := by decide +kernel
theorem dX1_add_49 : decode cX1_add 49 = .ok (.getfield 17, 3) := by decide +kernel
theorem dX1_add_52 : decode cX1_add 52 = .ok (.iconst 1, 1) := by decide +kernel
theorem dX1_add_53 : decode cX1_add 53 = .ok (.iadd, 1) := by decide +kernel
theorem dX1_add_54 : decode cX1_add 54 = .ok (.iconst 4, 1) := by decide +kernel
theorem dX1_add_55 : decode cX1_add 55 = .ok (.irem, 1) := by decide +kernel
theorem dX1_add_56 : decode cX1_add 56 = .ok (.putfield 17, 3) := by decide +kernel
theorem dX1_add_59 : decode cX1_add 59 = .ok (.aload_n 3, 1) := by decide +kernel
theorem dX1_add_60 : decode cX1_add 60 = .ok (.areturn, 1) := by decide +kernel
theorem dX1_exchangeLatest_0 : decode cX1_exchangeLatest 0 = .ok (.aload_n 0, 1) := by decide +kernel
theorem dX1_exchangeLatest_1 : decode cX1_exchangeLatest 1 = .ok (.getfield 21, 3) := by decide +kernel
theorem dX1_exchangeLatest_4 : decode cX1_exchangeLatest 4 = .ok (.ifCond .ne 5, 3) := by decide +kernel
theorem dX1_exchangeLatest_7 : decode cX1_exchangeLatest 7 = .ok (.aload_n 1, 1) := by decide +kernel
theorem dX1_exchangeLatest_8 : decode cX1_exchangeLatest 8 = .ok (.areturn, 1) := by decide +kernel
theorem dX1_exchangeLatest_9 : decode cX1_exchangeLatest 9 = .ok (.aload_n 0, 1) := by decide +kernel
theorem dX1_exchangeLatest_10 : decode cX1_exchangeLatest 10 = .ok (.dup, 1) := by decide +kernel
theorem dX1_exchangeLatest_11 : decode cX1_exchangeLatest 11 = .ok (.getfield 21, 3) := by decide +kernel
theorem dX1_exchangeLatest_14 : decode cX1_exchangeLatest 14 = .ok (.iconst 1, 1) := by decide +kernel
theorem dX1_exchangeLatest_15 : decode cX1_exchangeLatest 15 = .ok (.isub, 1) := by decide +kernel
theorem dX1_exchangeLatest_16 : decode cX1_exchangeLatest 16 = .ok (.putfield 21, 3) := by decide +kernel
theorem dX1_exchangeLatest_19 : decode cX1_exchangeLatest 19 = .ok (.aload_n 0, 1) := by decide +kernel
theorem dX1_exchangeLatest_20 : decode cX1_exchangeLatest 20 = .ok (.getfield 17, 3) := by decide +kernel
theorem dX1_exchangeLatest_23 : decode cX1_exchangeLatest 23 = .ok (.aload_n 0, 1) := by decide +kernel
theorem dX1_exchangeLatest_24 : decode cX1_exchangeLatest 24 = .ok (.getfield 21, 3) := by decide +kernel
theorem dX1_exchangeLatest_27 : decode cX1_exchangeLatest 27 = .ok (.iadd, 1) := by decide +kernel
theorem dX1_exchangeLatest_28 : decode cX1_exchangeLatest 28 = .ok (.iconst 4, 1) := by decide +kernel
theorem dX1_exchangeLatest_29 : decode cX1_exchangeLatest 29 = .ok (.irem, 1) := by decide +kernel
theorem dX1_exchangeLatest_30 : decode cX1_exchangeLatest 30 = .ok (.istore_n 2, 1) := by decide +kernel
theorem dX1_exchangeLatest_31 : decode cX1_exchangeLatest 31 = .ok (.aload_n 0, 1) := by decide +kernel
theorem dX1_exchangeLatest_32 : decode cX1_exchangeLatest 32 = .ok (.getfield 11, 3) := by decide +kernel
theorem dX1_exchangeLatest_35 : decode cX1_exchangeLatest 35 = .ok (.iload_n 2, 1) := by decide +kernel
theorem dX1_exchangeLatest_36 : decode cX1_exchangeLatest 36 = .ok (.aaload, 1) := by decide +kernel
theorem dX1_exchangeLatest_37 : decode cX1_exchangeLatest 37 = .ok (.astore_n 3, 1) := by decide +kernel
theorem dX1_exchangeLatest_38 : decode cX1_exchangeLatest 38 = .ok (.aload_n 0, 1) := by decide +kernel
theorem dX1_exchangeLatest_39 : decode cX1_exchangeLatest 39 = .ok (.getfield 11, 3) := by decide +kernel
theorem dX1_exchangeLatest_42 : decode cX1_exchangeLatest 42 = .ok (.iload_n 2, 1) := by decide +kernel
theorem dX1_exchangeLatest_43 : decode cX1_exchangeLatest 43 = .ok (.aload_n 1, 1) := by decide +kernel
theorem dX1_exchangeLatest_44 : decode cX1_exchangeLatest 44 = .ok (.aastore, 1) := by decide +kernel
theorem dX1_exchangeLatest_45 : decode cX1_exchangeLatest 45 = .ok (.aload_n 3, 1) := by decide +kernel
theorem dX1_exchangeLatest_46 : decode cX1_exchangeLatest 46 = .ok (.areturn, 1) := by decide +kernel
theorem dX2_init_0 : decode cX2_init 0 = .ok (.aload_n 0, 1) := by decide +kernel
theorem dX2_init_1 : decode cX2_init 1 = .ok (.invokespecial 3, 3) := by decide +kernel
theorem dX2_init_4 : decode cX2_init 4 = .ok (.aload_n 0, 1) := by decide +kernel
theorem dX2_init_5 : decode cX2_init 5 = .ok (.bipush 60, 2) := by decide +kernel
theorem dX2_init_7 : decode cX2_init 7 = .ok (.newarray .int, 2) := by decide +kernel
theorem dX2_init_9 : decode cX2_init 9 = .ok (.putfield 9, 3) := by decide +kernel
theorem dX2_init_12 : decode cX2_init 12 = .ok (.aload_n 0, 1) := by decide +kernel
theorem dX2_init_13 : decode cX2_init 13 = .ok (.iconst 4, 1) := by decide +kernel
theorem dX2_init_14 : decode cX2_init 14 = .ok (.newarray .int, 2) := by decide +kernel
theorem dX2_init_16 : decode cX2_init 16 = .ok (.putfield 15, 3) := by decide +kernel
theorem dX2_init_19 : decode cX2_init 19 = .ok (.aload_n 0, 1) := by decide +kernel
theorem dX2_init_20 : decode cX2_init 20 = .ok (.iconst 0, 1) := by decide +kernel
theorem dX2_init_21 : decode cX2_init 21 = .ok (.putfield 18, 3) := by decide +kernel
theorem dX2_init_24 : decode cX2_init 24 = .ok (.aload_n 0, 1) := by decide +kernel
theorem dX2_init_25 : decode cX2_init 25 = .ok (.iconst 0, 1) := by decide +kernel
theorem dX2_init_26 : decode cX2_init 26 = .ok (.putfield 22, 3) := by decide +kernel
theorem dX2_init_29 : decode cX2_init 29 = .ok (.aload_n 0, 1) := by decide +kernel
theorem dX2_init_30 : decode cX2_init 30 = .ok (.iconst 0, 1) := by decide +kernel
theorem dX2_init_31 : decode cX2_init 31 = .ok (.putfield 25, 3) := by decide +kernel
theorem dX2_init_34 : decode cX2_init 34 = .ok (.aload_n 0, 1) := by decide +kernel
theorem dX2_init_35 : decode cX2_init 35 = .ok (.iconst 0, 1) := by decide +kernel
theorem dX2_init_36 : decode cX2_init 36 = .ok (.putfield 28, 3) := by decide +kernel
theorem dX2_init_39 : decode cX2_init 39 = .ok (.aload_n 0, 1) := by decide +kernel
theorem dX2_init_40 : decode cX2_init 40 = .ok (.iconst 0, 1) := by decide +kernel
theorem dX2_init_41 : decode cX2_init 41 = .ok (.putfield 31, 3) := by decide +kernel
theorem dX2_init_44 : decode cX2_init 44 = .ok (.aload_n 0, 1) := by decide +kernel
theorem dX2_init_45 : decode cX2_init 45 = .ok (.iconst 0, 1) := by decide +kernel
theorem dX2_init_46 : decode cX2_init 46 = .ok (.putfield 34, 3) := by decide +kernel
theorem dX2_init_49 : decode cX2_init 49 = .ok (.return_, 1) := by decide +kernel
theorem dX2_append_0 : decode cX2_append 0 = .ok (.aload_n 0, 1) := by decide +kernel
theorem dX2_append_1 : decode cX2_append 1 = .ok (.getfield 18, 3) := by decide +kernel
theorem dX2_append_4 : decode cX2_append 4 = .ok (.bipush 60, 2) := by decide +kernel
theorem dX2_append_6 : decode cX2_append 6 = .ok (.if_icmp .lt 5, 3) := by decide +kernel
theorem dX2_append_9 : decode cX2_append 9 = .ok (.iconst 0, 1) := by decide +kernel
theorem dX2_append_10 : decode cX2_append 10 = .ok (.ireturn, 1) := by decide +kernel
theorem dX2_append_11 : decode cX2_append 11 = .ok (.aload_n 0, 1) := by decide +kernel
theorem dX2_append_12 : decode cX2_append 12 = .ok (.getfield 9, 3) := by decide +kernel
theorem dX2_append_15 : decode cX2_append 15 = .ok (.aload_n 0, 1) := by decide +kernel
theorem dX2_append_16 : decode cX2_append 16 = .ok (.getfield 18, 3) := by decide +kernel
theorem dX2_append_19 : decode cX2_append 19 = .ok (.iload_n 1, 1) := by decide +kernel
theorem dX2_append_20 : decode cX2_append 20 = .ok (.iastore, 1) := by decide +kernel
theorem dX2_append_21 : decode cX2_append 21 = .ok (.aload_n 0, 1) := by decide +kernel
theorem dX2_append_22 : decode cX2_append 22 = .ok (.dup, 1) := by decide +kernel
theorem dX2_append_23 : decode cX2_append 23 = .ok (.getfield 18, 3) := by decide +kernel
theorem dX2_append_26 : decode cX2_append 26 = .ok (.iconst 1, 1) := by decide +kernel
theorem dX2_append_27 : decode cX2_append 27 = .ok (.iadd, 1) := by decide +kernel
theorem dX2_append_28 : decode cX2_append 28 = .ok (.putfield 18, 3) := by decide +kernel
theorem dX2_append_31 : decode cX2_append 31 = .ok (.iconst 1, 1) := by decide +kernel
theorem dX2_append_32 : decode cX2_append 32 = .ok (.ireturn, 1) := by decide +kernel
set_option maxRecDepth 20000 in
theorem ggX2_doAll_X2_readOrder : GoodIn wsX2_doAll wsX2_readOrder := goodIn_r _ [9, 1, 10, 11, 12, 8, 13, 3, 4, 14, 15, 16, 17, 18, 19, 20, 21, 177, 178, 179, 180, 181, 182, 183, 184] (by decide +kernel) (by decide +kernel)
set_option maxRecDepth 20000 in
theorem gX2_doAll_X2_readOrder : GoodIn wsX2_doAll (wsV RX2 37 RX2 yX2_readOrder wsX2_readOrder) := goodIn_app (goodIn_of _ (by decide +kernel)) ggX2_doAll_X2_readOrder
set_option maxRecDepth 20000 in
theorem ggX2_doAll_X2_keepFault : GoodIn wsX2_doAll wsX2_keepFault := goodIn_r _ [25, 26, 27, 28, 177, 178, 179, 180, 181, 182, 183, 184] (by decide +kernel) (by decide +kernel)
set_option maxRecDepth 20000 in
theorem gX2_doAll_X2_keepFault : GoodIn wsX2_doAll (wsV RX2 41 RX2 yX2_keepFault wsX2_keepFault) := goodIn_app (goodIn_of _ (by decide +kernel)) ggX2_doAll_X2_keepFault
set_option maxRecDepth 20000 in
theorem ggX2_doAll_X2_doOrder : GoodIn wsX2_doAll wsX2_doOrder := goodIn_r _ [32, 21, 33, 34, 35, 36, 37, 38, 39, 40, 41, 42, 43, 44, 45, 46, 47, 48, 49, 50, 51, 52, 53, 54, 55, 56, 57, 58, 59, 60, 61, 62, 63, 64, 65, 66, 67, 68, 69, 70, 71, 72, 73, 74, 75, 76, 77, 78, 79, 80, 81, 82, 83, 84, 85, 86, 87, 88, 89, 90, 91, 92, 93, 94, 95, 96, 97, 98, 99, 100, 101, 102, 103, 104, 105, 106, 107, 108, 109, 110, 111, 112, 113, 114, 115, 116, 117, 118, 119, 120, 121, 122, 123, 124, 125, 126, 127, 128, 129, 130, 131, 132, 133, 134, 135, 136, 137, 138, 139, 140, 141, 142, 143, 144, 145, 146, 147, 148, 149, 150, 151, 152, 153, 154, 155, 156, 157, 158, 159, 160, 161, 162, 163, 164, 165, 166, 167, 168, 169, 170, 171, 172, 173, 174, 175, 176, 177, 178, 179, 180, 181, 182, 183, 184, 185, 186, 187, 188, 189, 190, 191, 192, 193, 194, 195, 196, 197, 198, 199] (by decide +kernel) (by decide +kernel)
set_option maxRecDepth 20000 in
theorem gX2_doAll_X2_doOrder : GoodIn wsX2_doAll (wsV RX2 45 RX2 yX2_doOrder wsX2_doOrder) := goodIn_app (goodIn_of _ (by decide +kernel)) ggX2_doAll_X2_doOrder
theorem dX2_doAll_0 : decode cX2_doAll 0 = .ok (.aload_n 0, 1) := by decide +kernel
theorem dX2_doAll_1 : decode cX2_doAll 1 = .ok (.iconst 0, 1) := by decide +kernel
theorem dX2_doAll_2 : decode cX2_doAll 2 = .ok (.putfield 22, 3) := by decide +kernel
theorem dX2_doAll_5 : decode cX2_doAll 5 = .ok (.aload_n 0, 1) := by decide +kernel
theorem dX2_doAll_6 : decode cX2_doAll 6 = .ok (.iconst 0, 1) := by decide +kernel
theorem dX2_doAll_7 : decode cX2_doAll 7 = .ok (.putfield 25, 3) := by decide +kernel
theorem dX2_doAll_10 : decode cX2_doAll 10 = .ok (.iconst 0, 1) := by decide +kernel
theorem dX2_doAll_11 : decode cX2_doAll 11 = .ok (.istore_n 2, 1) := by decide +kernel
theorem dX2_doAll_12 : decode cX2_doAll 12 = .ok (.iload_n 2, 1) := by decide +kernel
theorem dX2_doAll_13 : decode cX2_doAll 13 = .ok (.bipush 60, 2) := by decide +kernel
theorem dX2_doAll_15 : decode cX2_doAll 15 = .ok (.if_icmp .ge 82, 3) := by decide +kernel
theorem dX2_doAll_18 : decode cX2_doAll 18 = .ok (.aload_n 0, 1) := by decide +kernel
theorem dX2_doAll_19 : decode cX2_doAll 19 = .ok (.getfield 22, 3) := by decide +kernel
theorem dX2_doAll_22 : decode cX2_doAll 22 = .ok (.aload_n 0, 1) := by decide +kernel
theorem dX2_doAll_23 : decode cX2_doAll 23 = .ok (.getfield 18, 3) := by decide +kernel
theorem dX2_doAll_26 : decode cX2_doAll 26 = .ok (.if_icmp .ge 71, 3) := by decide +kernel
theorem dX2_doAll_29 : decode cX2_doAll 29 = .ok (.aload_n 0, 1) := by decide +kernel
theorem dX2_doAll_30 : decode cX2_doAll 30 = .ok (.getfield 22, 3) := by decide +kernel
theorem dX2_doAll_33 : decode cX2_doAll 33 = .ok (.istore_n 3, 1) := by decide +kernel
theorem dX2_doAll_34 : decode cX2_doAll 34 = .ok (.aload_n 0, 1) := by decide +kernel
theorem dX2_doAll_35 : decode cX2_doAll 35 = .ok (.invokevirtual 37, 3) := by decide +kernel
theorem dX2_doAll_38 : decode cX2_doAll 38 = .ok (.ifCond .ne 16, 3) := by decide +kernel
theorem dX2_doAll_41 : decode cX2_doAll 41 = .ok (.aload_n 0, 1) := by decide +kernel
theorem dX2_doAll_42 : decode cX2_doAll 42 = .ok (.iload_n 3, 1) := by decide +kernel
theorem dX2_doAll_43 : decode cX2_doAll 43 = .ok (.iconst 1, 1) := by decide +kernel
theorem dX2_doAll_44 : decode cX2_doAll 44 = .ok (.aload_n 0, 1) := by decide +kernel
theorem dX2_doAll_45 : decode cX2_doAll 45 = .ok (.getfield 22, 3) := by decide +kernel
theorem dX2_doAll_48 : decode cX2_doAll 48 = .ok (.iload_n 3, 1) := by decide +kernel
theorem dX2_doAll_49 : decode cX2_doAll 49 = .ok (.isub, 1) := by decide +kernel
theorem dX2_doAll_50 : decode cX2_doAll 50 = .ok (.invokevirtual 41, 3) := by decide +kernel
theorem dX2_doAll_53 : decode cX2_doAll 53 = .ok (.ireturn, 1) := by decide +kernel
theorem dX2_doAll_54 : decode cX2_doAll 54 = .ok (.aload_n 0, 1) := by decide +kernel
theorem dX2_doAll_55 : decode cX2_doAll 55 = .ok (.aload_n 1, 1) := by decide +kernel
theorem dX2_doAll_56 : decode cX2_doAll 56 = .ok (.aload_n 0, 1) := by decide +kernel
theorem dX2_doAll_57 : decode cX2_doAll 57 = .ok (.getfield 9, 3) := by decide +kernel
theorem dX2_doAll_60 : decode cX2_doAll 60 = .ok (.iload_n 3, 1) := by decide +kernel
theorem dX2_doAll_61 : decode cX2_doAll 61 = .ok (.iaload, 1) := by decide +kernel
theorem dX2_doAll_62 : decode cX2_doAll 62 = .ok (.invokevirtual 45, 3) := by decide +kernel
theorem dX2_doAll_65 : decode cX2_doAll 65 = .ok (.istore 4, 2) := by decide +kernel
theorem dX2_doAll_67 : decode cX2_doAll 67 = .ok (.iload 4, 2) := by decide +kernel
theorem dX2_doAll_69 : decode cX2_doAll 69 = .ok (.ifCond .ge 12, 3) := by decide +kernel
theorem dX2_doAll_72 : decode cX2_doAll 72 = .ok (.aload_n 0, 1) := by decide +kernel
theorem dX2_doAll_73 : decode cX2_doAll 73 = .ok (.iload_n 3, 1) := by decide +kernel
theorem dX2_doAll_74 : decode cX2_doAll 74 = .ok (.iconst 2, 1) := by decide +kernel
theorem dX2_doAll_75 : decode cX2_doAll 75 = .ok (.iload 4, 2) := by decide +kernel
theorem dX2_doAll_77 : decode cX2_doAll 77 = .ok (.invokevirtual 41, 3) := by decide +kernel
theorem dX2_doAll_80 : decode cX2_doAll 80 = .ok (.ireturn, 1) := by decide +kernel
theorem dX2_doAll_81 : decode cX2_doAll 81 = .ok (.aload_n 0, 1) := by decide +kernel
theorem dX2_doAll_82 : decode cX2_doAll 82 = .ok (.dup, 1) := by decide +kernel
theorem dX2_doAll_83 : decode cX2_doAll 83 = .ok (.getfield 25, 3) := by decide +kernel
theorem dX2_doAll_86 : decode cX2_doAll 86 = .ok (.iconst 1, 1) := by decide +kernel
theorem dX2_doAll_87 : decode cX2_doAll 87 = .ok (.iadd, 1) := by decide +kernel
theorem dX2_doAll_88 : decode cX2_doAll 88 = .ok (.putfield 25, 3) := by decide +kernel
theorem dX2_doAll_91 : decode cX2_doAll 91 = .ok (.iinc 2 1, 3) := by decide +kernel
theorem dX2_doAll_94 : decode cX2_doAll 94 = .ok (.goto (-82), 3) := by decide +kernel
theorem dX2_doAll_97 : decode cX2_doAll 97 = .ok (.iconst 1, 1) := by decide +kernel
theorem dX2_doAll_98 : decode cX2_doAll 98 = .ok (.ireturn, 1) := by decide +kernel
theorem dX2_keepFault_0 : decode cX2_keepFault 0 = .ok (.aload_n 0, 1) := by decide +kernel
theorem dX2_keepFault_1 : decode cX2_keepFault 1 = .ok (.iload_n 1, 1) := by decide +kernel
theorem dX2_keepFault_2 : decode cX2_keepFault 2 = .ok (.putfield 28, 3) := by decide +kernel
theorem dX2_keepFault_5 : decode cX2_keepFault 5 = .ok (.aload_n 0, 1) := by decide +kernel
theorem dX2_keepFault_6 : decode cX2_keepFault 6 = .ok (.iload_n 2, 1) := by decide +kernel
theorem dX2_keepFault_7 : decode cX2_keepFault 7 = .ok (.putfield 31, 3) := by decide +kernel
theorem dX2_keepFault_10 : decode cX2_keepFault 10 = .ok (.aload_n 0, 1) := by decide +kernel
theorem dX2_keepFault_11 : decode cX2_keepFault 11 = .ok (.iload_n 3, 1) := by decide +kernel
theorem dX2_keepFault_12 : decode cX2_keepFault 12 = .ok (.putfield 34, 3) := by decide +kernel
theorem dX2_keepFault_15 : decode cX2_keepFault 15 = .ok (.iconst 0, 1) := by decide +kernel
theorem dX2_keepFault_16 : decode cX2_keepFault 16 = .ok (.ireturn, 1) := by decide +kernel
set_option maxRecDepth 20000 in
theorem ggX2_readOrder_X2_signHere : GoodIn wsX2_readOrder wsX2_signHere := goodIn_r _ [6, 1, 7, 8, 17, 18, 19, 20, 21, 22, 23, 24] (by decide +kernel) (by decide +kernel)
set_option maxRecDepth 20000 in
theorem gX2_readOrder_X2_signHere : GoodIn wsX2_readOrder (wsV RX2 49 RX2 yX2_signHere wsX2_signHere) := goodIn_app (goodIn_of _ (by decide +kernel)) ggX2_readOrder_X2_signHere
set_option maxRecDepth 20000 in
theorem ggX2_readOrder_X2_numbersOf : GoodIn wsX2_readOrder wsX2_numbersOf := goodIn_r _ [11] (by decide +kernel) (by decide +kernel)
set_option maxRecDepth 20000 in
theorem gX2_readOrder_X2_numbersOf : GoodIn wsX2_readOrder (va_wsS RX2 53 yX2_numbersOf wsX2_numbersOf) := goodIn_app (goodIn_of _ (by decide +kernel)) ggX2_readOrder_X2_numbersOf
set_option maxRecDepth 20000 in
theorem ggX2_readOrder_X2_readNumber : GoodIn wsX2_readOrder wsX2_readNumber := goodIn_r _ [15, 1, 16, 2, 3, 4, 5, 6, 7, 8, 17, 18, 19, 20, 21, 22, 23, 24] (by decide +kernel) (by decide +kernel)
set_option maxRecDepth 20000 in
theorem gX2_readOrder_X2_readNumber : GoodIn wsX2_readOrder (wsV RX2 57 RX2 yX2_readNumber wsX2_readNumber) := goodIn_app (goodIn_of _ (by decide +kernel)) ggX2_readOrder_X2_readNumber
theorem dX2_readOrder_0 : decode cX2_readOrder 0 = .ok (.aload_n 0, 1) := by decide +kernel
theorem dX2_readOrder_1 : decode cX2_readOrder 1 = .ok (.invokevirtual 49, 3) := by decide +kernel
theorem dX2_readOrder_4 : decode cX2_readOrder 4 = .ok (.invokestatic 53, 3) := by decide +kernel
theorem dX2_readOrder_7 : decode cX2_readOrder 7 = .ok (.istore_n 1, 1) := by decide +kernel
theorem dX2_readOrder_8 : decode cX2_readOrder 8 = .ok (.iload_n 1, 1) := by decide +kernel
theorem dX2_readOrder_9 : decode cX2_readOrder 9 = .ok (.ifCond .ne 5, 3) := by decide +kernel
theorem dX2_readOrder_12 : decode cX2_readOrder 12 = .ok (.iconst 0, 1) := by decide +kernel
theorem dX2_readOrder_13 : decode cX2_readOrder 13 = .ok (.ireturn, 1) := by decide +kernel
theorem dX2_readOrder_14 : decode cX2_readOrder 14 = .ok (.aload_n 0, 1) := by decide +kernel
theorem dX2_readOrder_15 : decode cX2_readOrder 15 = .ok (.dup, 1) := by decide +kernel
theorem dX2_readOrder_16 : decode cX2_readOrder 16 = .ok (.getfield 22, 3) := by decide +kernel
theorem dX2_readOrder_19 : decode cX2_readOrder 19 = .ok (.iconst 1, 1) := by decide +kernel
theorem dX2_readOrder_20 : decode cX2_readOrder 20 = .ok (.iadd, 1) := by decide +kernel
theorem dX2_readOrder_21 : decode cX2_readOrder 21 = .ok (.putfield 22, 3) := by decide +kernel
theorem dX2_readOrder_24 : decode cX2_readOrder 24 = .ok (.iconst 0, 1) := by decide +kernel
theorem dX2_readOrder_25 : decode cX2_readOrder 25 = .ok (.istore_n 2, 1) := by decide +kernel
theorem dX2_readOrder_26 : decode cX2_readOrder 26 = .ok (.iload_n 2, 1) := by decide +kernel
theorem dX2_readOrder_27 : decode cX2_readOrder 27 = .ok (.iload_n 1, 1) := by decide +kernel
theorem dX2_readOrder_28 : decode cX2_readOrder 28 = .ok (.if_icmp .ge 50, 3) := by decide +kernel
theorem dX2_readOrder_31 : decode cX2_readOrder 31 = .ok (.aload_n 0, 1) := by decide +kernel
theorem dX2_readOrder_32 : decode cX2_readOrder 32 = .ok (.iload_n 2, 1) := by decide +kernel
theorem dX2_readOrder_33 : decode cX2_readOrder 33 = .ok (.invokevirtual 57, 3) := by decide +kernel
theorem dX2_readOrder_36 : decode cX2_readOrder 36 = .ok (.ifCond .eq 24, 3) := by decide +kernel
theorem dX2_readOrder_39 : decode cX2_readOrder 39 = .ok (.aload_n 0, 1) := by decide +kernel
theorem dX2_readOrder_40 : decode cX2_readOrder 40 = .ok (.invokevirtual 49, 3) := by decide +kernel
theorem dX2_readOrder_43 : decode cX2_readOrder 43 = .ok (.iload_n 2, 1) := by decide +kernel
theorem dX2_readOrder_44 : decode cX2_readOrder 44 = .ok (.iconst 1, 1) := by decide +kernel
theorem dX2_readOrder_45 : decode cX2_readOrder 45 = .ok (.iadd, 1) := by decide +kernel
theorem dX2_readOrder_46 : decode cX2_readOrder 46 = .ok (.iload_n 1, 1) := by decide +kernel
theorem dX2_readOrder_47 : decode cX2_readOrder 47 = .ok (.if_icmp .ge 8, 3) := by decide +kernel
theorem dX2_readOrder_50 : decode cX2_readOrder 50 = .ok (.bipush 44, 2) := by decide +kernel
theorem dX2_readOrder_52 : decode cX2_readOrder 52 = .ok (.goto 5, 3) := by decide +kernel
theorem dX2_readOrder_55 : decode cX2_readOrder 55 = .ok (.bipush 59, 2) := by decide +kernel
theorem dX2_readOrder_57 : decode cX2_readOrder 57 = .ok (.if_icmp .eq 5, 3) := by decide +kernel
theorem dX2_readOrder_60 : decode cX2_readOrder 60 = .ok (.iconst 0, 1) := by decide +kernel
theorem dX2_readOrder_61 : decode cX2_readOrder 61 = .ok (.ireturn, 1) := by decide +kernel
theorem dX2_readOrder_62 : decode cX2_readOrder 62 = .ok (.aload_n 0, 1) := by decide +kernel
theorem dX2_readOrder_63 : decode cX2_readOrder 63 = .ok (.dup, 1) := by decide +kernel
theorem dX2_readOrder_64 : decode cX2_readOrder 64 = .ok (.getfield 22, 3) := by decide +kernel
theorem dX2_readOrder_67 : decode cX2_readOrder 67 = .ok (.iconst 1, 1) := by decide +kernel
theorem dX2_readOrder_68 : decode cX2_readOrder 68 = .ok (.iadd, 1) := by decide +kernel
theorem dX2_readOrder_69 : decode cX2_readOrder 69 = .ok (.putfield 22, 3) := by decide +kernel
theorem dX2_readOrder_72 : decode cX2_readOrder 72 = .ok (.iinc 2 1, 3) := by decide +kernel
theorem dX2_readOrder_75 : decode cX2_readOrder 75 = .ok (.goto (-49), 3) := by decide +kernel
theorem dX2_readOrder_78 : decode cX2_readOrder 78 = .ok (.iconst 1, 1) := by decide +kernel
theorem dX2_readOrder_79 : decode cX2_readOrder 79 = .ok (.ireturn, 1) := by decide +kernel
theorem dX2_signHere_0 : decode cX2_signHere 0 = .ok (.aload_n 0, 1) := by decide +kernel
theorem dX2_signHere_1 : decode cX2_signHere 1 = .ok (.getfield 22, 3) := by decide +kernel
theorem dX2_signHere_4 : decode cX2_signHere 4 = .ok (.aload_n 0, 1) := by decide +kernel
theorem dX2_signHere_5 : decode cX2_signHere 5 = .ok (.getfield 18, 3) := by decide +kernel
theorem dX2_signHere_8 : decode cX2_signHere 8 = .ok (.if_icmp .ge 15, 3) := by decide +kernel
theorem dX2_signHere_11 : decode cX2_signHere 11 = .ok (.aload_n 0, 1) := by decide +kernel
theorem dX2_signHere_12 : decode cX2_signHere 12 = .ok (.getfield 9, 3) := by decide +kernel
theorem dX2_signHere_15 : decode cX2_signHere 15 = .ok (.aload_n 0, 1) := by decide +kernel
theorem dX2_signHere_16 : decode cX2_signHere 16 = .ok (.getfield 22, 3) := by decide +kernel
theorem dX2_signHere_19 : decode cX2_signHere 19 = .ok (.iaload, 1) := by decide +kernel
theorem dX2_signHere_20 : decode cX2_signHere 20 = .ok (.goto 4, 3) := by decide +kernel
theorem dX2_signHere_23 : decode cX2_signHere 23 = .ok (.iconst (-1), 1) := by decide +kernel
theorem dX2_signHere_24 : decode cX2_signHere 24 = .ok (.ireturn, 1) := by decide +kernel
set_option maxRecDepth 20000 in
theorem ggX2_readNumber_X2_signHere : GoodIn wsX2_readNumber wsX2_signHere := goodIn_r _ [7, 1, 8, 9, 10, 11, 12, 13, 14, 15, 16, 17] (by decide +kernel) (by decide +kernel)
set_option maxRecDepth 20000 in
theorem gX2_readNumber_X2_signHere : GoodIn wsX2_readNumber (wsV RX2 49 RX2 yX2_signHere wsX2_signHere) := goodIn_app (goodIn_of _ (by decide +kernel)) ggX2_readNumber_X2_signHere
theorem dX2_readNumber_0 : decode cX2_readNumber 0 = .ok (.iconst 0, 1) := by decide +kernel
theorem dX2_readNumber_1 : decode cX2_readNumber 1 = .ok (.istore_n 2, 1) := by decide +kernel
theorem dX2_readNumber_2 : decode cX2_readNumber 2 = .ok (.iconst 0, 1) := by decide +kernel
theorem dX2_readNumber_3 : decode cX2_readNumber 3 = .ok (.istore_n 3, 1) := by decide +kernel
theorem dX2_readNumber_4 : decode cX2_readNumber 4 = .ok (.iload_n 3, 1) := by decide +kernel
theorem dX2_readNumber_5 : decode cX2_readNumber 5 = .ok (.iconst 3, 1) := by decide +kernel
theorem dX2_readNumber_6 : decode cX2_readNumber 6 = .ok (.if_icmp .ge 50, 3) := by decide +kernel
theorem dX2_readNumber_9 : decode cX2_readNumber 9 = .ok (.aload_n 0, 1) := by decide +kernel
theorem dX2_readNumber_10 : decode cX2_readNumber 10 = .ok (.invokevirtual 49, 3) := by decide +kernel
theorem dX2_readNumber_13 : decode cX2_readNumber 13 = .ok (.bipush 48, 2) := by decide +kernel
theorem dX2_readNumber_15 : decode cX2_readNumber 15 = .ok (.if_icmp .lt 41, 3) := by decide +kernel
theorem dX2_readNumber_18 : decode cX2_readNumber 18 = .ok (.aload_n 0, 1) := by decide +kernel
theorem dX2_readNumber_19 : decode cX2_readNumber 19 = .ok (.invokevirtual 49, 3) := by decide +kernel
theorem dX2_readNumber_22 : decode cX2_readNumber 22 = .ok (.bipush 57, 2) := by decide +kernel
theorem dX2_readNumber_24 : decode cX2_readNumber 24 = .ok (.if_icmp .gt 32, 3) := by decide +kernel
theorem dX2_readNumber_27 : decode cX2_readNumber 27 = .ok (.iload_n 2, 1) := by decide +kernel
theorem dX2_readNumber_28 : decode cX2_readNumber 28 = .ok (.bipush 10, 2) := by decide +kernel
theorem dX2_readNumber_30 : decode cX2_readNumber 30 = .ok (.imul, 1) := by decide +kernel
theorem dX2_readNumber_31 : decode cX2_readNumber 31 = .ok (.aload_n 0, 1) := by decide +kernel
theorem dX2_readNumber_32 : decode cX2_readNumber 32 = .ok (.invokevirtual 49, 3) := by decide +kernel
theorem dX2_readNumber_35 : decode cX2_readNumber 35 = .ok (.iadd, 1) := by decide +kernel
theorem dX2_readNumber_36 : decode cX2_readNumber 36 = .ok (.bipush 48, 2) := by decide +kernel
theorem dX2_readNumber_38 : decode cX2_readNumber 38 = .ok (.isub, 1) := by decide +kernel
theorem dX2_readNumber_39 : decode cX2_readNumber 39 = .ok (.istore_n 2, 1) := by decide +kernel
theorem dX2_readNumber_40 : decode cX2_readNumber 40 = .ok (.iinc 3 1, 3) := by decide +kernel
theorem dX2_readNumber_43 : decode cX2_readNumber 43 = .ok (.aload_n 0, 1) := by decide +kernel
theorem dX2_readNumber_44 : decode cX2_readNumber 44 = .ok (.dup, 1) := by decide +kernel
theorem dX2_readNumber_45 : decode cX2_readNumber 45 = .ok (.getfield 22, 3) := by decide +kernel
theorem dX2_readNumber_48 : decode cX2_readNumber 48 = .ok (.iconst 1, 1) := by decide +kernel
theorem dX2_readNumber_49 : decode cX2_readNumber 49 = .ok (.iadd, 1) := by decide +kernel
theorem dX2_readNumber_50 : decode cX2_readNumber 50 = .ok (.putfield 22, 3) := by decide +kernel
theorem dX2_readNumber_53 : decode cX2_readNumber 53 = .ok (.goto (-49), 3) := by decide +kernel
theorem dX2_readNumber_56 : decode cX2_readNumber 56 = .ok (.aload_n 0, 1) := by decide +kernel
theorem dX2_readNumber_57 : decode cX2_readNumber 57 = .ok (.getfield 15, 3) := by decide +kernel
theorem dX2_readNumber_60 : decode cX2_readNumber 60 = .ok (.iload_n 1, 1) := by decide +kernel
theorem dX2_readNumber_61 : decode cX2_readNumber 61 = .ok (.iload_n 2, 1) := by decide +kernel
theorem dX2_readNumber_62 : decode cX2_readNumber 62 = .ok (.iastore, 1) := by decide +kernel
theorem dX2_readNumber_63 : decode cX2_readNumber 63 = .ok (.iload_n 3, 1) := by decide +kernel
theorem dX2_readNumber_64 : decode cX2_readNumber 64 = .ok (.ifCond .le 7, 3) := by decide +kernel
theorem dX2_readNumber_67 : decode cX2_readNumber 67 = .ok (.iconst 1, 1) := by decide +kernel
theorem dX2_readNumber_68 : decode cX2_readNumber 68 = .ok (.goto 4, 3) := by decide +kernel
theorem dX2_readNumber_71 : decode cX2_readNumber 71 = .ok (.iconst 0, 1) := by decide +kernel
theorem dX2_readNumber_72 : decode cX2_readNumber 72 = .ok (.ireturn, 1) := by decide +kernel
theorem dX2_numbersOf_0 : decode cX2_numbersOf 0 = .ok (.iload_n 0, 1) := by decide +kernel
theorem dX2_numbersOf_1 : decode cX2_numbersOf 1 = .ok (.lookupswitch 59 #[(98, 57), (102, 53), (109, 55), (119, 51), (120, 57)], 51) := by decide +kernel
theorem dX2_numbersOf_52 : decode cX2_numbersOf 52 = .ok (.iconst 3, 1) := by decide +kernel
theorem dX2_numbersOf_53 : decode cX2_numbersOf 53 = .ok (.ireturn, 1) := by decide +kernel
theorem dX2_numbersOf_54 : decode cX2_numbersOf 54 = .ok (.iconst 4, 1) := by decide +kernel
theorem dX2_numbersOf_55 : decode cX2_numbersOf 55 = .ok (.ireturn, 1) := by decide +kernel
theorem dX2_numbersOf_56 : decode cX2_numbersOf 56 = .ok (.iconst 2, 1) := by decide +kernel
theorem dX2_numbersOf_57 : decode cX2_numbersOf 57 = .ok (.ireturn, 1) := by decide +kernel
theorem dX2_numbersOf_58 : decode cX2_numbersOf 58 = .ok (.iconst 1, 1) := by decide +kernel
theorem dX2_numbersOf_59 : decode cX2_numbersOf 59 = .ok (.ireturn, 1) := by decide +kernel
theorem dX2_numbersOf_60 : decode cX2_numbersOf 60 = .ok (.iconst 0, 1) := by decide +kernel
theorem dX2_numbersOf_61 : decode cX2_numbersOf 61 = .ok (.ireturn, 1) := by decide +kernel
set_option maxRecDepth 20000 in
theorem ggX2_doOrder_X4_fillCells : GoodIn wsX2_doOrder wsX4_fillCells := goodIn_r _ [6, 7, 8, 9, 10, 11, 5, 12, 13, 14, 15, 16, 17, 18, 19, 20, 21, 22, 23, 24, 25, 26, 27, 28, 29, 30, 31, 32, 33, 34, 35, 36, 37, 38, 39, 40, 41, 42, 43, 44, 45, 46, 47, 48, 49, 50, 51, 52, 53, 54, 55, 56, 57, 58, 59, 60, 61, 62, 63, 64, 65, 66, 67, 68, 69, 70, 71, 72, 73, 74, 75, 76, 77, 78, 79, 80, 81, 82, 83, 84, 85, 86, 87, 88, 89, 90, 91, 92, 93, 154, 155, 156, 157, 158, 159, 160, 161, 162, 163, 164, 165, 166, 167, 168] (by decide +kernel) (by decide +kernel)
set_option maxRecDepth 20000 in
theorem gX2_doOrder_X4_fillCells : GoodIn wsX2_doOrder (wsV RX2 61 RX4 yX4_fillCells wsX4_fillCells) := goodIn_app (goodIn_of _ (by decide +kernel)) ggX2_doOrder_X4_fillCells
set_option maxRecDepth 20000 in
theorem ggX2_doOrder_X4_mergeState : GoodIn wsX2_doOrder wsX4_mergeState := goodIn_r _ [97, 13, 7, 98, 9, 10, 11, 5, 12, 14, 15, 16, 17, 18, 19, 20, 21, 22, 23, 24, 25, 26, 27, 28, 99, 100, 101, 102, 103, 104, 105, 106, 107, 108, 109, 110, 93, 111, 112, 113, 114, 115, 8, 36, 37, 38, 39, 40, 41, 42, 43, 44, 45, 46, 47, 48, 49, 50, 51, 52, 53, 54, 55, 56, 57, 58, 59, 60, 61, 62, 63, 64, 65, 66, 67, 68, 69, 70, 71, 72, 73, 74, 75, 76, 77, 78, 79, 80, 81, 82, 83, 84, 85, 86, 87, 88, 89, 90, 91, 92, 154, 155, 156, 157, 158, 159, 160, 161, 162, 163, 164, 165, 166, 167, 168] (by decide +kernel) (by decide +kernel)
set_option maxRecDepth 20000 in
theorem gX2_doOrder_X4_mergeState : GoodIn wsX2_doOrder (wsV RX2 67 RX4 yX4_mergeState wsX4_mergeState) := goodIn_app (goodIn_of _ (by decide +kernel)) ggX2_doOrder_X4_mergeState
set_option maxRecDepth 20000 in
theorem ggX2_doOrder_X4_addBranch : GoodIn wsX2_doOrder wsX4_addBranch := goodIn_r _ [119, 13, 7, 14, 57, 22, 23, 24, 25, 26, 27, 28, 154, 155, 156, 157, 158, 159, 160, 161, 162, 163, 164] (by decide +kernel) (by decide +kernel)
set_option maxRecDepth 20000 in
theorem gX2_doOrder_X4_addBranch : GoodIn wsX2_doOrder (wsV RX2 71 RX4 yX4_addBranch wsX4_addBranch) := goodIn_app (goodIn_of _ (by decide +kernel)) ggX2_doOrder_X4_addBranch
set_option maxRecDepth 20000 in
theorem ggX2_doOrder_X4_forgetState : GoodIn wsX2_doOrder wsX4_forgetState := goodIn_r _ [123, 13, 7, 124, 40, 22, 23, 24, 25, 26, 27, 28, 125, 126, 127, 5, 128, 84, 85, 86, 87, 129, 130, 131, 132, 14, 133, 134, 135, 49, 136, 137, 138, 139, 140, 65, 41, 42, 43, 44, 45, 80, 81, 82, 83, 19, 20, 21, 141, 142, 143, 144, 93, 145, 76, 77, 78, 154, 155, 156, 157, 158, 159, 160, 161, 162, 163, 164, 165, 166, 167, 168] (by decide +kernel) (by decide +kernel)
set_option maxRecDepth 20000 in
theorem gX2_doOrder_X4_forgetState : GoodIn wsX2_doOrder (wsV RX2 74 RX4 yX4_forgetState wsX4_forgetState) := goodIn_app (goodIn_of _ (by decide +kernel)) ggX2_doOrder_X4_forgetState
theorem dX2_doOrder_0 : decode cX2_doOrder 0 = .ok (.iload_n 2, 1) := by decide +kernel
theorem dX2_doOrder_1 : decode cX2_doOrder 1 = .ok (.lookupswitch 124 #[(98, 113), (102, 67), (109, 96), (119, 43)], 43) := by decide +kernel
theorem dX2_doOrder_44 : decode cX2_doOrder 44 = .ok (.aload_n 1, 1) := by decide +kernel
theorem dX2_doOrder_45 : decode cX2_doOrder 45 = .ok (.aload_n 0, 1) := by decide +kernel
theorem dX2_doOrder_46 : decode cX2_doOrder 46 = .ok (.getfield 15, 3) := by decide +kernel
theorem dX2_doOrder_49 : decode cX2_doOrder 49 = .ok (.iconst 0, 1) := by decide +kernel
theorem dX2_doOrder_50 : decode cX2_doOrder 50 = .ok (.iaload, 1) := by decide +kernel
theorem dX2_doOrder_51 : decode cX2_doOrder 51 = .ok (.aload_n 0, 1) := by decide +kernel
theorem dX2_doOrder_52 : decode cX2_doOrder 52 = .ok (.getfield 15, 3) := by decide +kernel
theorem dX2_doOrder_55 : decode cX2_doOrder 55 = .ok (.iconst 1, 1) := by decide +kernel
theorem dX2_doOrder_56 : decode cX2_doOrder 56 = .ok (.iaload, 1) := by decide +kernel
theorem dX2_doOrder_57 : decode cX2_doOrder 57 = .ok (.iconst 1, 1) := by decide +kernel
theorem dX2_doOrder_58 : decode cX2_doOrder 58 = .ok (.aload_n 0, 1) := by decide +kernel
theorem dX2_doOrder_59 : decode cX2_doOrder 59 = .ok (.getfield 15, 3) := by decide +kernel
theorem dX2_doOrder_62 : decode cX2_doOrder 62 = .ok (.iconst 2, 1) := by decide +kernel
theorem dX2_doOrder_63 : decode cX2_doOrder 63 = .ok (.iaload, 1) := by decide +kernel
theorem dX2_doOrder_64 : decode cX2_doOrder 64 = .ok (.invokevirtual 61, 3) := by decide +kernel
theorem dX2_doOrder_67 : decode cX2_doOrder 67 = .ok (.ireturn, 1) := by decide +kernel
theorem dX2_doOrder_68 : decode cX2_doOrder 68 = .ok (.aload_n 1, 1) := by decide +kernel
theorem dX2_doOrder_69 : decode cX2_doOrder 69 = .ok (.aload_n 0, 1) := by decide +kernel
theorem dX2_doOrder_70 : decode cX2_doOrder 70 = .ok (.getfield 15, 3) := by decide +kernel
theorem dX2_doOrder_73 : decode cX2_doOrder 73 = .ok (.iconst 0, 1) := by decide +kernel
theorem dX2_doOrder_74 : decode cX2_doOrder 74 = .ok (.iaload, 1) := by decide +kernel
theorem dX2_doOrder_75 : decode cX2_doOrder 75 = .ok (.aload_n 0, 1) := by decide +kernel
theorem dX2_doOrder_76 : decode cX2_doOrder 76 = .ok (.getfield 15, 3) := by decide +kernel
theorem dX2_doOrder_79 : decode cX2_doOrder 79 = .ok (.iconst 1, 1) := by decide +kernel
theorem dX2_doOrder_80 : decode cX2_doOrder 80 = .ok (.iaload, 1) := by decide +kernel
theorem dX2_doOrder_81 : decode cX2_doOrder 81 = .ok (.aload_n 0, 1) := by decide +kernel
theorem dX2_doOrder_82 : decode cX2_doOrder 82 = .ok (.getfield 15, 3) := by decide +kernel
theorem dX2_doOrder_85 : decode cX2_doOrder 85 = .ok (.iconst 2, 1) := by decide +kernel
theorem dX2_doOrder_86 : decode cX2_doOrder 86 = .ok (.iaload, 1) := by decide +kernel
theorem dX2_doOrder_87 : decode cX2_doOrder 87 = .ok (.aload_n 0, 1) := by decide +kernel
theorem dX2_doOrder_88 : decode cX2_doOrder 88 = .ok (.getfield 15, 3) := by decide +kernel
theorem dX2_doOrder_91 : decode cX2_doOrder 91 = .ok (.iconst 3, 1) := by decide +kernel
theorem dX2_doOrder_92 : decode cX2_doOrder 92 = .ok (.iaload, 1) := by decide +kernel
theorem dX2_doOrder_93 : decode cX2_doOrder 93 = .ok (.invokevirtual 61, 3) := by decide +kernel
theorem dX2_doOrder_96 : decode cX2_doOrder 96 = .ok (.ireturn, 1) := by decide +kernel
theorem dX2_doOrder_97 : decode cX2_doOrder 97 = .ok (.aload_n 1, 1) := by decide +kernel
theorem dX2_doOrder_98 : decode cX2_doOrder 98 = .ok (.aload_n 0, 1) := by decide +kernel
theorem dX2_doOrder_99 : decode cX2_doOrder 99 = .ok (.getfield 15, 3) := by decide +kernel
theorem dX2_doOrder_102 : decode cX2_doOrder 102 = .ok (.iconst 0, 1) := by decide +kernel
theorem dX2_doOrder_103 : decode cX2_doOrder 103 = .ok (.iaload, 1) := by decide +kernel
theorem dX2_doOrder_104 : decode cX2_doOrder 104 = .ok (.aload_n 0, 1) := by decide +kernel
theorem dX2_doOrder_105 : decode cX2_doOrder 105 = .ok (.getfield 15, 3) := by decide +kernel
theorem dX2_doOrder_108 : decode cX2_doOrder 108 = .ok (.iconst 1, 1) := by decide +kernel
theorem dX2_doOrder_109 : decode cX2_doOrder 109 = .ok (.iaload, 1) := by decide +kernel
theorem dX2_doOrder_110 : decode cX2_doOrder 110 = .ok (.invokevirtual 67, 3) := by decide +kernel
theorem dX2_doOrder_113 : decode cX2_doOrder 113 = .ok (.ireturn, 1) := by decide +kernel
theorem dX2_doOrder_114 : decode cX2_doOrder 114 = .ok (.aload_n 1, 1) := by decide +kernel
theorem dX2_doOrder_115 : decode cX2_doOrder 115 = .ok (.aload_n 0, 1) := by decide +kernel
theorem dX2_doOrder_116 : decode cX2_doOrder 116 = .ok (.getfield 15, 3) := by decide +kernel
theorem dX2_doOrder_119 : decode cX2_doOrder 119 = .ok (.iconst 0, 1) := by decide +kernel
theorem dX2_doOrder_120 : decode cX2_doOrder 120 = .ok (.iaload, 1) := by decide +kernel
theorem dX2_doOrder_121 : decode cX2_doOrder 121 = .ok (.invokevirtual 71, 3) := by decide +kernel
theorem dX2_doOrder_124 : decode cX2_doOrder 124 = .ok (.ireturn, 1) := by decide +kernel
theorem dX2_doOrder_125 : decode cX2_doOrder 125 = .ok (.aload_n 1, 1) := by decide +kernel
theorem dX2_doOrder_126 : decode cX2_doOrder 126 = .ok (.aload_n 0, 1) := by decide +kernel
theorem dX2_doOrder_127 : decode cX2_doOrder 127 = .ok (.getfield 15, 3) := by decide +kernel
theorem dX2_doOrder_130 : decode cX2_doOrder 130 = .ok (.iconst 0, 1) := by decide +kernel
theorem dX2_doOrder_131 : decode cX2_doOrder 131 = .ok (.iaload, 1) := by decide +kernel
theorem dX2_doOrder_132 : decode cX2_doOrder 132 = .ok (.invokevirtual 74, 3) := by decide +kernel
theorem dX2_doOrder_135 : decode cX2_doOrder 135 = .ok (.ireturn, 1) := by decide +kernel
theorem dX3_init_0 : decode cX3_init 0 = .ok (.aload_n 0, 1) := by decide +kernel
theorem dX3_init_1 : decode cX3_init 1 = .ok (.invokespecial 3, 3) := by decide +kernel
theorem dX3_init_4 : decode cX3_init 4 = .ok (.aload_n 0, 1) := by decide +kernel
theorem dX3_init_5 : decode cX3_init 5 = .ok (.bipush 16, 2) := by decide +kernel
theorem dX3_init_7 : decode cX3_init 7 = .ok (.newarray .int, 2) := by decide +kernel
theorem dX3_init_9 : decode cX3_init 9 = .ok (.putfield 9, 3) := by decide +kernel
theorem dX3_init_12 : decode cX3_init 12 = .ok (.aload_n 0, 1) := by decide +kernel
theorem dX3_init_13 : decode cX3_init 13 = .ok (.bipush 16, 2) := by decide +kernel
theorem dX3_init_15 : decode cX3_init 15 = .ok (.newarray .int, 2) := by decide +kernel
theorem dX3_init_17 : decode cX3_init 17 = .ok (.putfield 15, 3) := by decide +kernel
theorem dX3_init_20 : decode cX3_init 20 = .ok (.aload_n 0, 1) := by decide +kernel
theorem dX3_init_21 : decode cX3_init 21 = .ok (.bipush 96, 2) := by decide +kernel
theorem dX3_init_23 : decode cX3_init 23 = .ok (.newarray .int, 2) := by decide +kernel
theorem dX3_init_25 : decode cX3_init 25 = .ok (.putfield 18, 3) := by decide +kernel
theorem dX3_init_28 : decode cX3_init 28 = .ok (.aload_n 0, 1) := by decide +kernel
theorem dX3_init_29 : decode cX3_init 29 = .ok (.iconst 1, 1) := by decide +kernel
theorem dX3_init_30 : decode cX3_init 30 = .ok (.putfield 21, 3) := by decide +kernel
theorem dX3_init_33 : decode cX3_init 33 = .ok (.aload_n 0, 1) := by decide +kernel
theorem dX3_init_34 : decode cX3_init 34 = .ok (.iconst 1, 1) := by decide +kernel
theorem dX3_init_35 : decode cX3_init 35 = .ok (.putfield 25, 3) := by decide +kernel
theorem dX3_init_38 : decode cX3_init 38 = .ok (.aload_n 0, 1) := by decide +kernel
theorem dX3_init_39 : decode cX3_init 39 = .ok (.getfield 15, 3) := by decide +kernel
theorem dX3_init_42 : decode cX3_init 42 = .ok (.iconst 0, 1) := by decide +kernel
theorem dX3_init_43 : decode cX3_init 43 = .ok (.iconst (-1), 1) := by decide +kernel
theorem dX3_init_44 : decode cX3_init 44 = .ok (.iastore, 1) := by decide +kernel
theorem dX3_init_45 : decode cX3_init 45 = .ok (.return_, 1) := by decide +kernel
theorem dX3_becomeLike_0 : decode cX3_becomeLike 0 = .ok (.aload_n 1, 1) := by decide +kernel
theorem dX3_becomeLike_1 : decode cX3_becomeLike 1 = .ok (.getfield 9, 3) := by decide +kernel
theorem dX3_becomeLike_4 : decode cX3_becomeLike 4 = .ok (.iconst 0, 1) := by decide +kernel
theorem dX3_becomeLike_5 : decode cX3_becomeLike 5 = .ok (.aload_n 0, 1) := by decide +kernel
theorem dX3_becomeLike_6 : decode cX3_becomeLike 6 = .ok (.getfield 9, 3) := by decide +kernel
theorem dX3_becomeLike_9 : decode cX3_becomeLike 9 = .ok (.iconst 0, 1) := by decide +kernel
theorem dX3_becomeLike_10 : decode cX3_becomeLike 10 = .ok (.aload_n 0, 1) := by decide +kernel
theorem dX3_becomeLike_11 : decode cX3_becomeLike 11 = .ok (.getfield 9, 3) := by decide +kernel
theorem dX3_becomeLike_14 : decode cX3_becomeLike 14 = .ok (.arraylength, 1) := by decide +kernel
theorem dX3_becomeLike_15 : decode cX3_becomeLike 15 = .ok (.invokestatic 28, 3) := by decide +kernel
theorem dX3_becomeLike_18 : decode cX3_becomeLike 18 = .ok (.aload_n 1, 1) := by decide +kernel
theorem dX3_becomeLike_19 : decode cX3_becomeLike 19 = .ok (.getfield 15, 3) := by decide +kernel
theorem dX3_becomeLike_22 : decode cX3_becomeLike 22 = .ok (.iconst 0, 1) := by decide +kernel
theorem dX3_becomeLike_23 : decode cX3_becomeLike 23 = .ok (.aload_n 0, 1) := by decide +kernel
theorem dX3_becomeLike_24 : decode cX3_becomeLike 24 = .ok (.getfield 15, 3) := by decide +kernel
theorem dX3_becomeLike_27 : decode cX3_becomeLike 27 = .ok (.iconst 0, 1) := by decide +kernel
theorem dX3_becomeLike_28 : decode cX3_becomeLike 28 = .ok (.aload_n 0, 1) := by decide +kernel
theorem dX3_becomeLike_29 : decode cX3_becomeLike 29 = .ok (.getfield 15, 3) := by decide +kernel
theorem dX3_becomeLike_32 : decode cX3_becomeLike 32 = .ok (.arraylength, 1) := by decide +kernel
theorem dX3_becomeLike_33 : decode cX3_becomeLike 33 = .ok (.invokestatic 28, 3) := by decide +kernel
theorem dX3_becomeLike_36 : decode cX3_becomeLike 36 = .ok (.aload_n 1, 1) := by decide +kernel
theorem dX3_becomeLike_37 : decode cX3_becomeLike 37 = .ok (.getfield 18, 3) := by decide +kernel
theorem dX3_becomeLike_40 : decode cX3_becomeLike 40 = .ok (.iconst 0, 1) := by decide +kernel
theorem dX3_becomeLike_41 : decode cX3_becomeLike 41 = .ok (.aload_n 0, 1) := by decide +kernel
theorem dX3_becomeLike_42 : decode cX3_becomeLike 42 = .ok (.getfield 18, 3) := by decide +kernel
theorem dX3_becomeLike_45 : decode cX3_becomeLike 45 = .ok (.iconst 0, 1) := by decide +kernel
theorem dX3_becomeLike_46 : decode cX3_becomeLike 46 = .ok (.aload_n 0, 1) := by decide +kernel
theorem dX3_becomeLike_47 : decode cX3_becomeLike 47 = .ok (.getfield 18, 3) := by decide +kernel
theorem dX3_becomeLike_50 : decode cX3_becomeLike 50 = .ok (.arraylength, 1) := by decide +kernel
theorem dX3_becomeLike_51 : decode cX3_becomeLike 51 = .ok (.invokestatic 28, 3) := by decide +kernel
theorem dX3_becomeLike_54 : decode cX3_becomeLike 54 = .ok (.aload_n 0, 1) := by decide +kernel
theorem dX3_becomeLike_55 : decode cX3_becomeLike 55 = .ok (.aload_n 1, 1) := by decide +kernel
theorem dX3_becomeLike_56 : decode cX3_becomeLike 56 = .ok (.getfield 21, 3) := by decide +kernel
theorem dX3_becomeLike_59 : decode cX3_becomeLike 59 = .ok (.putfield 21, 3) := by decide +kernel
theorem dX3_becomeLike_62 : decode cX3_becomeLike 62 = .ok (.aload_n 0, 1) := by decide +kernel
theorem dX3_becomeLike_63 : decode cX3_becomeLike 63 = .ok (.aload_n 1, 1) := by decide +kernel
theorem dX3_becomeLike_64 : decode cX3_becomeLike 64 = .ok (.getfield 25, 3) := by decide +kernel
theorem dX3_becomeLike_67 : decode cX3_becomeLike 67 = .ok (.putfield 25, 3) := by decide +kernel
theorem dX3_becomeLike_70 : decode cX3_becomeLike 70 = .ok (.return_, 1) := by decide +kernel
theorem dX3_slotOf_0 : decode cX3_slotOf 0 = .ok (.iconst 0, 1) := by decide +kernel
theorem dX3_slotOf_1 : decode cX3_slotOf 1 = .ok (.istore_n 2, 1) := by decide +kernel
theorem dX3_slotOf_2 : decode cX3_slotOf 2 = .ok (.iload_n 2, 1) := by decide +kernel
theorem dX3_slotOf_3 : decode cX3_slotOf 3 = .ok (.aload_n 0, 1) := by decide +kernel
theorem dX3_slotOf_4 : decode cX3_slotOf 4 = .ok (.getfield 21, 3) := by decide +kernel
theorem dX3_slotOf_7 : decode cX3_slotOf 7 = .ok (.if_icmp .ge 21, 3) := by decide +kernel
theorem dX3_slotOf_10 : decode cX3_slotOf 10 = .ok (.aload_n 0, 1) := by decide +kernel
theorem dX3_slotOf_11 : decode cX3_slotOf 11 = .ok (.getfield 9, 3) := by decide +kernel
theorem dX3_slotOf_14 : decode cX3_slotOf 14 = .ok (.iload_n 2, 1) := by decide +kernel
theorem dX3_slotOf_15 : decode cX3_slotOf 15 = .ok (.iaload, 1) := by decide +kernel
theorem dX3_slotOf_16 : decode cX3_slotOf 16 = .ok (.iload_n 1, 1) := by decide +kernel
theorem dX3_slotOf_17 : decode cX3_slotOf 17 = .ok (.if_icmp .ne 5, 3) := by decide +kernel
theorem dX3_slotOf_20 : decode cX3_slotOf 20 = .ok (.iload_n 2, 1) := by decide +kernel
theorem dX3_slotOf_21 : decode cX3_slotOf 21 = .ok (.ireturn, 1) := by decide +kernel
theorem dX3_slotOf_22 : decode cX3_slotOf 22 = .ok (.iinc 2 1, 3) := by decide +kernel
theorem dX3_slotOf_25 : decode cX3_slotOf 25 = .ok (.goto (-23), 3) := by decide +kernel
theorem dX3_slotOf_28 : decode cX3_slotOf 28 = .ok (.iconst (-1), 1) := by decide +kernel
theorem dX3_slotOf_29 : decode cX3_slotOf 29 = .ok (.ireturn, 1) := by decide +kernel
theorem dX3_numberOf_0 : decode cX3_numberOf 0 = .ok (.iload_n 1, 1) := by decide +kernel
theorem dX3_numberOf_1 : decode cX3_numberOf 1 = .ok (.ifCond .lt 20, 3) := by decide +kernel
theorem dX3_numberOf_4 : decode cX3_numberOf 4 = .ok (.iload_n 1, 1) := by decide +kernel
theorem dX3_numberOf_5 : decode cX3_numberOf 5 = .ok (.aload_n 0, 1) := by decide +kernel
theorem dX3_numberOf_6 : decode cX3_numberOf 6 = .ok (.getfield 21, 3) := by decide +kernel
theorem dX3_numberOf_9 : decode cX3_numberOf 9 = .ok (.if_icmp .ge 12, 3) := by decide +kernel
theorem dX3_numberOf_12 : decode cX3_numberOf 12 = .ok (.aload_n 0, 1) := by decide +kernel
theorem dX3_numberOf_13 : decode cX3_numberOf 13 = .ok (.getfield 9, 3) := by decide +kernel
theorem dX3_numberOf_16 : decode cX3_numberOf 16 = .ok (.iload_n 1, 1) := by decide +kernel
theorem dX3_numberOf_17 : decode cX3_numberOf 17 = .ok (.iaload, 1) := by decide +kernel
theorem dX3_numberOf_18 : decode cX3_numberOf 18 = .ok (.goto 4, 3) := by decide +kernel
theorem dX3_numberOf_21 : decode cX3_numberOf 21 = .ok (.iconst (-1), 1) := by decide +kernel
theorem dX3_numberOf_22 : decode cX3_numberOf 22 = .ok (.ireturn, 1) := by decide +kernel
theorem dX3_parentOf_0 : decode cX3_parentOf 0 = .ok (.iload_n 1, 1) := by decide +kernel
theorem dX3_parentOf_1 : decode cX3_parentOf 1 = .ok (.ifCond .lt 20, 3) := by decide +kernel
theorem dX3_parentOf_4 : decode cX3_parentOf 4 = .ok (.iload_n 1, 1) := by decide +kernel
theorem dX3_parentOf_5 : decode cX3_parentOf 5 = .ok (.aload_n 0, 1) := by decide +kernel
theorem dX3_parentOf_6 : decode cX3_parentOf 6 = .ok (.getfield 21, 3) := by decide +kernel
theorem dX3_parentOf_9 : decode cX3_parentOf 9 = .ok (.if_icmp .ge 12, 3) := by decide +kernel
theorem dX3_parentOf_12 : decode cX3_parentOf 12 = .ok (.aload_n 0, 1) := by decide +kernel
theorem dX3_parentOf_13 : decode cX3_parentOf 13 = .ok (.getfield 15, 3) := by decide +kernel
theorem dX3_parentOf_16 : decode cX3_parentOf 16 = .ok (.iload_n 1, 1) := by decide +kernel
theorem dX3_parentOf_17 : decode cX3_parentOf 17 = .ok (.iaload, 1) := by decide +kernel
theorem dX3_parentOf_18 : decode cX3_parentOf 18 = .ok (.goto 4, 3) := by decide +kernel
theorem dX3_parentOf_21 : decode cX3_parentOf 21 = .ok (.iconst (-1), 1) := by decide +kernel
theorem dX3_parentOf_22 : decode cX3_parentOf 22 = .ok (.ireturn, 1) := by decide +kernel
set_option maxRecDepth 20000 in
theorem ggX3_parentSlot_X3_parentOf : GoodIn wsX3_parentSlot wsX3_parentOf := goodIn_r _ [5, 6, 7, 13, 14, 15, 16, 17] (by decide +kernel) (by decide +kernel)
set_option maxRecDepth 20000 in
theorem gX3_parentSlot_X3_parentOf : GoodIn wsX3_parentSlot (wsV RX3 34 RX3 yX3_parentOf wsX3_parentOf) := goodIn_app (goodIn_of _ (by decide +kernel)) ggX3_parentSlot_X3_parentOf
set_option maxRecDepth 20000 in
theorem ggX3_parentSlot_X3_slotOf : GoodIn wsX3_parentSlot wsX3_slotOf := goodIn_r _ [11, 6, 12, 13, 14, 15, 16, 17] (by decide +kernel) (by decide +kernel)
set_option maxRecDepth 20000 in
theorem gX3_parentSlot_X3_slotOf : GoodIn wsX3_parentSlot (wsV RX3 38 RX3 yX3_slotOf wsX3_slotOf) := goodIn_app (goodIn_of _ (by decide +kernel)) ggX3_parentSlot_X3_slotOf
theorem dX3_parentSlot_0 : decode cX3_parentSlot 0 = .ok (.aload_n 0, 1) := by decide +kernel
theorem dX3_parentSlot_1 : decode cX3_parentSlot 1 = .ok (.aload_n 0, 1) := by decide +kernel
theorem dX3_parentSlot_2 : decode cX3_parentSlot 2 = .ok (.iload_n 1, 1) := by decide +kernel
theorem dX3_parentSlot_3 : decode cX3_parentSlot 3 = .ok (.invokevirtual 34, 3) := by decide +kernel
theorem dX3_parentSlot_6 : decode cX3_parentSlot 6 = .ok (.invokevirtual 38, 3) := by decide +kernel
theorem dX3_parentSlot_9 : decode cX3_parentSlot 9 = .ok (.ireturn, 1) := by decide +kernel
theorem dX3_block_0 : decode cX3_block 0 = .ok (.iload_n 1, 1) := by decide +kernel
theorem dX3_block_1 : decode cX3_block 1 = .ok (.ifCond .lt 25, 3) := by decide +kernel
theorem dX3_block_4 : decode cX3_block 4 = .ok (.iload_n 1, 1) := by decide +kernel
theorem dX3_block_5 : decode cX3_block 5 = .ok (.aload_n 0, 1) := by decide +kernel
theorem dX3_block_6 : decode cX3_block 6 = .ok (.getfield 21, 3) := by decide +kernel
theorem dX3_block_9 : decode cX3_block 9 = .ok (.if_icmp .ge 17, 3) := by decide +kernel
theorem dX3_block_12 : decode cX3_block 12 = .ok (.iload_n 2, 1) := by decide +kernel
theorem dX3_block_13 : decode cX3_block 13 = .ok (.ifCond .lt 13, 3) := by decide +kernel
theorem dX3_block_16 : decode cX3_block 16 = .ok (.iload_n 2, 1) := by decide +kernel
theorem dX3_block_17 : decode cX3_block 17 = .ok (.bipush 6, 2) := by decide +kernel
theorem dX3_block_19 : decode cX3_block 19 = .ok (.if_icmp .ge 7, 3) := by decide +kernel
theorem dX3_block_22 : decode cX3_block 22 = .ok (.iconst 1, 1) := by decide +kernel
theorem dX3_block_23 : decode cX3_block 23 = .ok (.goto 4, 3) := by decide +kernel
theorem dX3_block_26 : decode cX3_block 26 = .ok (.iconst 0, 1) := by decide +kernel
theorem dX3_block_27 : decode cX3_block 27 = .ok (.istore_n 3, 1) := by decide +kernel
theorem dX3_block_28 : decode cX3_block 28 = .ok (.iload_n 3, 1) := by decide +kernel
theorem dX3_block_29 : decode cX3_block 29 = .ok (.ifCond .eq 17, 3) := by decide +kernel
theorem dX3_block_32 : decode cX3_block 32 = .ok (.aload_n 0, 1) := by decide +kernel
theorem dX3_block_33 : decode cX3_block 33 = .ok (.getfield 18, 3) := by decide +kernel
theorem dX3_block_36 : decode cX3_block 36 = .ok (.iload_n 1, 1) := by decide +kernel
theorem dX3_block_37 : decode cX3_block 37 = .ok (.bipush 6, 2) := by decide +kernel
theorem dX3_block_39 : decode cX3_block 39 = .ok (.imul, 1) := by decide +kernel
theorem dX3_block_40 : decode cX3_block 40 = .ok (.iload_n 2, 1) := by decide +kernel
theorem dX3_block_41 : decode cX3_block 41 = .ok (.iadd, 1) := by decide +kernel
theorem dX3_block_42 : decode cX3_block 42 = .ok (.iaload, 1) := by decide +kernel
theorem dX3_block_43 : decode cX3_block 43 = .ok (.goto 4, 3) := by decide +kernel
theorem dX3_block_46 : decode cX3_block 46 = .ok (.iconst (-1), 1) := by decide +kernel
theorem dX3_block_47 : decode cX3_block 47 = .ok (.ireturn, 1) := by decide +kernel
theorem dX3_add_0 : decode cX3_add 0 = .ok (.aload_n 0, 1) := by decide +kernel
theorem dX3_add_1 : decode cX3_add 1 = .ok (.getfield 9, 3) := by decide +kernel
theorem dX3_add_4 : decode cX3_add 4 = .ok (.aload_n 0, 1) := by decide +kernel
theorem dX3_add_5 : decode cX3_add 5 = .ok (.getfield 21, 3) := by decide +kernel
theorem dX3_add_8 : decode cX3_add 8 = .ok (.aload_n 0, 1) := by decide +kernel
theorem dX3_add_9 : decode cX3_add 9 = .ok (.getfield 25, 3) := by decide +kernel
theorem dX3_add_12 : decode cX3_add 12 = .ok (.iastore, 1) := by decide +kernel
theorem dX3_add_13 : decode cX3_add 13 = .ok (.aload_n 0, 1) := by decide +kernel
theorem dX3_add_14 : decode cX3_add 14 = .ok (.getfield 15, 3) := by decide +kernel
theorem dX3_add_17 : decode cX3_add 17 = .ok (.aload_n 0, 1) := by decide +kernel
theorem dX3_add_18 : decode cX3_add 18 = .ok (.getfield 21, 3) := by decide +kernel
theorem dX3_add_21 : decode cX3_add 21 = .ok (.iload_n 1, 1) := by decide +kernel
theorem dX3_add_22 : decode cX3_add 22 = .ok (.iastore, 1) := by decide +kernel
theorem dX3_add_23 : decode cX3_add 23 = .ok (.aload_n 0, 1) := by decide +kernel
theorem dX3_add_24 : decode cX3_add 24 = .ok (.dup, 1) := by decide +kernel
theorem dX3_add_25 : decode cX3_add 25 = .ok (.getfield 21, 3) := by decide +kernel
theorem dX3_add_28 : decode cX3_add 28 = .ok (.iconst 1, 1) := by decide +kernel
theorem dX3_add_29 : decode cX3_add 29 = .ok (.iadd, 1) := by decide +kernel
theorem dX3_add_30 : decode cX3_add 30 = .ok (.putfield 21, 3) := by decide +kernel
theorem dX3_add_33 : decode cX3_add 33 = .ok (.aload_n 0, 1) := by decide +kernel
theorem dX3_add_34 : decode cX3_add 34 = .ok (.dup, 1) := by decide +kernel
theorem dX3_add_35 : decode cX3_add 35 = .ok (.getfield 25, 3) := by decide +kernel
theorem dX3_add_38 : decode cX3_add 38 = .ok (.iconst 1, 1) := by decide +kernel
theorem dX3_add_39 : decode cX3_add 39 = .ok (.iadd, 1) := by decide +kernel
theorem dX3_add_40 : decode cX3_add 40 = .ok (.putfield 25, 3) := by decide +kernel
theorem dX3_add_43 : decode cX3_add 43 = .ok (.aload_n 0, 1) := by decide +kernel
theorem dX3_add_44 : decode cX3_add 44 = .ok (.getfield 25, 3) := by decide +kernel
theorem dX3_add_47 : decode cX3_add 47 = .ok (.iconst 1, 1) := by decide +kernel
theorem dX3_add_48 : decode cX3_add 48 = .ok (.isub, 1) := by decide +kernel
theorem dX3_add_49 : decode cX3_add 49 = .ok (.ireturn, 1) := by decide +kernel
set_option maxRecDepth 20000 in
theorem ggX3_remove_X5_isIndex : GoodIn wsX3_remove wsX5_isIndex := goodIn_r _ [11] (by decide +kernel) (by decide +kernel)
set_option maxRecDepth 20000 in
theorem gX3_remove_X5_isIndex_n41 : GoodIn wsX3_remove (wsX5_isIndex) := ggX3_remove_X5_isIndex
theorem dX3_remove_0 : decode cX3_remove 0 = .ok (.iload_n 1, 1) := by decide +kernel
theorem dX3_remove_1 : decode cX3_remove 1 = .ok (.aload_n 0, 1) := by decide +kernel
theorem dX3_remove_2 : decode cX3_remove 2 = .ok (.getfield 21, 3) := by decide +kernel
theorem dX3_remove_5 : decode cX3_remove 5 = .ok (.invokestatic 41, 3) := by decide +kernel
theorem dX3_remove_8 : decode cX3_remove 8 = .ok (.ifCond .ne 4, 3) := by decide +kernel
theorem dX3_remove_11 : decode cX3_remove 11 = .ok (.return_, 1) := by decide +kernel
theorem dX3_remove_12 : decode cX3_remove 12 = .ok (.iload_n 1, 1) := by decide +kernel
theorem dX3_remove_13 : decode cX3_remove 13 = .ok (.iconst 1, 1) := by decide +kernel
theorem dX3_remove_14 : decode cX3_remove 14 = .ok (.iadd, 1) := by decide +kernel
theorem dX3_remove_15 : decode cX3_remove 15 = .ok (.istore_n 2, 1) := by decide +kernel
theorem dX3_remove_16 : decode cX3_remove 16 = .ok (.iload_n 2, 1) := by decide +kernel
theorem dX3_remove_17 : decode cX3_remove 17 = .ok (.aload_n 0, 1) := by decide +kernel
theorem dX3_remove_18 : decode cX3_remove 18 = .ok (.getfield 21, 3) := by decide +kernel
theorem dX3_remove_21 : decode cX3_remove 21 = .ok (.if_icmp .ge 36, 3) := by decide +kernel
theorem dX3_remove_24 : decode cX3_remove 24 = .ok (.aload_n 0, 1) := by decide +kernel
theorem dX3_remove_25 : decode cX3_remove 25 = .ok (.getfield 15, 3) := by decide +kernel
theorem dX3_remove_28 : decode cX3_remove 28 = .ok (.iload_n 2, 1) := by decide +kernel
theorem dX3_remove_29 : decode cX3_remove 29 = .ok (.iaload, 1) := by decide +kernel
theorem dX3_remove_30 : decode cX3_remove 30 = .ok (.aload_n 0, 1) := by decide +kernel
theorem dX3_remove_31 : decode cX3_remove 31 = .ok (.getfield 9, 3) := by decide +kernel
theorem dX3_remove_34 : decode cX3_remove 34 = .ok (.iload_n 1, 1) := by decide +kernel
theorem dX3_remove_35 : decode cX3_remove 35 = .ok (.iaload, 1) := by decide +kernel
theorem dX3_remove_36 : decode cX3_remove 36 = .ok (.if_icmp .ne 15, 3) := by decide +kernel
theorem dX3_remove_39 : decode cX3_remove 39 = .ok (.aload_n 0, 1) := by decide +kernel
theorem dX3_remove_40 : decode cX3_remove 40 = .ok (.getfield 15, 3) := by decide +kernel
theorem dX3_remove_43 : decode cX3_remove 43 = .ok (.iload_n 2, 1) := by decide +kernel
theorem dX3_remove_44 : decode cX3_remove 44 = .ok (.aload_n 0, 1) := by decide +kernel
theorem dX3_remove_45 : decode cX3_remove 45 = .ok (.getfield 15, 3) := by decide +kernel
theorem dX3_remove_48 : decode cX3_remove 48 = .ok (.iload_n 1, 1) := by decide +kernel
theorem dX3_remove_49 : decode cX3_remove 49 = .ok (.iaload, 1) := by decide +kernel
theorem dX3_remove_50 : decode cX3_remove 50 = .ok (.iastore, 1) := by decide +kernel
theorem dX3_remove_51 : decode cX3_remove 51 = .ok (.iinc 2 1, 3) := by decide +kernel
theorem dX3_remove_54 : decode cX3_remove 54 = .ok (.goto (-38), 3) := by decide +kernel
theorem dX3_remove_57 : decode cX3_remove 57 = .ok (.aload_n 0, 1) := by decide +kernel
theorem dX3_remove_58 : decode cX3_remove 58 = .ok (.getfield 21, 3) := by decide +kernel
theorem dX3_remove_61 : decode cX3_remove 61 = .ok (.iload_n 1, 1) := by decide +kernel
theorem dX3_remove_62 : decode cX3_remove 62 = .ok (.isub, 1) := by decide +kernel
theorem dX3_remove_63 : decode cX3_remove 63 = .ok (.iconst 1, 1) := by decide +kernel
theorem dX3_remove_64 : decode cX3_remove 64 = .ok (.isub, 1) := by decide +kernel
theorem dX3_remove_65 : decode cX3_remove 65 = .ok (.istore_n 2, 1) := by decide +kernel
theorem dX3_remove_66 : decode cX3_remove 66 = .ok (.aload_n 0, 1) := by decide +kernel
theorem dX3_remove_67 : decode cX3_remove 67 = .ok (.getfield 9, 3) := by decide +kernel
theorem dX3_remove_70 : decode cX3_remove 70 = .ok (.iload_n 1, 1) := by decide +kernel
theorem dX3_remove_71 : decode cX3_remove 71 = .ok (.iconst 1, 1) := by decide +kernel
theorem dX3_remove_72 : decode cX3_remove 72 = .ok (.iadd, 1) := by decide +kernel
theorem dX3_remove_73 : decode cX3_remove 73 = .ok (.aload_n 0, 1) := by decide +kernel
theorem dX3_remove_74 : decode cX3_remove 74 = .ok (.getfield 9, 3) := by decide +kernel
theorem dX3_remove_77 : decode cX3_remove 77 = .ok (.iload_n 1, 1) := by decide +kernel
theorem dX3_remove_78 : decode cX3_remove 78 = .ok (.iload_n 2, 1) := by decide +kernel
theorem dX3_remove_79 : decode cX3_remove 79 = .ok (.invokestatic 28, 3) := by decide +kernel
theorem dX3_remove_82 : decode cX3_remove 82 = .ok (.aload_n 0, 1) := by decide +kernel
theorem dX3_remove_83 : decode cX3_remove 83 = .ok (.getfield 15, 3) := by decide +kernel
theorem dX3_remove_86 : decode cX3_remove 86 = .ok (.iload_n 1, 1) := by decide +kernel
theorem dX3_remove_87 : decode cX3_remove 87 = .ok (.iconst 1, 1) := by decide +kernel
theorem dX3_remove_88 : decode cX3_remove 88 = .ok (.iadd, 1) := by decide +kernel
theorem dX3_remove_89 : decode cX3_remove 89 = .ok (.aload_n 0, 1) := by decide +kernel
theorem dX3_remove_90 : decode cX3_remove 90 = .ok (.getfield 15, 3) := by decide +kernel
theorem dX3_remove_93 : decode cX3_remove 93 = .ok (.iload_n 1, 1) := by decide +kernel
theorem dX3_remove_94 : decode cX3_remove 94 = .ok (.iload_n 2, 1) := by decide +kernel
theorem dX3_remove_95 : decode cX3_remove 95 = .ok (.invokestatic 28, 3) := by decide +kernel
theorem dX3_remove_98 : decode cX3_remove 98 = .ok (.aload_n 0, 1) := by decide +kernel
theorem dX3_remove_99 : decode cX3_remove 99 = .ok (.getfield 18, 3) := by decide +kernel
theorem dX3_remove_102 : decode cX3_remove 102 = .ok (.iload_n 1, 1) := by decide +kernel
theorem dX3_remove_103 : decode cX3_remove 103 = .ok (.iconst 1, 1) := by decide +kernel
theorem dX3_remove_104 : decode cX3_remove 104 = .ok (.iadd, 1) := by decide +kernel
theorem dX3_remove_105 : decode cX3_remove 105 = .ok (.bipush 6, 2) := by decide +kernel
theorem dX3_remove_107 : decode cX3_remove 107 = .ok (.imul, 1) := by decide +kernel
theorem dX3_remove_108 : decode cX3_remove 108 = .ok (.aload_n 0, 1) := by decide +kernel
theorem dX3_remove_109 : decode cX3_remove 109 = .ok (.getfield 18, 3) := by decide +kernel
theorem dX3_remove_112 : decode cX3_remove 112 = .ok (.iload_n 1, 1) := by decide +kernel
theorem dX3_remove_113 : decode cX3_remove 113 = .ok (.bipush 6, 2) := by decide +kernel
theorem dX3_remove_115 : decode cX3_remove 115 = .ok (.imul, 1) := by decide +kernel
theorem dX3_remove_116 : decode cX3_remove 116 = .ok (.iload_n 2, 1) := by decide +kernel
theorem dX3_remove_117 : decode cX3_remove 117 = .ok (.bipush 6, 2) := by decide +kernel
theorem dX3_remove_119 : decode cX3_remove 119 = .ok (.imul, 1) := by decide +kernel
theorem dX3_remove_120 : decode cX3_remove 120 = .ok (.invokestatic 28, 3) := by decide +kernel
theorem dX3_remove_123 : decode cX3_remove 123 = .ok (.aload_n 0, 1) := by decide +kernel
theorem dX3_remove_124 : decode cX3_remove 124 = .ok (.dup, 1) := by decide +kernel
theorem dX3_remove_125 : decode cX3_remove 125 = .ok (.getfield 21, 3) := by decide +kernel
theorem dX3_remove_128 : decode cX3_remove 128 = .ok (.iconst 1, 1) := by decide +kernel
theorem dX3_remove_129 : decode cX3_remove 129 = .ok (.isub, 1) := by decide +kernel
theorem dX3_remove_130 : decode cX3_remove 130 = .ok (.putfield 21, 3) := by decide +kernel
theorem dX3_remove_133 : decode cX3_remove 133 = .ok (.return_, 1) := by decide +kernel
set_option maxRecDepth 20000 in
theorem ggX3_childrenOf_X3_numberOf : GoodIn wsX3_childrenOf wsX3_numberOf := goodIn_r _ [7, 1, 8, 9, 10, 11, 12, 13] (by decide +kernel) (by decide +kernel)
set_option maxRecDepth 20000 in
theorem gX3_childrenOf_X3_numberOf : GoodIn wsX3_childrenOf (wsV RX3 45 RX3 yX3_numberOf wsX3_numberOf) := goodIn_app (goodIn_of _ (by decide +kernel)) ggX3_childrenOf_X3_numberOf
theorem dX3_childrenOf_0 : decode cX3_childrenOf 0 = .ok (.iconst 0, 1) := by decide +kernel
theorem dX3_childrenOf_1 : decode cX3_childrenOf 1 = .ok (.istore_n 2, 1) := by decide +kernel
theorem dX3_childrenOf_2 : decode cX3_childrenOf 2 = .ok (.iload_n 1, 1) := by decide +kernel
theorem dX3_childrenOf_3 : decode cX3_childrenOf 3 = .ok (.iconst 1, 1) := by decide +kernel
theorem dX3_childrenOf_4 : decode cX3_childrenOf 4 = .ok (.iadd, 1) := by decide +kernel
theorem dX3_childrenOf_5 : decode cX3_childrenOf 5 = .ok (.istore_n 3, 1) := by decide +kernel
theorem dX3_childrenOf_6 : decode cX3_childrenOf 6 = .ok (.iload_n 3, 1) := by decide +kernel
theorem dX3_childrenOf_7 : decode cX3_childrenOf 7 = .ok (.aload_n 0, 1) := by decide +kernel
theorem dX3_childrenOf_8 : decode cX3_childrenOf 8 = .ok (.getfield 21, 3) := by decide +kernel
theorem dX3_childrenOf_11 : decode cX3_childrenOf 11 = .ok (.if_icmp .ge 31, 3) := by decide +kernel
theorem dX3_childrenOf_14 : decode cX3_childrenOf 14 = .ok (.iload_n 2, 1) := by decide +kernel
theorem dX3_childrenOf_15 : decode cX3_childrenOf 15 = .ok (.aload_n 0, 1) := by decide +kernel
theorem dX3_childrenOf_16 : decode cX3_childrenOf 16 = .ok (.getfield 15, 3) := by decide +kernel
theorem dX3_childrenOf_19 : decode cX3_childrenOf 19 = .ok (.iload_n 3, 1) := by decide +kernel
theorem dX3_childrenOf_20 : decode cX3_childrenOf 20 = .ok (.iaload, 1) := by decide +kernel
theorem dX3_childrenOf_21 : decode cX3_childrenOf 21 = .ok (.aload_n 0, 1) := by decide +kernel
theorem dX3_childrenOf_22 : decode cX3_childrenOf 22 = .ok (.iload_n 1, 1) := by decide +kernel
theorem dX3_childrenOf_23 : decode cX3_childrenOf 23 = .ok (.invokevirtual 45, 3) := by decide +kernel
theorem dX3_childrenOf_26 : decode cX3_childrenOf 26 = .ok (.if_icmp .ne 7, 3) := by decide +kernel
theorem dX3_childrenOf_29 : decode cX3_childrenOf 29 = .ok (.iconst 1, 1) := by decide +kernel
theorem dX3_childrenOf_30 : decode cX3_childrenOf 30 = .ok (.goto 4, 3) := by decide +kernel
theorem dX3_childrenOf_33 : decode cX3_childrenOf 33 = .ok (.iconst 0, 1) := by decide +kernel
theorem dX3_childrenOf_34 : decode cX3_childrenOf 34 = .ok (.iadd, 1) := by decide +kernel
theorem dX3_childrenOf_35 : decode cX3_childrenOf 35 = .ok (.istore_n 2, 1) := by decide +kernel
theorem dX3_childrenOf_36 : decode cX3_childrenOf 36 = .ok (.iinc 3 1, 3) := by decide +kernel
theorem dX3_childrenOf_39 : decode cX3_childrenOf 39 = .ok (.goto (-33), 3) := by decide +kernel
theorem dX3_childrenOf_42 : decode cX3_childrenOf 42 = .ok (.iload_n 2, 1) := by decide +kernel
theorem dX3_childrenOf_43 : decode cX3_childrenOf 43 = .ok (.ireturn, 1) := by decide +kernel
set_option maxRecDepth 20000 in
theorem ggX3_stepsFrom_X3_parentSlot : GoodIn wsX3_stepsFrom wsX3_parentSlot := goodIn_r _ [5, 6, 7, 8, 4, 9, 10, 11, 12, 13, 14, 15, 16, 17, 18, 19, 20, 21] (by decide +kernel) (by decide +kernel)
set_option maxRecDepth 20000 in
theorem gX3_stepsFrom_X3_parentSlot : GoodIn wsX3_stepsFrom (wsV RX3 48 RX3 yX3_parentSlot wsX3_parentSlot) := goodIn_app (goodIn_of _ (by decide +kernel)) ggX3_stepsFrom_X3_parentSlot
theorem dX3_stepsFrom_0 : decode cX3_stepsFrom 0 = .ok (.iconst 0, 1) := by decide +kernel
theorem dX3_stepsFrom_1 : decode cX3_stepsFrom 1 = .ok (.istore_n 2, 1) := by decide +kernel
theorem dX3_stepsFrom_2 : decode cX3_stepsFrom 2 = .ok (.iload_n 1, 1) := by decide +kernel
theorem dX3_stepsFrom_3 : decode cX3_stepsFrom 3 = .ok (.istore_n 3, 1) := by decide +kernel
theorem dX3_stepsFrom_4 : decode cX3_stepsFrom 4 = .ok (.iconst 0, 1) := by decide +kernel
theorem dX3_stepsFrom_5 : decode cX3_stepsFrom 5 = .ok (.istore 4, 2) := by decide +kernel
theorem dX3_stepsFrom_7 : decode cX3_stepsFrom 7 = .ok (.iload 4, 2) := by decide +kernel
theorem dX3_stepsFrom_9 : decode cX3_stepsFrom 9 = .ok (.bipush 16, 2) := by decide +kernel
theorem dX3_stepsFrom_11 : decode cX3_stepsFrom 11 = .ok (.if_icmp .ge 22, 3) := by decide +kernel
theorem dX3_stepsFrom_14 : decode cX3_stepsFrom 14 = .ok (.iload_n 3, 1) := by decide +kernel
theorem dX3_stepsFrom_15 : decode cX3_stepsFrom 15 = .ok (.ifCond .le 18, 3) := by decide +kernel
theorem dX3_stepsFrom_18 : decode cX3_stepsFrom 18 = .ok (.aload_n 0, 1) := by decide +kernel
theorem dX3_stepsFrom_19 : decode cX3_stepsFrom 19 = .ok (.iload_n 3, 1) := by decide +kernel
theorem dX3_stepsFrom_20 : decode cX3_stepsFrom 20 = .ok (.invokevirtual 48, 3) := by decide +kernel
theorem dX3_stepsFrom_23 : decode cX3_stepsFrom 23 = .ok (.istore_n 3, 1) := by decide +kernel
theorem dX3_stepsFrom_24 : decode cX3_stepsFrom 24 = .ok (.iinc 2 1, 3) := by decide +kernel
theorem dX3_stepsFrom_27 : decode cX3_stepsFrom 27 = .ok (.iinc 4 1, 3) := by decide +kernel
theorem dX3_stepsFrom_30 : decode cX3_stepsFrom 30 = .ok (.goto (-23), 3) := by decide +kernel
theorem dX3_stepsFrom_33 : decode cX3_stepsFrom 33 = .ok (.iload_n 2, 1) := by decide +kernel
theorem dX3_stepsFrom_34 : decode cX3_stepsFrom 34 = .ok (.ireturn, 1) := by decide +kernel
set_option maxRecDepth 20000 in
theorem ggX3_commonSlot_X3_parentSlot : GoodIn wsX3_commonSlot wsX3_parentSlot := goodIn_r _ [5, 6, 7, 8, 4, 9, 10, 11, 12, 13, 14, 15, 16, 17, 18, 19, 20, 21] (by decide +kernel) (by decide +kernel)
set_option maxRecDepth 20000 in
theorem gX3_commonSlot_X3_parentSlot : GoodIn wsX3_commonSlot (wsV RX3 48 RX3 yX3_parentSlot wsX3_parentSlot) := goodIn_app (goodIn_of _ (by decide +kernel)) ggX3_commonSlot_X3_parentSlot
theorem dX3_commonSlot_0 : decode cX3_commonSlot 0 = .ok (.iload_n 1, 1) := by decide +kernel
theorem dX3_commonSlot_1 : decode cX3_commonSlot 1 = .ok (.istore_n 3, 1) := by decide +kernel
theorem dX3_commonSlot_2 : decode cX3_commonSlot 2 = .ok (.iload_n 2, 1) := by decide +kernel
theorem dX3_commonSlot_3 : decode cX3_commonSlot 3 = .ok (.istore 4, 2) := by decide +kernel
theorem dX3_commonSlot_5 : decode cX3_commonSlot 5 = .ok (.iconst 0, 1) := by decide +kernel
theorem dX3_commonSlot_6 : decode cX3_commonSlot 6 = .ok (.istore 5, 2) := by decide +kernel
theorem dX3_commonSlot_8 : decode cX3_commonSlot 8 = .ok (.iload 5, 2) := by decide +kernel
theorem dX3_commonSlot_10 : decode cX3_commonSlot 10 = .ok (.bipush 32, 2) := by decide +kernel
theorem dX3_commonSlot_12 : decode cX3_commonSlot 12 = .ok (.if_icmp .ge 38, 3) := by decide +kernel
theorem dX3_commonSlot_15 : decode cX3_commonSlot 15 = .ok (.iload_n 3, 1) := by decide +kernel
theorem dX3_commonSlot_16 : decode cX3_commonSlot 16 = .ok (.iload 4, 2) := by decide +kernel
theorem dX3_commonSlot_18 : decode cX3_commonSlot 18 = .ok (.if_icmp .eq 32, 3) := by decide +kernel
theorem dX3_commonSlot_21 : decode cX3_commonSlot 21 = .ok (.iload_n 3, 1) := by decide +kernel
theorem dX3_commonSlot_22 : decode cX3_commonSlot 22 = .ok (.iload 4, 2) := by decide +kernel
theorem dX3_commonSlot_24 : decode cX3_commonSlot 24 = .ok (.if_icmp .le 12, 3) := by decide +kernel
theorem dX3_commonSlot_27 : decode cX3_commonSlot 27 = .ok (.aload_n 0, 1) := by decide +kernel
theorem dX3_commonSlot_28 : decode cX3_commonSlot 28 = .ok (.iload_n 3, 1) := by decide +kernel
theorem dX3_commonSlot_29 : decode cX3_commonSlot 29 = .ok (.invokevirtual 48, 3) := by decide +kernel
theorem dX3_commonSlot_32 : decode cX3_commonSlot 32 = .ok (.istore_n 3, 1) := by decide +kernel
theorem dX3_commonSlot_33 : decode cX3_commonSlot 33 = .ok (.goto 11, 3) := by decide +kernel
theorem dX3_commonSlot_36 : decode cX3_commonSlot 36 = .ok (.aload_n 0, 1) := by decide +kernel
theorem dX3_commonSlot_37 : decode cX3_commonSlot 37 = .ok (.iload 4, 2) := by decide +kernel
theorem dX3_commonSlot_39 : decode cX3_commonSlot 39 = .ok (.invokevirtual 48, 3) := by decide +kernel
theorem dX3_commonSlot_42 : decode cX3_commonSlot 42 = .ok (.istore 4, 2) := by decide +kernel
theorem dX3_commonSlot_44 : decode cX3_commonSlot 44 = .ok (.iinc 5 1, 3) := by decide +kernel
theorem dX3_commonSlot_47 : decode cX3_commonSlot 47 = .ok (.goto (-39), 3) := by decide +kernel
theorem dX3_commonSlot_50 : decode cX3_commonSlot 50 = .ok (.iload_n 3, 1) := by decide +kernel
theorem dX3_commonSlot_51 : decode cX3_commonSlot 51 = .ok (.ireturn, 1) := by decide +kernel
set_option maxRecDepth 20000 in
theorem ggX3_unlikePlaces_X3_block : GoodIn wsX3_unlikePlaces wsX3_block := goodIn_r _ [5, 6, 7, 8, 9, 10, 11, 12] (by decide +kernel) (by decide +kernel)
set_option maxRecDepth 20000 in
theorem gX3_unlikePlaces_X3_block : GoodIn wsX3_unlikePlaces (wsV RX3 51 RX3 yX3_block wsX3_block) := goodIn_app (goodIn_of _ (by decide +kernel)) ggX3_unlikePlaces_X3_block
theorem dX3_unlikePlaces_0 : decode cX3_unlikePlaces 0 = .ok (.iconst 0, 1) := by decide +kernel
theorem dX3_unlikePlaces_1 : decode cX3_unlikePlaces 1 = .ok (.istore_n 3, 1) := by decide +kernel
theorem dX3_unlikePlaces_2 : decode cX3_unlikePlaces 2 = .ok (.iconst 0, 1) := by decide +kernel
theorem dX3_unlikePlaces_3 : decode cX3_unlikePlaces 3 = .ok (.istore 4, 2) := by decide +kernel
theorem dX3_unlikePlaces_5 : decode cX3_unlikePlaces 5 = .ok (.iload 4, 2) := by decide +kernel
theorem dX3_unlikePlaces_7 : decode cX3_unlikePlaces 7 = .ok (.bipush 6, 2) := by decide +kernel
theorem dX3_unlikePlaces_9 : decode cX3_unlikePlaces 9 = .ok (.if_icmp .ge 34, 3) := by decide +kernel
theorem dX3_unlikePlaces_12 : decode cX3_unlikePlaces 12 = .ok (.iload_n 3, 1) := by decide +kernel
theorem dX3_unlikePlaces_13 : decode cX3_unlikePlaces 13 = .ok (.aload_n 0, 1) := by decide +kernel
theorem dX3_unlikePlaces_14 : decode cX3_unlikePlaces 14 = .ok (.iload_n 1, 1) := by decide +kernel
theorem dX3_unlikePlaces_15 : decode cX3_unlikePlaces 15 = .ok (.iload 4, 2) := by decide +kernel
theorem dX3_unlikePlaces_17 : decode cX3_unlikePlaces 17 = .ok (.invokevirtual 51, 3) := by decide +kernel
theorem dX3_unlikePlaces_20 : decode cX3_unlikePlaces 20 = .ok (.aload_n 0, 1) := by decide +kernel
theorem dX3_unlikePlaces_21 : decode cX3_unlikePlaces 21 = .ok (.iload_n 2, 1) := by decide +kernel
theorem dX3_unlikePlaces_22 : decode cX3_unlikePlaces 22 = .ok (.iload 4, 2) := by decide +kernel
theorem dX3_unlikePlaces_24 : decode cX3_unlikePlaces 24 = .ok (.invokevirtual 51, 3) := by decide +kernel
theorem dX3_unlikePlaces_27 : decode cX3_unlikePlaces 27 = .ok (.if_icmp .eq 7, 3) := by decide +kernel
theorem dX3_unlikePlaces_30 : decode cX3_unlikePlaces 30 = .ok (.iconst 1, 1) := by decide +kernel
theorem dX3_unlikePlaces_31 : decode cX3_unlikePlaces 31 = .ok (.goto 4, 3) := by decide +kernel
theorem dX3_unlikePlaces_34 : decode cX3_unlikePlaces 34 = .ok (.iconst 0, 1) := by decide +kernel
theorem dX3_unlikePlaces_35 : decode cX3_unlikePlaces 35 = .ok (.iadd, 1) := by decide +kernel
theorem dX3_unlikePlaces_36 : decode cX3_unlikePlaces 36 = .ok (.istore_n 3, 1) := by decide +kernel
theorem dX3_unlikePlaces_37 : decode cX3_unlikePlaces 37 = .ok (.iinc 4 1, 3) := by decide +kernel
theorem dX3_unlikePlaces_40 : decode cX3_unlikePlaces 40 = .ok (.goto (-35), 3) := by decide +kernel
theorem dX3_unlikePlaces_43 : decode cX3_unlikePlaces 43 = .ok (.iload_n 3, 1) := by decide +kernel
theorem dX3_unlikePlaces_44 : decode cX3_unlikePlaces 44 = .ok (.ireturn, 1) := by decide +kernel
set_option maxRecDepth 20000 in
theorem ggX3_placesWith_X3_block : GoodIn wsX3_placesWith wsX3_block := goodIn_r _ [5, 6, 7, 8, 9, 10, 11, 12] (by decide +kernel) (by decide +kernel)
set_option maxRecDepth 20000 in
theorem gX3_placesWith_X3_block : GoodIn wsX3_placesWith (wsV RX3 51 RX3 yX3_block wsX3_block) := goodIn_app (goodIn_of _ (by decide +kernel)) ggX3_placesWith_X3_block
theorem dX3_placesWith_0 : decode cX3_placesWith 0 = .ok (.iconst 0, 1) := by decide +kernel
theorem dX3_placesWith_1 : decode cX3_placesWith 1 = .ok (.istore_n 3, 1) := by decide +kernel
theorem dX3_placesWith_2 : decode cX3_placesWith 2 = .ok (.iconst 0, 1) := by decide +kernel
theorem dX3_placesWith_3 : decode cX3_placesWith 3 = .ok (.istore 4, 2) := by decide +kernel
theorem dX3_placesWith_5 : decode cX3_placesWith 5 = .ok (.iload 4, 2) := by decide +kernel
theorem dX3_placesWith_7 : decode cX3_placesWith 7 = .ok (.bipush 6, 2) := by decide +kernel
theorem dX3_placesWith_9 : decode cX3_placesWith 9 = .ok (.if_icmp .ge 28, 3) := by decide +kernel
theorem dX3_placesWith_12 : decode cX3_placesWith 12 = .ok (.iload_n 3, 1) := by decide +kernel
theorem dX3_placesWith_13 : decode cX3_placesWith 13 = .ok (.aload_n 0, 1) := by decide +kernel
theorem dX3_placesWith_14 : decode cX3_placesWith 14 = .ok (.iload_n 1, 1) := by decide +kernel
theorem dX3_placesWith_15 : decode cX3_placesWith 15 = .ok (.iload 4, 2) := by decide +kernel
theorem dX3_placesWith_17 : decode cX3_placesWith 17 = .ok (.invokevirtual 51, 3) := by decide +kernel
theorem dX3_placesWith_20 : decode cX3_placesWith 20 = .ok (.iload_n 2, 1) := by decide +kernel
theorem dX3_placesWith_21 : decode cX3_placesWith 21 = .ok (.if_icmp .ne 7, 3) := by decide +kernel
theorem dX3_placesWith_24 : decode cX3_placesWith 24 = .ok (.iconst 1, 1) := by decide +kernel
theorem dX3_placesWith_25 : decode cX3_placesWith 25 = .ok (.goto 4, 3) := by decide +kernel
theorem dX3_placesWith_28 : decode cX3_placesWith 28 = .ok (.iconst 0, 1) := by decide +kernel
theorem dX3_placesWith_29 : decode cX3_placesWith 29 = .ok (.iadd, 1) := by decide +kernel
theorem dX3_placesWith_30 : decode cX3_placesWith 30 = .ok (.istore_n 3, 1) := by decide +kernel
theorem dX3_placesWith_31 : decode cX3_placesWith 31 = .ok (.iinc 4 1, 3) := by decide +kernel
theorem dX3_placesWith_34 : decode cX3_placesWith 34 = .ok (.goto (-29), 3) := by decide +kernel
theorem dX3_placesWith_37 : decode cX3_placesWith 37 = .ok (.iload_n 3, 1) := by decide +kernel
theorem dX3_placesWith_38 : decode cX3_placesWith 38 = .ok (.ireturn, 1) := by decide +kernel
set_option maxRecDepth 20000 in
theorem ggX3_statesWith_X3_placesWith : GoodIn wsX3_statesWith wsX3_placesWith := goodIn_r _ [6, 7, 8, 9, 5, 10, 1, 11, 12, 13, 14, 15, 16] (by decide +kernel) (by decide +kernel)
set_option maxRecDepth 20000 in
theorem gX3_statesWith_X3_placesWith : GoodIn wsX3_statesWith (wsV RX3 55 RX3 yX3_placesWith wsX3_placesWith) := goodIn_app (goodIn_of _ (by decide +kernel)) ggX3_statesWith_X3_placesWith
theorem dX3_statesWith_0 : decode cX3_statesWith 0 = .ok (.iconst 0, 1) := by decide +kernel
theorem dX3_statesWith_1 : decode cX3_statesWith 1 = .ok (.istore_n 2, 1) := by decide +kernel
theorem dX3_statesWith_2 : decode cX3_statesWith 2 = .ok (.iconst 0, 1) := by decide +kernel
theorem dX3_statesWith_3 : decode cX3_statesWith 3 = .ok (.istore_n 3, 1) := by decide +kernel
theorem dX3_statesWith_4 : decode cX3_statesWith 4 = .ok (.iload_n 3, 1) := by decide +kernel
theorem dX3_statesWith_5 : decode cX3_statesWith 5 = .ok (.aload_n 0, 1) := by decide +kernel
theorem dX3_statesWith_6 : decode cX3_statesWith 6 = .ok (.getfield 21, 3) := by decide +kernel
theorem dX3_statesWith_9 : decode cX3_statesWith 9 = .ok (.if_icmp .ge 26, 3) := by decide +kernel
theorem dX3_statesWith_12 : decode cX3_statesWith 12 = .ok (.iload_n 2, 1) := by decide +kernel
theorem dX3_statesWith_13 : decode cX3_statesWith 13 = .ok (.aload_n 0, 1) := by decide +kernel
theorem dX3_statesWith_14 : decode cX3_statesWith 14 = .ok (.iload_n 3, 1) := by decide +kernel
theorem dX3_statesWith_15 : decode cX3_statesWith 15 = .ok (.iload_n 1, 1) := by decide +kernel
theorem dX3_statesWith_16 : decode cX3_statesWith 16 = .ok (.invokevirtual 55, 3) := by decide +kernel
theorem dX3_statesWith_19 : decode cX3_statesWith 19 = .ok (.ifCond .le 7, 3) := by decide +kernel
theorem dX3_statesWith_22 : decode cX3_statesWith 22 = .ok (.iconst 1, 1) := by decide +kernel
theorem dX3_statesWith_23 : decode cX3_statesWith 23 = .ok (.goto 4, 3) := by decide +kernel
theorem dX3_statesWith_26 : decode cX3_statesWith 26 = .ok (.iconst 0, 1) := by decide +kernel
theorem dX3_statesWith_27 : decode cX3_statesWith 27 = .ok (.iadd, 1) := by decide +kernel
theorem dX3_statesWith_28 : decode cX3_statesWith 28 = .ok (.istore_n 2, 1) := by decide +kernel
theorem dX3_statesWith_29 : decode cX3_statesWith 29 = .ok (.iinc 3 1, 3) := by decide +kernel
theorem dX3_statesWith_32 : decode cX3_statesWith 32 = .ok (.goto (-28), 3) := by decide +kernel
theorem dX3_statesWith_35 : decode cX3_statesWith 35 = .ok (.iload_n 2, 1) := by decide +kernel
theorem dX3_statesWith_36 : decode cX3_statesWith 36 = .ok (.ireturn, 1) := by decide +kernel
set_option maxRecDepth 20000 in
theorem ggX3_isFirstPlace_X3_block : GoodIn wsX3_isFirstPlace wsX3_block := goodIn_r _ [5, 6, 7, 8, 9, 10, 11, 12] (by decide +kernel) (by decide +kernel)
set_option maxRecDepth 20000 in
theorem gX3_isFirstPlace_X3_block : GoodIn wsX3_isFirstPlace (wsV RX3 51 RX3 yX3_block wsX3_block) := goodIn_app (goodIn_of _ (by decide +kernel)) ggX3_isFirstPlace_X3_block
theorem dX3_isFirstPlace_0 : decode cX3_isFirstPlace 0 = .ok (.iconst 0, 1) := by decide +kernel
theorem dX3_isFirstPlace_1 : decode cX3_isFirstPlace 1 = .ok (.istore_n 3, 1) := by decide +kernel
theorem dX3_isFirstPlace_2 : decode cX3_isFirstPlace 2 = .ok (.iload_n 3, 1) := by decide +kernel
theorem dX3_isFirstPlace_3 : decode cX3_isFirstPlace 3 = .ok (.iload_n 2, 1) := by decide +kernel
theorem dX3_isFirstPlace_4 : decode cX3_isFirstPlace 4 = .ok (.if_icmp .ge 26, 3) := by decide +kernel
theorem dX3_isFirstPlace_7 : decode cX3_isFirstPlace 7 = .ok (.aload_n 0, 1) := by decide +kernel
theorem dX3_isFirstPlace_8 : decode cX3_isFirstPlace 8 = .ok (.iload_n 1, 1) := by decide +kernel
theorem dX3_isFirstPlace_9 : decode cX3_isFirstPlace 9 = .ok (.iload_n 3, 1) := by decide +kernel
theorem dX3_isFirstPlace_10 : decode cX3_isFirstPlace 10 = .ok (.invokevirtual 51, 3) := by decide +kernel
theorem dX3_isFirstPlace_13 : decode cX3_isFirstPlace 13 = .ok (.aload_n 0, 1) := by decide +kernel
theorem dX3_isFirstPlace_14 : decode cX3_isFirstPlace 14 = .ok (.iload_n 1, 1) := by decide +kernel
theorem dX3_isFirstPlace_15 : decode cX3_isFirstPlace 15 = .ok (.iload_n 2, 1) := by decide +kernel
theorem dX3_isFirstPlace_16 : decode cX3_isFirstPlace 16 = .ok (.invokevirtual 51, 3) := by decide +kernel
theorem dX3_isFirstPlace_19 : decode cX3_isFirstPlace 19 = .ok (.if_icmp .ne 5, 3) := by decide +kernel
theorem dX3_isFirstPlace_22 : decode cX3_isFirstPlace 22 = .ok (.iconst 0, 1) := by decide +kernel
theorem dX3_isFirstPlace_23 : decode cX3_isFirstPlace 23 = .ok (.ireturn, 1) := by decide +kernel
theorem dX3_isFirstPlace_24 : decode cX3_isFirstPlace 24 = .ok (.iinc 3 1, 3) := by decide +kernel
theorem dX3_isFirstPlace_27 : decode cX3_isFirstPlace 27 = .ok (.goto (-25), 3) := by decide +kernel
theorem dX3_isFirstPlace_30 : decode cX3_isFirstPlace 30 = .ok (.iconst 1, 1) := by decide +kernel
theorem dX3_isFirstPlace_31 : decode cX3_isFirstPlace 31 = .ok (.ireturn, 1) := by decide +kernel
set_option maxRecDepth 20000 in
theorem ggX3_blocksIn_X3_isFirstPlace : GoodIn wsX3_blocksIn wsX3_isFirstPlace := goodIn_r _ [5, 6, 7, 8, 4, 9, 10, 11, 12, 13, 14, 15, 16] (by decide +kernel) (by decide +kernel)
set_option maxRecDepth 20000 in
theorem gX3_blocksIn_X3_isFirstPlace : GoodIn wsX3_blocksIn (wsV RX3 58 RX3 yX3_isFirstPlace wsX3_isFirstPlace) := goodIn_app (goodIn_of _ (by decide +kernel)) ggX3_blocksIn_X3_isFirstPlace
theorem dX3_blocksIn_0 : decode cX3_blocksIn 0 = .ok (.iconst 0, 1) := by decide +kernel
theorem dX3_blocksIn_1 : decode cX3_blocksIn 1 = .ok (.istore_n 2, 1) := by decide +kernel
theorem dX3_blocksIn_2 : decode cX3_blocksIn 2 = .ok (.iconst 0, 1) := by decide +kernel
theorem dX3_blocksIn_3 : decode cX3_blocksIn 3 = .ok (.istore_n 3, 1) := by decide +kernel
theorem dX3_blocksIn_4 : decode cX3_blocksIn 4 = .ok (.iload_n 3, 1) := by decide +kernel
theorem dX3_blocksIn_5 : decode cX3_blocksIn 5 = .ok (.bipush 6, 2) := by decide +kernel
theorem dX3_blocksIn_7 : decode cX3_blocksIn 7 = .ok (.if_icmp .ge 26, 3) := by decide +kernel
theorem dX3_blocksIn_10 : decode cX3_blocksIn 10 = .ok (.iload_n 2, 1) := by decide +kernel
theorem dX3_blocksIn_11 : decode cX3_blocksIn 11 = .ok (.aload_n 0, 1) := by decide +kernel
theorem dX3_blocksIn_12 : decode cX3_blocksIn 12 = .ok (.iload_n 1, 1) := by decide +kernel
theorem dX3_blocksIn_13 : decode cX3_blocksIn 13 = .ok (.iload_n 3, 1) := by decide +kernel
theorem dX3_blocksIn_14 : decode cX3_blocksIn 14 = .ok (.invokevirtual 58, 3) := by decide +kernel
theorem dX3_blocksIn_17 : decode cX3_blocksIn 17 = .ok (.ifCond .eq 7, 3) := by decide +kernel
theorem dX3_blocksIn_20 : decode cX3_blocksIn 20 = .ok (.iconst 1, 1) := by decide +kernel
theorem dX3_blocksIn_21 : decode cX3_blocksIn 21 = .ok (.goto 4, 3) := by decide +kernel
theorem dX3_blocksIn_24 : decode cX3_blocksIn 24 = .ok (.iconst 0, 1) := by decide +kernel
theorem dX3_blocksIn_25 : decode cX3_blocksIn 25 = .ok (.iadd, 1) := by decide +kernel
theorem dX3_blocksIn_26 : decode cX3_blocksIn 26 = .ok (.istore_n 2, 1) := by decide +kernel
theorem dX3_blocksIn_27 : decode cX3_blocksIn 27 = .ok (.iinc 3 1, 3) := by decide +kernel
theorem dX3_blocksIn_30 : decode cX3_blocksIn 30 = .ok (.goto (-26), 3) := by decide +kernel
theorem dX3_blocksIn_33 : decode cX3_blocksIn 33 = .ok (.iload_n 2, 1) := by decide +kernel
theorem dX3_blocksIn_34 : decode cX3_blocksIn 34 = .ok (.ireturn, 1) := by decide +kernel
set_option maxRecDepth 20000 in
theorem ggX4_init_X0_init : GoodIn wsX4_init wsX0_init := goodIn_r _ [19, 20, 2, 3, 12, 21, 22, 23, 24, 34, 35, 36, 37] (by decide +kernel) (by decide +kernel)
set_option maxRecDepth 20000 in
theorem gX4_init_X0_init : GoodIn wsX4_init (wsX0_init) := ggX4_init_X0_init
set_option maxRecDepth 20000 in
theorem ggX4_init_X3_init : GoodIn wsX4_init wsX3_init := goodIn_r _ [27, 28, 2, 3, 12, 29, 30, 31, 32, 33, 44, 45, 46, 47, 48] (by decide +kernel) (by decide +kernel)
set_option maxRecDepth 20000 in
theorem gX4_init_X3_init : GoodIn wsX4_init (wsX3_init) := ggX4_init_X3_init
theorem dX4_init_0 : decode cX4_init 0 = .ok (.aload_n 0, 1) := by decide +kernel
theorem dX4_init_1 : decode cX4_init 1 = .ok (.invokespecial 3, 3) := by decide +kernel
theorem dX4_init_4 : decode cX4_init 4 = .ok (.aload_n 0, 1) := by decide +kernel
theorem dX4_init_5 : decode cX4_init 5 = .ok (.new 9, 3) := by decide +kernel
theorem dX4_init_8 : decode cX4_init 8 = .ok (.dup, 1) := by decide +kernel
end
section
set_option maxHeartbeats 4000000 in
set_option maxRecDepth 100000 in
theorem kX0_isThere (l : Launch) (G : Gl) (P : Nat → Nat) (V : Vt) (w : Nat) (block : Int) (hw : w < 6) (hB : BV V) (h1 : inR block) : Met l yX0_isThere wsX0_isThere ({ frames := 0, cells := 0, slots := 0, locals := 0 }) (va_Pc [.ref (ad G 1 w), .int (iI block)] (Sg G P V)) (Qk G mkI (dt (b2i (0 ≤ block ∧ block < 40 ∧ 0 < V 3 w block)) P V)) 0 0 (mem G) := by
  refine z_met (cc := cX0_isThere) (nL := 2) (ret := (some .boolean)) (own := RX0) (by decide +kernel) rfl rfl (Nat.le_of_ble_eq_true rfl) (zz_cat rfl) (L := [some (.ref (ad G 1 w)), some (.int (iI block))]) rfl ?_
  intro X E
  have iX0 : ∀ x ∈ wsX00, x ∈ wsX0_isThere := by decide +kernel
  have f0 : Cond.fieldLink RX0 15 "SharedStates$Blocks" "uses" "[I" ∈ wsX0_isThere := by decide +kernel
  refine z_iload_n E dX0_isThere_0 1 rfl rfl ?_
  refine z_if_lt E 23 dX0_isThere_1 rfl (by omega) (fun c_1 => ?_) (fun c_1 => ?_)
  · skip
    refine z_iconst E dX0_isThere_23 ?_
    exact z_zret E dX0_isThere_24 (by first | decide | omega) (by first | exact ⟨(b2i_t (by omega)).symm, rfl, rfl⟩ | exact ⟨(b2i_f (by omega)).symm, rfl, rfl⟩ | exact ⟨rfl, rfl, rfl⟩ | (exfalso; omega))
  · skip
    refine z_iload_n E dX0_isThere_4 1 rfl rfl ?_
    refine z_bipush E dX0_isThere_5 rfl ?_
    refine z_icmp_ge E 23 dX0_isThere_7 rfl (by omega) (by omega) (fun c_2 => ?_) (fun c_2 => ?_)
    · skip
      refine z_iconst E dX0_isThere_23 ?_
      exact z_zret E dX0_isThere_24 (by first | decide | omega) (by first | exact ⟨(b2i_t (by omega)).symm, rfl, rfl⟩ | exact ⟨(b2i_f (by omega)).symm, rfl, rfl⟩ | exact ⟨rfl, rfl, rfl⟩ | (exfalso; omega))
    · skip
      refine z_aload_n E dX0_isThere_10 0 rfl rfl ?_
      refine z_get E (ci := 0) (N := 4) (C := RX0) (T := TX0) (vl_w (by decide) hw) rfl rfl iX0 1 (by decide) rfl f0 rfl dX0_isThere_11 ?_
      refine z_iload_n E dX0_isThere_14 1 rfl rfl ?_
      refine z_iald E (vl_w (by decide) hw) 40 rfl (by omega) (by omega) (by omega) dX0_isThere_15 ?_
      have hr_3 := hB.g 3 w block rfl
      refine z_if_le E 23 dX0_isThere_16 rfl (by omega) (fun c_4 => ?_) (fun c_4 => ?_)
      · skip
        refine z_iconst E dX0_isThere_23 ?_
        exact z_zret E dX0_isThere_24 (by first | decide | omega) (by first | exact ⟨(b2i_t (by omega)).symm, rfl, rfl⟩ | exact ⟨(b2i_f (by omega)).symm, rfl, rfl⟩ | exact ⟨rfl, rfl, rfl⟩ | (exfalso; omega))
      · skip
        refine z_iconst E dX0_isThere_19 ?_
        refine z_goto E 24 dX0_isThere_20 rfl ?_
        exact z_zret E dX0_isThere_24 (by first | decide | omega) (by first | exact ⟨(b2i_t (by omega)).symm, rfl, rfl⟩ | exact ⟨(b2i_f (by omega)).symm, rfl, rfl⟩ | exact ⟨rfl, rfl, rfl⟩ | (exfalso; omega))

set_option maxHeartbeats 4000000 in
set_option maxRecDepth 100000 in
theorem kX0_cellOf (l : Launch) (G : Gl) (P : Nat → Nat) (V : Vt) (w : Nat) (block : Int) (cell : Int) (hw : w < 6) (hB : BV V) (h1 : 0 ≤ block) (h2 : block < 40) (h3 : 0 ≤ cell) (h4 : cell < 8) : Met l yX0_cellOf wsX0_cellOf ({ frames := 0, cells := 0, slots := 0, locals := 0 }) (va_Pc [.ref (ad G 1 w), .int (iI block), .int (iI cell)] (Sg G P V)) (Qk G mkI (dt (V 2 w (block * 8 + cell)) P V)) 0 0 (mem G) := by
  refine z_met (cc := cX0_cellOf) (nL := 4) (ret := (some .int)) (own := RX0) (by decide +kernel) rfl rfl (Nat.le_of_ble_eq_true rfl) (zz_cat rfl) (L := [some (.ref (ad G 1 w)), some (.int (iI block)), some (.int (iI cell)), none]) rfl ?_
  intro X E
  have iX0 : ∀ x ∈ wsX00, x ∈ wsX0_cellOf := by decide +kernel
  have f0 : Cond.fieldLink RX0 9 "SharedStates$Blocks" "cells" "[I" ∈ wsX0_cellOf := by decide +kernel
  refine z_iload_n E dX0_cellOf_0 1 rfl rfl ?_
  refine z_bipush E dX0_cellOf_1 rfl ?_
  refine z_imul E dX0_cellOf_3 ?_
  refine z_iload_n E dX0_cellOf_4 2 rfl rfl ?_
  refine z_iadd E dX0_cellOf_5 ?_
  refine z_istore_n E dX0_cellOf_6 3 rfl (L' := [some (.ref (ad G 1 w)), some (.int (iI block)), some (.int (iI cell)), some (.int (iI ((block * 8) + cell)))]) (Nat.le_of_ble_eq_true rfl) rfl ?_
  refine z_iload_n E dX0_cellOf_7 3 rfl rfl ?_
  refine z_if_lt E 29 dX0_cellOf_8 rfl (by omega) (fun c_1 => ?_) (fun c_1 => ?_)
  · skip
    refine z_iconst E dX0_cellOf_29 ?_
    exact z_iret E dX0_cellOf_30 (by first | exact ⟨rfl, rfl, rfl⟩ | exact ⟨by omega, rfl, rfl⟩ | (exfalso; omega))
  · skip
    refine z_iload_n E dX0_cellOf_11 3 rfl rfl ?_
    refine z_aload_n E dX0_cellOf_12 0 rfl rfl ?_
    refine z_get E (ci := 0) (N := 4) (C := RX0) (T := TX0) (vl_w (by decide) hw) rfl rfl iX0 0 (by decide) rfl f0 rfl dX0_cellOf_13 ?_
    refine z_alen E (vl_w (by decide) hw) 320 rfl dX0_cellOf_16 ?_
    refine z_icmp_ge E 29 dX0_cellOf_17 rfl (by omega) (by omega) (fun c_2 => ?_) (fun c_2 => ?_)
    · skip
      refine z_iconst E dX0_cellOf_29 ?_
      exact z_iret E dX0_cellOf_30 (by first | exact ⟨rfl, rfl, rfl⟩ | exact ⟨by omega, rfl, rfl⟩ | (exfalso; omega))
    · skip
      refine z_aload_n E dX0_cellOf_20 0 rfl rfl ?_
      refine z_get E (ci := 0) (N := 4) (C := RX0) (T := TX0) (vl_w (by decide) hw) rfl rfl iX0 0 (by decide) rfl f0 rfl dX0_cellOf_21 ?_
      refine z_iload_n E dX0_cellOf_24 3 rfl rfl ?_
      refine z_iald E (vl_w (by decide) hw) 320 rfl (by omega) (by omega) (by omega) dX0_cellOf_25 ?_
      have hr_3 := hB.g 2 w ((block * 8) + cell) rfl
      refine z_goto E 30 dX0_cellOf_26 rfl ?_
      exact z_iret E dX0_cellOf_30 (by first | exact ⟨rfl, rfl, rfl⟩ | exact ⟨by omega, rfl, rfl⟩ | (exfalso; omega))

set_option maxHeartbeats 4000000 in
set_option maxRecDepth 100000 in
theorem kX0_there (l : Launch) (G : Gl) (P : Nat → Nat) (V : Vt) (w : Nat) (hw : w < 6) (hB : BV V) : Met l yX0_there wsX0_there ({ frames := 1, cells := 0, slots := 0, locals := 21 }) (va_Pc [.ref (ad G 1 w)] (Sg G P V)) (Qk G mkI (dt (sm 40 (fun b => b2i (0 < V 3 w b))) P V)) 0 0 (mem G) := by
  refine z_met (cc := cX0_there) (nL := 3) (ret := (some .int)) (own := RX0) (by decide +kernel) rfl rfl (Nat.le_of_ble_eq_true rfl) (zz_cat rfl) (L := [some (.ref (ad G 1 w)), none, none]) rfl ?_
  intro X E
  refine z_iconst E dX0_there_0 ?_
  refine z_istore_n E dX0_there_1 1 rfl (L' := [some (.ref (ad G 1 w)), some (.int (iI 0)), none]) (Nat.le_of_ble_eq_true rfl) rfl ?_
  refine z_iconst E dX0_there_2 ?_
  refine z_istore_n E dX0_there_3 2 rfl (L' := [some (.ref (ad G 1 w)), some (.int (iI 0)), some (.int (iI 0))]) (Nat.le_of_ble_eq_true rfl) rfl ?_
  have lp_4_1 : ∀ (fuel : Nat) (m : Int) (k : Int), (0 ≤ k) → (k ≤ 40) → (m = sm k (fun b => b2i (0 < V 3 w b))) → (40 - k : Int).toNat < fuel → Kz X G P V [some (.ref (ad G 1 w)), some (.int (iI m)), some (.int (iI k))] 4 [] := by
    intro fuel
    induction fuel with
    | zero => intro m k hk0 hk1 hs hf_4; exact absurd hf_4 (Nat.not_lt_zero _)
    | succ fuel ih_4 =>
      intro m k hk0 hk1 hs hf_4
      refine z_iload_n E dX0_there_4 2 rfl rfl ?_
      refine z_bipush E dX0_there_5 rfl ?_
      refine z_icmp_ge E 32 dX0_there_7 rfl (by omega) (by omega) (fun c_2 => ?_) (fun c_2 => ?_)
      · skip
        refine z_iload_n E dX0_there_32 1 rfl rfl ?_
        exact z_iret E dX0_there_33 (⟨by rw [hs, show k = 40 by omega], rfl, rfl⟩)
      · skip
        refine z_iload_n E dX0_there_10 1 rfl rfl ?_
        refine z_aload_n E dX0_there_11 0 rfl rfl ?_
        refine z_iload_n E dX0_there_12 2 rfl rfl ?_
        refine z_callV E (ci := 0) (N := 4) (C := RX0) (T := TX0) (n := 1) (st := [.int (iI m)]) (vl_w (by decide) hw) rfl rfl [.int (iI k)] (kX0_isThere l G P V w k hw hB (by omega)) gX0_there_X0_isThere rfl ⟨rfl, rfl⟩ (by decide +kernel) ⟨Nat.le_of_ble_eq_true rfl, Nat.le_of_ble_eq_true rfl⟩ rfl rfl (Nat.le_of_ble_eq_true rfl) rfl dX0_there_13 (z_dtI ?_)
        refine z_ifeq_b E 23 dX0_there_16 rfl (fun c_4 => ?_) (fun c_4 => ?_)
        · skip
          refine z_iconst E dX0_there_23 ?_
          refine z_iadd E dX0_there_24 ?_
          refine z_istore_n E dX0_there_25 1 rfl (L' := [some (.ref (ad G 1 w)), some (.int (iI (m + 0))), some (.int (iI k))]) (Nat.le_of_ble_eq_true rfl) rfl ?_
          refine z_iinc E k dX0_there_26 (L' := [some (.ref (ad G 1 w)), some (.int (iI (m + 0))), some (.int (iI (k + 1)))]) (Nat.le_of_ble_eq_true rfl) rfl rfl ?_
          refine z_goto E 4 dX0_there_29 rfl ?_
          exact ih_4 (m + 0) (k + 1) (by omega) (by omega) (by first | exact smb_t hs (by omega) (by first | assumption | omega) | exact smb_f hs (by omega) (by first | assumption | omega) | exact smb_f0 hs (by omega) (by first | assumption | omega)) (by omega)
        · skip
          refine z_iconst E dX0_there_19 ?_
          refine z_goto E 24 dX0_there_20 rfl ?_
          refine z_iadd E dX0_there_24 ?_
          refine z_istore_n E dX0_there_25 1 rfl (L' := [some (.ref (ad G 1 w)), some (.int (iI (m + 1))), some (.int (iI k))]) (Nat.le_of_ble_eq_true rfl) rfl ?_
          refine z_iinc E k dX0_there_26 (L' := [some (.ref (ad G 1 w)), some (.int (iI (m + 1))), some (.int (iI (k + 1)))]) (Nat.le_of_ble_eq_true rfl) rfl rfl ?_
          refine z_goto E 4 dX0_there_29 rfl ?_
          exact ih_4 (m + 1) (k + 1) (by omega) (by omega) (by first | exact smb_t hs (by omega) (by first | assumption | omega) | exact smb_f hs (by omega) (by first | assumption | omega) | exact smb_f0 hs (by omega) (by first | assumption | omega)) (by omega)
  exact lp_4_1 ((40 - 0 : Int).toNat + 1) 0 0 (by omega) (by omega) (sm_0 (by omega)).symm (Nat.lt_succ_self _)

set_option maxHeartbeats 4000000 in
set_option maxRecDepth 100000 in
theorem kX0_holds (l : Launch) (G : Gl) (P : Nat → Nat) (V : Vt) (w : Nat) (block : Int) (ρ n : Nat) (start : Int) (hw : w < 6) (hB : BV V) (hρ : ρ = 9 ∧ n = 48 ∨ ρ = 2 ∧ n = 320) (h1 : 0 ≤ block) (h2 : block < 40) (h3 : 0 ≤ start) (h4 : start ≤ (n : Int) - 8) : Met l yX0_holds wsX0_holds ({ frames := 0, cells := 0, slots := 0, locals := 0 }) (va_Pc [.ref (ad G 1 w), .int (iI block), .ref (ad G ρ w), .int (iI start)] (Sg G P V)) (Qk G mkI (dt (b2i (V 3 w block ≠ 0 ∧ eq8 (V 2 w) (V ρ w) (block * 8) start)) P V)) 0 0 (mem G) := by
  refine z_met (cc := cX0_holds) (nL := 5) (ret := (some .boolean)) (own := RX0) (by decide +kernel) rfl rfl (Nat.le_of_ble_eq_true rfl) (zz_cat rfl) (L := [some (.ref (ad G 1 w)), some (.int (iI block)), some (.ref (ad G ρ w)), some (.int (iI start)), none]) rfl ?_
  intro X E
  have iX0 : ∀ x ∈ wsX00, x ∈ wsX0_holds := by decide +kernel
  have f0 : Cond.fieldLink RX0 15 "SharedStates$Blocks" "uses" "[I" ∈ wsX0_holds := by decide +kernel
  have f1 : Cond.fieldLink RX0 9 "SharedStates$Blocks" "cells" "[I" ∈ wsX0_holds := by decide +kernel
  have vρ : vl ρ w = true := by rcases hρ with ⟨rfl, rfl⟩ | ⟨rfl, rfl⟩ <;> exact vl_w (by decide) hw
  have eρ : ∀ f : Int → Int, cE G P f ρ w = aE G n f := by rcases hρ with ⟨rfl, rfl⟩ | ⟨rfl, rfl⟩ <;> exact fun _ => rfl
  have sρ : sfR ρ = true := by rcases hρ with ⟨rfl, rfl⟩ | ⟨rfl, rfl⟩ <;> rfl
  have hn : 48 ≤ n ∧ n ≤ 320 := by omega
  refine z_iload_n E dX0_holds_0 1 rfl rfl ?_
  refine z_if_lt E 19 dX0_holds_1 rfl (by omega) (fun c_1 => ?_) (fun c_1 => ?_)
  · skip
    refine z_iconst E dX0_holds_19 ?_
    exact z_zret E dX0_holds_20 (by first | decide | omega) (by first | (exfalso; omega) | exact ⟨(b2i_f (fun z => absurd z.1 (by omega))).symm, rfl, rfl⟩)
  · skip
    refine z_iload_n E dX0_holds_4 1 rfl rfl ?_
    refine z_bipush E dX0_holds_5 rfl ?_
    refine z_icmp_ge E 19 dX0_holds_7 rfl (by omega) (by omega) (fun c_2 => ?_) (fun c_2 => ?_)
    · skip
      refine z_iconst E dX0_holds_19 ?_
      exact z_zret E dX0_holds_20 (by first | decide | omega) (by first | (exfalso; omega) | exact ⟨(b2i_f (fun z => absurd z.1 (by omega))).symm, rfl, rfl⟩)
    · skip
      refine z_aload_n E dX0_holds_10 0 rfl rfl ?_
      refine z_get E (ci := 0) (N := 4) (C := RX0) (T := TX0) (vl_w (by decide) hw) rfl rfl iX0 1 (by decide) rfl f0 rfl dX0_holds_11 ?_
      refine z_iload_n E dX0_holds_14 1 rfl rfl ?_
      refine z_iald E (vl_w (by decide) hw) 40 rfl (by omega) (by omega) (by omega) dX0_holds_15 ?_
      have hr_3 := hB.g 3 w block rfl
      refine z_if_ne E 21 dX0_holds_16 rfl (by omega) (fun c_4 => ?_) (fun c_4 => ?_)
      · skip
        refine z_iload_n E dX0_holds_21 3 rfl rfl ?_
        refine z_if_lt E 34 dX0_holds_22 rfl (by omega) (fun c_5 => ?_) (fun c_5 => ?_)
        · skip
          refine z_iconst E dX0_holds_34 ?_
          exact z_zret E dX0_holds_35 (by first | decide | omega) (by first | (exfalso; omega) | exact ⟨(b2i_f (fun z => absurd z.1 (by omega))).symm, rfl, rfl⟩)
        · skip
          refine z_iload_n E dX0_holds_25 3 rfl rfl ?_
          refine z_aload_n E dX0_holds_26 2 rfl rfl ?_
          refine z_alen E vρ n (eρ _) dX0_holds_27 ?_
          refine z_bipush E dX0_holds_28 rfl ?_
          refine z_isub E dX0_holds_30 ?_
          refine z_icmp_le E 36 dX0_holds_31 rfl (by omega) (by omega) (fun c_6 => ?_) (fun c_6 => ?_)
          · skip
            refine z_iconst E dX0_holds_36 ?_
            refine z_istore E dX0_holds_37 (L' := [some (.ref (ad G 1 w)), some (.int (iI block)), some (.ref (ad G ρ w)), some (.int (iI start)), some (.int (iI 0))]) (Nat.le_of_ble_eq_true rfl) rfl ?_
            have lp_39_7 : ∀ (fuel : Nat) (i : Int), (0 ≤ i) → (i ≤ 8) → (∀ j, 0 ≤ j → j < i → V 2 w (block * 8 + j) = V ρ w (start + j)) → (8 - i : Int).toNat < fuel → Kz X G P V [some (.ref (ad G 1 w)), some (.int (iI block)), some (.ref (ad G ρ w)), some (.int (iI start)), some (.int (iI i))] 39 [] := by
              intro fuel
              induction fuel with
              | zero => intro i hi0 hi1 hia hf_39; exact absurd hf_39 (Nat.not_lt_zero _)
              | succ fuel ih_39 =>
                intro i hi0 hi1 hia hf_39
                refine z_iload E dX0_holds_39 rfl ?_
                refine z_bipush E dX0_holds_41 rfl ?_
                refine z_icmp_ge E 75 dX0_holds_43 rfl (by omega) (by omega) (fun c_8 => ?_) (fun c_8 => ?_)
                · skip
                  refine z_iconst E dX0_holds_75 ?_
                  exact z_zret E dX0_holds_76 (by first | decide | omega) (⟨(b2i_t ⟨by omega, fun j h0 h1 => hia j h0 (by omega)⟩).symm, rfl, rfl⟩)
                · skip
                  refine z_aload_n E dX0_holds_46 0 rfl rfl ?_
                  refine z_get E (ci := 0) (N := 4) (C := RX0) (T := TX0) (vl_w (by decide) hw) rfl rfl iX0 0 (by decide) rfl f1 rfl dX0_holds_47 ?_
                  refine z_iload_n E dX0_holds_50 1 rfl rfl ?_
                  refine z_bipush E dX0_holds_51 rfl ?_
                  refine z_imul E dX0_holds_53 ?_
                  refine z_iload E dX0_holds_54 rfl ?_
                  refine z_iadd E dX0_holds_56 ?_
                  refine z_iald E (vl_w (by decide) hw) 320 rfl (by omega) (by omega) (by omega) dX0_holds_57 ?_
                  have hr_9 := hB.g 2 w ((block * 8) + i) rfl
                  refine z_aload_n E dX0_holds_58 2 rfl rfl ?_
                  refine z_iload_n E dX0_holds_59 3 rfl rfl ?_
                  refine z_iload E dX0_holds_60 rfl ?_
                  refine z_iadd E dX0_holds_62 ?_
                  refine z_iald E vρ n (eρ _) (by omega) (by omega) (by omega) dX0_holds_63 ?_
                  have hr_10 := hB.g ρ w (start + i) sρ
                  refine z_icmp_eq E 69 dX0_holds_64 rfl (by omega) (by omega) (fun c_11 => ?_) (fun c_11 => ?_)
                  · skip
                    refine z_iinc E i dX0_holds_69 (L' := [some (.ref (ad G 1 w)), some (.int (iI block)), some (.ref (ad G ρ w)), some (.int (iI start)), some (.int (iI (i + 1)))]) (Nat.le_of_ble_eq_true rfl) rfl rfl ?_
                    refine z_goto E 39 dX0_holds_72 rfl ?_
                    exact ih_39 (i + 1) (by omega) (by omega) (all_s hia (by assumption)) (by omega)
                  · skip
                    refine z_iconst E dX0_holds_67 ?_
                    exact z_zret E dX0_holds_68 (by first | decide | omega) (⟨(b2i_f (fun z => absurd (z.2 i hi0 (by omega)) (by assumption))).symm, rfl, rfl⟩)
            exact lp_39_7 ((8 - 0 : Int).toNat + 1) 0 (by omega) (by omega) all_0 (Nat.lt_succ_self _)
          · skip
            refine z_iconst E dX0_holds_34 ?_
            exact z_zret E dX0_holds_35 (by first | decide | omega) (by first | (exfalso; omega) | exact ⟨(b2i_f (fun z => absurd z.1 (by omega))).symm, rfl, rfl⟩)
      · skip
        refine z_iconst E dX0_holds_19 ?_
        exact z_zret E dX0_holds_20 (by first | decide | omega) (by first | (exfalso; omega) | exact ⟨(b2i_f (fun z => absurd z.1 (by omega))).symm, rfl, rfl⟩)

set_option maxHeartbeats 4000000 in
set_option maxRecDepth 100000 in
theorem kX0_lowestHolding (l : Launch) (G : Gl) (P : Nat → Nat) (V : Vt) (w : Nat) (ρ n : Nat) (start : Int) (hw : w < 6) (hB : BV V) (hρ : ρ = 9 ∧ n = 48 ∨ ρ = 2 ∧ n = 320) (h3 : 0 ≤ start) (h4 : start ≤ (n : Int) - 8) : Met l yX0_lowestHolding wsX0_lowestHolding ({ frames := 1, cells := 0, slots := 0, locals := 24 }) (va_Pc [.ref (ad G 1 w), .ref (ad G ρ w), .int (iI start)] (Sg G P V)) (Qk G mkI (dt (fnd 40 (fun b => V 3 w b ≠ 0 ∧ eq8 (V 2 w) (V ρ w) (b * 8) start)) P V)) 0 0 (mem G) := by
  refine z_met (cc := cX0_lowestHolding) (nL := 4) (ret := (some .int)) (own := RX0) (by decide +kernel) rfl rfl (Nat.le_of_ble_eq_true rfl) (zz_cat rfl) (L := [some (.ref (ad G 1 w)), some (.ref (ad G ρ w)), some (.int (iI start)), none]) rfl ?_
  intro X E
  have vρ : vl ρ w = true := by rcases hρ with ⟨rfl, rfl⟩ | ⟨rfl, rfl⟩ <;> exact vl_w (by decide) hw
  have eρ : ∀ f : Int → Int, cE G P f ρ w = aE G n f := by rcases hρ with ⟨rfl, rfl⟩ | ⟨rfl, rfl⟩ <;> exact fun _ => rfl
  have sρ : sfR ρ = true := by rcases hρ with ⟨rfl, rfl⟩ | ⟨rfl, rfl⟩ <;> rfl
  have hn : 48 ≤ n ∧ n ≤ 320 := by omega
  refine z_iconst E dX0_lowestHolding_0 ?_
  refine z_istore_n E dX0_lowestHolding_1 3 rfl (L' := [some (.ref (ad G 1 w)), some (.ref (ad G ρ w)), some (.int (iI start)), some (.int (iI 0))]) (Nat.le_of_ble_eq_true rfl) rfl ?_
  have lp_2_1 : ∀ (fuel : Nat) (k : Int), (0 ≤ k) → (k ≤ 40) → (∀ b, 0 ≤ b → b < k → ¬ (V 3 w b ≠ 0 ∧ eq8 (V 2 w) (V ρ w) (b * 8) start)) → (40 - k : Int).toNat < fuel → Kz X G P V [some (.ref (ad G 1 w)), some (.ref (ad G ρ w)), some (.int (iI start)), some (.int (iI k))] 2 [] := by
    intro fuel
    induction fuel with
    | zero => intro k hk0 hk1 hla hf_2; exact absurd hf_2 (Nat.not_lt_zero _)
    | succ fuel ih_2 =>
      intro k hk0 hk1 hla hf_2
      refine z_iload_n E dX0_lowestHolding_2 3 rfl rfl ?_
      refine z_bipush E dX0_lowestHolding_3 rfl ?_
      refine z_icmp_ge E 26 dX0_lowestHolding_5 rfl (by omega) (by omega) (fun c_2 => ?_) (fun c_2 => ?_)
      · skip
        refine z_iconst E dX0_lowestHolding_26 ?_
        exact z_iret E dX0_lowestHolding_27 (by first | exact ⟨(fnd_y (by omega) (by omega) (by assumption) (by assumption)).symm, rfl, rfl⟩ | exact ⟨(fnd_n (fun j h0 h1 => hla j h0 (by omega))).symm, rfl, rfl⟩)
      · skip
        refine z_aload_n E dX0_lowestHolding_8 0 rfl rfl ?_
        refine z_iload_n E dX0_lowestHolding_9 3 rfl rfl ?_
        refine z_aload_n E dX0_lowestHolding_10 1 rfl rfl ?_
        refine z_iload_n E dX0_lowestHolding_11 2 rfl rfl ?_
        refine z_callV E (ci := 0) (N := 4) (C := RX0) (T := TX0) (n := 3) (st := []) (vl_w (by decide) hw) rfl rfl [.int (iI k), .ref (ad G ρ w), .int (iI start)] (kX0_holds l G P V w k ρ n start hw hB (by omega) (by omega) (by omega) (by omega) (by omega)) gX0_lowestHolding_X0_holds rfl ⟨rfl, rfl⟩ (by decide +kernel) ⟨Nat.le_of_ble_eq_true rfl, Nat.le_of_ble_eq_true rfl⟩ rfl rfl (Nat.le_of_ble_eq_true rfl) rfl dX0_lowestHolding_12 (z_dtI ?_)
        refine z_ifeq_b E 20 dX0_lowestHolding_15 rfl (fun c_4 => ?_) (fun c_4 => ?_)
        · skip
          refine z_iinc E k dX0_lowestHolding_20 (L' := [some (.ref (ad G 1 w)), some (.ref (ad G ρ w)), some (.int (iI start)), some (.int (iI (k + 1)))]) (Nat.le_of_ble_eq_true rfl) rfl rfl ?_
          refine z_goto E 2 dX0_lowestHolding_23 rfl ?_
          exact ih_2 (k + 1) (by omega) (by omega) (all_s hla (by assumption)) (by omega)
        · skip
          refine z_iload_n E dX0_lowestHolding_18 3 rfl rfl ?_
          exact z_iret E dX0_lowestHolding_19 (by first | exact ⟨(fnd_y (by omega) (by omega) (by assumption) (by assumption)).symm, rfl, rfl⟩ | exact ⟨(fnd_n (fun j h0 h1 => hla j h0 (by omega))).symm, rfl, rfl⟩)
  exact lp_2_1 ((40 - 0 : Int).toNat + 1) 0 (by omega) (by omega) all_0 (Nat.lt_succ_self _)

set_option maxHeartbeats 4000000 in
set_option maxRecDepth 100000 in
theorem kX0_lowestOtherLike (l : Launch) (G : Gl) (P : Nat → Nat) (V : Vt) (w : Nat) (block : Int) (hw : w < 6) (hB : BV V) (h1 : 0 ≤ block) (h2 : block < 40) : Met l yX0_lowestOtherLike wsX0_lowestOtherLike ({ frames := 1, cells := 0, slots := 0, locals := 24 }) (va_Pc [.ref (ad G 1 w), .int (iI block)] (Sg G P V)) (Qk G mkI (dt (fnd 40 (fun o => o ≠ block ∧ V 3 w o ≠ 0 ∧ eq8 (V 2 w) (V 2 w) (o * 8) (block * 8))) P V)) 0 0 (mem G) := by
  refine z_met (cc := cX0_lowestOtherLike) (nL := 3) (ret := (some .int)) (own := RX0) (by decide +kernel) rfl rfl (Nat.le_of_ble_eq_true rfl) (zz_cat rfl) (L := [some (.ref (ad G 1 w)), some (.int (iI block)), none]) rfl ?_
  intro X E
  have iX0 : ∀ x ∈ wsX00, x ∈ wsX0_lowestOtherLike := by decide +kernel
  have f0 : Cond.fieldLink RX0 9 "SharedStates$Blocks" "cells" "[I" ∈ wsX0_lowestOtherLike := by decide +kernel
  refine z_iconst E dX0_lowestOtherLike_0 ?_
  refine z_istore_n E dX0_lowestOtherLike_1 2 rfl (L' := [some (.ref (ad G 1 w)), some (.int (iI block)), some (.int (iI 0))]) (Nat.le_of_ble_eq_true rfl) rfl ?_
  have lp_2_1 : ∀ (fuel : Nat) (k : Int), (0 ≤ k) → (k ≤ 40) → (∀ o, 0 ≤ o → o < k → ¬ (o ≠ block ∧ V 3 w o ≠ 0 ∧ eq8 (V 2 w) (V 2 w) (o * 8) (block * 8))) → (40 - k : Int).toNat < fuel → Kz X G P V [some (.ref (ad G 1 w)), some (.int (iI block)), some (.int (iI k))] 2 [] := by
    intro fuel
    induction fuel with
    | zero => intro k hk0 hk1 hla hf_2; exact absurd hf_2 (Nat.not_lt_zero _)
    | succ fuel ih_2 =>
      intro k hk0 hk1 hla hf_2
      refine z_iload_n E dX0_lowestOtherLike_2 2 rfl rfl ?_
      refine z_bipush E dX0_lowestOtherLike_3 rfl ?_
      refine z_icmp_ge E 37 dX0_lowestOtherLike_5 rfl (by omega) (by omega) (fun c_2 => ?_) (fun c_2 => ?_)
      · skip
        refine z_iconst E dX0_lowestOtherLike_37 ?_
        exact z_iret E dX0_lowestOtherLike_38 (by first | exact ⟨(fnd_y (by omega) (by omega) ⟨by assumption, by assumption⟩ (by assumption)).symm, rfl, rfl⟩ | exact ⟨(fnd_n (fun j h0 h1 => hla j h0 (by omega))).symm, rfl, rfl⟩)
      · skip
        refine z_iload_n E dX0_lowestOtherLike_8 2 rfl rfl ?_
        refine z_iload_n E dX0_lowestOtherLike_9 1 rfl rfl ?_
        refine z_icmp_eq E 31 dX0_lowestOtherLike_10 rfl (by omega) (by omega) (fun c_3 => ?_) (fun c_3 => ?_)
        · skip
          refine z_iinc E k dX0_lowestOtherLike_31 (L' := [some (.ref (ad G 1 w)), some (.int (iI block)), some (.int (iI (k + 1)))]) (Nat.le_of_ble_eq_true rfl) rfl rfl ?_
          refine z_goto E 2 dX0_lowestOtherLike_34 rfl ?_
          exact ih_2 (k + 1) (by omega) (by omega) (all_s hla (by first | exact fun z => absurd (by assumption) z.1 | exact fun z => absurd z.2 (by assumption))) (by omega)
        · skip
          refine z_aload_n E dX0_lowestOtherLike_13 0 rfl rfl ?_
          refine z_iload_n E dX0_lowestOtherLike_14 2 rfl rfl ?_
          refine z_aload_n E dX0_lowestOtherLike_15 0 rfl rfl ?_
          refine z_get E (ci := 0) (N := 4) (C := RX0) (T := TX0) (vl_w (by decide) hw) rfl rfl iX0 0 (by decide) rfl f0 rfl dX0_lowestOtherLike_16 ?_
          refine z_iload_n E dX0_lowestOtherLike_19 1 rfl rfl ?_
          refine z_bipush E dX0_lowestOtherLike_20 rfl ?_
          refine z_imul E dX0_lowestOtherLike_22 ?_
          refine z_callV E (ci := 0) (N := 4) (C := RX0) (T := TX0) (n := 3) (st := []) (vl_w (by decide) hw) rfl rfl [.int (iI k), .ref (ad G 2 w), .int (iI (block * 8))] (kX0_holds l G P V w k 2 320 (block * 8) hw hB (by omega) (by omega) (by omega) (by omega) (by omega)) gX0_lowestOtherLike_X0_holds rfl ⟨rfl, rfl⟩ (by decide +kernel) ⟨Nat.le_of_ble_eq_true rfl, Nat.le_of_ble_eq_true rfl⟩ rfl rfl (Nat.le_of_ble_eq_true rfl) rfl dX0_lowestOtherLike_23 (z_dtI ?_)
          refine z_ifeq_b E 31 dX0_lowestOtherLike_26 rfl (fun c_5 => ?_) (fun c_5 => ?_)
          · skip
            refine z_iinc E k dX0_lowestOtherLike_31 (L' := [some (.ref (ad G 1 w)), some (.int (iI block)), some (.int (iI (k + 1)))]) (Nat.le_of_ble_eq_true rfl) rfl rfl ?_
            refine z_goto E 2 dX0_lowestOtherLike_34 rfl ?_
            exact ih_2 (k + 1) (by omega) (by omega) (all_s hla (by first | exact fun z => absurd (by assumption) z.1 | exact fun z => absurd z.2 (by assumption))) (by omega)
          · skip
            refine z_iload_n E dX0_lowestOtherLike_29 2 rfl rfl ?_
            exact z_iret E dX0_lowestOtherLike_30 (by first | exact ⟨(fnd_y (by omega) (by omega) ⟨by assumption, by assumption⟩ (by assumption)).symm, rfl, rfl⟩ | exact ⟨(fnd_n (fun j h0 h1 => hla j h0 (by omega))).symm, rfl, rfl⟩)
  exact lp_2_1 ((40 - 0 : Int).toNat + 1) 0 (by omega) (by omega) all_0 (Nat.lt_succ_self _)

set_option maxHeartbeats 4000000 in
set_option maxRecDepth 100000 in
theorem kX0_make (l : Launch) (G : Gl) (P : Nat → Nat) (V : Vt) (w : Nat) (start : Int) (hw : w < 6) (hB : BV V) (h3 : 0 ≤ start) (h4 : start ≤ 40) : Met l yX0_make wsX0_make ({ frames := 1, cells := 0, slots := 0, locals := 60 }) (va_Pc [.ref (ad G 1 w), .ref (ad G 9 w), .int (iI start)] (Sg G P V)) (Qk G mkI (fun r P' V' => P' = P ∧ ((r = -1 ∧ V' = V ∧ ∀ b, 0 ≤ b → b < 40 → V 3 w b ≠ 0) ∨ (0 ≤ r ∧ r < 40 ∧ V 3 w r = 0 ∧ (∀ b, 0 ≤ b → b < r → V 3 w b ≠ 0) ∧ V' = up (up V 2 w (cpI (V 9 w) (V 2 w) start (r * 8) 8)) 1 w (updI (V 1 w) 2 (V 1 w 2 + 1)))))) 0 0 (mem G) := by
  refine z_met (cc := cX0_make) (nL := 4) (ret := (some .int)) (own := RX0) (by decide +kernel) rfl rfl (Nat.le_of_ble_eq_true rfl) (zz_cat rfl) (L := [some (.ref (ad G 1 w)), some (.ref (ad G 9 w)), some (.int (iI start)), none]) rfl ?_
  intro X E
  have iX0 : ∀ x ∈ wsX00, x ∈ wsX0_make := by decide +kernel
  have f0 : Cond.fieldLink RX0 15 "SharedStates$Blocks" "uses" "[I" ∈ wsX0_make := by decide +kernel
  have f1 : Cond.fieldLink RX0 9 "SharedStates$Blocks" "cells" "[I" ∈ wsX0_make := by decide +kernel
  have f2 : Cond.methodLink RX0 25 arraycopyName ∈ wsX0_make := by decide +kernel
  have f3 : Cond.native arraycopyName ∈ wsX0_make := by decide +kernel
  have f4 : Cond.static arraycopyName ∈ wsX0_make := by decide +kernel
  have f5 : Cond.initialized "java/lang/System" ∈ wsX0_make := by decide +kernel
  have f6 : Cond.fieldLink RX0 18 "SharedStates$Blocks" "made" "I" ∈ wsX0_make := by decide +kernel
  refine z_iload_n E dX0_make_0 2 rfl rfl ?_
  refine z_if_lt E 13 dX0_make_1 rfl (by omega) (fun c_1 => ?_) (fun c_1 => ?_)
  · skip
    refine z_iconst E dX0_make_13 ?_
    exact z_iret E dX0_make_14 (by exfalso; omega)
  · skip
    refine z_iload_n E dX0_make_4 2 rfl rfl ?_
    refine z_aload_n E dX0_make_5 1 rfl rfl ?_
    refine z_alen E (vl_w (by decide) hw) 48 rfl dX0_make_6 ?_
    refine z_bipush E dX0_make_7 rfl ?_
    refine z_isub E dX0_make_9 ?_
    refine z_icmp_le E 15 dX0_make_10 rfl (by omega) (by omega) (fun c_2 => ?_) (fun c_2 => ?_)
    · skip
      refine z_iconst E dX0_make_15 ?_
      refine z_istore_n E dX0_make_16 3 rfl (L' := [some (.ref (ad G 1 w)), some (.ref (ad G 9 w)), some (.int (iI start)), some (.int (iI 0))]) (Nat.le_of_ble_eq_true rfl) rfl ?_
      have lp_17_3 : ∀ (fuel : Nat) (k : Int), (0 ≤ k) → (k ≤ 40) → (∀ b, 0 ≤ b → b < k → V 3 w b ≠ 0) → (40 - k : Int).toNat < fuel → Kz X G P V [some (.ref (ad G 1 w)), some (.ref (ad G 9 w)), some (.int (iI start)), some (.int (iI k))] 17 [] := by
        intro fuel
        induction fuel with
        | zero => intro k hk0 hk1 hla hf_17; exact absurd hf_17 (Nat.not_lt_zero _)
        | succ fuel ih_17 =>
          intro k hk0 hk1 hla hf_17
          refine z_iload_n E dX0_make_17 3 rfl rfl ?_
          refine z_bipush E dX0_make_18 rfl ?_
          refine z_icmp_ge E 65 dX0_make_20 rfl (by omega) (by omega) (fun c_4 => ?_) (fun c_4 => ?_)
          · skip
            refine z_iconst E dX0_make_65 ?_
            exact z_iret E dX0_make_66 (⟨rfl, Or.inl ⟨rfl, rfl, fun b h0 h1 => hla b h0 (by omega)⟩⟩)
          · skip
            refine z_aload_n E dX0_make_23 0 rfl rfl ?_
            refine z_get E (ci := 0) (N := 4) (C := RX0) (T := TX0) (vl_w (by decide) hw) rfl rfl iX0 1 (by decide) rfl f0 rfl dX0_make_24 ?_
            refine z_iload_n E dX0_make_27 3 rfl rfl ?_
            refine z_iald E (vl_w (by decide) hw) 40 rfl (by omega) (by omega) (by omega) dX0_make_28 ?_
            have hr_5 := hB.g 3 w k rfl
            refine z_if_ne E 59 dX0_make_29 rfl (by omega) (fun c_6 => ?_) (fun c_6 => ?_)
            · skip
              refine z_iinc E k dX0_make_59 (L' := [some (.ref (ad G 1 w)), some (.ref (ad G 9 w)), some (.int (iI start)), some (.int (iI (k + 1)))]) (Nat.le_of_ble_eq_true rfl) rfl rfl ?_
              refine z_goto E 17 dX0_make_62 rfl ?_
              exact ih_17 (k + 1) (by omega) (by omega) (all_s hla (by assumption)) (by omega)
            · skip
              refine z_aload_n E dX0_make_32 1 rfl rfl ?_
              refine z_iload_n E dX0_make_33 2 rfl rfl ?_
              refine z_aload_n E dX0_make_34 0 rfl rfl ?_
              refine z_get E (ci := 0) (N := 4) (C := RX0) (T := TX0) (vl_w (by decide) hw) rfl rfl iX0 0 (by decide) rfl f1 rfl dX0_make_35 ?_
              refine z_iload_n E dX0_make_38 3 rfl rfl ?_
              refine z_bipush E dX0_make_39 rfl ?_
              refine z_imul E dX0_make_41 ?_
              refine z_bipush E dX0_make_42 rfl ?_
              refine z_acopy E (st := []) f2 f3 f4 f5 (vl_w (by decide) hw) (vl_w (by decide) hw) 48 (by omega) 320 (by omega) (fun _ => rfl) (fun _ => rfl) (by omega) (by omega) (by omega) (by omega) (by omega) (Nat.le_of_ble_eq_true rfl) (by decide +kernel) rfl dX0_make_44 ?_
              obtain ⟨V7, hV7⟩ : ∃ Z : Vt, Z = up V 2 w (cpI (V 9 w) (V 2 w) start (k * 8) 8) := ⟨_, rfl⟩
              rw [← hV7]
              have hB7 : BV V7 := hV7 ▸ BV_upC hB rfl
              refine z_aload_n E dX0_make_47 0 rfl rfl ?_
              refine z_dup E dX0_make_48 rfl ?_
              refine z_get E (ci := 0) (N := 4) (C := RX0) (T := TX0) (vl_w (by decide) hw) rfl rfl iX0 2 (by decide) rfl f6 rfl dX0_make_49 ?_
              refine z_iconst E dX0_make_52 ?_
              refine z_iadd E dX0_make_53 ?_
              refine z_put E (ci := 0) (N := 4) (C := RX0) (T := TX0) (ty := .int) (vl_w (by decide) hw) (updI (V7 1 w) 2 ((V7 1 w 2) + 1)) rfl rfl iX0 tyX0 tyX0_ok nmX0 2 (by decide) rfl f6 rfl rfl rfl rfl (Nat.le_of_ble_eq_true rfl) rfl dX0_make_54 ?_
              obtain ⟨V8, hV8⟩ : ∃ Z : Vt, Z = up V7 1 w (updI (V7 1 w) 2 ((V7 1 w 2) + 1)) := ⟨_, rfl⟩
              rw [← hV8]
              have hB8 : BV V8 := hV8 ▸ BV_up hB7 (fun hz => absurd (Or.inl rfl) hz)
              refine z_iload_n E dX0_make_57 3 rfl rfl ?_
              exact z_iret E dX0_make_58 (⟨rfl, Or.inr ⟨by omega, by omega, by assumption, hla, by rw [hV8, hV7] <;> rfl⟩⟩)
      exact lp_17_3 ((40 - 0 : Int).toNat + 1) 0 (by omega) (by omega) all_0 (Nat.lt_succ_self _)
    · skip
      refine z_iconst E dX0_make_13 ?_
      exact z_iret E dX0_make_14 (by exfalso; omega)

set_option maxHeartbeats 4000000 in
set_option maxRecDepth 100000 in
theorem kX0_sumOf (l : Launch) (G : Gl) (P : Nat → Nat) (V : Vt) (w : Nat) (block : Int) (hw : w < 6) (hB : BV V) (h1 : 0 ≤ block) (h2 : block < 40) : Met l yX0_sumOf wsX0_sumOf ({ frames := 1, cells := 0, slots := 0, locals := 23 }) (va_Pc [.ref (ad G 1 w), .int (iI block)] (Sg G P V)) (Qk G mkI (dt (sm 8 (fun i => V 2 w (block * 8 + i))) P V)) 0 0 (mem G) := by
  refine z_met (cc := cX0_sumOf) (nL := 4) (ret := (some .int)) (own := RX0) (by decide +kernel) rfl rfl (Nat.le_of_ble_eq_true rfl) (zz_cat rfl) (L := [some (.ref (ad G 1 w)), some (.int (iI block)), none, none]) rfl ?_
  intro X E
  refine z_iconst E dX0_sumOf_0 ?_
  refine z_istore_n E dX0_sumOf_1 2 rfl (L' := [some (.ref (ad G 1 w)), some (.int (iI block)), some (.int (iI 0)), none]) (Nat.le_of_ble_eq_true rfl) rfl ?_
  refine z_iconst E dX0_sumOf_2 ?_
  refine z_istore_n E dX0_sumOf_3 3 rfl (L' := [some (.ref (ad G 1 w)), some (.int (iI block)), some (.int (iI 0)), some (.int (iI 0))]) (Nat.le_of_ble_eq_true rfl) rfl ?_
  have lp_4_1 : ∀ (fuel : Nat) (m : Int) (k : Int), (0 ≤ k) → (k ≤ 8) → (m = sm k (fun i => V 2 w (block * 8 + i))) → (8 - k : Int).toNat < fuel → Kz X G P V [some (.ref (ad G 1 w)), some (.int (iI block)), some (.int (iI m)), some (.int (iI k))] 4 [] := by
    intro fuel
    induction fuel with
    | zero => intro m k hk0 hk1 hs hf_4; exact absurd hf_4 (Nat.not_lt_zero _)
    | succ fuel ih_4 =>
      intro m k hk0 hk1 hs hf_4
      refine z_iload_n E dX0_sumOf_4 3 rfl rfl ?_
      refine z_bipush E dX0_sumOf_5 rfl ?_
      refine z_icmp_ge E 25 dX0_sumOf_7 rfl (by omega) (by omega) (fun c_2 => ?_) (fun c_2 => ?_)
      · skip
        refine z_iload_n E dX0_sumOf_25 2 rfl rfl ?_
        exact z_iret E dX0_sumOf_26 (⟨by rw [hs, show k = 8 by omega], rfl, rfl⟩)
      · skip
        refine z_iload_n E dX0_sumOf_10 2 rfl rfl ?_
        refine z_aload_n E dX0_sumOf_11 0 rfl rfl ?_
        refine z_iload_n E dX0_sumOf_12 1 rfl rfl ?_
        refine z_iload_n E dX0_sumOf_13 3 rfl rfl ?_
        refine z_callV E (ci := 0) (N := 4) (C := RX0) (T := TX0) (n := 2) (st := [.int (iI m)]) (vl_w (by decide) hw) rfl rfl [.int (iI block), .int (iI k)] (kX0_cellOf l G P V w block k hw hB (by omega) (by omega) (by omega) (by omega)) gX0_sumOf_X0_cellOf rfl ⟨rfl, rfl⟩ (by decide +kernel) ⟨Nat.le_of_ble_eq_true rfl, Nat.le_of_ble_eq_true rfl⟩ rfl rfl (Nat.le_of_ble_eq_true rfl) rfl dX0_sumOf_14 (z_dtI ?_)
        refine z_iadd E dX0_sumOf_17 ?_
        refine z_istore_n E dX0_sumOf_18 2 rfl (L' := [some (.ref (ad G 1 w)), some (.int (iI block)), some (.int (iI (m + (V 2 w (block * 8 + k))))), some (.int (iI k))]) (Nat.le_of_ble_eq_true rfl) rfl ?_
        refine z_iinc E k dX0_sumOf_19 (L' := [some (.ref (ad G 1 w)), some (.int (iI block)), some (.int (iI (m + (V 2 w (block * 8 + k))))), some (.int (iI (k + 1)))]) (Nat.le_of_ble_eq_true rfl) rfl rfl ?_
        refine z_goto E 4 dX0_sumOf_22 rfl ?_
        exact ih_4 (m + (V 2 w (block * 8 + k))) (k + 1) (by omega) (by omega) (by rw [sm_s (by omega), ← hs]) (by omega)
  exact lp_4_1 ((8 - 0 : Int).toNat + 1) 0 0 (by omega) (by omega) (sm_0 (by omega)).symm (Nat.lt_succ_self _)

set_option maxHeartbeats 4000000 in
set_option maxRecDepth 100000 in
theorem kX0_nonZeroCells (l : Launch) (G : Gl) (P : Nat → Nat) (V : Vt) (w : Nat) (block : Int) (hw : w < 6) (hB : BV V) (h1 : 0 ≤ block) (h2 : block < 40) : Met l yX0_nonZeroCells wsX0_nonZeroCells ({ frames := 1, cells := 0, slots := 0, locals := 23 }) (va_Pc [.ref (ad G 1 w), .int (iI block)] (Sg G P V)) (Qk G mkI (dt (bits 8 (fun i => V 2 w (block * 8 + i) ≠ 0)) P V)) 0 0 (mem G) := by
  refine z_met (cc := cX0_nonZeroCells) (nL := 4) (ret := (some .int)) (own := RX0) (by decide +kernel) rfl rfl (Nat.le_of_ble_eq_true rfl) (zz_cat rfl) (L := [some (.ref (ad G 1 w)), some (.int (iI block)), none, none]) rfl ?_
  intro X E
  refine z_iconst E dX0_nonZeroCells_0 ?_
  refine z_istore_n E dX0_nonZeroCells_1 2 rfl (L' := [some (.ref (ad G 1 w)), some (.int (iI block)), some (.int (iI 0)), none]) (Nat.le_of_ble_eq_true rfl) rfl ?_
  refine z_iconst E dX0_nonZeroCells_2 ?_
  refine z_istore_n E dX0_nonZeroCells_3 3 rfl (L' := [some (.ref (ad G 1 w)), some (.int (iI block)), some (.int (iI 0)), some (.int (iI 0))]) (Nat.le_of_ble_eq_true rfl) rfl ?_
  have lp_4_1 : ∀ (fuel : Nat) (m : Int) (k : Int), (0 ≤ k) → (k ≤ 8) → (m = bits k (fun i => V 2 w (block * 8 + i) ≠ 0)) → (8 - k : Int).toNat < fuel → Kz X G P V [some (.ref (ad G 1 w)), some (.int (iI block)), some (.int (iI m)), some (.int (iI k))] 4 [] := by
    intro fuel
    induction fuel with
    | zero => intro m k hk0 hk1 hs hf_4; exact absurd hf_4 (Nat.not_lt_zero _)
    | succ fuel ih_4 =>
      intro m k hk0 hk1 hs hf_4
      have hsb := bits_bd (fun i => V 2 w (block * 8 + i) ≠ 0) hk0
      rw [← hs] at hsb
      refine z_iload_n E dX0_nonZeroCells_4 3 rfl rfl ?_
      refine z_bipush E dX0_nonZeroCells_5 rfl ?_
      refine z_icmp_ge E 31 dX0_nonZeroCells_7 rfl (by omega) (by omega) (fun c_2 => ?_) (fun c_2 => ?_)
      · skip
        refine z_iload_n E dX0_nonZeroCells_31 2 rfl rfl ?_
        exact z_iret E dX0_nonZeroCells_32 (⟨by rw [hs, show k = 8 by omega], rfl, rfl⟩)
      · skip
        refine z_aload_n E dX0_nonZeroCells_10 0 rfl rfl ?_
        refine z_iload_n E dX0_nonZeroCells_11 1 rfl rfl ?_
        refine z_iload_n E dX0_nonZeroCells_12 3 rfl rfl ?_
        have hr_c := hB.g 2 w (block * 8 + k) rfl
        refine z_callV E (ci := 0) (N := 4) (C := RX0) (T := TX0) (n := 2) (st := []) (vl_w (by decide) hw) rfl rfl [.int (iI block), .int (iI k)] (kX0_cellOf l G P V w block k hw hB (by omega) (by omega) (by omega) (by omega)) gX0_nonZeroCells_X0_cellOf rfl ⟨rfl, rfl⟩ (by decide +kernel) ⟨Nat.le_of_ble_eq_true rfl, Nat.le_of_ble_eq_true rfl⟩ rfl rfl (Nat.le_of_ble_eq_true rfl) rfl dX0_nonZeroCells_13 (z_dtI ?_)
        refine z_if_eq E 25 dX0_nonZeroCells_16 rfl (by omega) (fun c_4 => ?_) (fun c_4 => ?_)
        · skip
          refine z_iinc E k dX0_nonZeroCells_25 (L' := [some (.ref (ad G 1 w)), some (.int (iI block)), some (.int (iI m)), some (.int (iI (k + 1)))]) (Nat.le_of_ble_eq_true rfl) rfl rfl ?_
          refine z_goto E 4 dX0_nonZeroCells_28 rfl ?_
          exact ih_4 m (k + 1) (by omega) (by omega) (by first | exact bits_t hs (by omega) (by assumption) | exact bits_f hs (by omega) (fun z => z (by assumption))) (by omega)
        · skip
          refine z_iload_n E dX0_nonZeroCells_19 2 rfl rfl ?_
          refine z_iconst E dX0_nonZeroCells_20 ?_
          refine z_iload_n E dX0_nonZeroCells_21 3 rfl rfl ?_
          refine z_ishl E dX0_nonZeroCells_22 (by omega) (by omega) ?_
          refine z_iorS E dX0_nonZeroCells_23 (by omega) (hsb.1) (hsb.2) ?_
          refine z_istore_n E dX0_nonZeroCells_24 2 rfl (L' := [some (.ref (ad G 1 w)), some (.int (iI block)), some (.int (iI (m + (2 ^ k.toNat)))), some (.int (iI k))]) (Nat.le_of_ble_eq_true rfl) rfl ?_
          refine z_iinc E k dX0_nonZeroCells_25 (L' := [some (.ref (ad G 1 w)), some (.int (iI block)), some (.int (iI (m + (2 ^ k.toNat)))), some (.int (iI (k + 1)))]) (Nat.le_of_ble_eq_true rfl) rfl rfl ?_
          refine z_goto E 4 dX0_nonZeroCells_28 rfl ?_
          exact ih_4 (m + (2 ^ k.toNat)) (k + 1) (by omega) (by omega) (by first | exact bits_t hs (by omega) (by assumption) | exact bits_f hs (by omega) (fun z => z (by assumption))) (by omega)
  exact lp_4_1 ((8 - 0 : Int).toNat + 1) 0 0 (by omega) (by omega) bits_0.symm (Nat.lt_succ_self _)

set_option maxHeartbeats 4000000 in
set_option maxRecDepth 100000 in
theorem kX0_doubles (l : Launch) (G : Gl) (P : Nat → Nat) (V : Vt) (w : Nat) (hw : w < 6) (hB : BV V) : Met l yX0_doubles wsX0_doubles ({ frames := 2, cells := 0, slots := 0, locals := 47 }) (va_Pc [.ref (ad G 1 w)] (Sg G P V)) (Qk G mkI (dt (sm 40 (fun b => b2i (0 < V 3 w b ∧ fnd 40 (fun a => V 3 w a ≠ 0 ∧ eq8 (V 2 w) (V 2 w) (a * 8) (b * 8)) < b))) P V)) 0 0 (mem G) := by
  refine z_met (cc := cX0_doubles) (nL := 3) (ret := (some .int)) (own := RX0) (by decide +kernel) rfl rfl (Nat.le_of_ble_eq_true rfl) (zz_cat rfl) (L := [some (.ref (ad G 1 w)), none, none]) rfl ?_
  intro X E
  have iX0 : ∀ x ∈ wsX00, x ∈ wsX0_doubles := by decide +kernel
  have f0 : Cond.fieldLink RX0 9 "SharedStates$Blocks" "cells" "[I" ∈ wsX0_doubles := by decide +kernel
  refine z_iconst E dX0_doubles_0 ?_
  refine z_istore_n E dX0_doubles_1 1 rfl (L' := [some (.ref (ad G 1 w)), some (.int (iI 0)), none]) (Nat.le_of_ble_eq_true rfl) rfl ?_
  refine z_iconst E dX0_doubles_2 ?_
  refine z_istore_n E dX0_doubles_3 2 rfl (L' := [some (.ref (ad G 1 w)), some (.int (iI 0)), some (.int (iI 0))]) (Nat.le_of_ble_eq_true rfl) rfl ?_
  have lp_4_1 : ∀ (fuel : Nat) (m : Int) (k : Int), (0 ≤ k) → (k ≤ 40) → (m = sm k (fun b => b2i (0 < V 3 w b ∧ fnd 40 (fun a => V 3 w a ≠ 0 ∧ eq8 (V 2 w) (V 2 w) (a * 8) (b * 8)) < b))) → (40 - k : Int).toNat < fuel → Kz X G P V [some (.ref (ad G 1 w)), some (.int (iI m)), some (.int (iI k))] 4 [] := by
    intro fuel
    induction fuel with
    | zero => intro m k hk0 hk1 hs hf_4; exact absurd hf_4 (Nat.not_lt_zero _)
    | succ fuel ih_4 =>
      intro m k hk0 hk1 hs hf_4
      refine z_iload_n E dX0_doubles_4 2 rfl rfl ?_
      refine z_bipush E dX0_doubles_5 rfl ?_
      refine z_icmp_ge E 43 dX0_doubles_7 rfl (by omega) (by omega) (fun c_2 => ?_) (fun c_2 => ?_)
      · skip
        refine z_iload_n E dX0_doubles_43 1 rfl rfl ?_
        exact z_iret E dX0_doubles_44 (⟨by rw [hs, show k = 40 by omega], rfl, rfl⟩)
      · skip
        refine z_aload_n E dX0_doubles_10 0 rfl rfl ?_
        refine z_iload_n E dX0_doubles_11 2 rfl rfl ?_
        refine z_callV E (ci := 0) (N := 4) (C := RX0) (T := TX0) (n := 1) (st := []) (vl_w (by decide) hw) rfl rfl [.int (iI k)] (kX0_isThere l G P V w k hw hB (by omega)) gX0_doubles_X0_isThere rfl ⟨rfl, rfl⟩ (by decide +kernel) ⟨Nat.le_of_ble_eq_true rfl, Nat.le_of_ble_eq_true rfl⟩ rfl rfl (Nat.le_of_ble_eq_true rfl) rfl dX0_doubles_12 (z_dtI ?_)
        refine z_ifeq_b E 37 dX0_doubles_15 rfl (fun c_4 => ?_) (fun c_4 => ?_)
        · skip
          refine z_iinc E k dX0_doubles_37 (L' := [some (.ref (ad G 1 w)), some (.int (iI m)), some (.int (iI (k + 1)))]) (Nat.le_of_ble_eq_true rfl) rfl rfl ?_
          refine z_goto E 4 dX0_doubles_40 rfl ?_
          exact ih_4 m (k + 1) (by omega) (by omega) (by first | exact smb_t hs (by omega) (by first | assumption | omega) | exact smb_f hs (by omega) (by first | assumption | omega) | exact smb_f0 hs (by omega) (by first | assumption | omega)) (by omega)
        · skip
          refine z_aload_n E dX0_doubles_18 0 rfl rfl ?_
          refine z_aload_n E dX0_doubles_19 0 rfl rfl ?_
          refine z_get E (ci := 0) (N := 4) (C := RX0) (T := TX0) (vl_w (by decide) hw) rfl rfl iX0 0 (by decide) rfl f0 rfl dX0_doubles_20 ?_
          refine z_iload_n E dX0_doubles_23 2 rfl rfl ?_
          refine z_bipush E dX0_doubles_24 rfl ?_
          refine z_imul E dX0_doubles_26 ?_
          refine z_callV E (ci := 0) (N := 4) (C := RX0) (T := TX0) (n := 2) (st := []) (vl_w (by decide) hw) rfl rfl [.ref (ad G 2 w), .int (iI (k * 8))] (kX0_lowestHolding l G P V w 2 320 (k * 8) hw hB (by omega) (by omega) (by omega)) gX0_doubles_X0_lowestHolding rfl ⟨rfl, rfl⟩ (by decide +kernel) ⟨Nat.le_of_ble_eq_true rfl, Nat.le_of_ble_eq_true rfl⟩ rfl rfl (Nat.le_of_ble_eq_true rfl) rfl dX0_doubles_27 (z_dtI ?_)
          have h_5a := fnd_bd 40 (fun b => V 3 w b ≠ 0 ∧ eq8 (V 2 w) (V 2 w) (b * 8) (k * 8)) (by omega)
          refine z_iload_n E dX0_doubles_30 2 rfl rfl ?_
          refine z_icmp_ge E 37 dX0_doubles_31 rfl (by omega) (by omega) (fun c_6 => ?_) (fun c_6 => ?_)
          · skip
            refine z_iinc E k dX0_doubles_37 (L' := [some (.ref (ad G 1 w)), some (.int (iI m)), some (.int (iI (k + 1)))]) (Nat.le_of_ble_eq_true rfl) rfl rfl ?_
            refine z_goto E 4 dX0_doubles_40 rfl ?_
            exact ih_4 m (k + 1) (by omega) (by omega) (by first | exact smb_t hs (by omega) (by first | assumption | omega) | exact smb_f hs (by omega) (by first | assumption | omega) | exact smb_f0 hs (by omega) (by first | assumption | omega)) (by omega)
          · skip
            refine z_iinc E m dX0_doubles_34 (L' := [some (.ref (ad G 1 w)), some (.int (iI (m + 1))), some (.int (iI k))]) (Nat.le_of_ble_eq_true rfl) rfl rfl ?_
            refine z_iinc E k dX0_doubles_37 (L' := [some (.ref (ad G 1 w)), some (.int (iI (m + 1))), some (.int (iI (k + 1)))]) (Nat.le_of_ble_eq_true rfl) rfl rfl ?_
            refine z_goto E 4 dX0_doubles_40 rfl ?_
            exact ih_4 (m + 1) (k + 1) (by omega) (by omega) (by first | exact smb_t hs (by omega) (by first | assumption | omega) | exact smb_f hs (by omega) (by first | assumption | omega) | exact smb_f0 hs (by omega) (by first | assumption | omega)) (by omega)
  exact lp_4_1 ((40 - 0 : Int).toNat + 1) 0 0 (by omega) (by omega) (sm_0 (by omega)).symm (Nat.lt_succ_self _)
end
